/-! PURE: selling collateral -/
-- money that comes from outside
def rcS (σ : St) (m : Nat) (v : Int64) : St := pL (pL σ 0 m 0 (gL σ 0 m 0 + v)) 2 m 0 (gL σ 2 m 0 + v)
theorem x_rec (σ : St) (m : Nat) (v : Int64) : fX5_receiveFromOutside σ m v = some (rcS σ m v) := by
  unfold fX5_receiveFromOutside rcS
  rw [gL_pL (a := 2), if_neg (by omega)]
theorem rcS_0 (σ : St) (m : Nat) (v : Int64) (m' : Nat) : gL (rcS σ m v) 0 m' 0 = if m' = m then gL σ 0 m 0 + v else gL σ 0 m' 0 := by
  unfold rcS
  rw [gL_pL, if_neg (by omega), gL_pL]
  by_cases c : m' = m
  · rw [if_pos ⟨rfl, c, rfl⟩, if_pos c]
  · rw [if_neg (fun z => c z.2.1), if_neg c]
theorem rcS_2 (σ : St) (m : Nat) (v : Int64) (m' : Nat) : gL (rcS σ m v) 2 m' 0 = if m' = m then gL σ 2 m 0 + v else gL σ 2 m' 0 := by
  unfold rcS
  rw [gL_pL]
  by_cases c : m' = m
  · rw [if_pos ⟨rfl, c, rfl⟩, if_pos c]
  · rw [if_neg (fun z => c z.2.1), if_neg c, gL_pL, if_neg (by omega)]
theorem G_rec {B : Int} {σ τ : St} (h : G B σ τ) {m : Nat} (hm : m < 5) (v w : Int64) (hw : gL τ 6 0 m + v = w) : G B (rcS σ m v) (pL τ 6 0 m w) := by
  obtain ⟨⟨hA, hU, hP, hQ, hO, hK, hW, hN, b1, b2, b3⟩, hC, hJ, hT⟩ := h
  refine ⟨⟨fun m' hm' => ?_, hU, hP, hQ, hO, hK, hW, hN, b1, b2, b3⟩, hC, ⟨hJ.1, fun m' hm' => ⟨(hJ.2 m' hm').1, ?_⟩⟩, hT⟩
  · obtain ⟨a1, a2, a3⟩ := hA m' hm'
    refine ⟨?_, a2, a3⟩
    rw [rcS_0, gL_pL]
    simp only [true_and]
    by_cases c : m' = m
    · rw [if_pos c, if_pos c, ← hw, ← c, a1]
    · rw [if_neg c, if_neg c, a1]
  · show gL (rcS σ m v) 0 m' 0 - ((gL σ 5 m' 0 + gL σ 5 m' 1) + gL σ 5 m' 2) = gL (rcS σ m v) 2 m' 0 - JB σ m'
    rw [rcS_0, rcS_2]
    have hh := (hJ.2 m' hm').2
    by_cases c : m' = m
    · rw [if_pos c, if_pos c, ← c]
      grind
    · rw [if_neg c, if_neg c]
      exact hh
theorem G_units {B : Int} {σ τ : St} (h : G B σ τ) {m k : Nat} (hk : k < 2) (v : Int32) : G B (pI σ 3 m k v) (pI τ 7 0 (2 * m + k) v) := by
  obtain ⟨⟨hA, hU, hP, hQ, hO, hK, hW, hN, b1, b2, b3⟩, hC, hJ, hT⟩ := h
  refine ⟨⟨hA, fun m' hm' k' hk' => ?_, hP, hQ, hO, hK, hW, hN, b1, b2, b3⟩, hC, hJ, hT⟩
  rw [gI_pI, gI_pI]
  simp only [true_and]
  by_cases c : m' = m ∧ k' = k
  · rw [if_pos c, if_pos (by omega)]
  · rw [if_neg c, if_neg (by omega)]
    exact hU m' hm' k' hk'
def seS (σ τ : St) (m : Nat) : St := pI (pI (rcS σ m (sCol τ m)) 3 m 0 0) 3 m 1 0
def seT (τ : St) (m : Nat) : St := pI (pI (pL τ 6 0 m (gL τ 6 0 m + sCol τ m)) 7 0 (2 * m + 0) 0) 7 0 (2 * m + 1) 0
theorem x_seS {σ : St} {m k : Nat} (hk : k < 2) (n : Nat) (a : Int32) : fX5_sellCollateral_L18 (n + 1) σ (nI k) m a = fX5_sellCollateral_L18 n (pI σ 3 m k 0) (nI (k + 1)) m a := by
  rw [fX5_sellCollateral_L18.eq_2, if_neg (show ¬ (2 : Int32) ≤ nI k from nI_ge (a := k) (b := 2) hk (by omega)), if_gd (vin_nI hk (by omega)), clamp_nI (show k < 2147483648 by omega), kst_d, nI_1]
theorem x_sell {B : Int} {σ τ : St} (h : G B σ τ) {m : Nat} (hm : m < 5) : fX5_sellCollateral σ (nI m) = some (seS σ τ m) := by
  obtain ⟨⟨hA, hU, hP, hQ, hO, hK, hW, hN, b1, b2, b3⟩, hC, hJ, hT⟩ := h
  unfold fX5_sellCollateral
  rw [if_gd (vin_nI hm (by omega)), x_col hK hU hm, bd_some, clamp_nI (show m < 2147483648 by omega), x_rec, bd_some]
  show fX5_sellCollateral_L18 (999 + 1) (rcS σ m (sCol τ m)) (nI 0) m (nI m) = _
  rw [x_seS (by omega), x_seS (by omega), fX5_sellCollateral_L18.eq_2, if_pos (show (2 : Int32) ≤ nI 2 by decide)]
  rfl
theorem G_sell {B : Int} {σ τ : St} (h : G B σ τ) {m : Nat} (hm : m < 5) : G B (seS σ τ m) (seT τ m) :=
  G_units (G_units (G_rec h hm _ _ rfl) (by omega) 0) (by omega) 0
/-- what a sale leaves, and what comes before and behind it -/
def FRo (τ τ' : St) : Prop := (∀ m, gI τ' 10 0 m = gI τ 10 0 m) ∧ (∀ m, gI τ' 9 0 m = gI τ 9 0 m) ∧ (∀ m, gL τ' 8 0 m = gL τ 8 0 m) ∧ gI τ' 23 0 0 = gI τ 23 0 0 ∧ gI τ' 21 0 0 = gI τ 21 0 0
def FFo (σ τ σ' τ' : St) : Prop := (FRo τ τ' ∧ True) ∧ FS σ σ'
theorem FRo_tr {a b c : St} (h1 : FRo a b) (h2 : FRo b c) : FRo a c := ⟨fun m => (h2.1 m).trans (h1.1 m), fun m => (h2.2.1 m).trans (h1.2.1 m), fun m => (h2.2.2.1 m).trans (h1.2.2.1 m), h2.2.2.2.1.trans h1.2.2.2.1, h2.2.2.2.2.trans h1.2.2.2.2⟩
theorem FFo_tr {σ τ s1 t1 σ' τ' : St} (h1 : FFo σ τ s1 t1) (h2 : FFo s1 t1 σ' τ') : FFo σ τ σ' τ' := ⟨⟨FRo_tr h1.1.1 h2.1.1, trivial⟩, FS_tr h1.2 h2.2⟩
theorem FFo_of {σ τ σ' τ' : St} (h : FF σ τ σ' τ') : FFo σ τ σ' τ' := ⟨⟨⟨h.1.1.1, h.1.1.2.1, h.1.1.2.2.1, h.1.1.2.2.2.1, h.1.1.2.2.2.2.1⟩, trivial⟩, h.2⟩
theorem FF_sell (σ τ : St) (m : Nat) : FFo σ τ (seS σ τ m) (seT τ m) := ⟨⟨⟨fun _ => rfl, fun _ => rfl, fun _ => rfl, rfl, rfl⟩, trivial⟩, fun _ => rfl, fun _ => rfl, rfl⟩
theorem sWor_0 (τ : St) (k : Nat) : sWor τ k 0 = 0 := by
  unfold sWor
  rw [show (0 : Int32).toInt64 = 0 by decide, Int64.zero_mul, Int64.zero_mul]
  decide
theorem seT_7 (τ : St) (m j : Nat) : gI (seT τ m) 7 0 j = if j = 2 * m + 1 then 0 else if j = 2 * m + 0 then 0 else gI τ 7 0 j := by
  show (if 7 = 7 ∧ 0 = 0 ∧ j = 2 * m + 1 then _ else if 7 = 7 ∧ 0 = 0 ∧ j = 2 * m + 0 then _ else _) = _
  simp only [true_and]
  rfl
theorem sCol_se (τ : St) (m m' : Nat) : sCol (seT τ m) m' = if m' = m then 0 else sCol τ m' := by
  have hw : ∀ k u, sWor (seT τ m) k u = sWor τ k u := fun k u => rfl
  unfold sCol
  rw [hw, hw, seT_7, seT_7]
  by_cases c : m' = m
  · subst c
    rw [if_neg (by omega), if_pos rfl, if_pos rfl, if_pos rfl, sWor_0, sWor_0]
    decide
  · rw [if_neg (by omega), if_neg (by omega), if_neg (by omega), if_neg (by omega), if_neg c]
theorem sEq_se (τ : St) (m m' : Nat) : sEq (seT τ m) m' = if m' = m then sEq τ m + sCol τ m else sEq τ m' := by
  have h6 : gL (seT τ m) 6 0 m' = if m' = m then gL τ 6 0 m + sCol τ m else gL τ 6 0 m' := by
    show (if 6 = 6 ∧ 0 = 0 ∧ m' = m then _ else _) = _
    simp only [true_and]
    rfl
  have hd : ∀ p, sDif (seT τ m) m' p = sDif τ m' p := fun p => rfl
  unfold sEq
  rw [h6, hd, hd, hd]
  by_cases c : m' = m
  · subst c
    rw [if_pos rfl, if_pos rfl]
    grind
  · rw [if_neg c, if_neg c]
theorem MN_sell (τ : St) {m : Nat} (hm : m < 5) (hl : 0 ≤ sm (lf τ) (tn τ)) : MN τ (seT τ m) := fun K hK => by
  have hb := PSI_b hK hl
  have hK1 := hK.1
  obtain ⟨b1, b2, b3, b4, b5, b6, b7⟩ := hb m hm
  have c1 : coI (seT τ m) m = 0 := by unfold coI; rw [sCol_se, if_pos rfl]; decide
  have e1 : eqI (seT τ m) m = eqI τ m + coI τ m := by
    unfold eqI coI
    rw [sEq_se, if_pos rfl]
    unfold eqI at b1
    unfold coI at b2 b3
    exact add64 rfl rfl (by omega) (by omega)
  have co : ∀ k, k < 5 → k ≠ m → coI (seT τ m) k = coI τ k := fun k _ h => by unfold coI; rw [sCol_se, if_neg h]
  have eo : ∀ k, k < 5 → k ≠ m → eqI (seT τ m) k = eqI τ k := fun k _ h => by unfold eqI; rw [sEq_se, if_neg h]
  have sh : ∀ k, shI (seT τ m) k = shI τ k := fun k => rfl
  have u1 := sm_upd (f := fun m => ((eqI τ m).natAbs : Int) + coI τ m + shI τ m) (g := fun k => ((eqI (seT τ m) k).natAbs : Int) + coI (seT τ m) k + shI (seT τ m) k) hm (fun k hk h => by rw [co k hk h, eo k hk h, sh])
  have u2 := sm_upd (f := fun m => eqI τ m + coI τ m + shI τ m) (g := fun k => eqI (seT τ m) k + coI (seT τ m) k + shI (seT τ m) k) hm (fun k hk h => by rw [co k hk h, eo k hk h, sh])
  rw [c1, e1, sh] at u1 u2
  obtain ⟨h1, h2, h3, h4, h5, h6, h7, h8⟩ := hK
  have hu : unI (seT τ m) = unI τ := rfl
  have hlf : sm (lf (seT τ m)) (tn (seT τ m)) = sm (lf τ) (tn τ) := rfl
  refine ⟨⟨h1, h2, h3, fun k hk => ?_, h5, fun j hj => ?_, h7, ?_⟩, ?_, Int.le_of_eq (sm_congr (fun k _ => sh k)), Int.le_of_eq hu.symm⟩
  · refine ⟨(h4 k hk).1, ?_⟩
    by_cases c : k = m
    · rw [c, c1]; exact Int.le_refl _
    · rw [co k hk c]; exact (h4 k hk).2
  · rw [seT_7]
    split
    · decide
    · split
      · decide
      · exact h6 j hj
  · unfold PSI at h8 ⊢
    rw [u1, hu, hlf]
    omega
  · unfold CQ
    rw [u2, hu]
    omega
