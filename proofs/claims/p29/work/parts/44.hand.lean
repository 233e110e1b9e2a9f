/-! PURE: positions that are taken over, or dropped -/
theorem tk_00 {β : Type} (x : Option (β × Nat × Nat)) : tk 0 0 x = x := by
  cases x with
  | none => rfl
  | some q =>
    obtain ⟨b, m, n⟩ := q
    show some (b, 0 + m, 0 + n) = _
    rw [Nat.zero_add, Nat.zero_add]
theorem pL_self (σ : St) (f i j : Nat) : pL σ f i j (gL σ f i j) = σ := by
  refine Prod.ext rfl (Prod.ext ?_ rfl)
  funext a b c
  show (if a = f ∧ b = i ∧ c = j then σ.2.1 f i j else σ.2.1 a b c) = σ.2.1 a b c
  split
  · rename_i h
    obtain ⟨rfl, rfl, rfl⟩ := h
    rfl
  · rfl
/-- a position that is dropped -/
def drS (σ : St) (m p : Nat) (F x : Int32) : St := lgS (bkS σ m p (-F) x) (-1) (nI m) (nI p) F x
def drT (τ : St) (m p : Nat) : St := pI (pL τ 5 0 (3 * m + p) (gL τ 5 0 (3 * m + p) - (gI τ 4 0 (3 * m + p)).toInt64 * (gI τ 1 0 p).toInt64)) 4 0 (3 * m + p) 0
theorem x_drop {σ : St} (hN : IN σ) (h5 : gN σ 1 < 50000) {m p : Nat} (hm : m < 5) (hp : p < 3) (F x : Int32) : fX5_drop σ (nI m) (nI p) F x = some (drS σ m p F x, 1 + amc (gN σ 1) (gN σ 3), 5 + ams (gN σ 1) (gN σ 3)) := by
  obtain ⟨n1, n2, n3, n4, n5, n6, n7, n8⟩ := hN
  unfold fX5_drop drS lgS
  have b1 := bk_n σ m p (-F) x
  rw [if_gd (vin_nI hm (by omega)), x_book hm hp, bd_some, if_gd b1]
  generalize bkS σ m p (-F) x = Q at b1 ⊢
  obtain ⟨i0, i1, i2, i3, i4, i5, i6⟩ := b1
  have ls := lg0_n Q (-1) (nI m) (nI p) F x
  rw [if_gd (show gN Q 1 ≤ gN Q 6 by omega), init4, bd_some, if_gd ls.2.2.2]
  generalize lg0 Q (-1) (nI m) (nI p) F x = L at ls ⊢
  obtain ⟨l1, l3, l6, ls⟩ := ls
  rw [if_gd (show gN L 1 < gN L 6 ∧ gN L 1 ≤ gN L 3 ∧ gN L 3 ≤ 1000000 ∧ gN Q 6 = gN L 1 by omega), tk_some, tk_some, l1, l3, i1, i3, Nat.add_zero, Nat.add_zero]
theorem dr_IN {σ : St} (hN : IN σ) (hC : IC σ) (h5 : gN σ 1 < 50000) {m p : Nat} {F x : Int32} : IN (drS σ m p F x) ∧ IC (drS σ m p F x) ∧ (1 + amc (gN σ 1) (gN σ 3)) + pot σ ≤ pot (drS σ m p F x) ∧ (5 + ams (gN σ 1) (gN σ 3)) + pot σ ≤ pot (drS σ m p F x) ∧ gN (drS σ m p F x) 1 = gN σ 1 + 1 :=
  tr_IN (b := m) (s := m) (p := p) (q := F) (x := x) hN hC h5
theorem dr_RR {σ τ : St} (h : RR σ τ) (hC : IC σ) (h5 : gN σ 1 < 50000) {m p : Nat} (hm : m < 5) (hp : p < 3) {F x : Int32} (hF : F = gI τ 4 0 (3 * m + p)) (hx : x = gI τ 1 0 p) (hb : -2147483648 < F.toInt) : RR (drS σ m p F x) (drT τ m p) := by
  obtain ⟨hA, hU, hP, hQ, hO, hK, hW, hN⟩ := h
  refine ⟨hA, hU, fun m' hm' p' hp' => ?_, hQ, hO, hK, hW, (dr_IN hN hC h5).1⟩
  obtain ⟨a1, a2⟩ := hP m' hm' p' hp'
  have k1 : gI (drS σ m p F x) 4 m' p' = if m' = m ∧ p' = p then gI σ 4 m p + -F else gI σ 4 m' p' := by
    show (if 4 = 4 ∧ m' = m ∧ p' = p then _ else _) = _
    simp only [true_and]
    rfl
  have k3 : gL (drS σ m p F x) 5 m' p' = if m' = m ∧ p' = p then gL σ 5 m p + (-F).toInt64 * x.toInt64 else gL σ 5 m' p' := by
    show (if 5 = 5 ∧ m' = m ∧ p' = p then _ else _) = _
    simp only [true_and]
    rfl
  have k2 : gI (drT τ m p) 4 0 (3 * m' + p') = if m' = m ∧ p' = p then 0 else gI τ 4 0 (3 * m' + p') := by
    show (if 4 = 4 ∧ 0 = 0 ∧ 3 * m' + p' = 3 * m + p then _ else _) = _
    simp only [true_and, ix_eq hp' hp]
    rfl
  have k4 : gL (drT τ m p) 5 0 (3 * m' + p') = if m' = m ∧ p' = p then gL τ 5 0 (3 * m + p) - (gI τ 4 0 (3 * m + p)).toInt64 * (gI τ 1 0 p).toInt64 else gL τ 5 0 (3 * m' + p') := by
    show (if 5 = 5 ∧ 0 = 0 ∧ 3 * m' + p' = 3 * m + p then _ else _) = _
    simp only [true_and, ix_eq hp' hp]
    rfl
  rw [k1, k2, k3, k4, wid_neg hb]
  by_cases c : m' = m ∧ p' = p
  · obtain ⟨rfl, rfl⟩ := c
    simp only [and_self, if_true]
    rw [a1, a2, hF, hx]
    constructor <;> grind
  · rw [if_neg c, if_neg c, if_neg c, if_neg c]
    exact ⟨a1, a2⟩
theorem dr_IJ {σ : St} (hN : IN σ) (h : IJ σ) {m p : Nat} (hm : m < 5) (hp : p < 3) {F x : Int32} (hx : 1 ≤ x.toInt ∧ x.toInt ≤ 9999) (hF : F = gI σ 4 m p) (hb : -20000 ≤ F.toInt ∧ F.toInt ≤ 20000) : IJ (drS σ m p F x) := by
  have hN0 : IN (bkS σ m p (-F) x) := hN
  have hn : (-F).toInt = -F.toInt := neg32 rfl (by omega)
  have hv : ∀ m', m' < 5 → sgv (-1) (nI m) F m' = if m' = m then -F.toInt64 else 0 := fun m' hm' => by
    unfold sgv
    rw [if_neg (fun e => nI_ne1 (by omega) e.symm)]
    by_cases c2 : m' = m
    · rw [if_pos (by rw [c2]), if_pos c2]
    · rw [if_neg (fun e => c2 ((nI_eq (by omega) (by omega)).mp e).symm), if_neg c2]
  refine J_step (σ := σ) hN0 hp hx h rfl (fun f t hf => ?_) (fun _ => rfl) (fun _ => rfl) (fun m' hm' p' hp' => ?_) (fun m' hm' p' hp' => ?_)
  · unfold bkS
    simp only [gI_pL, gI_pI]
    rw [if_neg (by omega)]
  · rw [hv m' hm']
    unfold bkS
    simp only [gI_pL, gI_pI, true_and]
    by_cases c : p = p'
    · subst c
      simp only [and_true, if_true]
      by_cases c1 : m' = m
      · subst c1
        rw [if_pos rfl, if_pos rfl, ← hF, wid_add (by rw [hn]; omega) (by rw [hn]; omega), wid_neg (by omega)]
      · rw [if_neg c1, if_neg c1, Int64.add_zero]
    · rw [if_neg (fun q => c q.2.symm), if_neg c, Int64.add_zero]
  · rw [hv m' hm']
    unfold bkS
    simp only [gL_pL, gL_pI, true_and]
    by_cases c : p = p'
    · subst c
      simp only [and_true, if_true]
      by_cases c1 : m' = m
      · subst c1
        rw [if_pos rfl, if_pos rfl, wid_neg (by omega)]
      · rw [if_neg c1, if_neg c1, Int64.zero_mul, Int64.add_zero]
    · rw [if_neg (fun q => c q.2.symm), if_neg c, Int64.add_zero]
theorem dr_BP {τ : St} (h : BP τ) {m p : Nat} (hm : m < 5) (hp : p < 3) : BP (drT τ m p) := by
  have e : ∀ j, ps (drT τ m p) j = if j = 3 * m + p then 0 else ps τ j := fun j => by
    show (if 4 = 4 ∧ 0 = 0 ∧ j = 3 * m + p then (0 : Int32) else gI τ 4 0 j).toInt = _
    simp only [true_and]
    by_cases c : j = 3 * m + p
    · rw [if_pos c, if_pos c]; rfl
    · rw [if_neg c, if_neg c]; rfl
  have s1 := sm_upd (f := fun j => ((ps τ j).natAbs : Int)) (g := fun j => ((ps (drT τ m p) j).natAbs : Int)) (n := 15) (j := 3 * m + p) (by omega) (fun k _ hk => by rw [e, if_neg hk])
  rw [e, if_pos rfl] at s1
  unfold BP at h ⊢
  rw [s1]
  show _ + 2 * sm (lf τ) (tn τ) ≤ 200 * (tn τ : Int)
  omega
theorem G_drop {B : Int} {σ τ : St} (h : G B σ τ) (hB : B < 50000) {m p : Nat} (hm : m < 5) (hp : p < 3) {F x : Int32} (hF : F = gI τ 4 0 (3 * m + p)) (hx : x = gI τ 1 0 p) :
    G (B + 1) (drS σ m p F x) (drT τ m p) ∧ ∃ mc ms, fX5_drop σ (nI m) (nI p) F x = some (drS σ m p F x, mc, ms) ∧ mc + pot σ ≤ pot (drS σ m p F x) ∧ ms + pot σ ≤ pot (drS σ m p F x) := by
  have hO := G_BO h
  have bP := G_BP h
  have bQ := G_BQ h
  obtain ⟨hRD, hC, hJ, hT, c9, hc9, he9⟩ := h
  have ho := op_b τ
  have h5 : gN σ 1 < 50000 := by omega
  have hN := hRD.2.2.2.2.2.2.2.1
  obtain ⟨i1, i2, i3, i4, i5⟩ := dr_IN (m := m) (p := p) (F := F) (x := x) hN hC h5
  have b1 := ps_bnd hO bP (j := 3 * m + p) (by omega)
  have hb : -20000 ≤ F.toInt ∧ F.toInt ≤ 20000 := by rw [hF]; exact b1
  refine ⟨⟨RD_of (dr_RR (RD_RR hRD) hC h5 hm hp hF hx (by omega)) hO bQ (dr_BP bP hm hp), i2, dr_IJ hN hJ hm hp (by rw [hx]; exact ⟨(bQ p hp).1, (bQ p hp).2.1⟩) (by rw [hF]; exact ((hRD.2.2.1) m hm p hp).1.symm) hb, ?_, c9, by rw [i5]; omega, he9⟩, _, _, x_drop hN h5 hm hp F x, i3, i4⟩
  have e1 : op (drT τ m p) = op τ := rfl
  rw [i5, e1]
  omega
theorem sDif_dr (τ : St) {m p m' p' : Nat} (hp : p < 3) (hp' : p' < 3) : sDif (drT τ m p) m' p' = sDif τ m' p' := by
  unfold sDif
  show (if 4 = 4 ∧ 0 = 0 ∧ 3 * m' + p' = 3 * m + p then (0 : Int32) else gI τ 4 0 (3 * m' + p')).toInt64 * (gI τ 1 0 p').toInt64 - (if 5 = 5 ∧ 0 = 0 ∧ 3 * m' + p' = 3 * m + p then gL τ 5 0 (3 * m + p) - (gI τ 4 0 (3 * m + p)).toInt64 * (gI τ 1 0 p).toInt64 else gL τ 5 0 (3 * m' + p')) = _
  simp only [true_and, ix_eq hp' hp]
  by_cases c : m' = m ∧ p' = p
  · obtain ⟨rfl, rfl⟩ := c
    simp only [and_self, if_true]
    rw [show (0 : Int32).toInt64 = 0 by decide]
    grind
  · rw [if_neg c, if_neg c]
theorem SM_drop (τ : St) (m p : Nat) : SM τ (drT τ m p) := ⟨fun _ => rfl, fun _ => rfl, rfl, fun _ => rfl, fun _ => rfl, rfl, fun _ => rfl, fun _ => ⟨rfl, rfl, rfl⟩, fun _ => ⟨rfl, rfl⟩⟩
theorem MN_drop (τ : St) {m p : Nat} (hp : p < 3) : MN τ (drT τ m p) := MN_eq (SM_drop τ m p) (fun m' _ => by
  unfold sEq
  rw [sDif_dr τ hp (by omega), sDif_dr τ hp (by omega), sDif_dr τ hp (by omega)]
  rfl) (Int.le_refl _)
theorem MN_hand {τ : St} {b s p : Nat} (hbs : b ≠ s) (hp : p < 3) {q : Int32} (hq : -20000 ≤ q.toInt ∧ q.toInt ≤ 20000) (hb : -20000 ≤ ps τ (3 * b + p) ∧ ps τ (3 * b + p) ≤ 20000) (hs : -20000 ≤ ps τ (3 * s + p) ∧ ps τ (3 * s + p) ≤ 20000) : MN τ (trT τ b s p q (gI τ 1 0 p)) := MN_eq (SM_trade τ b s p q _) (fun m _ => by
  rw [sEq_tr hbs hp (by omega) (by omega)]
  have e : trD τ p q (gI τ 1 0 p) = 0 := by unfold trD; grind
  rw [e]
  have e2 : (-(0 : Int64)) = 0 := by decide
  rw [e2, ite_self, ite_self, Int64.add_zero]) (Int.le_refl _)
theorem FF_drop (σ τ : St) (m p : Nat) (F x : Int32) (hp : p < 3) : FF σ τ (drS σ m p F x) (drT τ m p) := ⟨⟨⟨fun _ => rfl, fun _ => rfl, fun _ => rfl, rfl, rfl, SM_drop τ m p, MN_drop τ hp⟩, fun _ => rfl, fun _ => rfl⟩, fun _ => rfl, fun _ => rfl, rfl⟩
/-- the positions of one that fails, product by product -/
theorem hand_S {B : Int} (hB : B < 50000) {m p : Nat} (hm : m < 5) (hp : p < 3) {σ τ : St} (hG : G B σ τ) (hf : ¬ gI τ 10 0 m = 0) (n n2 : Nat) :
    ∃ σ' τ' mc ms, fX5_fail_L14 (n + 1) σ (nI p) m (nI m) = tk mc ms (fX5_fail_L14 n σ' (nI (p + 1)) m (nI m)) ∧ fX6_breaks_L9 (n2 + 1) τ (nI p) (nI m) = fX6_breaks_L9 n2 τ' (nI (p + 1)) (nI m) ∧ G (B + 1) σ' τ' ∧ FF σ τ σ' τ' ∧ mc + pot σ ≤ pot σ' ∧ ms + pot σ ≤ pot σ' := by
  have hO := G_BO hG
  have hbq := (G_BQ hG) p hp
  have e4 := ((G_IP hG) m hm p hp).1
  have e2 := ((G_IQ hG) p hp).1
  have bF := ps_bnd hO (G_BP hG) (j := 3 * m + p) (by omega)
  rw [fX5_fail_L14.eq_2, if_neg (show ¬ (3 : Int32) ≤ nI p from nI_ge (a := p) (b := 3) hp (by omega)), if_gd (vin_nI hp (by omega)), clamp_nI (show p < 2147483648 by omega), e4]
  rw [fX6_breaks_L9.eq_2, if_neg (show ¬ (3 : Int32) ≤ nI p from nI_ge (a := p) (b := 3) hp (by omega)), if_gd (ix3 m hm p hp).2, (ix3 m hm p hp).1, kst_d (gI τ 4 0 (3 * m + p))]
  by_cases z : gI τ 4 0 (3 * m + p) = 0
  · rw [if_pos z, if_neg (not_not_intro z), y_wor hm hp, bd_some, kst_d, kst_d, nI_1]
    refine ⟨σ, τ, 0, 0, (tk_00 _).symm, ?_, G_mono hG (by omega), FF_rfl σ τ, by omega, by omega⟩
    have ez : pI (pL τ 5 0 (3 * m + p) (gL τ 5 0 (3 * m + p) - (gI τ 4 0 (3 * m + p)).toInt64 * (gI τ 1 0 p).toInt64)) 4 0 (3 * m + p) 0 = τ := by
      have h1 : gL τ 5 0 (3 * m + p) - (gI τ 4 0 (3 * m + p)).toInt64 * (gI τ 1 0 p).toInt64 = gL τ 5 0 (3 * m + p) := by
        rw [z, show (0 : Int32).toInt64 = 0 by decide, Int64.zero_mul, Int64.sub_zero]
      rw [h1, pL_self]
      have h2 := pI_self τ 4 0 (3 * m + p)
      rw [z] at h2
      exact h2
    rw [ez]
  · obtain ⟨f, σ1, c1, r1, r2, r3⟩ := rich hG.1 hm hf
    have hG1 := G_scr c1 hG
    rw [if_neg z, if_pos z, r1, bd_some, if_gd (scr_same c1), r2, bd_some]
    have e41 : gI σ1 4 m p = gI τ 4 0 (3 * m + p) := (scr_gI c1 ..).trans e4
    have e21 : gI σ1 2 p 0 = gI τ 1 0 p := (scr_gI c1 ..).trans e2
    have hand : fX5_handOver σ1 (nI m) f (nI p) = if ¬ f = -1 then (if gI τ 4 0 (3 * m + p) ≤ 0 then bt2 (fX5_trade σ1 (nI m) f (nI p) (-gI τ 4 0 (3 * m + p)) (gI τ 1 0 p)) (fun q7 => some (q7, 0, 0)) else bt2 (fX5_trade σ1 f (nI m) (nI p) (gI τ 4 0 (3 * m + p)) (gI τ 1 0 p)) (fun q14 => some (q14, 0, 0))) else bt2 (fX5_drop σ1 (nI m) (nI p) (gI τ 4 0 (3 * m + p)) (gI τ 1 0 p)) (fun q21 => some (q21, 0, 0)) := by
      unfold fX5_handOver
      rw [if_gd (vin_nI hm (by omega)), if_gd (vin_nI hp (by omega)), clamp_nI (show p < 2147483648 by omega), clamp_nI (show m < 2147483648 by omega), e41, e21]
      simp only [kst_d]
    rw [hand]
    rcases r3 with rfl | ⟨j, hj, hjm, rfl, -⟩
    · -- nobody takes it over
      obtain ⟨g1, mc, ms, g2, g3, g4⟩ := G_drop hG1 hB hm hp (F := gI τ 4 0 (3 * m + p)) (x := gI τ 1 0 p) rfl rfl
      rw [if_neg (not_not_intro rfl), g2, bt2_some, tk_some, bt2_some, if_pos rfl, y_wor hm hp, bd_some, kst_d, kst_d, nI_1]
      refine ⟨_, drT τ m p, _, _, rfl, rfl, g1, FF_tr ⟨FR_rfl τ, FS_scr c1⟩ (FF_drop σ1 τ m p _ _ hp), ?_, ?_⟩
      · rw [pot_scr c1] at g3; omega
      · rw [pot_scr c1] at g4; omega
    · have hne : ¬ nI j = -1 := nI_ne1 (by omega)
      have bT := ps_bnd hO (G_BP hG) (j := 3 * j + p) (by omega)
      rw [if_pos hne, if_neg hne]
      by_cases cs : gI τ 4 0 (3 * m + p) ≤ 0
      · have cs' : ps τ (3 * m + p) ≤ 0 := (le32 (B := 0) rfl (by decide)).mp cs
        have hq : (-gI τ 4 0 (3 * m + p)).toInt = -ps τ (3 * m + p) := neg32 rfl (by show _ < ps τ _; omega)
        have hBP : BP (trT τ m j p (-gI τ 4 0 (3 * m + p)) (gI τ 1 0 p)) := by
          have e := (tr_sum (τ := τ) (x := gI τ 1 0 p) hm hj hp (Ne.symm hjm) (q := -gI τ 4 0 (3 * m + p)) (by omega) bF bT).1
          have hh := G_BP hG
          unfold BP at hh ⊢
          rw [e, hq]
          show _ + 2 * sm (lf τ) (tn τ) ≤ 200 * (tn τ : Int)
          omega
        obtain ⟨g1, ⟨mc, ms, g2, g3, g4⟩, -⟩ := G_trade hG1 hB hm hj hp (Ne.symm hjm) (q := -gI τ 4 0 (3 * m + p)) (x := gI τ 1 0 p) (by omega) ⟨hbq.1, hbq.2.1⟩ hBP
        rw [if_pos cs, if_pos cs, if_pos cs, if_pos cs, g2, bt2_some, tk_some, bt2_some, if_gd (vin_nI hp (by omega)), clamp_nI (show p < 2147483648 by omega), y_trade τ hm hj hp, bd_some, kst_d, kst_d, nI_1]
        refine ⟨_, _, _, _, rfl, rfl, g1, FF_tr ⟨FR_rfl τ, FS_scr c1⟩ (FF_trade σ1 τ m j p _ _ _ _ (MN_hand (Ne.symm hjm) hp (by omega) bF bT)), ?_, ?_⟩
        · rw [pot_scr c1] at g3; omega
        · rw [pot_scr c1] at g4; omega
      · have cs' : ¬ ps τ (3 * m + p) ≤ 0 := mt (le32 (a := gI τ 4 0 (3 * m + p)) (B := 0) rfl (by decide)).mpr cs
        have hq : (gI τ 4 0 (3 * m + p)).toInt = ps τ (3 * m + p) := rfl
        have hBP : BP (trT τ j m p (gI τ 4 0 (3 * m + p)) (gI τ 1 0 p)) := by
          have e := (tr_sum (τ := τ) (x := gI τ 1 0 p) hj hm hp hjm (q := gI τ 4 0 (3 * m + p)) (by omega) bT bF).1
          have hh := G_BP hG
          unfold BP at hh ⊢
          rw [e, hq]
          show _ + 2 * sm (lf τ) (tn τ) ≤ 200 * (tn τ : Int)
          omega
        obtain ⟨g1, ⟨mc, ms, g2, g3, g4⟩, -⟩ := G_trade hG1 hB hj hm hp hjm (q := gI τ 4 0 (3 * m + p)) (x := gI τ 1 0 p) (by omega) ⟨hbq.1, hbq.2.1⟩ hBP
        rw [if_neg cs, if_neg cs, if_neg cs, if_neg cs, g2, bt2_some, tk_some, bt2_some, if_gd (vin_nI hp (by omega)), clamp_nI (show p < 2147483648 by omega), y_trade τ hj hm hp, bd_some, kst_d, kst_d, nI_1]
        refine ⟨_, _, _, _, rfl, rfl, g1, FF_tr ⟨FR_rfl τ, FS_scr c1⟩ (FF_trade σ1 τ j m p _ _ _ _ (MN_hand hjm hp (by omega) bT bF)), ?_, ?_⟩
        · rw [pot_scr c1] at g3; omega
        · rw [pot_scr c1] at g4; omega
