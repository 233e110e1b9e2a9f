/-! PURE: selling collateral -/
-- money that comes from outside
def rcS (σ : St) (m : Nat) (v : Int64) : St := pL (pL σ 0 m 0 (gL σ 0 m 0 + v)) 2 m 0 (gL σ 2 m 0 + v)
theorem x_rec (σ : St) (m : Nat) (v : Int64) : fX5_receiveFromOutside σ m v = some (rcS σ m v) := by
  unfold fX5_receiveFromOutside rcS
  rw [gL_pL (a := 2), if_neg (by omega)]
theorem rcS_0 (σ : St) (m : Nat) (v : Int64) (m' : Nat) : gL (rcS σ m v) 0 m' 0 = if m' = m then gL σ 0 m 0 + v else gL σ 0 m' 0 := by
  unfold rcS
  rw [gL_pL, if_neg (by omega), gL_pL]
  by_cases c : m' = m
  · rw [if_pos ⟨rfl, c, rfl⟩, if_pos c]
  · rw [if_neg (fun z => c z.2.1), if_neg c]
theorem rcS_2 (σ : St) (m : Nat) (v : Int64) (m' : Nat) : gL (rcS σ m v) 2 m' 0 = if m' = m then gL σ 2 m 0 + v else gL σ 2 m' 0 := by
  unfold rcS
  rw [gL_pL]
  by_cases c : m' = m
  · rw [if_pos ⟨rfl, c, rfl⟩, if_pos c]
  · rw [if_neg (fun z => c z.2.1), if_neg c, gL_pL, if_neg (by omega)]
theorem G_rec {B : Int} {σ τ : St} (h : G B σ τ) {m : Nat} (hm : m < 5) (v w : Int64) (hw : gL τ 6 0 m + v = w) : G B (rcS σ m v) (pL τ 6 0 m w) := by
  obtain ⟨⟨hA, hU, hP, hQ, hO, hK, hW, hN, b1, b2, b3⟩, hC, hJ, hT⟩ := h
  refine ⟨⟨fun m' hm' => ?_, hU, hP, hQ, hO, hK, hW, hN, b1, b2, b3⟩, hC, ⟨hJ.1, fun m' hm' => ⟨(hJ.2 m' hm').1, ?_⟩⟩, hT⟩
  · obtain ⟨a1, a2, a3⟩ := hA m' hm'
    refine ⟨?_, a2, a3⟩
    rw [rcS_0, gL_pL]
    simp only [true_and]
    by_cases c : m' = m
    · rw [if_pos c, if_pos c, ← hw, ← c, a1]
    · rw [if_neg c, if_neg c, a1]
  · show gL (rcS σ m v) 0 m' 0 - ((gL σ 5 m' 0 + gL σ 5 m' 1) + gL σ 5 m' 2) = gL (rcS σ m v) 2 m' 0 - JB σ m'
    rw [rcS_0, rcS_2]
    have hh := (hJ.2 m' hm').2
    by_cases c : m' = m
    · rw [if_pos c, if_pos c, ← c]
      grind
    · rw [if_neg c, if_neg c]
      exact hh
theorem G_units {B : Int} {σ τ : St} (h : G B σ τ) {m k : Nat} (hk : k < 2) (v : Int32) : G B (pI σ 3 m k v) (pI τ 7 0 (2 * m + k) v) := by
  obtain ⟨⟨hA, hU, hP, hQ, hO, hK, hW, hN, b1, b2, b3⟩, hC, hJ, hT⟩ := h
  refine ⟨⟨hA, fun m' hm' k' hk' => ?_, hP, hQ, hO, hK, hW, hN, b1, b2, b3⟩, hC, hJ, hT⟩
  rw [gI_pI, gI_pI]
  simp only [true_and]
  by_cases c : m' = m ∧ k' = k
  · rw [if_pos c, if_pos (by omega)]
  · rw [if_neg c, if_neg (by omega)]
    exact hU m' hm' k' hk'
def seS (σ τ : St) (m : Nat) : St := pI (pI (rcS σ m (sCol τ m)) 3 m 0 0) 3 m 1 0
def seT (τ : St) (m : Nat) : St := pI (pI (pL τ 6 0 m (gL τ 6 0 m + sCol τ m)) 7 0 (2 * m + 0) 0) 7 0 (2 * m + 1) 0
theorem x_seS {σ : St} {m k : Nat} (hk : k < 2) (n : Nat) (a : Int32) : fX5_sellCollateral_L18 (n + 1) σ (nI k) m a = fX5_sellCollateral_L18 n (pI σ 3 m k 0) (nI (k + 1)) m a := by
  rw [fX5_sellCollateral_L18.eq_2, if_neg (show ¬ (2 : Int32) ≤ nI k from nI_ge (a := k) (b := 2) hk (by omega)), if_gd (vin_nI hk (by omega)), clamp_nI (show k < 2147483648 by omega), kst_d, nI_1]
theorem x_sell {B : Int} {σ τ : St} (h : G B σ τ) {m : Nat} (hm : m < 5) : fX5_sellCollateral σ (nI m) = some (seS σ τ m) := by
  obtain ⟨⟨hA, hU, hP, hQ, hO, hK, hW, hN, b1, b2, b3⟩, hC, hJ, hT⟩ := h
  unfold fX5_sellCollateral
  rw [if_gd (vin_nI hm (by omega)), x_col hK hU hm, bd_some, clamp_nI (show m < 2147483648 by omega), x_rec, bd_some]
  show fX5_sellCollateral_L18 (999 + 1) (rcS σ m (sCol τ m)) (nI 0) m (nI m) = _
  rw [x_seS (by omega), x_seS (by omega), fX5_sellCollateral_L18.eq_2, if_pos (show (2 : Int32) ≤ nI 2 by decide)]
  rfl
theorem G_sell {B : Int} {σ τ : St} (h : G B σ τ) {m : Nat} (hm : m < 5) : G B (seS σ τ m) (seT τ m) :=
  G_units (G_units (G_rec h hm _ _ rfl) (by omega) 0) (by omega) 0
theorem FF_sell (σ τ : St) (m : Nat) : FF σ τ (seS σ τ m) (seT τ m) := ⟨⟨⟨fun _ => rfl, fun _ => rfl, fun _ => rfl, rfl, rfl⟩, fun _ => rfl, fun _ => rfl⟩, fun _ => rfl, fun _ => rfl, rfl⟩
