/-! PURE: netting, selling collateral, covering a loss -/
def wv (τ : St) (m p : Nat) : Int64 := (gI τ 4 0 (3 * m + p)).toInt64 * (gI τ 1 0 p).toInt64
def chS (τ : St) (m : Nat) : Int64 := ((0 + sDif τ m 0) + sDif τ m 1) + sDif τ m 2
def neS (σ τ : St) (m : Nat) : St := pL (pL (pL (pL σ 5 m 0 (gL σ 5 m 0 + sDif τ m 0)) 5 m 1 (gL σ 5 m 1 + sDif τ m 1)) 5 m 2 (gL σ 5 m 2 + sDif τ m 2)) 0 m 0 (gL σ 0 m 0 + chS τ m)
def neT (τ : St) (m : Nat) : St := pL (pL (pL (pL τ 5 0 (3 * m + 0) (wv τ m 0)) 5 0 (3 * m + 1) (wv τ m 1)) 5 0 (3 * m + 2) (wv τ m 2)) 6 0 m (gL τ 6 0 m + chS τ m)
theorem x_neS {τ s : St} {m p : Nat} (hd : fX5_differenceOf s m (nI p) = some (sDif τ m p)) (hp : p < 3) (n : Nat) (v : Int64) : fX5_netPositions_L5 (n + 1) s (nI p) v m = fX5_netPositions_L5 n (pL s 5 m p (gL s 5 m p + sDif τ m p)) (nI (p + 1)) (v + sDif τ m p) m := by
  rw [fX5_netPositions_L5.eq_2, if_neg (show ¬ (3 : Int32) ≤ nI p from nI_ge (a := p) (b := 3) hp (by omega)), hd, bd_some, kst_d, if_gd (vin_nI hp (by omega)), kst_d, clamp_nI (show p < 2147483648 by omega), nI_1]
theorem dif_of {s σ : St} {m p : Nat} (hp : p < 3) (h4 : gI s 4 m p = gI σ 4 m p) (h2 : gI s 2 p 0 = gI σ 2 p 0) (h5 : gL s 5 m p = gL σ 5 m p) : fX5_differenceOf s m (nI p) = fX5_differenceOf σ m (nI p) := by
  unfold fX5_differenceOf
  rw [if_gd (vin_nI hp (by omega)), if_gd (vin_nI hp (by omega)), clamp_nI (show p < 2147483648 by omega), h4, h2, h5]
theorem x_net {σ τ : St} (hP : IP σ τ) (hQ : IQ σ τ) {m : Nat} (hm : m < 5) : fX5_netPositions σ m = some (chS τ m, neS σ τ m) := by
  unfold fX5_netPositions
  show fX5_netPositions_L5 (999 + 1) σ (nI 0) 0 m = _
  have d0 := x_dif hP hQ hm (p := 0) (by omega)
  have d1 := x_dif hP hQ hm (p := 1) (by omega)
  have d2 := x_dif hP hQ hm (p := 2) (by omega)
  rw [x_neS (τ := τ) d0 (by omega)]
  obtain ⟨s1, hs1⟩ : ∃ s1, s1 = pL σ 5 m 0 (gL σ 5 m 0 + sDif τ m 0) := ⟨_, rfl⟩
  have g1 : gL s1 5 m 1 = gL σ 5 m 1 := by rw [hs1, gL_pL, if_neg (by omega)]
  have g12 : gL s1 5 m 2 = gL σ 5 m 2 := by rw [hs1, gL_pL, if_neg (by omega)]
  have d1' : fX5_differenceOf s1 m (nI 1) = some (sDif τ m 1) := (dif_of (by omega) (by rw [hs1]; rfl) (by rw [hs1]; rfl) g1).trans d1
  rw [← hs1]
  show fX5_netPositions_L5 (998 + 1) s1 (nI 1) _ m = _
  rw [x_neS (τ := τ) d1' (by omega), g1]
  obtain ⟨s2, hs2⟩ : ∃ s2, s2 = pL s1 5 m 1 (gL σ 5 m 1 + sDif τ m 1) := ⟨_, rfl⟩
  have g2 : gL s2 5 m 2 = gL σ 5 m 2 := by rw [hs2, gL_pL, if_neg (by omega), g12]
  have d2' : fX5_differenceOf s2 m (nI 2) = some (sDif τ m 2) := (dif_of (by omega) (by rw [hs2, hs1]; rfl) (by rw [hs2, hs1]; rfl) g2).trans d2
  rw [← hs2]
  show fX5_netPositions_L5 (997 + 1) s2 (nI 2) _ m = _
  rw [x_neS (τ := τ) d2' (by omega), g2]
  obtain ⟨s3, hs3⟩ : ∃ s3, s3 = pL s2 5 m 2 (gL σ 5 m 2 + sDif τ m 2) := ⟨_, rfl⟩
  have g0 : gL s3 0 m 0 = gL σ 0 m 0 := by rw [hs3, gL_pL, if_neg (by omega), hs2, gL_pL, if_neg (by omega), hs1, gL_pL, if_neg (by omega)]
  rw [← hs3]
  show fX5_netPositions_L5 (996 + 1) s3 (nI 3) _ m = _
  rw [fX5_netPositions_L5.eq_2, if_pos (show (3 : Int32) ≤ nI 3 by decide), g0]
  unfold neS
  rw [← hs1, ← hs2, ← hs3]
  rfl
theorem y_neS {t : St} {m p : Nat} (hm : m < 5) (hp : p < 3) (n : Nat) (v : Int64) : fX6_nets_L5 (n + 1) t (nI p) v (nI m) = fX6_nets_L5 n (pL t 5 0 (3 * m + p) (wv t m p)) (nI (p + 1)) (v + sDif t m p) (nI m) := by
  rw [fX6_nets_L5.eq_2, if_neg (show ¬ (3 : Int32) ≤ nI p from nI_ge (a := p) (b := 3) hp (by omega)), y_wor hm hp, bd_some, if_gd (ix3 m hm p hp).2, (ix3 m hm p hp).1, kst_d, bd_some, kst_d, nI_1]
  rfl
theorem y_net {τ : St} {m : Nat} (hm : m < 5) : fX6_nets τ (nI m) = some (chS τ m, neT τ m) := by
  unfold fX6_nets
  show fX6_nets_L5 (999 + 1) τ (nI 0) 0 (nI m) = _
  rw [y_neS hm (by omega)]
  obtain ⟨s1, hs1⟩ : ∃ s1, s1 = pL τ 5 0 (3 * m + 0) (wv τ m 0) := ⟨_, rfl⟩
  have g1 : gL s1 5 0 (3 * m + 1) = gL τ 5 0 (3 * m + 1) := by rw [hs1, gL_pL, if_neg (by omega)]
  have g12 : gL s1 5 0 (3 * m + 2) = gL τ 5 0 (3 * m + 2) := by rw [hs1, gL_pL, if_neg (by omega)]
  have w1 : wv s1 m 1 = wv τ m 1 := by rw [hs1]; rfl
  have q1 : sDif s1 m 1 = sDif τ m 1 := by
    show wv s1 m 1 - gL s1 5 0 (3 * m + 1) = wv τ m 1 - gL τ 5 0 (3 * m + 1)
    rw [w1, g1]
  rw [← hs1]
  show fX6_nets_L5 (998 + 1) s1 (nI 1) _ (nI m) = _
  rw [y_neS hm (by omega), w1, q1]
  obtain ⟨s2, hs2⟩ : ∃ s2, s2 = pL s1 5 0 (3 * m + 1) (wv τ m 1) := ⟨_, rfl⟩
  have g2 : gL s2 5 0 (3 * m + 2) = gL τ 5 0 (3 * m + 2) := by rw [hs2, gL_pL, if_neg (by omega), g12]
  have w2 : wv s2 m 2 = wv τ m 2 := by rw [hs2, hs1]; rfl
  have q2 : sDif s2 m 2 = sDif τ m 2 := by
    show wv s2 m 2 - gL s2 5 0 (3 * m + 2) = wv τ m 2 - gL τ 5 0 (3 * m + 2)
    rw [w2, g2]
  rw [← hs2]
  show fX6_nets_L5 (997 + 1) s2 (nI 2) _ (nI m) = _
  rw [y_neS hm (by omega), w2, q2]
  obtain ⟨s3, hs3⟩ : ∃ s3, s3 = pL s2 5 0 (3 * m + 2) (wv τ m 2) := ⟨_, rfl⟩
  have g0 : gL s3 6 0 m = gL τ 6 0 m := by rw [hs3, gL_pL, if_neg (by omega), hs2, gL_pL, if_neg (by omega), hs1, gL_pL, if_neg (by omega)]
  rw [← hs3]
  show fX6_nets_L5 (996 + 1) s3 (nI 3) _ (nI m) = _
  rw [fX6_nets_L5.eq_2, if_pos (show (3 : Int32) ≤ nI 3 by decide), if_gd (vin_nI hm (by omega)), clamp_nI (show m < 2147483648 by omega), g0]
  unfold neT
  rw [← hs1, ← hs2, ← hs3]
  rfl
