/-! PURE: money and collateral are told -/
theorem toI_i {v : Int64} (h1 : -2147483648 ≤ v.toInt) (h2 : v.toInt < 2147483648) : (Int64.toInt32 v).toInt = v.toInt := by rw [Int64.toInt_toInt32, bm32 h1 h2]
theorem free_I {B K : Int} {σ τ : St} (h : G B σ τ) (hK : MG K τ) {m : Nat} (hm : m < 5) : (sFree τ m).toInt = eqI τ m + coI τ m - sMarg τ m ∧ -2046000000 ≤ (sFree τ m).toInt ∧ (sFree τ m).toInt ≤ 2001000000 := by
  have hb := PSI_b hK (lf_sum (G_BO h)) m hm
  have hc := (sCol_b (G_IK h) hK hm).2
  have hM := sMarg_b (G_BO h) (G_BP h) (G_BQ h) hm
  have hK1 := hK.1
  have e1 : (sEq τ m + sCol τ m).toInt = eqI τ m + coI τ m := add64 rfl rfl (by show _ ≤ eqI τ m + coI τ m; omega) (by show eqI τ m + coI τ m < _; omega)
  have e2 : (Int64.ofInt (sMarg τ m)).toInt = sMarg τ m := by
    rw [Int64.toInt_ofInt, bm64 (by omega) (by omega)]
  have e3 : (sFree τ m).toInt = eqI τ m + coI τ m - sMarg τ m := by
    unfold sFree
    exact sub64 e1 e2 (by omega) (by omega)
  rw [e3]
  exact ⟨rfl, by omega, by omega⟩
theorem MG_cash {K : Int} {τ : St} (hO : BO τ) {m : Nat} (hm : m < 5) {b : Int32} (hb : -100000 ≤ b.toInt ∧ b.toInt ≤ 100000) (hK : MG K τ) (hK2 : K + 9000000 ≤ 2000000000) : MG (K + 9000000) (pL (pI τ 23 0 0 0) 6 0 m (gL τ 6 0 m + b.toInt64)) := by
  have hp := PSI_b hK (lf_sum hO) m hm
  have h6 : ∀ j, gL (pL (pI τ 23 0 0 0) 6 0 m (gL τ 6 0 m + b.toInt64)) 6 0 j = if j = m then gL τ 6 0 m + b.toInt64 else gL τ 6 0 j := fun j => by
    rw [gL_pL]
    simp only [true_and]
    rfl
  have heq : ∀ j, sEq (pL (pI τ 23 0 0 0) 6 0 m (gL τ 6 0 m + b.toInt64)) j = if j = m then sEq τ m + b.toInt64 else sEq τ j := fun j => by
    unfold sEq
    rw [h6]
    by_cases c : j = m
    · subst c
      rw [if_pos rfl, if_pos rfl]
      show ((gL τ 6 0 j + b.toInt64 + sDif τ j 0) + sDif τ j 1) + sDif τ j 2 = _
      grind
    · rw [if_neg c, if_neg c]
      rfl
  generalize ht : pL (pI τ 23 0 0 0) 6 0 m (gL τ 6 0 m + b.toInt64) = τ' at heq
  have e1 : eqI τ' m = eqI τ m + b.toInt := by
    have hK1 := hK.1
    unfold eqI at hp ⊢
    rw [heq, if_pos rfl, add64 rfl (wid rfl) (by omega) (by omega)]
  have eo : ∀ j, j < 5 → j ≠ m → eqI τ' j = eqI τ j := fun j _ hj => by unfold eqI; rw [heq, if_neg hj]
  have hco : ∀ j, coI τ' j = coI τ j := fun j => by rw [← ht]; rfl
  have hsh : ∀ j, shI τ' j = shI τ j := fun j => by rw [← ht]; rfl
  have u := sm_upd (f := fun m => ((eqI τ m).natAbs : Int) + coI τ m + shI τ m) (g := fun k => ((eqI τ' k).natAbs : Int) + coI τ' k + shI τ' k) hm (fun k hk h => by rw [hco, hsh, eo k hk h])
  rw [hco, hsh, e1] at u
  obtain ⟨h1, h2, h3, h4, h5, h6', h7, h8⟩ := hK
  have hun : unI τ' = unI τ := by rw [← ht]; rfl
  have hlf : sm (lf τ') (tn τ') = sm (lf τ) (tn τ) := by rw [← ht]; rfl
  refine ⟨hK2, fun p hp => by rw [← ht]; exact h2 p hp, fun k hk => by rw [← ht] at hk ⊢; exact h3 k hk, fun k hk => by rw [hsh, hco]; exact h4 k hk, by rw [hun]; exact h5, fun j hj => by rw [← ht]; exact h6' j hj, fun k hk => by rw [← ht]; exact h7 k hk, ?_⟩
  unfold PSI at h8 ⊢
  rw [u, hun, hlf]
  omega
theorem MG_shares {K : Int} {τ : St} (hO : BO τ) {m : Nat} (hm : m < 5) {b : Int32} (hb : 1 ≤ b.toInt ∧ b.toInt ≤ 100000) (hK : MG K τ) (hK2 : K + 9000000 ≤ 2000000000) : MG (K + 9000000) (pL (pI τ 23 0 0 0) 8 0 m (gL τ 8 0 m + b.toInt64)) := by
  have hp := PSI_b hK (lf_sum hO) m hm
  have h8' : ∀ j, gL (pL (pI τ 23 0 0 0) 8 0 m (gL τ 8 0 m + b.toInt64)) 8 0 j = if j = m then gL τ 8 0 m + b.toInt64 else gL τ 8 0 j := fun j => by
    rw [gL_pL]
    simp only [true_and]
    rfl
  generalize ht : pL (pI τ 23 0 0 0) 8 0 m (gL τ 8 0 m + b.toInt64) = τ' at h8'
  have e1 : shI τ' m = shI τ m + b.toInt := by
    have hK1 := hK.1
    unfold shI at hp ⊢
    rw [h8', if_pos rfl, add64 rfl (wid rfl) (by omega) (by omega)]
  have eo : ∀ j, j < 5 → j ≠ m → shI τ' j = shI τ j := fun j _ hj => by unfold shI; rw [h8', if_neg hj]
  have hco : ∀ j, coI τ' j = coI τ j := fun j => by rw [← ht]; rfl
  have heq : ∀ j, eqI τ' j = eqI τ j := fun j => by rw [← ht]; rfl
  have u := sm_upd (f := fun m => ((eqI τ m).natAbs : Int) + coI τ m + shI τ m) (g := fun k => ((eqI τ' k).natAbs : Int) + coI τ' k + shI τ' k) hm (fun k hk h => by rw [hco, heq, eo k hk h])
  rw [hco, heq, e1] at u
  obtain ⟨h1, h2, h3, h4, h5, h6', h7, h8⟩ := hK
  have hun : unI τ' = unI τ := by rw [← ht]; rfl
  have hlf : sm (lf τ') (tn τ') = sm (lf τ) (tn τ) := by rw [← ht]; rfl
  refine ⟨hK2, fun p hp => by rw [← ht]; exact h2 p hp, fun k hk => by rw [← ht] at hk ⊢; exact h3 k hk, fun k hk => ⟨?_, by rw [hco]; exact (h4 k hk).2⟩, by rw [hun]; exact h5, fun j hj => by rw [← ht]; exact h6' j hj, fun k hk => by rw [← ht]; exact h7 k hk, ?_⟩
  · by_cases c : k = m
    · rw [c, e1]; omega
    · rw [eo k hk c]; exact (h4 k hk).1
  · unfold PSI at h8 ⊢
    rw [u, hun, hlf]
    omega
theorem MG_units {K : Int} {τ : St} {σ σ' : St} (hI : IK σ τ) (hO : BO τ) {m k : Nat} (hm : m < 5) (hk : k < 2) {v : Int32} (hv : 0 ≤ v.toInt ∧ v.toInt ≤ 1000) (hI' : IK σ' (pI (pI τ 23 0 0 0) 7 0 (2 * m + k) v)) (hK : MG K τ) (hK2 : K + 9000000 ≤ 2000000000) : MG (K + 9000000) (pI (pI τ 23 0 0 0) 7 0 (2 * m + k) v) ∧ coI (pI (pI τ 23 0 0 0) 7 0 (2 * m + k) v) m - coI τ m = (sWor τ k v).toInt - (sWor τ k (gI τ 7 0 (2 * m + k))).toInt := by
  have h7' : ∀ j, gI (pI (pI τ 23 0 0 0) 7 0 (2 * m + k) v) 7 0 j = if j = 2 * m + k then v else gI τ 7 0 j := fun j => by
    rw [gI_pI]
    simp only [true_and]
    rfl
  have hw : ∀ q u, sWor (pI (pI τ 23 0 0 0) 7 0 (2 * m + k) v) q u = sWor τ q u := fun q u => rfl
  have hco9 : ∀ j, sCol (pI (pI τ 23 0 0 0) 7 0 (2 * m + k) v) j = (0 + sWor τ 0 (if 2 * j + 0 = 2 * m + k then v else gI τ 7 0 (2 * j + 0))) + sWor τ 1 (if 2 * j + 1 = 2 * m + k then v else gI τ 7 0 (2 * j + 1)) := fun j => by
    unfold sCol
    rw [hw, hw, h7', h7']
  generalize ht : pI (pI τ 23 0 0 0) 7 0 (2 * m + k) v = τ' at h7' hw hco9 hI'
  have hU := hK.2.2.2.2.2.1
  have wb : ∀ q, q < 2 → ∀ u : Int32, 0 ≤ u.toInt ∧ u.toInt ≤ 1000 → 0 ≤ (sWor τ q u).toInt ∧ (sWor τ q u).toInt ≤ 130000 := fun q hq u hu => (sWor_b hI hK hq hu).2
  have co : ∀ j, j < 5 → j ≠ m → coI τ' j = coI τ j := fun j _ hj => by
    unfold coI
    rw [hco9, if_neg (by omega), if_neg (by omega)]
    rfl
  obtain ⟨c1, c2, c3⟩ := sCol_b hI hK hm
  have cm : coI τ' m - coI τ m = (sWor τ k v).toInt - (sWor τ k (gI τ 7 0 (2 * m + k))).toInt ∧ 0 ≤ coI τ' m ∧ coI τ' m ≤ 260000 := by
    have b0 := wb 0 (by omega) _ (hU (2 * m + 0) (by omega))
    have b1 := wb 1 (by omega) _ (hU (2 * m + 1) (by omega))
    have bv := wb k hk v hv
    have e : coI τ' m = (sWor τ 0 (if 2 * m + 0 = 2 * m + k then v else gI τ 7 0 (2 * m + 0))).toInt + (sWor τ 1 (if 2 * m + 1 = 2 * m + k then v else gI τ 7 0 (2 * m + 1))).toInt := by
      unfold coI
      rw [hco9, Int64.zero_add]
      rcases (show k = 0 ∨ k = 1 by omega) with rfl | rfl
      · rw [if_pos rfl, if_neg (by omega)]
        exact add64 rfl rfl (by omega) (by omega)
      · rw [if_neg (by omega), if_pos rfl]
        exact add64 rfl rfl (by omega) (by omega)
    rcases (show k = 0 ∨ k = 1 by omega) with rfl | rfl
    · rw [if_pos rfl, if_neg (by omega)] at e
      omega
    · rw [if_neg (by omega), if_pos rfl] at e
      omega
  refine ⟨?_, cm.1⟩
  have hsh : ∀ j, shI τ' j = shI τ j := fun j => by rw [← ht]; rfl
  have heq : ∀ j, eqI τ' j = eqI τ j := fun j => by rw [← ht]; rfl
  have u := sm_upd (f := fun m => ((eqI τ m).natAbs : Int) + coI τ m + shI τ m) (g := fun k => ((eqI τ' k).natAbs : Int) + coI τ' k + shI τ' k) hm (fun k hk h => by rw [hsh, heq, co k hk h])
  rw [hsh, heq] at u
  obtain ⟨h1, h2, h3, h4, h5, h6', h7, h8⟩ := hK
  have hun : unI τ' = unI τ := by rw [← ht]; rfl
  have hlf : sm (lf τ') (tn τ') = sm (lf τ) (tn τ) := by rw [← ht]; rfl
  refine ⟨hK2, fun p hp => by rw [← ht]; exact h2 p hp, fun k hk => by rw [← ht] at hk ⊢; exact h3 k hk, fun j hj => ⟨by rw [hsh]; exact (h4 j hj).1, ?_⟩, by rw [hun]; exact h5, fun j hj => ?_, fun k hk => by rw [← ht]; exact h7 k hk, ?_⟩
  · by_cases c : j = m
    · rw [c]; exact cm.2.1
    · rw [co j hj c]; exact (h4 j hj).2
  · rw [h7']
    split
    · exact hv
    · exact h6' j hj
  · unfold PSI at h8 ⊢
    rw [u, hun, hlf]
    omega
theorem sWor_mono {σ τ : St} {K : Int} (hI : IK σ τ) (hK : MG K τ) {k : Nat} (hk : k < 2) {u v : Int32} (hu : 0 ≤ u.toInt) (huv : u.toInt ≤ v.toInt) (hv : v.toInt ≤ 1000) : (sWor τ k u).toInt ≤ (sWor τ k v).toInt := by
  have h := hair_b hI hK hk
  have q := kq_b hI hK hk
  rw [(sWor_b hI hK hk (u := u) (by omega)).1, (sWor_b hI hK hk (u := v) (by omega)).1]
  refine Int.ediv_le_ediv (by omega) ?_
  exact Int.mul_le_mul_of_nonneg_right (Int.mul_le_mul_of_nonneg_right huv (by omega)) (by omega)
section PAY
variable {K : Int} {n c N a b : Nat} {σ1 σ2 s1 s2 τ τ' : St}
theorem SX_tn (hx : SX τ τ') : tn τ' = tn τ := by
  obtain ⟨v, rfl⟩ := hx
  rfl
theorem SX_INV (hx : SX τ τ') (h : INV n s1 τ') : INV n s1 τ := by
  obtain ⟨v, rfl⟩ := hx
  exact h
/-- what was refused leaves all as it was -/
theorem R_tail (hK2 : K + 9000000 ≤ 2000000000) (h1 : INV n σ1 τ) (i1 : INV (n + 1) s1 τ') (i2 : INV (n + 1) s2 τ') (hx : SX τ τ') (hG : MG K τ) (hN : tn τ = N) (ha : a ≤ pot s1 + pot s2 + (c + 600)) (hb : b ≤ pot s1 + pot s2 + (c + 600)) : LQ (bt2 (fL_all s1 (nI N)) (fun q => if ¬ q.1 = allV τ then (some ((0, q.2, s2), 0, 0) : Option ((Int32 × St × St) × Nat × Nat)) else some ((1, q.2, s2), 0, 0))) a b (SDN (K + 9000000) (n + 3) (c + 1200) N) := by
  obtain ⟨s3, d, ld, sc, e⟩ := L_all i1
  rw [SX_tn hx, hN, allV_SX h1 hx] at e
  refine LQ_bt e (LQ_ifn (not_not_intro rfl) ?_)
  refine LQ_ok ⟨rfl, τ', ⟨INV_le (INV_scr sc i1) (by omega), INV_le i2 (by omega), MG_mono (MG_SX hx hG) (by omega) hK2, ?_, ?_⟩, (SX_tn hx).trans hN⟩
  · show a + d ≤ pot s3 + pot s2 + (c + 1200)
    rw [pot_scr sc]
    omega
  · show b + 6 * d ≤ pot s3 + pot s2 + (c + 1200)
    rw [pot_scr sc]
    omega
theorem F_ok (i1 : INV (n + 1) s1 τ') (i2 : INV (n + 1) s2 τ') (hG : MG (K + 9000000) τ') (hN : tn τ' = N) (ha : a ≤ pot s1 + pot s2 + (c + 600)) (hb : b ≤ pot s1 + pot s2 + (c + 600)) : LQ (some (((1 : Int32), s1, s2), 0, 0)) a b (SDN (K + 9000000) (n + 3) (c + 1200) N) := by
  refine LQ_ok ⟨rfl, τ', ⟨INV_le i1 (by omega), INV_le i2 (by omega), hG, ?_, ?_⟩, hN⟩
  · exact Nat.le_trans ha (Nat.add_le_add_left (Nat.add_le_add_left (by decide) c) _)
  · exact Nat.le_trans hb (Nat.add_le_add_left (Nat.add_le_add_left (by decide) c) _)
end PAY
