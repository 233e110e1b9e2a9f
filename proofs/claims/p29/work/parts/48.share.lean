/-! PURE: shares -/
-- shares
def BS (c : Int) (τ : St) : Prop := ∀ j, j < 5 → gI τ 10 0 j = 0 → 0 ≤ (gL τ 8 0 j).toInt ∧ (gL τ 8 0 j).toInt ≤ c
theorem G_share {B : Int} {σ τ : St} (h : G B σ τ) (j : Nat) (v : Int64) : G B (pL σ 1 j 0 v) (pL τ 8 0 j v) := by
  obtain ⟨⟨hA, hU, hP, hQ, hO, hK, hW, hN, b1, b2, b3⟩, hC, hJ, hT⟩ := h
  refine ⟨⟨fun m' hm' => ?_, hU, hP, hQ, hO, hK, hW, hN, b1, b2, b3⟩, hC, hJ, hT⟩
  obtain ⟨a1, a2, a3⟩ := hA m' hm'
  refine ⟨a1, ?_, a3⟩
  rw [gL_pL, gL_pL]
  simp only [true_and, and_true]
  by_cases c : m' = j
  · rw [if_pos c, if_pos c]
  · rw [if_neg c, if_neg c]
    exact a2
def shf (τ : St) (j : Nat) : Int := if gI τ 10 0 j = 0 then (gL τ 8 0 j).toInt else 0
theorem shf_b {c : Int} {τ : St} (h : BS c τ) (hc : 0 ≤ c) {j : Nat} (hj : j < 5) : 0 ≤ shf τ j ∧ shf τ j ≤ c := by
  unfold shf
  split
  · rename_i e; exact h j hj e
  · omega
theorem sumS {c : Int} {B : Int} {m : Nat} {z : Int64} {σ τ : St} (h : G B σ (pL τ 6 0 m z)) (hb : BS c τ) (hc : 0 ≤ c ∧ c ≤ 60000000) {j : Nat} (hj : j < 5) (n n2 : Nat) (v : Int64) (hv : v.toInt = sm (shf τ) j) (a b d : Int64) (e : Int32) (f : Int64) :
    ∃ v', v'.toInt = sm (shf τ) (j + 1) ∧ fX5_sharesOfOthers_L4 σ (n + 1) (nI j) v = fX5_sharesOfOthers_L4 σ n (nI (j + 1)) v' ∧ fX6_covers_L46 (n2 + 1) τ (nI j) v a b e f = fX6_covers_L46 n2 τ (nI (j + 1)) v' a b e f := by
  have hge : ¬ (5 : Int32) ≤ nI j := nI_ge (a := j) (b := 5) hj (by omega)
  obtain ⟨-, a2, a3⟩ := (G_IA h) j hj
  have a2 : gL σ 1 j 0 = gL τ 8 0 j := a2
  have a3 : gI σ 0 j 0 = gI τ 10 0 j := a3
  have hs := sm_bnd (f := shf τ) (n := j) (B := c) (fun k hk => shf_b hb hc.1 (by omega))
  have hj1 := shf_b hb hc.1 hj
  have h5 : c * (j : Int) ≤ c * 5 := Int.mul_le_mul_of_nonneg_left (by omega) hc.1
  rw [fX5_sharesOfOthers_L4.eq_2, fX6_covers_L46.eq_2, if_neg hge, if_neg hge, if_gd (vin_nI hj (by omega)), if_gd (vin_nI hj (by omega)), clamp_nI (show j < 2147483648 by omega), a2, a3]
  simp only [kst_d, nI_1]
  have es : sm (shf τ) (j + 1) = sm (shf τ) j + shf τ j := rfl
  by_cases c1 : gI τ 10 0 j = 0
  · rw [if_pos c1, if_pos c1]
    refine ⟨_, ?_, rfl, rfl⟩
    have e2 : shf τ j = (gL τ 8 0 j).toInt := if_pos c1
    rw [es, e2]
    rw [e2] at hj1
    exact add64 hv rfl (by omega) (by omega)
  · rw [if_neg c1, if_neg c1]
    refine ⟨_, ?_, rfl, rfl⟩
    have e2 : shf τ j = 0 := if_neg c1
    rw [es, e2, Int64.add_zero, hv, Int.add_zero]
