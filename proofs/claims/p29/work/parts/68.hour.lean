/-! PURE: an hour of the law -/
def cl1 (τ : St) (m : Nat) : Nat := if gI τ 9 0 m = 1 then 1 else 0
def cln (τ : St) : Nat := cl1 τ 0 + cl1 τ 1 + cl1 τ 2 + cl1 τ 3 + cl1 τ 4
def cols (τ : St) : Int64 := ((((0 + tI (sCol τ 0)) + tI (sCol τ 1)) + tI (sCol τ 2)) + tI (sCol τ 3)) + tI (sCol τ 4)
def tU (τ : St) : Int32 := Int64.toInt32 (gL τ 20 0 0)
theorem HH_n {i : Nat} {f f' : Int32} {x y : St} (h : HH i f f' x y) : ∃ d : Nat, d ≤ 1 ∧ f' = f + nI d ∧ st1 x i = st1 y i + d ∧ d ≤ cl1 x i ∧ (∀ j, j ≠ i → st1 y j = st1 x j ∧ cl1 y j = cl1 x j) ∧ (d = 0 → SM x y) ∧ (cl1 x i = 0 → gI y 22 0 0 = gI x 22 0 0) := by
  obtain ⟨-, h2, h3, h4⟩ := h
  have ho : ∀ j, j ≠ i → st1 y j = st1 x j ∧ cl1 y j = cl1 x j := fun j hj => by
    unfold st1 cl1
    rw [(h2 j hj).1, (h2 j hj).2]
    exact ⟨rfl, rfl⟩
  have h5 : cl1 x i = 0 → gI y 22 0 0 = gI x 22 0 0 := fun q => by
    rcases h4 with h4 | h4
    · unfold cl1 at q
      rw [if_pos h4] at q
      exact absurd q (by decide)
    · exact h4
  rcases h3 with ⟨a1, a2, a3⟩ | ⟨a1, a2, a3, a4⟩
  · refine ⟨0, by omega, by rw [a1, nI_0, Int32.add_zero], ?_, by omega, ho, fun _ => a3, h5⟩
    unfold st1
    rw [a2]
    rfl
  · refine ⟨1, by omega, a1, ?_, ?_, ho, fun q => absurd q (by decide), h5⟩
    · unfold st1
      rw [a2, a3, if_pos rfl, if_neg (show ¬ (1 : Int32) = 0 by decide)]
    · unfold cl1
      rw [if_pos a4]
      exact Nat.le_refl _
theorem hour_n {τ τ' : St} {r : Int32} (h : THo τ r τ') : ∃ d : Nat, d ≤ 5 ∧ r = nI d ∧ stn τ = stn τ' + d ∧ d ≤ cln τ ∧ (d = 0 → SM τ τ') ∧ (cln τ = 0 → gI τ' 22 0 0 = gI τ 22 0 0) ∧ MN τ τ' ∧ tn τ' = tn τ := by
  obtain ⟨t1, t2, t3, t4, f1, f2, f3, f4, h0, h1, h2, h3, h4, h5⟩ := h
  have hM : MN (pI τ 23 0 0 0) τ' := MN_tr h0.1 (MN_tr h1.1 (MN_tr h2.1 (MN_tr h3.1 h4.1)))
  obtain ⟨d0, p0, q0, s0, c0, o0, m0, w0⟩ := HH_n h0
  obtain ⟨d1, p1, q1, s1, c1, o1, m1, w1⟩ := HH_n h1
  obtain ⟨d2, p2, q2, s2, c2, o2, m2, w2⟩ := HH_n h2
  obtain ⟨d3, p3, q3, s3, c3, o3, m3, w3⟩ := HH_n h3
  obtain ⟨d4, p4, q4, s4, c4, o4, m4, w4⟩ := HH_n h4
  have es : ∀ j, st1 (pI τ 23 0 0 0) j = st1 τ j := fun _ => rfl
  have ec : ∀ j, cl1 (pI τ 23 0 0 0) j = cl1 τ j := fun _ => rfl
  simp only [es, ec] at s0 c0 o0 w0
  have x01 := o0 1 (by decide)
  have x02 := o0 2 (by decide)
  have x03 := o0 3 (by decide)
  have x04 := o0 4 (by decide)
  have x10 := o1 0 (by decide)
  have x12 := o1 2 (by decide)
  have x13 := o1 3 (by decide)
  have x14 := o1 4 (by decide)
  have x20 := o2 0 (by decide)
  have x21 := o2 1 (by decide)
  have x23 := o2 3 (by decide)
  have x24 := o2 4 (by decide)
  have x30 := o3 0 (by decide)
  have x31 := o3 1 (by decide)
  have x32 := o3 2 (by decide)
  have x34 := o3 4 (by decide)
  have x40 := o4 0 (by decide)
  have x41 := o4 1 (by decide)
  have x42 := o4 2 (by decide)
  have x43 := o4 3 (by decide)
  have b1 : cl1 t1 1 = cl1 τ 1 := x01.2
  have b2 : cl1 t2 2 = cl1 τ 2 := x12.2.trans x02.2
  have b3 : cl1 t3 3 = cl1 τ 3 := x23.2.trans (x13.2.trans x03.2)
  have b4 : cl1 t4 4 = cl1 τ 4 := x34.2.trans (x24.2.trans (x14.2.trans x04.2))
  rw [b1] at c1 w1
  rw [b2] at c2 w2
  rw [b3] at c3 w3
  rw [b4] at c4 w4
  have r1 : f1 = nI d0 := by rw [q0, Int32.zero_add]
  have r2 : f2 = nI (d0 + d1) := by rw [q1, r1, nI_t (by omega)]
  have r3 : f3 = nI (d0 + d1 + d2) := by rw [q2, r2, nI_t (by omega)]
  have r4 : f4 = nI (d0 + d1 + d2 + d3) := by rw [q3, r3, nI_t (by omega)]
  have r5 : r = nI (d0 + d1 + d2 + d3 + d4) := by rw [q4, r4, nI_t (by omega)]
  refine ⟨d0 + d1 + d2 + d3 + d4, by omega, r5, ?_, ?_, fun z => ?_, fun z => ?_, hM, h5⟩
  · unfold stn
    omega
  · unfold cln
    omega
  · exact SM_tr (m0 (by omega)) (SM_tr (m1 (by omega)) (SM_tr (m2 (by omega)) (SM_tr (m3 (by omega)) (m4 (by omega)))))
  · unfold cln at z
    exact (w4 (by omega)).trans ((w3 (by omega)).trans ((w2 (by omega)).trans ((w1 (by omega)).trans (w0 (by omega)))))
theorem cols_I {K : Int} {τ : St} (hK : MG K τ) (hl : 0 ≤ sm (lf τ) (tn τ)) : (cols τ).toInt = sm (coI τ) 5 := by
  have hb := PSI_b hK hl
  have h1 := hK.1
  exact sum5 (f := sCol τ) (fun k hk => by have := (hb k hk).2; unfold coI at this; omega)
theorem tU_I {K : Int} {τ : St} (hK : MG K τ) (hl : 0 ≤ sm (lf τ) (tn τ)) : (tU τ).toInt = unI τ := by
  have hb := PSI_b hK hl 0 (by omega)
  have h1 := hK.1
  unfold tU unI
  unfold unI at hb
  exact toI_i (by omega) (by omega)
section HOUR
variable {K : Int} {n c N a b : Nat} {σ1 σ2 τ : St}
theorem S_31 (h : INV n σ1 τ) {m : Nat} (hm : m < 5) (f : Nat) (v2 : Int32) (v3 : Int64) (v5 : Int32) (v6 v8 : Int64) (v10 : Nat) : fL_hour_L31 (f + 1) σ1 σ2 v2 v3 v5 v6 v8 (nI v10) (nI m) = fL_hour_L31 f σ1 σ2 v2 v3 v5 v6 (v8 + tI (sCol τ m)) (nI (v10 + cl1 τ m)) (nI (m + 1)) := by
  rw [fL_hour_L31.eq_2, if_neg (show ¬ (5 : Int32) ≤ nI m from nI_ge (a := m) (b := 5) hm (by omega)), yb_0 (A_col h hm), kst_d, yb_0 (A_called h hm)]
  unfold cl1
  by_cases z : gI τ 9 0 m = 1
  · rw [if_neg (not_not_intro z), if_pos z, kst_d, kst_d, nI_1, nI_1]
    rfl
  · rw [if_pos z, if_neg z, kst_d, kst_d, nI_1, Int32.add_zero]
    rfl
theorem L_31 (h : INV n σ1 τ) (v2 : Int32) (v3 : Int64) (v5 : Int32) (v6 : Int64) : fL_hour_L31 1000 σ1 σ2 v2 v3 v5 v6 0 0 0 = fL_hour_L31 995 σ1 σ2 v2 v3 v5 v6 (cols τ) (nI (cln τ)) (nI 5) := by
  have s0 := S_31 (σ2 := σ2) h (m := 0) (by omega) 999 v2 v3 v5 v6 0 0
  have s1 := S_31 (σ2 := σ2) h (m := 1) (by omega) 998 v2 v3 v5 v6 (0 + tI (sCol τ 0)) (0 + cl1 τ 0)
  have s2 := S_31 (σ2 := σ2) h (m := 2) (by omega) 997 v2 v3 v5 v6 ((0 + tI (sCol τ 0)) + tI (sCol τ 1)) (0 + cl1 τ 0 + cl1 τ 1)
  have s3 := S_31 (σ2 := σ2) h (m := 3) (by omega) 996 v2 v3 v5 v6 (((0 + tI (sCol τ 0)) + tI (sCol τ 1)) + tI (sCol τ 2)) (0 + cl1 τ 0 + cl1 τ 1 + cl1 τ 2)
  have s4 := S_31 (σ2 := σ2) h (m := 4) (by omega) 995 v2 v3 v5 v6 ((((0 + tI (sCol τ 0)) + tI (sCol τ 1)) + tI (sCol τ 2)) + tI (sCol τ 3)) (0 + cl1 τ 0 + cl1 τ 1 + cl1 τ 2 + cl1 τ 3)
  have ec : cln τ = 0 + cl1 τ 0 + cl1 τ 1 + cl1 τ 2 + cl1 τ 3 + cl1 τ 4 := by unfold cln; omega
  rw [ec]
  exact s0.trans (s1.trans (s2.trans (s3.trans s4)))
theorem S_93 (h : INV n σ1 τ) {m : Nat} (hm : m < 5) (f : Nat) (v2 : Int32) (v3 : Int64) (v5 : Int32) (v6 v8 : Int64) (v10 v11 v12 : Int32) (v13 : Int64) : fL_hour_L93 (f + 1) σ1 σ2 v2 v3 v5 v6 v8 v10 v11 v12 v13 (nI m) = fL_hour_L93 f σ1 σ2 v2 v3 v5 v6 v8 v10 v11 v12 (v13 + tI (sCol τ m)) (nI (m + 1)) := by
  rw [fL_hour_L93.eq_2, if_neg (show ¬ (5 : Int32) ≤ nI m from nI_ge (a := m) (b := 5) hm (by omega)), yb_0 (A_col h hm), kst_d, kst_d, nI_1]
  rfl
theorem L_93 (h : INV n σ1 τ) (v2 : Int32) (v3 : Int64) (v5 : Int32) (v6 v8 : Int64) (v10 v11 v12 : Int32) : fL_hour_L93 1000 σ1 σ2 v2 v3 v5 v6 v8 v10 v11 v12 0 0 = fL_hour_L93 995 σ1 σ2 v2 v3 v5 v6 v8 v10 v11 v12 (cols τ) (nI 5) := by
  have s0 := S_93 (σ2 := σ2) h (m := 0) (by omega) 999 v2 v3 v5 v6 v8 v10 v11 v12 0
  have s1 := S_93 (σ2 := σ2) h (m := 1) (by omega) 998 v2 v3 v5 v6 v8 v10 v11 v12 (0 + tI (sCol τ 0))
  have s2 := S_93 (σ2 := σ2) h (m := 2) (by omega) 997 v2 v3 v5 v6 v8 v10 v11 v12 ((0 + tI (sCol τ 0)) + tI (sCol τ 1))
  have s3 := S_93 (σ2 := σ2) h (m := 3) (by omega) 996 v2 v3 v5 v6 v8 v10 v11 v12 (((0 + tI (sCol τ 0)) + tI (sCol τ 1)) + tI (sCol τ 2))
  have s4 := S_93 (σ2 := σ2) h (m := 4) (by omega) 995 v2 v3 v5 v6 v8 v10 v11 v12 ((((0 + tI (sCol τ 0)) + tI (sCol τ 1)) + tI (sCol τ 2)) + tI (sCol τ 3))
  exact s0.trans (s1.trans (s2.trans (s3.trans s4)))
end HOUR
