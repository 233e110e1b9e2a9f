/-! PURE: an evening of the law -/
def evT (τ : St) : St := neT (neT (neT (neT (neT (pI τ 23 0 0 0) 0) 1) 2) 3) 4
theorem ev_eq (τ : St) (m : Nat) : sEq (evT τ) m = sEq τ m := by
  unfold evT
  rw [sEq_ne, sEq_ne, sEq_ne, sEq_ne, sEq_ne]
  rfl
theorem ev_free (τ : St) (m : Nat) : sFree (evT τ) m = sFree τ m := by
  unfold sFree
  rw [ev_eq]
  rfl
theorem ev_dif (τ : St) {p : Nat} (hp : p < 3) : sDif (evT τ) 2 p = 0 := by
  unfold evT
  rw [sDif_ne _ _ hp, if_neg (show ¬ (2 : Nat) = 4 by decide), sDif_ne _ _ hp, if_neg (show ¬ (2 : Nat) = 3 by decide), sDif_ne _ _ hp, if_pos rfl]
theorem ev_cash (τ : St) : gL (evT τ) 6 0 2 = sEq τ 2 := by
  rw [← ev_eq τ 2]
  unfold sEq
  rw [ev_dif τ (by omega), ev_dif τ (by omega), ev_dif τ (by omega), Int64.add_zero, Int64.add_zero, Int64.add_zero]
theorem ev_eqs (τ : St) : eqs (evT τ) = eqs τ := by
  unfold eqs
  simp only [ev_eq]
theorem ev_MN (τ : St) : MN (pI τ 23 0 0 0) (evT τ) := MN_tr (MN_tr (MN_tr (MN_tr (MN_net _ 0) (MN_net _ 1)) (MN_net _ 2)) (MN_net _ 3)) (MN_net _ 4)
theorem L_evening {K : Int} {n c N a b : Nat} {σ1 σ2 τ : St} (hK2 : K + 9000000 ≤ 2000000000) (h : HV K n c σ1 σ2 τ a b) (hN : tn τ = N) : LQ (fL_evening σ1 σ2) a b (SDN (K + 9000000) (n + 3) (c + 1200) N) := by
  obtain ⟨h1, h2, hG, ha, hb⟩ := h
  obtain ⟨s0, e0, sc0⟩ := A_free h1 (m := 3) (by omega)
  have h0 := INV_scr sc0 h1
  have p0 := pot_scr sc0
  obtain ⟨r1, s1, t1, x1, y1, i1, et1, q1, n1⟩ := c_evening h0
  obtain ⟨r2, s2, t2, x2, y2, i2, et2, q2, n2⟩ := c_evening h2
  obtain ⟨er, et⟩ := Prod.mk.inj (Option.some.inj (y1.symm.trans y2))
  subst er
  subst et
  have et1 : t1 = evT τ := et1
  obtain ⟨s3, e3, sc3⟩ := A_free i1 (m := 3) (by omega)
  have i3 := INV_scr sc3 i1
  have p3 := pot_scr sc3
  have hMG : MG (K + 9000000) t1 := by
    rw [et1]
    exact MG_mono ((ev_MN τ) K hG).1 (by omega) hK2
  have htn : tn t1 = N := by rw [et1]; exact hN
  unfold fL_evening
  refine LQ_y0 (A_equity h1 (m := 2) (by omega)) (LQ_y0 e0 (LQ_b0 (L_equities h0) (LQ_bd x1 (LQ_gd n1 (LQ_bd x2 (LQ_gd n2 (LQ_ifn (not_not_intro rfl) (LQ_y0 (A_equity i1 (m := 2) (by omega)) ?_))))))))
  refine LQ_ifn (not_not_intro (by rw [et1, ev_eq])) (LQ_y0 (A_cash i1 (m := 2) (by omega)) ?_)
  refine LQ_ifn (not_not_intro (by rw [et1, ev_cash])) (LQ_y0 e3 ?_)
  refine LQ_ifn (not_not_intro (by rw [et1, ev_free])) (LQ_b0 (L_equities i3) ?_)
  refine LQ_ifn (not_not_intro (by rw [et1, ev_eqs])) ?_
  have hA : a ≤ pot s3 + pot s2 + (c + 600) := by omega
  have hB : b ≤ pot s3 + pot s2 + (c + 600) := by omega
  exact F_ok (s1 := s3) (s2 := s2) i3 i2 hMG htn hA hB
