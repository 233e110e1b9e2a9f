/-! PURE: the law cancels an order -/
theorem z_c1 {τ' : St} {z r : Int32} (h2 : gI τ' 23 0 0 = 1) (h : (gI τ' 23 0 0 = 0 ∧ z = r) ∨ ∃ j, P32 j ∧ gI τ' 23 0 0 = xcat j ∧ xcode j = some z) : z = -2000000001 := by
  rcases h with ⟨h, -⟩ | ⟨j, rfl | rfl, h, e⟩
  · rw [h2] at h; exact absurd h (by decide)
  · exact (Option.some.inj e).symm
  · rw [h2] at h; exact absurd h (by decide)
theorem z_c2 {τ' : St} {z r : Int32} (h2 : gI τ' 23 0 0 = 2) (h : (gI τ' 23 0 0 = 0 ∧ z = r) ∨ ∃ j, P32 j ∧ gI τ' 23 0 0 = xcat j ∧ xcode j = some z) : z = -2000000003 := by
  rcases h with ⟨h, -⟩ | ⟨j, rfl | rfl, h, e⟩
  · rw [h2] at h; exact absurd h (by decide)
  · rw [h2] at h; exact absurd h (by decide)
  · exact (Option.some.inj e).symm
section CAN
variable {L : Nat} {xs : Nat → Int32} {k : St → St → Int32 → Int32 → Int32 → Option ((Int32 × St × St) × Nat × Nat)} {i N a b : Nat} {σ1 σ2 τ : St}
set_option maxRecDepth 20000 in
theorem L_215 (hk : KP k i) (hi : i < 120) (h : HV (9000000 * (i : Int)) (3 * i) (300 + 1600 * i) σ1 σ2 τ a b) (hN : tn τ = N) {j : Nat} (hj : j ≤ N) {t0 : Int32} (ht : j < N → t0 = gI τ 15 0 j) : LQ (fL_law_J215 L xs k σ1 σ2 (nI N) 1 (nI i) (nI j) t0) a b LWQ := by
  obtain ⟨h1, h2, hG, ha, hb⟩ := h
  subst hN
  have h100 := (G_BO h1.1).2.1
  unfold fL_law_J215
  refine LQ_b0 (L_equities h1) ?_
  obtain ⟨z9, s1, s2, τ', m9, k9, r, e, i1, i2, t, hz, q1, q2⟩ := both_of (fun σ => does_cancel σ (nI j) 0 0) (c_cancel h1 (nI j)) (c_cancel h2 (nI j)) P32_ok.1 P32_ok.2
  refine LQ_bt e ?_
  have hA : a + m9 ≤ pot s1 + pot s2 + (300 + 1600 * i + 1300) := by omega
  have hB : b + k9 ≤ pot s1 + pot s2 + (300 + 1600 * i + 1300) := by omega
  have hK0 : MG (9000000 * ((i + 1 : Nat) : Int)) τ := MG_mono hG (by omega) (by omega)
  have hfin : MG (9000000 * ((i + 1 : Nat) : Int)) τ' → tn τ' = tn τ → LQ (fL_law_J293 L xs k s1 s2 (nI (tn τ)) 1 (nI i) 1) (a + m9) (b + k9) LWQ := fun g1 g2 => by
    unfold fL_law_J293
    exact L_442 hk ⟨INV_le i1 (by omega), INV_le i2 (by omega), g1, hA, hB⟩ g2
  rcases t with ⟨t2, hx, hno⟩ | ⟨k', hk', ek, t⟩
  · have hjN : j = tn τ := by
      by_cases c : j = tn τ
      · exact c
      · exact absurd rfl (hno j (by omega))
    have hz1 := z_c1 t2 hz
    refine LQ_ifn (not_not_intro (by rw [hjN])) (LQ_ifn (not_not_intro hz1) (LQ_b0 (L_equities i1) (LQ_ifn (not_not_intro (eqs_SX hx)) ?_)))
    exact hfin (MG_SX hx hK0) (SX_tn hx)
  · have ek : j = k' := (nI_eq (by omega) (by omega)).mp ek
    subst ek
    have hne : ¬ nI j = nI (tn τ) := fun q => by
      have := (nI_eq (a := j) (b := tn τ) (by omega) (by omega)).mp q
      omega
    have ht := ht hk'
    refine LQ_if hne ?_
    rcases t with ⟨t2, hx, h0⟩ | ⟨h0, er, et⟩
    · have hz2 := z_c2 t2 hz
      have hl : gI τ' 15 0 j = 0 := by
        obtain ⟨v, rfl⟩ := hx
        exact h0
      have hjt : j < tn τ' := by rw [SX_tn hx]; exact hk'
      refine LQ_ifn (not_not_intro (ht.trans h0)) (LQ_ifn (not_not_intro hz2) (LQ_y0 (A_left i1 hjt) (LQ_ifn (not_not_intro hl) (LQ_b0 (L_equities i1) (LQ_ifn (not_not_intro (eqs_SX hx)) ?_)))))
      exact hfin (MG_SX hx hK0) (SX_tn hx)
    · have t2 : gI τ' 23 0 0 = 0 := by rw [et]; rfl
      have hz0 : z9 = t0 := ((z_ok t2 hz).trans er).trans ht.symm
      have hl : gI τ' 15 0 j = 0 := by rw [et, gI_pI, if_pos ⟨rfl, rfl, rfl⟩]
      have htn : tn τ' = tn τ := by rw [et]; rfl
      have hjt : j < tn τ' := by rw [htn]; exact hk'
      have heq : eqs τ' = eqs τ := by rw [et]; rfl
      have hlf := lf_ge (G_BO h1.1) hk'
      have hM : MG (9000000 * ((i + 1 : Nat) : Int)) τ' := by
        rw [et]
        exact (MN_left (τ := pI τ 23 0 0 0) (k := j) (v := 0) hk' hlf.1 _ hK0).1
      refine LQ_if (fun q => h0 (ht.symm.trans q)) (LQ_ifn (not_not_intro hz0) (LQ_y0 (A_left i1 hjt) (LQ_ifn (not_not_intro hl) (LQ_b0 (L_equities i1) (LQ_ifn (not_not_intro heq) ?_)))))
      exact hfin hM htn
end CAN
