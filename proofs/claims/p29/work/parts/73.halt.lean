/-! PURE: the law halts a product -/
theorem bV_none {n : Nat} {σ τ : St} (h : INV n σ τ) {p : Nat} {s : Int32} (ho : ∀ j, ¬ opn τ p s j) : bV τ p s = -2000000004 := by
  obtain ⟨o, b1, b2, b3⟩ := best_of (G_IO h.1) (G_IN h.1) (G_BO h.1) p s
  cases o with
  | some j => exact absurd (b3 j rfl) (ho j)
  | none =>
    unfold bV
    rw [b2]
    exact if_pos rfl
section HALT
variable {L : Nat} {xs : Nat → Int32} {k : St → St → Int32 → Int32 → Int32 → Option ((Int32 × St × St) × Nat × Nat)} {i N a b : Nat} {σ1 σ2 τ : St}
set_option maxRecDepth 20000 in
theorem L_319_0 (hk : KP k i) (hi : i < 120) (h : HV (9000000 * (i : Int)) (3 * i) (300 + 1600 * i) σ1 σ2 τ a b) (hN : tn τ = N) (x : Int32) : LQ (fL_law_J319 L xs k σ1 σ2 (nI N) 1 (nI i) x 0) a b LWQ := by
  obtain ⟨h1, h2, hG, ha, hb⟩ := h
  subst hN
  obtain ⟨p, hp, ep⟩ := some_of σ1 (x >>> (3 &&& 31)) 3 (by omega) (by omega)
  have ep : fL_some σ1 (x >>> (3 &&& 31)) 3 = some (nI p) := ep
  unfold fL_law_J319
  refine LQ_bd ep ?_
  obtain ⟨z9, s1, s2, τ', m9, k9, r, e, i1, i2, t, hz, q1, q2⟩ := both_of (fun σ => does_halt0 σ (nI p) 0) (c_halt h1 (nI p) (b := 0) (Or.inl rfl)) (c_halt h2 (nI p) (b := 0) (Or.inl rfl)) P1_ok.1 P1_ok.2
  refine LQ_bt e ?_
  have hA : a + m9 ≤ pot s1 + pot s2 + (300 + 1600 * i + 1300) := by omega
  have hB : b + k9 ≤ pot s1 + pot s2 + (300 + 1600 * i + 1300) := by omega
  have hK0 : MG (9000000 * ((i + 1 : Nat) : Int)) τ := MG_mono hG (by omega) (by omega)
  rcases t with ⟨-, -, hno⟩ | ⟨p', hp', epp, t2, t⟩
  · exact absurd ⟨p, hp, rfl⟩ hno
  · rcases t with ⟨-, er, et⟩ | ⟨hb1, -⟩
    · have hz0 : z9 = 0 := (z_ok t2 hz).trans er
      refine LQ_ifn (show ¬ z9 < 0 by rw [hz0]; decide) (LQ_if (show ¬ (0 : Int32) = 1 by decide) (LQ_ifn (not_not_intro hz0) ?_))
      unfold fL_law_J413
      have hM : MG (9000000 * ((i + 1 : Nat) : Int)) τ' := by rw [et]; exact hK0
      have htn : tn τ' = tn τ := by rw [et]; rfl
      exact L_442 hk ⟨INV_le i1 (by omega), INV_le i2 (by omega), hM, hA, hB⟩ htn
    · exact absurd hb1 (by decide)
set_option maxRecDepth 20000 in
theorem L_319_1 (hk : KP k i) (hi : i < 120) (h : HV (9000000 * (i : Int)) (3 * i) (300 + 1600 * i) σ1 σ2 τ a b) (hN : tn τ = N) (x : Int32) : LQ (fL_law_J319 L xs k σ1 σ2 (nI N) 1 (nI i) x 1) a b LWQ := by
  obtain ⟨h1, h2, hG, ha, hb⟩ := h
  subst hN
  obtain ⟨p, hp, ep⟩ := some_of σ1 (x >>> (3 &&& 31)) 3 (by omega) (by omega)
  have ep : fL_some σ1 (x >>> (3 &&& 31)) 3 = some (nI p) := ep
  unfold fL_law_J319
  refine LQ_bd ep ?_
  obtain ⟨z9, s1, s2, τ', m9, k9, r, e, i1, i2, t, hz, q1, q2⟩ := both_of (fun σ => does_halt1 σ (nI p) 0) (c_halt h1 (nI p) (b := 1) (Or.inr rfl)) (c_halt h2 (nI p) (b := 1) (Or.inr rfl)) P1_ok.1 P1_ok.2
  refine LQ_bt e ?_
  have hK0 : MG (9000000 * ((i + 1 : Nat) : Int)) τ := MG_mono hG (by omega) (by omega)
  rcases t with ⟨-, -, hno⟩ | ⟨p', hp', epp, t2, t⟩
  · exact absurd ⟨p, hp, rfl⟩ hno
  have epp : p = p' := (nI_eq (by omega) (by omega)).mp epp
  subst epp
  rcases t with ⟨hb1, -⟩ | ⟨-, τ1, et, hF, hnone, d, hd, er, -⟩
  · exact absurd hb1 (by decide)
  have hz0 : z9 = nI d := (z_ok t2 hz).trans er
  have hSM := hF.2.2.2.2.2.1
  have hM1 : MG (9000000 * ((i + 1 : Nat) : Int)) τ' := by
    rw [et]
    exact (hF.2.2.2.2.2.2 _ hK0).1
  have htn : tn τ' = tn τ := by
    rw [et]
    show tn τ1 = tn (pI τ 23 0 0 0)
    exact SM_tn hSM
  have h12 : ∀ j, gI τ' 12 0 j = gI τ 12 0 j := fun j => by
    rw [et]
    exact (hSM.2.2.2.2.2.2.2.1 j).1
  have hlf : ∀ j, lf τ' j = lf τ1 j := fun j => by rw [et]; rfl
  have hno : ∀ j, j < tn τ' → gI τ' 12 0 j = nI p → ¬ 0 < lf τ' j := fun j hj e12 => by
    rw [hlf]
    exact hnone j (by omega) (by rw [← h12]; exact e12)
  have hopn : ∀ s j, ¬ opn τ' p s j := fun s j q => hno j q.1 q.2.1 q.2.2.2
  refine LQ_ifn (fun q => ?_) (LQ_ifn (show ¬ ¬ (1 : Int32) = 1 by decide) ?_)
  · rw [hz0] at q
    have := (lt32 (nI_toInt (n := d) (by omega)) (b := 0) (B := 0) (by decide)).mp q
    omega
  obtain ⟨c0, l0, e0⟩ := E_best0 i1 hp
  obtain ⟨c1, l1, e1⟩ := E_best1 i1 hp
  rw [bV_none i1 (hopn 0)] at e0
  rw [bV_none i1 (hopn 1)] at e1
  refine LQ_bt e0 (LQ_ifn (not_not_intro rfl) (LQ_bt e1 (LQ_ifn (not_not_intro rfl) ?_)))
  obtain ⟨z8, s3, s4, τ8, m8, k8, r8, e8, i3, i4, t8, hz8, q3, q4⟩ := both_of (fun σ => does_halt1 σ (nI p) 0) (c_halt i1 (nI p) (b := 1) (Or.inr rfl)) (c_halt i2 (nI p) (b := 1) (Or.inr rfl)) P1_ok.1 P1_ok.2
  refine LQ_bt e8 ?_
  have hA : a + m9 + c0 + c1 + m8 ≤ pot s3 + pot s4 + (300 + 1600 * i + 1300) := by omega
  have hB : b + k9 + 6 * c0 + 6 * c1 + k8 ≤ pot s3 + pot s4 + (300 + 1600 * i + 1300) := by omega
  rcases t8 with ⟨-, -, hno⟩ | ⟨p', hp', epp, t28, t8⟩
  · exact absurd ⟨p, hp, rfl⟩ hno
  have epp : p = p' := (nI_eq (by omega) (by omega)).mp epp
  subst epp
  rcases t8 with ⟨hb1, -⟩ | ⟨-, τ9, et9, hF9, -, d9, hd9, er9, hd0⟩
  · exact absurd hb1 (by decide)
  have hz80 : z8 = 0 := by
    rw [z_ok t28 hz8, er9, hd0 hno]
    rfl
  refine LQ_ifn (not_not_intro hz80) ?_
  have hM2 : MG (9000000 * ((i + 1 : Nat) : Int)) τ8 := by
    rw [et9]
    exact (hF9.2.2.2.2.2.2 _ hM1).1
  have htn2 : tn τ8 = tn τ := by
    rw [← htn, et9]
    show tn τ9 = tn (pI τ' 23 0 0 0)
    exact SM_tn hF9.2.2.2.2.2.1
  unfold fL_law_J413
  exact L_442 hk ⟨INV_le i3 (by omega), INV_le i4 (by omega), hM2, hA, hB⟩ htn2
end HALT
