/-! PURE: the law's body, over two houses just made, answers 1 within its room -/
theorem MG_0 : MG 0 tau0 := by
  refine ⟨by decide, by decide +kernel, fun k hk => ?_, by decide +kernel, by decide +kernel, by decide +kernel, by decide +kernel, by decide +kernel⟩
  have tz : tn tau0 = 0 := by decide +kernel
  rw [tz] at hk
  omega
theorem law_pure (L : Nat) (xs : Nat → Int32) (hL : L ≤ 260) : ∃ (σ1' σ2' : St) (mr sr : Nat), fL_law_J16 L xs sig0 sig0 = some ((1, σ1', σ2'), mr, sr) ∧ 74 + mr ≤ 685711 ∧ 282 + sr ≤ 7044564 := by
  have tz : tn tau0 = 0 := by decide +kernel
  have h0 : INV 0 sig0 tau0 := INV_0
  have key : LQ (fL_law_J16 L xs sig0 sig0) 0 0 LWQ := by
    obtain ⟨s1, d1, l1, sc1, e1⟩ := L_refused h0
    have i1 := INV_scr sc1 h0
    obtain ⟨s2, d2, l2, sc2, e2⟩ := L_all i1
    have i2 := INV_scr sc2 i1
    obtain ⟨s3, d3, l3, sc3, e3⟩ := L_all h0
    have i3 := INV_scr sc3 h0
    have p1 := pot_scr sc1
    have p2 := pot_scr sc2
    have p3 := pot_scr sc3
    rw [tz] at e1 e2 e3
    unfold fL_law_J16
    refine LQ_bt e1 (LQ_ifn (show ¬ (1 : Int32) = 0 by decide) (LQ_bt e2 (LQ_bt e3 (LQ_ifn (not_not_intro rfl) ?_))))
    unfold fL_law_J45
    have hA : 0 + d1 + d2 + d3 ≤ pot s2 + pot s3 + 300 := by omega
    have hB : 0 + 6 * d1 + 6 * d2 + 6 * d3 ≤ pot s2 + pot s3 + 300 := by omega
    exact L_loop (L := L) (xs := xs) 120 0 1000 (by omega) (by omega) 0 s2 s3 tau0 _ _ ⟨i2, i3, MG_0, hA, hB⟩ tz
  obtain ⟨⟨z, a, b⟩, m, k, e, h1, h2, h3⟩ := key
  have h1 : z = 1 := h1
  subst h1
  exact ⟨a, b, m, k, e, by omega, by omega⟩
