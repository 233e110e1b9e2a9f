/-! PURE: an hour of the law, what it balances -/
theorem hour_eq {K : Int} {τ τ' : St} (hK : MG K τ) (hl : 0 ≤ sm (lf τ) (tn τ)) (hl' : 0 ≤ sm (lf τ') (tn τ')) (hM : MN τ τ') : ¬ tU τ' < tU τ ∧ ¬ shs τ < shs τ' ∧ eqs τ' - eqs τ = ((((cols τ - cols τ') + shs τ) - shs τ') + Int32.toInt64 (tU τ')) - Int32.toInt64 (tU τ) := by
  obtain ⟨hK', hc, h3, h4⟩ := hM K hK
  have e1 := eqs_I hK hl
  have e2 := eqs_I hK' hl'
  have s1 := shs_I hK hl
  have s2 := shs_I hK' hl'
  have c1 := cols_I hK hl
  have c2 := cols_I hK' hl'
  have u1 := tU_I hK hl
  have u2 := tU_I hK' hl'
  have b1 := PSI_b hK hl
  have b2 := PSI_b hK' hl'
  have hK1 := hK.1
  have p10 := b1 0 (by omega)
  have p11 := b1 1 (by omega)
  have p12 := b1 2 (by omega)
  have p13 := b1 3 (by omega)
  have p14 := b1 4 (by omega)
  have p20 := b2 0 (by omega)
  have p21 := b2 1 (by omega)
  have p22 := b2 2 (by omega)
  have p23 := b2 3 (by omega)
  have p24 := b2 4 (by omega)
  unfold CQ at hc
  unfold sE at e1 e2
  rw [sm5] at e1 e2 s1 s2 c1 c2
  rw [sm5, sm5] at hc
  rw [sm5, sm5] at h3
  refine ⟨fun q => ?_, fun q => ?_, ?_⟩
  · have := (lt32 u2 u1).mp q
    omega
  · have := (lt64 s1 s2).mp q
    omega
  · have w1 := wid u1
    have w2 := wid u2
    have d1 := sub64 e2 e1 (by omega) (by omega)
    have d2 := sub64 c1 c2 (by omega) (by omega)
    have d3 := add64 d2 s1 (by omega) (by omega)
    have d4 := sub64 d3 s2 (by omega) (by omega)
    have d5 := add64 d4 w2 (by omega) (by omega)
    have d6 := sub64 d5 w1 (by omega) (by omega)
    exact Int64.toInt_inj.mp (by rw [d1, d6]; omega)
theorem hour_same {K : Int} {τ τ' : St} (hK : MG K τ) (hl : 0 ≤ sm (lf τ) (tn τ)) (hl' : 0 ≤ sm (lf τ') (tn τ')) (hM : MN τ τ') (hS : SM τ τ') : shs τ' = shs τ ∧ tU τ' = tU τ ∧ cols τ' = cols τ ∧ eqs τ' = eqs τ := by
  obtain ⟨g1, g2⟩ := sE_of hS hM hK
  refine ⟨?_, ?_, ?_, ?_⟩
  · unfold shs
    simp only [hS.2.2.2.2.2.2.1]
  · unfold tU
    rw [hS.2.2.1]
  · unfold cols
    simp only [SM_col hS]
  · exact Int64.toInt_inj.mp (by rw [eqs_I g1 hl', eqs_I hK hl, g2])
theorem L_hour {K : Int} {n c N a b : Nat} {σ1 σ2 τ : St} (hK2 : K + 9000000 ≤ 2000000000) (hn : n < 512) (h : HV K n c σ1 σ2 τ a b) (hN : tn τ = N) : LQ (fL_hour σ1 σ2) a b (SDN (K + 9000000) (n + 3) (c + 1200) N) := by
  obtain ⟨h1, h2, hG, ha, hb⟩ := h
  obtain ⟨r, s1, τ', m1, k1, x1, y1, i1, t1, q1, q2⟩ := c_hour hn h1
  obtain ⟨r2, s2, t2, m2, k2, x2, y2, i2, -, q3, q4⟩ := c_hour hn h2
  obtain ⟨er, et⟩ := Prod.mk.inj (Option.some.inj (y1.symm.trans y2))
  subst er
  subst et
  obtain ⟨d, hd5, hr, hst, hdc, hS, h22, hM, htn⟩ := hour_n t1
  have hl := lf_sum (G_BO h1.1)
  have hl' := lf_sum (G_BO i1.1)
  obtain ⟨w1, w2, w3⟩ := hour_eq hG hl hl' hM
  have hcl : cln τ ≤ 5 := by
    unfold cln cl1
    repeat' split
    all_goals omega
  have hsn : stn τ ≤ 5 := by
    unfold stn st1
    repeat' split
    all_goals omega
  have hMG : MG (K + 9000000) τ' := MG_mono (hM K hG).1 (by omega) hK2
  have htn := htn.trans hN
  have hA : a + m1 + m2 ≤ pot s1 + pot s2 + (c + 600) := by omega
  have hB : b + k1 + k2 ≤ pot s1 + pot s2 + (c + 600) := by omega
  have hfin : LQ (some (((1 : Int32), s1, s2), 0, 0)) (a + m1 + m2) (b + k1 + k2) (SDN (K + 9000000) (n + 3) (c + 1200) N) := F_ok (s1 := s1) (s2 := s2) i1 i2 hMG htn hA hB
  unfold fL_hour
  refine LQ_b0 (L_standing h1) (LQ_b0 (L_shares h1) (LQ_bd (A_unpaid h1) (LQ_b0 (L_equities h1) ?_)))
  show LQ (fL_hour_L31 1000 σ1 σ2 (nI (stn τ)) (shs τ) (tU τ) (eqs τ) 0 0 0) a b _
  rw [L_31 h1, fL_hour_L31.eq_2, if_pos nI5]
  refine LQ_bd (A_trades h1) (LQ_bt x1 ?_)
  show LQ (fL_hour_L93 1000 s1 σ2 (nI (stn τ)) (shs τ) (tU τ) (eqs τ) (cols τ) (nI (cln τ)) (gI τ 22 0 0) r 0 0) _ _ _
  rw [L_93 i1, fL_hour_L93.eq_2, if_pos nI5]
  refine LQ_bt x2 (LQ_ifn (not_not_intro rfl) (LQ_b0 (L_standing i1) ?_))
  have hdI := nI_toInt (n := d) (by omega)
  have hcI := nI_toInt (n := cln τ) (by omega)
  have e1 : r = nI (stn τ) - nI (stn τ') := by
    rw [hr]
    exact Int32.toInt_inj.mp (by rw [sub32 (nI_toInt (n := stn τ) (by omega)) (nI_toInt (n := stn τ') (by omega)) (by omega) (by omega), hdI]; omega)
  refine LQ_ifn (not_not_intro e1) (LQ_ifn (fun q => ?_) (LQ_bd (A_unpaid i1) (LQ_ifn w1 (LQ_b0 (L_shares i1) (LQ_ifn w2 (LQ_b0 (L_equities i1) (LQ_b0 (L_shares i1) (LQ_bd (A_unpaid i1) (LQ_ifn (not_not_intro w3) ?_)))))))))
  · rw [hr] at q
    have := (lt32 hcI hdI).mp q
    omega
  by_cases z : d = 0
  · obtain ⟨v1, v2, v3, v4⟩ := hour_same hG hl hl' hM (hS z)
    have hr0 : r = 0 := by rw [hr, z]; rfl
    refine LQ_ifn (by rw [hr0]; decide) (LQ_b0 (L_shares i1) (LQ_ifn (not_not_intro v1) (LQ_bd (A_unpaid i1) (LQ_ifn (not_not_intro v2) (LQ_ifn (not_not_intro v3) (LQ_b0 (L_equities i1) (LQ_ifn (not_not_intro v4) ?_)))))))
    by_cases zc : 0 < nI (cln τ)
    · exact LQ_if zc hfin
    · refine LQ_ifn zc (LQ_bd (A_trades i1) ?_)
      have hc0 : cln τ = 0 := by
        have := mt (lt32 (a := 0) (A := 0) (by decide) hcI).mpr zc
        omega
      exact LQ_ifn (not_not_intro (h22 hc0)) (LQ_ifn (not_not_intro hr0) hfin)
  · have hrI : r.toInt = (d : Int) := by rw [hr, hdI]
    refine LQ_if ((lt32 (a := 0) (A := 0) (by decide) hrI).mpr (by omega)) (LQ_if ((lt32 (a := 0) (A := 0) (by decide) hcI).mpr (by omega)) hfin)
