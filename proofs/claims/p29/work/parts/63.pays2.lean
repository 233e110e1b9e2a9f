/-! PURE: pays -/
set_option maxHeartbeats 1000000 in
theorem L_pays {K : Int} {n c N a b : Nat} {σ1 σ2 τ : St} (hK2 : K + 9000000 ≤ 2000000000) (hn : n < 512) (h : HV K n c σ1 σ2 τ a b) (hN : tn τ = N) (z : Int32) : LQ (fL_pays σ1 σ2 (nI N) z) a b (SDN (K + 9000000) (n + 3) (c + 1200) N) := by
  obtain ⟨h1, h2, hG, ha, hb⟩ := h
  obtain ⟨w, hw, ew⟩ := some_of σ1 z 6 (by omega) (by omega)
  have ew : fL_some σ1 z 6 = some (nI w) := ew
  obtain ⟨m, hm, em⟩ := some_of σ1 (z >>> (3 &&& 31)) 5 (by omega) (by omega)
  have em : fL_some σ1 (z >>> (3 &&& 31)) 5 = some (nI m) := em
  unfold fL_pays
  refine LQ_bd ew (LQ_bd em ?_)
  obtain ⟨s0, d0, ld, sc0, e0⟩ := L_all h1
  rw [hN] at e0
  refine LQ_bt e0 ?_
  have h0 := INV_scr sc0 h1
  have p0 := pot_scr sc0
  refine LQ_y0 (A_failed h0 hm) ?_
  by_cases c3 : 3 ≤ w
  · refine LQ_if (show (3 : Int32) ≤ nI w from nI_le (a := 3) c3 (by omega)) ?_
    by_cases c5 : 5 ≤ w
    · -- into the fund
      refine LQ_if (show (5 : Int32) ≤ nI w from nI_le (a := 5) c5 (by omega)) ?_
      refine LQ_y0 (A_share h0 hm) ?_
      obtain ⟨j, hj, ej⟩ := some_of s0 (z >>> (6 &&& 31)) 300 (by omega) (by omega)
      have ej : fL_some s0 (z >>> (6 &&& 31)) 300 = some (nI j) := ej
      refine LQ_bd ej (LQ_kst (LQ_y0 (A_cash h0 hm) ?_))
      have hv : (1 + nI j).toInt = 1 + (j : Int) := add32 (A := 1) (by decide) (nI_toInt (by omega)) (by omega) (by omega)
      obtain ⟨z9, s1, s2, τ', m9, k9, r, e, i1, i2, t, hz, q1, q2⟩ := both_of (fun σ => does_contribute σ (nI m) (1 + nI j) 0) (c_contribute hn h0 (nI m) (1 + nI j)) (c_contribute hn h2 (nI m) (1 + nI j)) P12_ok.1 P12_ok.2
      rcases t with ⟨-, t⟩ | ⟨m', hm', emm, t⟩
      · exact absurd ⟨⟨m, hm, rfl⟩, by omega, by omega⟩ t
      have emm : m = m' := (nI_eq (by omega) (by omega)).mp emm
      subst emm
      refine LQ_bt e ?_
      rcases t with ⟨t2, hx, hf⟩ | ⟨t2, hf, er, et⟩
      · refine LQ_ifn hf (LQ_ifn (not_not_intro (z_not t2 hz)) ?_)
        exact R_tail (s1 := s1) (s2 := s2) hK2 h1 i1 i2 hx hG hN (by show a + d0 + m9 ≤ _; omega) (by show b + 6 * d0 + k9 ≤ _; omega)
      · have hz9 : z9 = Int64.toInt32 (gL τ 8 0 m) + (1 + nI j) := by rw [z_ok t2 hz, er, toI_add, toI_wid]
        have e8 : Int64.toInt32 (gL τ' 8 0 m) = z9 := by rw [hz9, et, gL_pL, if_pos ⟨rfl, rfl, rfl⟩, toI_add, toI_wid]
        refine LQ_if hf (LQ_ifn (not_not_intro hz9) (LQ_y0 (A_share i1 hm) (LQ_ifn (not_not_intro e8) (LQ_y0 (A_cash i1 hm) ?_))))
        have e6 : Int64.toInt32 (gL τ' 6 0 m) = Int64.toInt32 (gL τ 6 0 m) := by rw [et]; rfl
        refine LQ_ifn (not_not_intro e6) ?_
        exact F_ok (s1 := s1) (s2 := s2) i1 i2 (by rw [et]; exact MG_shares (G_BO h1.1) hm (by omega) hG hK2) (by rw [et]; exact hN) (by show a + d0 + m9 ≤ _; omega) (by show b + 6 * d0 + k9 ≤ _; omega)
    · -- collateral
      refine LQ_ifn (show ¬ (5 : Int32) ≤ nI w from nI_ge (a := w) (b := 5) (by omega) (by omega)) ?_
      obtain ⟨k, hk, ek⟩ := some_of s0 (z >>> (6 &&& 31)) 2 (by omega) (by omega)
      have ek : fL_some s0 (z >>> (6 &&& 31)) 2 = some (nI k) := ek
      obtain ⟨j, hj, ej⟩ := some_of s0 (z >>> (7 &&& 31)) 31 (by omega) (by omega)
      have ej : fL_some s0 (z >>> (7 &&& 31)) 31 = some (nI j) := ej
      have hv : (nI j - 12).toInt = (j : Int) - 12 := sub32 (B := 12) (nI_toInt (by omega)) (by decide) (by omega) (by omega)
      refine LQ_bd ek (LQ_bd ej (LQ_kst ?_))
      obtain ⟨s3, e3, sc3⟩ := A_free h0 hm
      have h3 := INV_scr sc3 h0
      have p3 := pot_scr sc3
      refine LQ_y0 e3 (LQ_y0 (A_col h3 hm) ?_)
      generalize hx9 : nI j - 12 = x at hv ⊢
      obtain ⟨z9, s1, s2, τ', m9, k9, r, e, i1, i2, t, hz, q1, q2⟩ := both_of (fun σ => does_bring σ (nI m) (nI k) x) (c_bring h3 (nI m) (nI k) x) (c_bring h2 (nI m) (nI k) x) P12_ok.1 P12_ok.2
      rcases t with ⟨-, t⟩ | ⟨m', k', hm', hk', emm, ekk, t⟩
      · exact absurd ⟨⟨m, hm, rfl⟩, ⟨k, hk, rfl⟩, by omega, by omega⟩ t
      have emm : m = m' := (nI_eq (by omega) (by omega)).mp emm
      have ekk : k = k' := (nI_eq (by omega) (by omega)).mp ekk
      subst emm
      subst ekk
      refine LQ_bt e ?_
      have hU := hG.2.2.2.2.2.1 (2 * m + k) (by omega)
      rcases t with ⟨t2, hx, hf⟩ | ⟨t2, hf, hr, hor, er, et⟩
      · have hzn := z_not t2 hz
        refine LQ_ifn (not_not_intro hzn) ?_
        obtain ⟨s4, d4, ld4, sc4, e4⟩ := L_all i1
        rw [SX_tn hx, hN, allV_SX h1 hx] at e4
        refine LQ_bt e4 (LQ_ifn (not_not_intro rfl) ?_)
        have hfin : LQ (some (((1 : Int32), s4, s2), 0, 0)) (a + d0 + m9 + d4) (b + 6 * d0 + k9 + 6 * d4) (SDN (K + 9000000) (n + 3) (c + 1200) N) := F_ok (INV_scr sc4 i1) i2 (MG_mono (MG_SX hx hG) (by omega) hK2) ((SX_tn hx).trans hN) (by rw [pot_scr sc4]; omega) (by rw [pot_scr sc4]; omega)
        by_cases cf : gI τ 10 0 m = 0
        · refine LQ_ifn (not_not_intro cf) ?_
          have hx0 : ¬ x = 0 := fun e0 => by
            rcases hf with hf | hf | hf
            · exact hf cf
            · rw [e0, Int32.add_zero] at hf
              exact hf hU
            · rw [e0] at hf
              exact hf (by decide)
          exact LQ_ifn hx0 hfin
        · exact LQ_if cf hfin
      · have hz9 : z9 = gI τ 7 0 (2 * m + k) + x := by rw [z_ok t2 hz, er]
        generalize hu : gI τ 7 0 (2 * m + k) + x = v at hr er et hz9
        have hvi : v.toInt = (gI τ 7 0 (2 * m + k)).toInt + x.toInt := by rw [← hu]; exact add32 rfl rfl (by omega) (by omega)
        obtain ⟨hMG, hcd⟩ := MG_units (G_IK h1.1) (G_BO h1.1) hm hk hr (by rw [← et]; exact G_IK i1.1) hG hK2
        rw [← et] at hMG hcd
        have hne : ¬ z9 = -2000000003 := fun q => by
          rw [← hz9, q] at hr
          exact absurd hr.1 (by decide)
        refine LQ_if hne (LQ_ifn (not_not_intro hf) ?_)
        refine LQ_ifn (show ¬ z9 < 0 from fun q => by
          rw [hz9] at q
          have := (lt32 (b := 0) (B := 0) rfl (by decide)).mp q
          omega) (LQ_ifn (show ¬ (1000 : Int32) < z9 from fun q => by
          rw [hz9] at q
          have := (lt32 (a := 1000) (A := 1000) (by decide) rfl).mp q
          omega) ?_)
        obtain ⟨s5, e5, sc5⟩ := A_free i1 hm
        have i5 := INV_scr sc5 i1
        have p5 := pot_scr sc5
        refine LQ_y0 e5 (LQ_y0 (A_col i5 hm) ?_)
        have hff : Int64.toInt32 (sFree τ' m) - Int64.toInt32 (sFree τ m) = Int64.toInt32 (sCol τ' m) - Int64.toInt32 (sCol τ m) := by
          have eE : sEq τ' m = sEq τ m := by rw [et]; rfl
          have eM : sMarg τ' m = sMarg τ m := by rw [et]; rfl
          unfold sFree
          rw [eE, eM, toI_sub, toI_sub, toI_add, toI_add]
          grind
        refine LQ_ifn (not_not_intro hff) ?_
        have c1 := (sCol_b (G_IK h1.1) hG hm).2
        have c2 := (sCol_b (G_IK i1.1) hMG hm).2
        have hcI : (Int64.toInt32 (sCol τ m)).toInt = coI τ m := toI_i (by show _ ≤ coI τ m; omega) (by show coI τ m < _; omega)
        have hcI2 : (Int64.toInt32 (sCol τ' m)).toInt = coI τ' m := toI_i (by show _ ≤ coI τ' m; omega) (by show coI τ' m < _; omega)
        have hfin : ∀ s9, scr s5 s9 → LQ (some (((1 : Int32), s9, s2), 0, 0)) (a + d0 + m9) (b + 6 * d0 + k9) (SDN (K + 9000000) (n + 3) (c + 1200) N) := fun s9 sc9 => F_ok (INV_scr sc9 i5) i2 hMG (by rw [et]; exact hN) (by rw [pot_scr sc9]; omega) (by rw [pot_scr sc9]; omega)
        have hup : 0 ≤ x → ¬ Int64.toInt32 (sCol τ' m) < Int64.toInt32 (sCol τ m) := fun hx0 q => by
          have q := (lt32 hcI2 hcI).mp q
          have hx0 := (le32 (A := 0) (by decide) rfl).mp hx0
          have := sWor_mono (G_IK h1.1) hG hk (u := gI τ 7 0 (2 * m + k)) (v := v) hU.1 (by omega) hr.2
          omega
        have hdn : ¬ 0 ≤ x → ¬ Int64.toInt32 (sCol τ m) < Int64.toInt32 (sCol τ' m) := fun hx0 q => by
          have q := (lt32 hcI hcI2).mp q
          have hx0 := mt (le32 (a := 0) (b := x) (A := 0) (by decide) rfl).mpr hx0
          have := sWor_mono (G_IK h1.1) hG hk (u := v) (v := gI τ 7 0 (2 * m + k)) hr.1 (by omega) hU.2
          omega
        by_cases cx : 0 ≤ x
        · refine LQ_if cx (LQ_if cx (LQ_y0 (A_col i5 hm) (LQ_ifn (hup cx) ?_)))
          exact hfin s5 (scr_rfl s5)
        · refine LQ_ifn cx ?_
          obtain ⟨s6, e6, sc6⟩ := A_free i5 hm
          have i6 := INV_scr sc6 i5
          have hfr := hor.resolve_left cx
          have hfi := free_I i1.1 hMG hm
          have hfr : ¬ Int64.toInt32 (sFree τ' m) < 0 := fun q => by
            have q := (lt32 (toI_i (by omega) (by omega)) (B := 0) (by decide)).mp q
            have := (le64 (a := 0) (A := 0) (by decide) rfl).mp hfr
            omega
          refine LQ_y0 e6 (LQ_ifn hfr (LQ_ifn cx (LQ_y0 (A_col i6 hm) (LQ_ifn (hdn cx) ?_))))
          exact hfin s6 sc6
  · -- cash
    refine LQ_ifn (show ¬ (3 : Int32) ≤ nI w from nI_ge (a := w) (b := 3) (by omega) (by omega)) ?_
    obtain ⟨j, hj, ej⟩ := some_of s0 (z >>> (6 &&& 31)) 2001 (by omega) (by omega)
    have ej : fL_some s0 (z >>> (6 &&& 31)) 2001 = some (nI j) := ej
    have hv : (nI j - 900).toInt = (j : Int) - 900 := sub32 (B := 900) (nI_toInt (by omega)) (by decide) (by omega) (by omega)
    refine LQ_bd ej (LQ_kst (LQ_y0 (A_cash h0 hm) ?_))
    obtain ⟨s3, e3, sc3⟩ := A_free h0 hm
    have h3 := INV_scr sc3 h0
    have p3 := pot_scr sc3
    refine LQ_y0 e3 ?_
    generalize hx9 : nI j - 900 = x at hv ⊢
    obtain ⟨z9, s1, s2, τ', m9, k9, r, e, i1, i2, t, hz, q1, q2⟩ := both_of (fun σ => does_pay σ (nI m) x 0) (c_pay h3 (nI m) x) (c_pay h2 (nI m) x) P12_ok.1 P12_ok.2
    rcases t with ⟨-, t⟩ | ⟨m', hm', emm, t⟩
    · exact absurd ⟨⟨m, hm, rfl⟩, by omega, by omega⟩ t
    have emm : m = m' := (nI_eq (by omega) (by omega)).mp emm
    subst emm
    refine LQ_bt e ?_
    have hfi := free_I h1.1 hG hm
    have hsum : (sFree τ m + x.toInt64).toInt = (sFree τ m).toInt + x.toInt := add64 rfl (wid rfl) (by omega) (by omega)
    have hsum2 : (Int64.toInt32 (sFree τ m) + x).toInt = (sFree τ m).toInt + x.toInt := add32 (toI_i (by omega) (by omega)) rfl (by omega) (by omega)
    have hiff : Int64.toInt32 (sFree τ m) + x < 0 ↔ sFree τ m + x.toInt64 < 0 := (lt32 hsum2 (B := 0) (by decide)).trans (lt64 hsum (B := 0) (by decide)).symm
    rcases t with ⟨t2, hx, hf⟩ | ⟨t2, hf, hor, er, et⟩
    · have hzn := z_not t2 hz
      have hA : a + d0 + m9 ≤ pot s1 + pot s2 + (c + 600) := by omega
      have hB : b + 6 * d0 + k9 ≤ pot s1 + pot s2 + (c + 600) := by omega
      by_cases cf : gI τ 10 0 m = 0
      · refine LQ_ifn (not_not_intro cf) ?_
        obtain ⟨g1, g2⟩ := hf.resolve_left (fun q => q cf)
        refine LQ_ifn g1 (LQ_if (hiff.mpr g2) (LQ_ifn (not_not_intro hzn) ?_))
        exact R_tail (s1 := s1) (s2 := s2) hK2 h1 i1 i2 hx hG hN hA hB
      · refine LQ_if cf (LQ_ifn (not_not_intro hzn) ?_)
        exact R_tail (s1 := s1) (s2 := s2) hK2 h1 i1 i2 hx hG hN hA hB
    · refine LQ_ifn (not_not_intro hf) ?_
      have hz9 : z9 = Int64.toInt32 (gL τ 6 0 m) + x := by rw [z_ok t2 hz, er, toI_add, toI_wid]
      have e6 : Int64.toInt32 (gL τ' 6 0 m) = z9 := by rw [hz9, et, gL_pL, if_pos ⟨rfl, rfl, rfl⟩, toI_add, toI_wid]
      have hfr : Int64.toInt32 (sFree τ' m) = Int64.toInt32 (sFree τ m) + x := by
        have eE : sEq τ' m = sEq τ m + x.toInt64 := by
          unfold sEq
          rw [et, gL_pL, if_pos ⟨rfl, rfl, rfl⟩]
          show ((gL τ 6 0 m + x.toInt64 + sDif τ m 0) + sDif τ m 1) + sDif τ m 2 = _
          grind
        have eC : sCol τ' m = sCol τ m := by rw [et]; rfl
        have eM : sMarg τ' m = sMarg τ m := by rw [et]; rfl
        unfold sFree
        rw [eE, eC, eM, toI_sub, toI_sub, toI_add, toI_add, toI_add, toI_wid]
        grind
      obtain ⟨s5, e5, sc5⟩ := A_free i1 hm
      have hMG : MG (K + 9000000) τ' := by rw [et]; exact MG_cash (G_BO h1.1) hm (by omega) hG hK2
      have hfin : LQ (some (((1 : Int32), s5, s2), 0, 0)) (a + d0 + m9) (b + 6 * d0 + k9) (SDN (K + 9000000) (n + 3) (c + 1200) N) := F_ok (INV_scr sc5 i1) i2 hMG (by rw [et]; exact hN) (by rw [pot_scr sc5]; omega) (by rw [pot_scr sc5]; omega)
      have hrest := LQ_ifn (R := Int32 × St × St) (x := some ((0, s5, s2), 0, 0)) (not_not_intro hfr) hfin
      by_cases cx : 0 ≤ x
      · refine LQ_if cx (LQ_ifn (not_not_intro hz9) (LQ_y0 (A_cash i1 hm) (LQ_ifn (not_not_intro e6) (LQ_y0 e5 ?_))))
        exact hrest
      · have hge := hor.resolve_left cx
        refine LQ_ifn cx (LQ_ifn (fun q => hge (hiff.mp q)) (LQ_ifn (not_not_intro hz9) (LQ_y0 (A_cash i1 hm) (LQ_ifn (not_not_intro e6) (LQ_y0 e5 ?_)))))
        exact hrest
