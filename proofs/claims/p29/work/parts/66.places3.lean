/-! PURE: places, the whole step -/
section PLC3
variable {K : Int} {n c N a b m p s : Nat} {σ1 σ2 τ : St}
set_option maxHeartbeats 1000000 in
theorem J103 (hK2 : K + 9000000 ≤ 2000000000) (hn : n < 512) (h : HV K n c σ1 σ2 τ a b) (hN : tn τ = N) (z x : Int32) (hm : m < 5) (hp : p < 3) (hs : s < 2) {T l : Nat} (hT : 0 < T ∧ T ≤ 60) (hl : 1 ≤ l ∧ l ≤ 300) : LQ (fL_places_J103 σ1 σ2 (nI N) z (nI m) (nI p) (nI s) (nI l) (nI T) x 1) a b (SDP (K + 9000000) (n + 3) (c + 1200) N) := by
  obtain ⟨h1, h2, hG, ha, hb⟩ := h
  subst hN
  have h100 := (G_BO h1.1).2.1
  obtain ⟨k, hk, ek⟩ := some_of σ1 x T hT.1 (by omega)
  have e1 : (1 : Int32) + nI k = nI (k + 1) := by rw [Int32.add_comm, nI_1]
  unfold fL_places_J103
  refine LQ_bd ek ?_
  rw [e1]
  refine LQ_kst (LQ_b0 (L_equities h1) (LQ_y0 (A_pos h1 hm hp) (LQ_bd (A_trades h1) ?_)))
  obtain ⟨s0, d0, l0, sc0, e0⟩ := L_all h1
  refine LQ_bt e0 ?_
  have h0 := INV_scr sc0 h1
  have p0 := pot_scr sc0
  refine LQ_y0 (A_failed h0 hm) ?_
  obtain ⟨q, hq⟩ : ∃ q, q = k + 1 := ⟨_, rfl⟩
  rw [← hq]
  have hb2 : bz (nI s) := by
    rcases (show s = 0 ∨ s = 1 by omega) with rfl | rfl
    · exact Or.inl rfl
    · exact Or.inr rfl
  have hdo : ∀ σ, fL_does σ 6 (nI m) ((2 * nI p) + nI s) (((256 * nI l) + nI q) + 1) = fX5_place σ (nI m) (nI p) (nI s) (nI l) (nI q) := fun σ => by
    obtain ⟨a1, a2⟩ := sh_p p hp s hs
    obtain ⟨a3, a4⟩ := sh_l l (by omega) q (by omega)
    rw [does_place, a1, a2, a3, a4]
  have hqI : (nI q).toInt = (q : Int) := nI_toInt (by omega)
  have hlI : (nI l).toInt = (l : Int) := nI_toInt (by omega)
  obtain ⟨z9, s1, s2, τ', m9, k9, r, e, i1, i2, t, hz, q1, q2⟩ := both_of hdo (c_place hn h0 (nI m) (nI p) hb2 (nI l) (nI q)) (c_place hn h2 (nI m) (nI p) hb2 (nI l) (nI q)) P12_ok.1 P12_ok.2
  refine LQ_bt e ?_
  have hA : a + d0 + m9 ≤ pot s1 + pot s2 + (c + 600) := by omega
  have hB : b + 6 * d0 + k9 ≤ pot s1 + pot s2 + (c + 600) := by omega
  rcases t with ⟨-, -, t⟩ | ⟨t2, hx⟩ | ⟨m', p', hm', hp', em, ep, er, hlt, hf, t2, hF, hP⟩
  · exact absurd ⟨⟨m, hm, rfl⟩, ⟨p, hp, rfl⟩, by omega, by omega⟩ t
  · have hzn := z_not t2 hz
    refine LQ_ifn (not_not_intro hzn) ?_
    obtain ⟨s6, d6, l6, sc6, e6⟩ := L_all i1
    rw [SX_tn hx] at e6
    have i6 := INV_scr sc6 i1
    have p6 := pot_scr sc6
    refine LQ_bt e6 (LQ_ifn (not_not_intro (allV_SX h1 hx)) (LQ_b0 (L_equities i6) (LQ_ifn (not_not_intro (eqs_SX hx)) (LQ_ok ⟨rfl, τ', ⟨INV_le i6 (by omega), INV_le i2 (by omega), MG_SX hx (MG_mono hG (by omega) hK2), ?_, ?_⟩, ?_, ?_⟩))))
    · have hx : a + d0 + m9 + d6 ≤ pot s6 + pot s2 + (c + 1200) := by omega
      exact hx
    · have hx : b + 6 * d0 + k9 + 6 * d6 ≤ pot s6 + pot s2 + (c + 1200) := by omega
      exact hx
    · exact Nat.le_of_eq (SX_tn hx).symm
    · exact Nat.le_succ_of_le (Nat.le_of_eq (SX_tn hx))
  · have em : m = m' := (nI_eq (by omega) (by omega)).mp em
    have ep : p = p' := (nI_eq (by omega) (by omega)).mp ep
    subst em
    subst ep
    have hz9 : z9 = nI (tn τ) := (z_ok t2 hz).trans er
    subst hz9
    obtain ⟨g1, g2⟩ := MG_place (m := m) (p := p) (b := nI s) (l := nI l) (q := nI q) (G_BO h1.1) (by omega) (by omega) hG hK2
    obtain ⟨g3, g4⟩ := sE_of hF.2.2.2.2.2.1 hF.2.2.2.2.2.2 g1
    have heq : eqs τ' = eqs τ := Int64.toInt_inj.mp (by rw [eqs_I g3 (lf_sum (G_BO i1.1)), eqs_I hG (lf_sum (G_BO h1.1)), g4, g2])
    have hO : BO (pI τ 23 0 0 0) := G_BO h1.1
    have htn : tn τ' = tn τ + 1 := (SM_tn hF.2.2.2.2.2.1).trans (plT_tn hO m p (nI s) (nI l) (nI q))
    have hNI := nI_toInt (n := tn τ) (by omega)
    refine LQ_if (fun q => by have := (eq32 hNI (b := -2000000003) (B := -2000000003) (by decide)).mp q; omega) ?_
    refine LQ_if ((le32 (a := 0) (A := 0) (by decide) hNI).mpr (by omega)) ?_
    refine LQ_y0 (A_left i1 (k := tn τ) (by omega)) ?_
    have hJ := J224 (K := K) (c := c) (a := a + d0 + m9) (b := b + 6 * d0 + k9) h1 i1 i2 g3 rfl hm hp hs (l := nI l) (q := nI q) (by omega) hF hP heq hA hB
    rw [← hf] at hJ
    exact hJ
theorem J78 (hK2 : K + 9000000 ≤ 2000000000) (hn : n < 512) (h : HV K n c σ1 σ2 τ a b) (hN : tn τ = N) (z : Int32) (hm : m < 5) (hp : p < 3) (hs : s < 2) {l : Nat} (hl : 1 ≤ l ∧ l ≤ 300) : LQ (fL_places_J78 σ1 σ2 (nI N) z (nI m) (nI p) (nI s) (nI l)) a b (SDP (K + 9000000) (n + 3) (c + 1200) N) := by
  obtain ⟨k, hk, ek⟩ := some_of σ1 (z >>> (7 &&& 31)) 3 (by omega) (by omega)
  have ek : fL_some σ1 (z >>> (7 &&& 31)) 3 = some (nI k) := ek
  unfold fL_places_J78
  refine LQ_bd ek ?_
  have h60 := J103 hK2 hn h hN z (z >>> (9 &&& 31)) hm hp hs (T := 60) (by omega) hl
  have h15 := J103 hK2 hn h hN z (z >>> (9 &&& 31)) hm hp hs (T := 15) (by omega) hl
  by_cases c1 : ¬ nI k = 0
  · exact LQ_if c1 h15
  · exact LQ_ifn c1 h60
theorem J25 (hK2 : K + 9000000 ≤ 2000000000) (hn : n < 512) (h : HV K n c σ1 σ2 τ a b) (hN : tn τ = N) (z x : Int32) (hm : m < 5) {T : Nat} (hT : 0 < T ∧ T ≤ 3) : LQ (fL_places_J25 σ1 σ2 (nI N) z (nI m) (nI T) x) a b (SDP (K + 9000000) (n + 3) (c + 1200) N) := by
  obtain ⟨p, hp, ep⟩ := some_of σ1 x T hT.1 (by omega)
  obtain ⟨s, hs, es⟩ := some_of σ1 (z >>> (4 &&& 31)) 2 (by omega) (by omega)
  have es : fL_some σ1 (z >>> (4 &&& 31)) 2 = some (nI s) := es
  obtain ⟨k, hk, ek⟩ := some_of σ1 (z >>> (6 &&& 31)) 8 (by omega) (by omega)
  have ek : fL_some σ1 (z >>> (6 &&& 31)) 8 = some (nI k) := ek
  obtain ⟨i, hi, ei⟩ := some_of σ1 (z >>> (8 &&& 31)) 13 (by omega) (by omega)
  have ei : fL_some σ1 (z >>> (8 &&& 31)) 13 = some (nI i) := ei
  obtain ⟨j, hj, ej⟩ := some_of σ1 (z >>> (8 &&& 31)) 300 (by omega) (by omega)
  have ej : fL_some σ1 (z >>> (8 &&& 31)) 300 = some (nI j) := ej
  unfold fL_places_J25
  refine LQ_bd ep (LQ_bd es (LQ_bd ek ?_))
  by_cases c1 : ¬ nI k = 0
  · refine LQ_if c1 (LQ_bd ei ?_)
    have e1 : (94 : Int32) + nI i = nI (94 + i) := nI_t (c := 94) (by omega)
    rw [e1]
    exact J78 hK2 hn h hN z hm (by omega) hs (by omega)
  · refine LQ_ifn c1 (LQ_bd ej ?_)
    have e1 : (1 : Int32) + nI j = nI (1 + j) := nI_t (c := 1) (by omega)
    rw [e1]
    exact J78 hK2 hn h hN z hm (by omega) hs (by omega)
theorem L_places (hK2 : K + 9000000 ≤ 2000000000) (hn : n < 512) (h : HV K n c σ1 σ2 τ a b) (hN : tn τ = N) (z : Int32) : LQ (fL_places σ1 σ2 (nI N) z) a b (SDP (K + 9000000) (n + 3) (c + 1200) N) := by
  obtain ⟨m, hm, em⟩ := some_of σ1 z 5 (by omega) (by omega)
  have em : fL_some σ1 z 5 = some (nI m) := em
  obtain ⟨k, hk, ek⟩ := some_of σ1 (z >>> (5 &&& 31)) 3 (by omega) (by omega)
  have ek : fL_some σ1 (z >>> (5 &&& 31)) 3 = some (nI k) := ek
  unfold fL_places
  refine LQ_bd em (LQ_bd ek ?_)
  have h1 := J25 hK2 hn h hN z (z >>> (3 &&& 31)) hm (T := 1) (by omega)
  have h3 := J25 hK2 hn h hN z (z >>> (3 &&& 31)) hm (T := 3) (by omega)
  by_cases c1 : ¬ nI k = 0
  · exact LQ_if c1 h1
  · exact LQ_ifn c1 h3
end PLC3
