/-! PURE: places, what was got and what is left -/
theorem eqs_SX {τ τ' : St} (hx : SX τ τ') : eqs τ' = eqs τ := by
  obtain ⟨v, rfl⟩ := hx
  rfl
theorem tr_c {n : Nat} {σ τ : St} (h : INV n σ τ) : ∃ c, c ≤ 50000 ∧ gI τ 22 0 0 = nI c := by
  obtain ⟨c, h1, h2⟩ := h.1.2.2.2.2
  have h3 := (G_IN h.1).2.2.2.2.2.2.2
  exact ⟨c, by omega, (h.1.1.2.2.2.2.2.2.1.1).symm.trans h2⟩
theorem nI_t {c t : Nat} (h : c + t < 2147483648) : nI c + nI t = nI (c + t) := by
  have h1 := nI_toInt (n := c) (by omega)
  have h2 := nI_toInt (n := t) (by omega)
  have h3 := nI_toInt (n := c + t) h
  exact Int32.toInt_inj.mp (by rw [add32 h1 h2 (by omega) (by omega), h3]; omega)
section PLC2
variable {K : Int} {n c N a b m p s : Nat} {σ1 σ2 s1 s2 τ τ' : St}
theorem J257 (i1 : INV (n + 1) s1 τ') (i2 : INV (n + 1) s2 τ') (hG : MG (K + 9000000) τ') (hN : tn τ' = N + 1) (hp : p < 3) (hs : s < 2) (h12 : gI τ' 12 0 N = nI p) (h13 : gI τ' 13 0 N = nI s) {many got v12 : Int32} {E : Int64} (heq : eqs τ' = E) (hg0 : 0 ≤ got.toInt) (hgm : got + gI τ' 15 0 N = many) (ht : got.toInt = 0 ↔ gI τ' 22 0 0 ≤ v12) (ha : a ≤ pot s1 + pot s2 + (c + 600)) (hb : b ≤ pot s1 + pot s2 + (c + 600)) : LQ (fL_places_J257 s1 s2 (nI N) (nI p) many E v12 0 (nI N) (gI τ' 15 0 N) got) a b (SDP (K + 9000000) (n + 3) (c + 1200) N) := by
  unfold fL_places_J257
  refine LQ_ifn (not_not_intro rfl) (LQ_ifn (not_not_intro rfl) (LQ_b0 (L_equities i1) (LQ_ifn (not_not_intro heq) ?_)))
  refine LQ_ifn (fun q => by have := (lt32 (b := 0) (B := 0) rfl (by decide)).mp q; omega) (LQ_ifn (not_not_intro hgm) ?_)
  have hJ := J327 i1 i2 hG hN hp hs h12 h13 ha hb
  by_cases z : got ≤ 0
  · have hz := (le32 (b := 0) (B := 0) rfl (by decide)).mp z
    exact LQ_if z (LQ_bd (A_trades i1) (LQ_if (ht.mp (by omega)) hJ))
  · have hz := mt (le32 (a := got) (b := 0) (B := 0) rfl (by decide)).mpr z
    exact LQ_ifn z (LQ_bd (A_trades i1) (LQ_ifn (fun q => by have := ht.mpr q; omega) hJ))
theorem J224 (h1 : INV n σ1 τ) (i1 : INV (n + 1) s1 τ') (i2 : INV (n + 1) s2 τ') (hG : MG (K + 9000000) τ') (hN : tn τ = N) (hm : m < 5) (hp : p < 3) (hs : s < 2) {l q : Int32} (hq : 1 ≤ q.toInt ∧ q.toInt ≤ 100) (hF : FR0 (plT (pI τ 23 0 0 0) m p (nI s) l q) τ') (hP : PLr N p m 0 (plT (pI τ 23 0 0 0) m p (nI s) l q) τ') (heq : eqs τ' = eqs τ) (ha : a ≤ pot s1 + pot s2 + (c + 600)) (hb : b ≤ pot s1 + pot s2 + (c + 600)) : LQ (fL_places_J224 s1 s2 (nI N) (nI m) (nI p) (nI s) q (eqs τ) (gI τ 4 0 (3 * m + p)) (gI τ 22 0 0) 0 (nI N) (gI τ' 15 0 N)) a b (SDP (K + 9000000) (n + 3) (c + 1200) N) := by
  have hO : BO (pI τ 23 0 0 0) := G_BO h1.1
  have hnew := plT_new (pI τ 23 0 0 0) m p (nI s) l q
  have htn := plT_tn hO m p (nI s) l q
  have hN0 : tn (pI τ 23 0 0 0) = N := hN
  rw [hN0] at hnew htn
  have hSM := hF.2.2.2.2.2.1
  have hN' : tn τ' = N + 1 := (SM_tn hSM).trans htn
  have h12 : gI τ' 12 0 N = nI p := (hSM.2.2.2.2.2.2.2.1 N).1.trans hnew.2.1
  have h13 : gI τ' 13 0 N = nI s := (hSM.2.2.2.2.2.2.2.1 N).2.1.trans hnew.2.2.1
  have hlT : lf (plT (pI τ 23 0 0 0) m p (nI s) l q) N = q.toInt := congrArg Int32.toInt hnew.2.2.2.2
  have hpT : ps (plT (pI τ 23 0 0 0) m p (nI s) l q) (3 * m + p) = ps τ (3 * m + p) := rfl
  have h22 : gI (plT (pI τ 23 0 0 0) m p (nI s) l q) 22 0 0 = gI τ 22 0 0 := rfl
  obtain ⟨p1, p0, pl, t, pt1, pt2, pt3⟩ := hP
  rw [hlT, hpT, hnew.2.2.1] at p1 p0
  rw [hlT] at pl pt3
  rw [h22] at pt2
  obtain ⟨cc, hc1, hc2⟩ := tr_c h1
  have htr : gI τ' 22 0 0 = nI (cc + t) := by rw [pt2, hc2, nI_t (by omega)]
  have hle : gI τ' 22 0 0 ≤ gI τ 22 0 0 ↔ t = 0 := by
    rw [htr, hc2]
    exact (nI_leI (by omega) (by omega)).trans ⟨fun q => by omega, fun q => by omega⟩
  have hl := lf_ge (G_BO i1.1) (show N < tn τ' by omega)
  have b1 := ps_bnd (G_BO h1.1) (G_BP h1.1) (j := 3 * m + p) (by omega)
  have b2 := ps_bnd (G_BO i1.1) (G_BP i1.1) (j := 3 * m + p) (by omega)
  have fin : ∀ got : Int32, got.toInt = q.toInt - lf τ' N → LQ (fL_places_J257 s1 s2 (nI N) (nI p) q (eqs τ) (gI τ 22 0 0) 0 (nI N) (gI τ' 15 0 N) got) a b (SDP (K + 9000000) (n + 3) (c + 1200) N) := fun got hgot => by
    refine J257 i1 i2 hG hN' hp hs h12 h13 heq (by omega) ?_ ?_ ha hb
    · exact Int32.toInt_inj.mp (by rw [add32 hgot (B := lf τ' N) rfl (by omega) (by omega)]; omega)
    · rw [hle, pt3]
      constructor <;> intro q <;> omega
  unfold fL_places_J224
  rcases (show s = 0 ∨ s = 1 by omega) with rfl | rfl
  · refine LQ_if (show ¬ nI 0 = 1 by decide) (LQ_y0 (A_pos i1 hm hp) (fin _ ?_))
    have h := p0 rfl
    rw [sub32 (A := ps τ (3 * m + p)) (B := ps τ' (3 * m + p)) rfl rfl (by omega) (by omega)]
    omega
  · refine LQ_ifn (show ¬ ¬ nI 1 = 1 by decide) (LQ_y0 (A_pos i1 hm hp) (fin _ ?_))
    have h := p1 rfl
    rw [sub32 (A := ps τ' (3 * m + p)) (B := ps τ (3 * m + p)) rfl rfl (by omega) (by omega)]
    omega
end PLC2
