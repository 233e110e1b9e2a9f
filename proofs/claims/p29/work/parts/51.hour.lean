/-! PURE: one that fails; an hour; an evening -/
theorem G_fail {B : Int} {σ τ : St} (h : G B σ τ) (m : Nat) : G B (pI σ 0 m 0 1) (pI τ 10 0 m 1) := by
  obtain ⟨⟨hA, hU, hP, hQ, hO, hK, hW, hN, b1, b2, b3⟩, hC, hJ, hT⟩ := h
  refine ⟨⟨fun m' hm' => ?_, hU, hP, hQ, hO, hK, hW, hN, b1, b2, b3⟩, hC, hJ, hT⟩
  obtain ⟨a1, a2, a3⟩ := hA m' hm'
  refine ⟨a1, a2, ?_⟩
  rw [gI_pI, gI_pI]
  simp only [true_and, and_true]
  by_cases c : m' = m
  · rw [if_pos c, if_pos c]
  · rw [if_neg c, if_neg c, a3]
theorem FQ0_tr {σ τ s t σ' τ' : St} (h1 : FQ0 σ τ s t) (h2 : FQ0 s t σ' τ') : FQ0 σ τ σ' τ' := by
  obtain ⟨a1, a2, a3, a4, a5, a6⟩ := h1
  obtain ⟨b1, b2, b3, b4, b5, b6⟩ := h2
  exact ⟨fun m => (b1 m).trans (a1 m), fun m => (b2 m).trans (a2 m), b3.trans a3, b4.trans a4, fun m => (b5 m).trans (a5 m), sameN_tr a6 b6⟩
/-- what a failing leaves of the other numbers -/
def FB (m : Nat) (σ τ σ' τ' : St) : Prop := (∀ j, gI τ' 10 0 j = gI (pI τ 10 0 m 1) 10 0 j) ∧ (∀ j, gI τ' 9 0 j = gI τ 9 0 j) ∧ gI τ' 23 0 0 = gI τ 23 0 0 ∧ gI τ' 21 0 0 = gI τ 21 0 0 ∧ (∀ j, gI σ' 1 j 0 = gI σ 1 j 0) ∧ MN τ τ'
theorem BS_of {c : Int} {τ τ' : St} (h : BS c τ) (h1 : ∀ m, gI τ' 10 0 m = gI τ 10 0 m) (h2 : ∀ m, gL τ' 8 0 m = gL τ 8 0 m) : BS c τ' := fun j hj e => by
  rw [h2]
  exact h j hj (by rw [← h1]; exact e)
set_option maxHeartbeats 1000000 in
theorem fail_of {c B : Int} (hB : B < 49990) {σ τ : St} (hG : G B σ τ) {m : Nat} (hm : m < 5) (hf : gI τ 10 0 m = 0) (hb : BS c τ) (hc : 0 ≤ c ∧ c ≤ 60000000) :
    ∃ σ' τ' mc ms, fX5_fail σ (nI m) = some (σ', mc, ms) ∧ fX6_breaks τ (nI m) = some τ' ∧ G (B + 3) σ' τ' ∧ BS c τ' ∧ FB m σ τ σ' τ' ∧ mc + pot σ ≤ pot σ' ∧ ms + pot σ ≤ pot σ' := by
  have hs := (hb m hm hf).1
  have g0 := G_fail hG m
  have z0 : gI (pI τ 10 0 m 1) 10 0 m = 1 := by rw [gI_pI, if_pos ⟨rfl, rfl, rfl⟩]
  have hb0 : BS c (pI τ 10 0 m 1) := fun j hj e => by
    have hne : j ≠ m := fun e2 => by subst e2; rw [z0] at e; exact absurd e (by decide)
    rw [gI_pI, if_neg (fun q => hne q.2.2)] at e
    exact hb j hj e
  obtain ⟨s1, t1, mc1, ms1, x1, y1, g1, f1, p1, q1⟩ := hand_S (by omega) hm (p := 0) (by omega) g0 (by rw [z0]; decide) 999 999
  obtain ⟨s2, t2, mc2, ms2, x2, y2, g2, f2, p2, q2⟩ := hand_S (by omega) hm (p := 1) (by omega) g1 (by rw [f1.1.1.1, z0]; decide) 998 998
  have f12 := FF_tr f1 f2
  obtain ⟨s3, t3, mc3, ms3, x3, y3, g3, f3, p3, q3⟩ := hand_S (by omega) hm (p := 2) (by omega) g2 (by rw [f12.1.1.1, z0]; decide) 997 997
  have f13 := FF_tr f12 f3
  have hb3 : BS c t3 := BS_of hb0 f13.1.1.1 f13.1.1.2.2.1
  have hs3 : 0 ≤ (gL t3 8 0 m).toInt := by rw [f13.1.1.2.2.1]; exact hs
  have hx : fX5_fail σ (nI m) = tk mc1 ms1 (tk mc2 ms2 (tk mc3 ms3 (fX5_fail_L14 997 s3 (nI 3) m (nI m)))) := by
    unfold fX5_fail
    rw [if_gd (vin_nI hm (by omega)), clamp_nI (show m < 2147483648 by omega)]
    refine x1.trans (congrArg (tk mc1 ms1) (x2.trans (congrArg (tk mc2 ms2) x3)))
  have hy : fX6_breaks τ (nI m) = fX6_breaks_L9 997 t3 (nI 3) (nI m) := by
    unfold fX6_breaks
    rw [if_gd (vin_nI hm (by omega)), clamp_nI (show m < 2147483648 by omega)]
    exact y1.trans (y2.trans y3)
  -- what is sold, and netted
  have g4 := G_sell g3 hm
  have g5 := G_net g4 hm
  have f4 := FF_sell s3 t3 m
  have f5 := FF_net (seS s3 t3 m) (seT t3 m) m
  have f45 := FFo_tr f4 (FFo_of f5)
  have hb5 : BS c (neT (seT t3 m) m) := BS_of hb3 f45.1.1.1 f45.1.1.2.2.1
  have n5 : sameN (neS (seS s3 t3 m) (seT t3 m) m) s3 := sameN_rfl s3
  have hcol : fX6_collateralOf t3 (nI m) = some (sCol t3 m) := y_col hm (fun k hk => IK_ne g3.1.2.2.2.2.2.1 hk)
  have i20 : (2 * nI m).toNatClampNeg = 2 * m + 0 ∧ vin (2 * nI m) 10 := by
    have h := ix2 m hm 0 (by omega)
    rw [nI_0, Int32.add_zero] at h
    exact h
  have i21 : (2 * nI m + 1).toNatClampNeg = 2 * m + 1 ∧ vin (2 * nI m + 1) 10 := ix2 m hm 1 (by omega)
  have hyE : fX6_breaks_L9 997 t3 (nI 3) (nI m) = if 0 ≤ gL (neT (seT t3 m) m) 6 0 m then some (neT (seT t3 m) m) else bd (fX6_covers (neT (seT t3 m) m) (nI m) (-gL (neT (seT t3 m) m) 6 0 m)) (fun q9 => some (pL q9 6 0 m 0)) := by
    show fX6_breaks_L9 (996 + 1) t3 (nI 3) (nI m) = _
    rw [fX6_breaks_L9.eq_2, if_pos (show (3 : Int32) ≤ nI 3 by decide), if_gd (vin_nI hm (by omega)), hcol, bd_some, if_gd i20.2, if_gd i21.2, i20.1, i21.1, clamp_nI (show m < 2147483648 by omega)]
    show bd (fX6_nets (seT t3 m) (nI m)) _ = _
    rw [y_net hm, bd_some]
  have hxE : fX5_fail_L14 997 s3 (nI 3) m (nI m) = if 0 ≤ gL (neS (seS s3 t3 m) (seT t3 m) m) 0 m 0 then some (neS (seS s3 t3 m) (seT t3 m) m, 0, 0) else bd (fX5_coverLoss (neS (seS s3 t3 m) (seT t3 m) m) m) (fun q8 => gd (sameN q8 (neS (seS s3 t3 m) (seT t3 m) m)) (some (q8, 0, 0))) := by
    show fX5_fail_L14 (996 + 1) s3 (nI 3) m (nI m) = _
    rw [fX5_fail_L14.eq_2, if_pos (show (3 : Int32) ≤ nI 3 by decide), x_sell g3 hm, bd_some, if_gd (show sameN (seS s3 t3 m) s3 from sameN_rfl s3), x_net (G_IP g4) (G_IQ g4) hm, bd_some, if_gd (ne_n _ _ m)]
  have ec : gL (neS (seS s3 t3 m) (seT t3 m) m) 0 m 0 = gL (neT (seT t3 m) m) 6 0 m := ((G_IA g5) m hm).1
  have hpot5 : pot (neS (seS s3 t3 m) (seT t3 m) m) = pot s3 := pot_same n5
  have p0 : pot (pI σ 0 m 0 1) = pot σ := rfl
  rw [p0] at p1 q1
  have g5 : G (B + 3) (neS (seS s3 t3 m) (seT t3 m) m) (neT (seT t3 m) m) := G_mono g5 (by omega)
  have hfr5 : FFo (pI σ 0 m 0 1) (pI τ 10 0 m 1) (neS (seS s3 t3 m) (seT t3 m) m) (neT (seT t3 m) m) := FFo_tr (FFo_of f13) f45
  have hM0 : MN τ (pI τ 10 0 m 1) := MN_eq ⟨fun _ => rfl, fun _ => rfl, rfl, fun _ => rfl, fun _ => rfl, rfl, fun _ => rfl, fun _ => ⟨rfl, rfl, rfl⟩, fun _ => ⟨rfl, rfl⟩⟩ (fun _ _ => rfl) (Int.le_refl _)
  have hM5 : MN τ (neT (seT t3 m) m) := MN_tr (MN_tr hM0 f13.1.1.2.2.2.2.2.2) (MN_tr (MN_sell t3 hm (lf_sum (G_BO g3))) (MN_net _ m))
  by_cases cz : 0 ≤ gL (neT (seT t3 m) m) 6 0 m
  · rw [ec, if_pos cz] at hxE
    rw [if_pos cz] at hyE
    rw [hxE, tk_some, tk_some, tk_some] at hx
    refine ⟨_, _, _, _, hx, hy.trans hyE, g5, hb5, ⟨hfr5.1.1.1, hfr5.1.1.2.1, hfr5.1.1.2.2.2.1, hfr5.1.1.2.2.2.2, fun j => hfr5.2.1 j, hM5⟩, ?_, ?_⟩
    · rw [hpot5]; omega
    · rw [hpot5]; omega
  · rw [ec, if_neg cz] at hxE
    rw [if_neg cz] at hyE
    have hf5 : ¬ gI (neT (seT t3 m) m) 10 0 m = 0 := by rw [hfr5.1.1.1, z0]; decide
    have hs5 : 0 ≤ (gL (neT (seT t3 m) m) 8 0 m).toInt := by rw [f45.1.1.2.2.1]; exact hs3
    obtain ⟨σ', τ', e1, e2, g6, b6, f6, mn6⟩ := cover_of g5 hm hf5 hb5 hc hs5
    have hzz : sEq (neT (seT t3 m) m) m = gL (neT (seT t3 m) m) 6 0 m := by
      unfold sEq
      rw [sDif_ne _ m (by omega), sDif_ne _ m (by omega), sDif_ne _ m (by omega), if_pos rfl, if_pos rfl, if_pos rfl, Int64.add_zero, Int64.add_zero, Int64.add_zero]
    have mn6 := mn6 hzz (by
      have := mt (le64 (a := 0) (b := gL (neT (seT t3 m) m) 6 0 m) (A := 0) (by decide) rfl).mpr cz
      omega)
    rw [e1, bd_some, if_gd f6.2.2.2.2.2] at hxE
    rw [hxE, tk_some, tk_some, tk_some] at hx
    have hpot6 := pot_same f6.2.2.2.2.2
    refine ⟨σ', τ', _, _, hx, hy.trans (hyE.trans e2), g6, b6, ⟨fun j => (f6.1 j).trans (hfr5.1.1.1 j), fun j => (f6.2.1 j).trans (hfr5.1.1.2.1 j), f6.2.2.1.trans hfr5.1.1.2.2.2.1, f6.2.2.2.1.trans hfr5.1.1.2.2.2.2, fun j => (f6.2.2.2.2.1 j).trans (hfr5.2.1 j), MN_tr hM5 mn6⟩, ?_, ?_⟩
    · rw [hpot6, hpot5]; omega
    · rw [hpot6, hpot5]; omega
-- hours
def IL (σ τ : St) : Prop := ∀ m, m < 5 → gI σ 1 m 0 = gI τ 9 0 m
def BC (τ : St) : Prop := ∀ j, j < 5 → bz (gI τ 10 0 j) ∧ (gI τ 9 0 j = -1 ∨ gI τ 9 0 j = 0 ∨ gI τ 9 0 j = 1)
theorem G_call {B : Int} {σ τ : St} (h : G B σ τ) (m : Nat) (v w : Int32) : G B (pI σ 1 m 0 v) (pI τ 9 0 m w) := h
theorem IL_call {σ τ : St} (h : IL σ τ) (m : Nat) (v : Int32) : IL (pI σ 1 m 0 v) (pI τ 9 0 m v) := fun j hj => by
  rw [gI_pI, gI_pI]
  simp only [true_and, and_true]
  by_cases c : j = m
  · rw [if_pos c, if_pos c]
  · rw [if_neg c, if_neg c]
    exact h j hj
theorem BC_call {τ : St} (h : BC τ) (m : Nat) {v : Int32} (hv : v = -1 ∨ v = 0 ∨ v = 1) : BC (pI τ 9 0 m v) := fun j hj => by
  obtain ⟨h1, h2⟩ := h j hj
  refine ⟨h1, ?_⟩
  rw [gI_pI]
  simp only [true_and]
  by_cases c : j = m
  · rw [if_pos c]; exact hv
  · rw [if_neg c]; exact h2
/-- what holds between the members of an hour -/
def HI (c B : Int) (σ τ : St) : Prop := G B σ τ ∧ IL σ τ ∧ BC τ ∧ BS c τ
/-- what a member's turn in an hour leaves -/
def HH (i : Nat) (f f' : Int32) (τ τ' : St) : Prop := MN τ τ' ∧ (∀ j, j ≠ i → gI τ' 10 0 j = gI τ 10 0 j ∧ gI τ' 9 0 j = gI τ 9 0 j) ∧ ((f' = f ∧ gI τ' 10 0 i = gI τ 10 0 i ∧ SM τ τ') ∨ (f' = f + 1 ∧ gI τ 10 0 i = 0 ∧ gI τ' 10 0 i = 1 ∧ gI τ 9 0 i = 1)) ∧ (gI τ 9 0 i = 1 ∨ gI τ' 22 0 0 = gI τ 22 0 0)
theorem SM_hour (τ : St) (i : Nat) (v : Int32) : SM τ (pI τ 9 0 i v) := ⟨fun _ => rfl, fun _ => rfl, rfl, fun _ => rfl, fun _ => rfl, rfl, fun _ => rfl, fun _ => ⟨rfl, rfl, rfl⟩, fun _ => ⟨rfl, rfl⟩⟩
theorem MN_hour (τ : St) (i : Nat) (v : Int32) : MN τ (pI τ 9 0 i v) := MN_eq (SM_hour τ i v) (fun _ _ => rfl) (Int.le_refl _)
theorem HH_rfl (i : Nat) (f : Int32) (τ : St) : HH i f f τ τ := ⟨MN_rfl τ, fun _ _ => ⟨rfl, rfl⟩, Or.inl ⟨rfl, rfl, SM_rfl τ⟩, Or.inr rfl⟩
theorem HH_put (i : Nat) (f v : Int32) (τ : St) : HH i f f τ (pI τ 9 0 i v) := ⟨MN_hour τ i v, fun j hj => ⟨rfl, by rw [gI_pI, if_neg (fun q => hj q.2.2)]⟩, Or.inl ⟨rfl, rfl, SM_hour τ i v⟩, Or.inr rfl⟩
theorem HI_mono {c B B' : Int} {σ τ : St} (h : HI c B σ τ) (hb : B ≤ B') : HI c B' σ τ := ⟨G_mono h.1 hb, h.2⟩
set_option maxHeartbeats 1000000 in
theorem hour_S {c B : Int} (hB : B < 49980) (hc : 0 ≤ c ∧ c ≤ 60000000) {σ τ : St} (h : HI c B σ τ) {i : Nat} (hi : i < 5) (n n2 : Nat) (f : Int32) :
    ∃ σ' τ' f' mc ms, fX5_hour_L4 (n + 1) σ (nI i) f = tk mc ms (fX5_hour_L4 n σ' (nI (i + 1)) f') ∧ fX6_hour_L9 (n2 + 1) τ (nI i) f = fX6_hour_L9 n2 τ' (nI (i + 1)) f' ∧ HI c (B + 6) σ' τ' ∧ gI τ' 23 0 0 = gI τ 23 0 0 ∧ gI τ' 21 0 0 = gI τ 21 0 0 ∧ HH i f f' τ τ' ∧ mc + pot σ ≤ pot σ' + 3 ∧ ms + pot σ ≤ pot σ' + 3 := by
  obtain ⟨hG, hL, hBC, hb⟩ := h
  have hge : ¬ (5 : Int32) ≤ nI i := nI_ge (a := i) (b := 5) hi (by omega)
  have e3 := ((G_IA hG) i hi).2.2
  rw [fX5_hour_L4.eq_2, fX6_hour_L9.eq_2, if_neg hge, if_neg hge, if_gd (vin_nI hi (by omega)), if_gd (vin_nI hi (by omega)), clamp_nI (show i < 2147483648 by omega), e3]
  by_cases c1 : gI τ 10 0 i = 0
  · rw [if_neg (not_not_intro c1), if_neg (not_not_intro c1), y_free hG.1 hi, bd_some]
    obtain ⟨s1, x1, sc1⟩ := x_free hG.1 hi
    have hG1 := G_scr sc1 hG
    have e1 : gI s1 1 i 0 = gI τ 9 0 i := (scr_gI sc1 ..).trans (hL i hi)
    have hL1 : IL s1 τ := fun j hj => (scr_gI sc1 ..).trans (hL j hj)
    have p1 := pot_scr sc1
    have hcnt : ∀ v : Int32, (v = if sFree τ i < 0 then gI τ 9 0 i + 1 else -1) → fX5_countHour σ (nI i) = some (v, pI s1 1 i 0 v) := fun v hv => by
      unfold fX5_countHour
      rw [if_gd (vin_nI hi (by omega)), x1, bd_some, clamp_nI (show i < 2147483648 by omega)]
      by_cases c2 : sFree τ i < 0
      · rw [if_pos c2] at hv
        rw [if_pos c2, e1, ← hv, gI_pI, if_pos ⟨rfl, rfl, rfl⟩]
      · rw [if_neg c2] at hv
        rw [if_neg c2, ← hv, gI_pI, if_pos ⟨rfl, rfl, rfl⟩]
    -- the same hour on both sides
    have hnext : ∀ v : Int32, (v = -1 ∨ v = 0 ∨ v = 1) → HI c (B + 6) (pI s1 1 i 0 v) (pI τ 9 0 i v) := fun v hv => ⟨G_mono (G_call hG1 i v v) (by omega), IL_call hL1 i v, BC_call hBC i hv, hb⟩
    by_cases c2 : sFree τ i < 0
    · obtain ⟨v, hv⟩ : ∃ v, v = gI τ 9 0 i + 1 := ⟨_, rfl⟩
      rw [hcnt v (by rw [if_pos c2]; exact hv), bd_some, if_gd (show sameN (pI s1 1 i 0 v) σ from (show sameN s1 σ from scr_same sc1)), if_pos c2, ← hv]
      have g9 : gI (pI τ 9 0 i v) 9 0 i = v := by rw [gI_pI, if_pos ⟨rfl, rfl, rfl⟩]
      rw [g9]
      rcases (hBC i hi).2 with e9 | e9 | e9
      · have hv0 : v = 0 := by rw [hv, e9]; decide
        rw [if_pos (show v < 2 by rw [hv0]; decide), if_pos (show ¬ v = 2 by rw [hv0]; decide), kst_d, kst_d, nI_1]
        exact ⟨_, _, f, 0, 0, (tk_00 _).symm, rfl, hnext v (Or.inr (Or.inl hv0)), rfl, rfl, HH_put i f v τ, by show 0 + pot σ ≤ pot s1 + 3; omega, by show 0 + pot σ ≤ pot s1 + 3; omega⟩
      · have hv0 : v = 1 := by rw [hv, e9]; decide
        rw [if_pos (show v < 2 by rw [hv0]; decide), if_pos (show ¬ v = 2 by rw [hv0]; decide), kst_d, kst_d, nI_1]
        exact ⟨_, _, f, 0, 0, (tk_00 _).symm, rfl, hnext v (Or.inr (Or.inr hv0)), rfl, rfl, HH_put i f v τ, by show 0 + pot σ ≤ pot s1 + 3; omega, by show 0 + pot σ ≤ pot s1 + 3; omega⟩
      · have hv0 : v = 2 := by rw [hv, e9]; decide
        rw [if_neg (show ¬ v < 2 by rw [hv0]; decide), if_neg (show ¬ ¬ v = 2 by rw [hv0]; decide)]
        obtain ⟨s2, t2, mc, ms, r, a1, a2, g2, fr2, k2, hr, q1, q2⟩ := co_of (by omega) hi (G_call hG1 i v v)
        rw [a1, a2, bt2_some, bd_some]
        have hP1 : pot (pI s1 1 i 0 v) = pot s1 := rfl
        rw [hP1] at q1 q2
        -- behind closing out
        have k9 : ∀ j, gI t2 9 0 j = if j = i then -1 else gI τ 9 0 j := fun j => by
          rw [fr2.2.1 j, gI_pI]
          simp only [true_and]
          by_cases e : j = i
          · rw [if_pos e, if_pos e]
          · rw [if_neg e, if_neg e, gI_pI, if_neg (fun q => e q.2.2)]
        have k1 : ∀ j, j < 5 → gI s2 1 j 0 = gI t2 9 0 j := fun j hj => by
          rw [k2 j, k9 j, gI_pI]
          simp only [true_and, and_true]
          by_cases e : j = i
          · rw [if_pos e, if_pos e]
          · rw [if_neg e, if_neg e, gI_pI, if_neg (fun q => e q.2.1)]
            exact hL1 j hj
        have hBC2 : BC t2 := fun j hj => by
          refine ⟨by rw [fr2.1 j]; exact (hBC j hj).1, ?_⟩
          rw [k9 j]
          by_cases e : j = i
          · rw [if_pos e]; exact Or.inl rfl
          · rw [if_neg e]; exact (hBC j hj).2
        have hb2 : BS c t2 := BS_of (τ := τ) hb (fun j => fr2.1 j) (fun j => fr2.2.2.1 j)
        obtain ⟨s3, x3, sc3⟩ := x_free g2.1 hi
        rw [x3, bd_some, if_gd (scr_same sc3)]
        have hG3 := G_scr sc3 g2
        have p3 := pot_scr sc3
        have hM2 : MN τ t2 := MN_tr (MN_tr (MN_hour τ i v) (MN_hour _ i (-1))) fr2.2.2.2.2.2.2
        have hS2 : SM τ t2 := SM_tr (SM_tr (SM_hour τ i v) (SM_hour _ i (-1))) fr2.2.2.2.2.2.1
        have ho2 : ∀ j, j ≠ i → gI t2 10 0 j = gI τ 10 0 j ∧ gI t2 9 0 j = gI τ 9 0 j := fun j hj => ⟨fr2.1 j, by rw [k9 j, if_neg hj]⟩
        rcases hr with ⟨rfl, hr⟩ | ⟨rfl, hr⟩
        · rw [if_pos hr, if_pos rfl, kst_d, kst_d, nI_1]
          refine ⟨s3, t2, f, mc, ms, rfl, rfl, ⟨G_mono hG3 (by omega), fun j hj => (scr_gI sc3 ..).trans (k1 j hj), hBC2, hb2⟩, fr2.2.2.2.1, fr2.2.2.2.2.1, ⟨hM2, ho2, Or.inl ⟨rfl, fr2.1 i, hS2⟩, Or.inl e9⟩, by omega, by omega⟩
        · rw [if_neg hr, if_neg (show ¬ (1 : Int32) = 0 by decide)]
          have hf2 : gI t2 10 0 i = 0 := by rw [fr2.1 i]; exact c1
          obtain ⟨s4, t4, mc4, ms4, b1, b2, g4, bs4, fb4, q3, q4⟩ := fail_of (by omega) hG3 hi hf2 hb2 hc
          rw [b1, b2, bt2_some, bd_some, kst_d, kst_d, kst_d, kst_d, nI_1]
          have tkk : ∀ X : Option ((Int32 × St) × Nat × Nat), tk mc ms (tk mc4 ms4 X) = tk (mc + mc4) (ms + ms4) X := fun X => by
            cases X with
            | none => rfl
            | some q =>
              obtain ⟨b, m, n⟩ := q
              show some (b, mc + (mc4 + m), ms + (ms4 + n)) = some (b, mc + mc4 + m, ms + ms4 + n)
              rw [Nat.add_assoc, Nat.add_assoc]
          rw [tkk]
          refine ⟨s4, t4, f + 1, mc + mc4, ms + ms4, rfl, rfl, ⟨G_mono g4 (by omega), fun j hj => ?_, fun j hj => ?_, bs4⟩, fb4.2.2.1.trans fr2.2.2.2.1, fb4.2.2.2.1.trans fr2.2.2.2.2.1, ⟨MN_tr hM2 fb4.2.2.2.2.2, fun j hj => ⟨by rw [fb4.1 j, gI_pI, if_neg (fun q => hj q.2.2)]; exact (ho2 j hj).1, (fb4.2.1 j).trans (ho2 j hj).2⟩, Or.inr ⟨rfl, c1, by rw [fb4.1 i, gI_pI, if_pos ⟨rfl, rfl, rfl⟩], e9⟩, Or.inl e9⟩, by omega, by omega⟩
          · rw [fb4.2.2.2.2.1 j, scr_gI sc3, k1 j hj, fb4.2.1 j]
          · obtain ⟨d1, d2⟩ := hBC2 j hj
            refine ⟨?_, by rw [fb4.2.1 j]; exact d2⟩
            rw [fb4.1 j, gI_pI]
            simp only [true_and]
            split
            · exact Or.inr rfl
            · exact d1
    · rw [hcnt (-1) (by rw [if_neg c2]), bd_some, if_gd (show sameN (pI s1 1 i 0 (-1)) σ from (show sameN s1 σ from scr_same sc1)), if_neg c2]
      have g9 : gI (pI τ 9 0 i (-1)) 9 0 i = -1 := by rw [gI_pI, if_pos ⟨rfl, rfl, rfl⟩]
      rw [g9, if_pos (show (-1 : Int32) < 2 by decide), if_pos (show ¬ (-1 : Int32) = 2 by decide), kst_d, kst_d, nI_1]
      exact ⟨_, _, f, 0, 0, (tk_00 _).symm, rfl, hnext (-1) (Or.inl rfl), rfl, rfl, HH_put i f (-1) τ, by show 0 + pot σ ≤ pot s1 + 3; omega, by show 0 + pot σ ≤ pot s1 + 3; omega⟩
  · rw [if_pos c1, if_pos c1, kst_d, kst_d, nI_1]
    exact ⟨σ, τ, f, 0, 0, (tk_00 _).symm, rfl, HI_mono ⟨hG, hL, hBC, hb⟩ (by omega), rfl, rfl, HH_rfl i f τ, by omega, by omega⟩
