/-! PURE: a loss, from its beginning to its end -/
def FQ0 (σ τ σ' τ' : St) : Prop := (∀ m, gI τ' 10 0 m = gI τ 10 0 m) ∧ (∀ m, gI τ' 9 0 m = gI τ 9 0 m) ∧ gI τ' 23 0 0 = gI τ 23 0 0 ∧ gI τ' 21 0 0 = gI τ 21 0 0 ∧ (∀ m, gI σ' 1 m 0 = gI σ 1 m 0) ∧ sameN σ' σ
theorem G_unp {B : Int} {σ τ : St} (h : G B σ τ) (v : Int64) : G B (pL σ 20 0 0 v) (pL τ 20 0 0 v) := by
  obtain ⟨⟨hA, hU, hP, hQ, hO, hK, hW, hN, b1, b2, b3⟩, hC, hJ, hT⟩ := h
  exact ⟨⟨hA, hU, hP, hQ, hO, hK, ⟨hW.1, rfl⟩, hN, b1, b2, b3⟩, hC, hJ, hT⟩
theorem sum_5 {c : Int} {B : Int} {m : Nat} {z : Int64} {σ τ : St} (h : G B σ (pL τ 6 0 m z)) (hb : BS c τ) (hc : 0 ≤ c ∧ c ≤ 60000000) (a b : Int64) (d : Int64) (e : Int32) (f : Int64) :
    ∃ all, all.toInt = sm (shf τ) 5 ∧ fX5_sharesOfOthers σ = some all ∧ fX6_covers_L46 1000 τ 0 0 a b e f = fX6_covers_L46 995 τ (nI 5) all a b e f := by
  obtain ⟨v1, t1, a1, b1⟩ := sumS h hb hc (j := 0) (by omega) 999 999 0 rfl a b d e f
  obtain ⟨v2, t2, a2, b2⟩ := sumS h hb hc (j := 1) (by omega) 998 998 v1 t1 a b d e f
  obtain ⟨v3, t3, a3, b3⟩ := sumS h hb hc (j := 2) (by omega) 997 997 v2 t2 a b d e f
  obtain ⟨v4, t4, a4, b4⟩ := sumS h hb hc (j := 3) (by omega) 996 996 v3 t3 a b d e f
  obtain ⟨v5, t5, a5, b5⟩ := sumS h hb hc (j := 4) (by omega) 995 995 v4 t4 a b d e f
  refine ⟨v5, t5, (a1.trans a2).trans ((a3.trans a4).trans (a5.trans ?_)), (b1.trans b2).trans ((b3.trans b4).trans b5)⟩
  show fX5_sharesOfOthers_L4 σ (994 + 1) _ _ = _
  rw [fX5_sharesOfOthers_L4.eq_2, if_pos (show (5 : Int32) ≤ nI 5 by decide)]
set_option maxHeartbeats 1000000 in
theorem others_of {c B : Int} {m : Nat} {z : Int64} {σ τ : St} (hG : G B σ (pL τ 6 0 m z)) (hb : BS c τ) (hc : 0 ≤ c ∧ c ≤ 60000000) (loss : Int64) (hL0 : 0 ≤ loss.toInt) (own : Int64) (a1 : Int32) (a2 : Int64) :
    ∃ σ' τ' paid, fX5_takeFromOthers σ loss = some (paid, σ') ∧ fX6_covers_L46 1000 τ 0 0 loss own a1 a2 = some (pL τ' 20 0 0 (gL τ' 20 0 0 + (loss - paid))) ∧ G B σ' (pL τ' 6 0 m z) ∧ BS c τ' ∧ FQ σ τ σ' τ' := by
  obtain ⟨all, hA, s1, s2⟩ := sum_5 hG hb hc loss own 0 a1 a2
  have hs := sm_bnd (f := shf τ) (n := 5) (B := c) (fun k hk => shf_b hb hc.1 hk)
  have hle : ∀ i, i < 5 → shf τ i ≤ sm (shf τ) 5 := fun i hi => sm_le hi (fun k hk => (shf_b hb hc.1 hk).1)
  have hV : ∀ j, j ≤ 5 → sm (shf τ) j ≤ 300000000 := fun j hj => by
    have h1 := sm_bnd (f := shf τ) (n := j) (B := c) (fun k hk => shf_b hb hc.1 (by omega))
    have h2 : c * (j : Int) ≤ c * 5 := Int.mul_le_mul_of_nonneg_left (by omega) hc.1
    omega
  have hA2 : 0 ≤ sm (shf τ) 5 ∧ sm (shf τ) 5 ≤ 300000000 := ⟨hs.1, hV 5 (by omega)⟩
  obtain ⟨K3, hK3⟩ : ∃ K3 : St → Int32 → Int64 → Int64 → Int64 → Int64 → Int32 → Int64 → Option St, K3 = fun s43 _ _ _ y47 _ _ _ => some (pL s43 20 0 0 ((gL s43 20 0 0) + y47)) := ⟨_, rfl⟩
  obtain ⟨K, hK⟩ : ∃ K : St → Int32 → Int64 → Int64 → Int64 → Int64 → Int32 → Int64 → Option St, K = fun s24 _ y26 y27 y28 y29 y30 y31 => fX6_covers_L196 K3 1000 s24 0 y26 y27 y28 y29 y30 y31 := ⟨_, rfl⟩
  obtain ⟨K2, hK2⟩ : ∃ K2 : St → Int32 → Int64 → Int64 → Int64 → Option (Int64 × St), K2 = fun s10 _ y12 _ _ => some ((y12, s10)) := ⟨_, rfl⟩
  -- in proportion
  obtain ⟨σ1, τ1, p1, g1, b1, f1, l1, i1, u1, x1, y1⟩ := part_S (τ0 := τ) hG hb hc (j := 0) (by omega) K hA hA2 rfl hL0 hle 0 ⟨by decide, by show (0 : Int64).toInt ≤ 0; decide, by show (0 : Int64).toInt * _ ≤ _ * 0; rw [show (0 : Int64).toInt = 0 by decide]; omega⟩ (hV 0 (by omega)) (fun _ _ => rfl) 999 999 own a1 a2
  obtain ⟨σ2, τ2, p2, g2, b2, f2, l2, i2, u2, x2, y2⟩ := part_S (τ0 := τ) g1 b1 hc (j := 1) (by omega) K hA hA2 rfl hL0 l1 p1 i1 (hV 1 (by omega)) u1 998 998 own a1 a2
  obtain ⟨σ3, τ3, p3, g3, b3, f3, l3, i3, u3, x3, y3⟩ := part_S (τ0 := τ) g2 b2 hc (j := 2) (by omega) K hA hA2 rfl hL0 l2 p2 i2 (hV 2 (by omega)) u2 997 997 own a1 a2
  obtain ⟨σ4, τ4, p4, g4, b4, f4, l4, i4, u4, x4, y4⟩ := part_S (τ0 := τ) g3 b3 hc (j := 3) (by omega) K hA hA2 rfl hL0 l3 p3 i3 (hV 3 (by omega)) u3 996 996 own a1 a2
  obtain ⟨σ5, τ5, p5, g5, b5, f5, l5, i5, u5, x5, y5⟩ := part_S (τ0 := τ) g4 b4 hc (j := 4) (by omega) K hA hA2 rfl hL0 l4 p4 i4 (hV 4 (by omega)) u4 995 995 own a1 a2
  have hf5 : FQ σ τ σ5 τ5 := FQ_tr (FQ_tr (FQ_tr f1 f2) (FQ_tr f3 f4)) f5
  have i5 : 0 ≤ p5.toInt ∧ p5.toInt ≤ sm (shf τ) 5 ∧ p5.toInt * sm (shf τ) 5 ≤ loss.toInt * sm (shf τ) 5 := i5
  have hp5 : p5.toInt ≤ loss.toInt := by
    by_cases cz : sm (shf τ) 5 = 0
    · omega
    · exact Int.le_of_mul_le_mul_right i5.2.2 (by omega)
  have hr5 : 0 ≤ (loss - p5).toInt := by
    have hlb := Int64.toInt_lt loss
    rw [sub64 rfl rfl (by omega) (by omega)]
    omega
  -- what is left, by the lowest ones
  obtain ⟨σ6, τ6, p6, g6, b6, f6, r6, x6, y6⟩ := rest_S g5 b5 hc (j := 0) (by omega) K3 K2 all loss p5 hr5 999 999 own loss all a1 a2
  obtain ⟨σ7, τ7, p7, g7, b7, f7, r7, x7, y7⟩ := rest_S g6 b6 hc (j := 1) (by omega) K3 K2 all loss p6 r6 998 998 own loss all a1 a2
  obtain ⟨σ8, τ8, p8, g8, b8, f8, r8, x8, y8⟩ := rest_S g7 b7 hc (j := 2) (by omega) K3 K2 all loss p7 r7 997 997 own loss all a1 a2
  obtain ⟨σ9, τ9, p9, g9, b9, f9, r9, x9, y9⟩ := rest_S g8 b8 hc (j := 3) (by omega) K3 K2 all loss p8 r8 996 996 own loss all a1 a2
  obtain ⟨σ', τ', p', g', b', f', r', x', y'⟩ := rest_S g9 b9 hc (j := 4) (by omega) K3 K2 all loss p9 r9 995 995 own loss all a1 a2
  refine ⟨σ', τ', p', ?_, ?_, g', b', FQ_tr (FQ_tr hf5 (FQ_tr f6 f7)) (FQ_tr (FQ_tr f8 f9) f')⟩
  · unfold fX5_takeFromOthers
    rw [s1, bd_some]
    refine (x1.trans x2).trans ((x3.trans x4).trans (x5.trans ?_))
    have e : fX5_takeFromOthers_L11 995 σ5 (nI 5) p5 all loss = fX5_takeFromOthers_L63 K2 1000 σ5 (nI 0) p5 all loss := by
      show fX5_takeFromOthers_L11 (994 + 1) _ _ _ _ _ = _
      rw [fX5_takeFromOthers_L11.eq_2, if_pos (show (5 : Int32) ≤ nI 5 by decide), hK2]
      rfl
    refine e.trans ((x6.trans x7).trans ((x8.trans x9).trans (x'.trans ?_)))
    show fX5_takeFromOthers_L63 K2 (994 + 1) _ _ _ _ _ = _
    rw [fX5_takeFromOthers_L63.eq_2, if_pos (show (5 : Int32) ≤ nI 5 by decide), hK2]
  · rw [s2]
    have e : fX6_covers_L46 995 τ (nI 5) all loss own a1 a2 = fX6_covers_L91 K 1000 τ (nI 0) loss all (loss - 0) own a1 a2 := by
      show fX6_covers_L46 (994 + 1) _ _ _ _ _ _ _ = _
      rw [fX6_covers_L46.eq_2, if_pos (show (5 : Int32) ≤ nI 5 by decide), hK, hK3, Int64.sub_zero]
      rfl
    refine e.trans ((y1.trans y2).trans ((y3.trans y4).trans (y5.trans ?_)))
    have e2 : fX6_covers_L91 K 995 τ5 (nI 5) loss all (loss - p5) own a1 a2 = fX6_covers_L196 K3 1000 τ5 (nI 0) loss all (loss - p5) own a1 a2 := by
      show fX6_covers_L91 K (994 + 1) _ _ _ _ _ _ _ _ = _
      rw [fX6_covers_L91.eq_2, if_pos (show (5 : Int32) ≤ nI 5 by decide), hK]
      rfl
    refine e2.trans ((y6.trans y7).trans ((y8.trans y9).trans (y'.trans ?_)))
    show fX6_covers_L196 K3 (994 + 1) _ _ _ _ _ _ _ _ = _
    rw [fX6_covers_L196.eq_2, if_pos (show (5 : Int32) ≤ nI 5 by decide), hK3]
set_option maxHeartbeats 1000000 in
theorem cover_of {c B : Int} {σ τ : St} (hG : G B σ τ) {m : Nat} (hm : m < 5) (hf : ¬ gI τ 10 0 m = 0) (hb : BS c τ) (hc : 0 ≤ c ∧ c ≤ 60000000) (hs : 0 ≤ (gL τ 8 0 m).toInt) :
    ∃ σ' τ', fX5_coverLoss σ m = some σ' ∧ bd (fX6_covers τ (nI m) (-gL τ 6 0 m)) (fun q9 => some (pL q9 6 0 m 0)) = some τ' ∧ G B σ' τ' ∧ BS c τ' ∧ FQ0 σ τ σ' τ' := by
  obtain ⟨a1, a2, a3⟩ := (G_IA hG) m hm
  obtain ⟨loss, hl⟩ : ∃ loss, loss = -gL τ 6 0 m := ⟨_, rfl⟩
  have hG1 : G B (rcS σ m loss) (pL τ 6 0 m 0) := G_rec hG hm loss 0 (by rw [hl]; grind)
  obtain ⟨own, ho⟩ : ∃ own, own = if gL τ 8 0 m < loss then gL τ 8 0 m else loss := ⟨_, rfl⟩
  have hG2 : G B (pL (rcS σ m loss) 1 m 0 (gL τ 8 0 m - own)) (pL (pL τ 8 0 m (gL τ 8 0 m - own)) 6 0 m 0) := by
    rw [pL_comm _ (show 8 ≠ 6 by omega)]
    exact G_share hG1 m _
  have hb2 : BS c (pL τ 8 0 m (gL τ 8 0 m - own)) := fun i hi h => by
    have hne : i ≠ m := fun e => by subst e; exact hf h
    rw [gL_pL, if_neg (fun q => hne q.2.2)]
    exact hb i hi h
  have hrest : 0 ≤ (loss - own).toInt := by
    by_cases q : gL τ 8 0 m < loss
    · have q' := (lt64 (a := gL τ 8 0 m) (b := loss) rfl rfl).mp q
      have hlb := Int64.toInt_lt loss
      rw [ho, if_pos q, sub64 rfl rfl (by omega) (by omega)]
      omega
    · rw [ho, if_neg q, Int64.sub_self]
      decide
  obtain ⟨σ3, τ3, paid, e1, e2, g3, b3, f3⟩ := others_of hG2 hb2 hc (loss - own) hrest own (nI m) loss
  have hW : gL (pL (rcS σ m loss) 1 m 0 (gL τ 8 0 m - own)) 20 0 0 = gL τ3 20 0 0 := by
    rw [f3.2.2.2.2.1]
    exact hG2.1.2.2.2.2.2.2.1.2
  have hG4 : G B (pL σ3 20 0 0 (gL τ3 20 0 0 + ((loss - own) - paid))) (pL (pL τ3 20 0 0 (gL τ3 20 0 0 + ((loss - own) - paid))) 6 0 m 0) := by
    rw [pL_comm _ (show 20 ≠ 6 by omega)]
    exact G_unp g3 _
  refine ⟨_, _, ?_, ?_, hG4, b3, ⟨f3.1, f3.2.1, f3.2.2.1, f3.2.2.2.1, f3.2.2.2.2.2.1, sameN_tr (sameN_rfl σ) f3.2.2.2.2.2.2⟩⟩
  · have hsh : gL (rcS σ m loss) 1 m 0 = gL τ 8 0 m := a2
    unfold fX5_coverLoss
    rw [a1, ← hl, kst_d, x_rec, bd_some, x_take, hsh, ← ho, bd_some, kst_d, e1, bd_some, hW]
  · have hy : fX6_covers τ (nI m) loss = fX6_covers_L46 1000 (pL τ 8 0 m (gL τ 8 0 m - own)) 0 0 (loss - own) own (nI m) loss := by
      unfold fX6_covers
      rw [if_gd (vin_nI hm (by omega)), clamp_nI (show m < 2147483648 by omega)]
      by_cases q : gL τ 8 0 m < loss
      · have q' := (lt64 (a := gL τ 8 0 m) (b := loss) rfl rfl).mp q
        rw [if_neg (fun q2 => by
          have := (le64 (a := loss) (b := gL τ 8 0 m) rfl rfl).mp q2
          omega), ho, if_pos q, kst_d, kst_d]
      · have q' := mt (lt64 (a := gL τ 8 0 m) (b := loss) rfl rfl).mpr q
        rw [if_pos ((le64 (a := loss) (b := gL τ 8 0 m) rfl rfl).mpr (by omega)), ho, if_neg q, kst_d]
    rw [← hl, hy, e2, bd_some]
