/-! PURE: a loss, from its beginning to its end -/
def FQ0 (σ τ σ' τ' : St) : Prop := (∀ m, gI τ' 10 0 m = gI τ 10 0 m) ∧ (∀ m, gI τ' 9 0 m = gI τ 9 0 m) ∧ gI τ' 23 0 0 = gI τ 23 0 0 ∧ gI τ' 21 0 0 = gI τ 21 0 0 ∧ (∀ m, gI σ' 1 m 0 = gI σ 1 m 0) ∧ sameN σ' σ
theorem G_unp {B : Int} {σ τ : St} (h : G B σ τ) (v : Int64) : G B (pL σ 20 0 0 v) (pL τ 20 0 0 v) := by
  obtain ⟨⟨hA, hU, hP, hQ, hO, hK, hW, hN, b1, b2, b3⟩, hC, hJ, hT⟩ := h
  exact ⟨⟨hA, hU, hP, hQ, hO, hK, ⟨hW.1, rfl⟩, hN, b1, b2, b3⟩, hC, hJ, hT⟩
theorem sum_5 {c : Int} {B : Int} {m : Nat} {z : Int64} {σ τ : St} (h : G B σ (pL τ 6 0 m z)) (hb : BS c τ) (hc : 0 ≤ c ∧ c ≤ 60000000) (a b : Int64) (d : Int64) (e : Int32) (f : Int64) :
    ∃ all, all.toInt = sm (shf τ) 5 ∧ fX5_sharesOfOthers σ = some all ∧ fX6_covers_L46 1000 τ 0 0 a b e f = fX6_covers_L46 995 τ (nI 5) all a b e f := by
  obtain ⟨v1, t1, a1, b1⟩ := sumS h hb hc (j := 0) (by omega) 999 999 0 rfl a b d e f
  obtain ⟨v2, t2, a2, b2⟩ := sumS h hb hc (j := 1) (by omega) 998 998 v1 t1 a b d e f
  obtain ⟨v3, t3, a3, b3⟩ := sumS h hb hc (j := 2) (by omega) 997 997 v2 t2 a b d e f
  obtain ⟨v4, t4, a4, b4⟩ := sumS h hb hc (j := 3) (by omega) 996 996 v3 t3 a b d e f
  obtain ⟨v5, t5, a5, b5⟩ := sumS h hb hc (j := 4) (by omega) 995 995 v4 t4 a b d e f
  refine ⟨v5, t5, (a1.trans a2).trans ((a3.trans a4).trans (a5.trans ?_)), (b1.trans b2).trans ((b3.trans b4).trans b5)⟩
  show fX5_sharesOfOthers_L4 σ (994 + 1) _ _ = _
  rw [fX5_sharesOfOthers_L4.eq_2, if_pos (show (5 : Int32) ≤ nI 5 by decide)]
set_option maxHeartbeats 1000000 in
theorem others_of {c B : Int} {m : Nat} {z : Int64} {σ τ : St} (hG : G B σ (pL τ 6 0 m z)) (hb : BS c τ) (hc : 0 ≤ c ∧ c ≤ 60000000) (loss : Int64) (hL0 : 0 ≤ loss.toInt) (own : Int64) (a1 : Int32) (a2 : Int64) :
    ∃ σ' τ' paid, fX5_takeFromOthers σ loss = some (paid, σ') ∧ fX6_covers_L46 1000 τ 0 0 loss own a1 a2 = some (pL τ' 20 0 0 (gL τ' 20 0 0 + (loss - paid))) ∧ G B σ' (pL τ' 6 0 m z) ∧ BS c τ' ∧ FQ σ τ σ' τ' ∧ 0 ≤ (loss - paid).toInt ∧ SHr τ τ' (loss.toInt - (loss - paid).toInt) := by
  obtain ⟨all, hA, s1, s2⟩ := sum_5 hG hb hc loss own 0 a1 a2
  have hs := sm_bnd (f := shf τ) (n := 5) (B := c) (fun k hk => shf_b hb hc.1 hk)
  have hle : ∀ i, i < 5 → shf τ i ≤ sm (shf τ) 5 := fun i hi => sm_le hi (fun k hk => (shf_b hb hc.1 hk).1)
  have hV : ∀ j, j ≤ 5 → sm (shf τ) j ≤ 300000000 := fun j hj => by
    have h1 := sm_bnd (f := shf τ) (n := j) (B := c) (fun k hk => shf_b hb hc.1 (by omega))
    have h2 : c * (j : Int) ≤ c * 5 := Int.mul_le_mul_of_nonneg_left (by omega) hc.1
    omega
  have hA2 : 0 ≤ sm (shf τ) 5 ∧ sm (shf τ) 5 ≤ 300000000 := ⟨hs.1, hV 5 (by omega)⟩
  obtain ⟨K3, hK3⟩ : ∃ K3 : St → Int32 → Int64 → Int64 → Int64 → Int64 → Int32 → Int64 → Option St, K3 = fun s43 _ _ _ y47 _ _ _ => some (pL s43 20 0 0 ((gL s43 20 0 0) + y47)) := ⟨_, rfl⟩
  obtain ⟨K, hK⟩ : ∃ K : St → Int32 → Int64 → Int64 → Int64 → Int64 → Int32 → Int64 → Option St, K = fun s24 _ y26 y27 y28 y29 y30 y31 => fX6_covers_L196 K3 1000 s24 0 y26 y27 y28 y29 y30 y31 := ⟨_, rfl⟩
  obtain ⟨K2, hK2⟩ : ∃ K2 : St → Int32 → Int64 → Int64 → Int64 → Option (Int64 × St), K2 = fun s10 _ y12 _ _ => some ((y12, s10)) := ⟨_, rfl⟩
  -- in proportion
  obtain ⟨σ1, τ1, p1, g1, b1, f1, l1, i1, u1, w1, x1, y1⟩ := part_S (τ0 := τ) hG hb hc (j := 0) (by omega) K hA hA2 rfl hL0 hle 0 ⟨by decide, by show (0 : Int64).toInt ≤ 0; decide, by show (0 : Int64).toInt * _ ≤ _ * 0; rw [show (0 : Int64).toInt = 0 by decide]; omega⟩ (hV 0 (by omega)) (fun _ _ => rfl) 999 999 own a1 a2
  obtain ⟨σ2, τ2, p2, g2, b2, f2, l2, i2, u2, w2, x2, y2⟩ := part_S (τ0 := τ) g1 b1 hc (j := 1) (by omega) K hA hA2 rfl hL0 l1 p1 i1 (hV 1 (by omega)) u1 998 998 own a1 a2
  obtain ⟨σ3, τ3, p3, g3, b3, f3, l3, i3, u3, w3, x3, y3⟩ := part_S (τ0 := τ) g2 b2 hc (j := 2) (by omega) K hA hA2 rfl hL0 l2 p2 i2 (hV 2 (by omega)) u2 997 997 own a1 a2
  obtain ⟨σ4, τ4, p4, g4, b4, f4, l4, i4, u4, w4, x4, y4⟩ := part_S (τ0 := τ) g3 b3 hc (j := 3) (by omega) K hA hA2 rfl hL0 l3 p3 i3 (hV 3 (by omega)) u3 996 996 own a1 a2
  obtain ⟨σ5, τ5, p5, g5, b5, f5, l5, i5, u5, w5, x5, y5⟩ := part_S (τ0 := τ) g4 b4 hc (j := 4) (by omega) K hA hA2 rfl hL0 l4 p4 i4 (hV 4 (by omega)) u4 995 995 own a1 a2
  have hf5 : FQ σ τ σ5 τ5 := FQ_tr (FQ_tr (FQ_tr f1 f2) (FQ_tr f3 f4)) f5
  have i5 : 0 ≤ p5.toInt ∧ p5.toInt ≤ sm (shf τ) 5 ∧ p5.toInt * sm (shf τ) 5 ≤ loss.toInt * sm (shf τ) 5 := i5
  have hp5 : p5.toInt ≤ loss.toInt := by
    by_cases cz : sm (shf τ) 5 = 0
    · omega
    · exact Int.le_of_mul_le_mul_right i5.2.2 (by omega)
  have hr5 : 0 ≤ (loss - p5).toInt := by
    have hlb := Int64.toInt_lt loss
    rw [sub64 rfl rfl (by omega) (by omega)]
    omega
  -- what is left, by the lowest ones
  obtain ⟨σ6, τ6, p6, g6, b6, f6, r6, w6, x6, y6⟩ := rest_S g5 b5 hc (j := 0) (by omega) K3 K2 all loss p5 hr5 999 999 own loss all a1 a2
  obtain ⟨σ7, τ7, p7, g7, b7, f7, r7, w7, x7, y7⟩ := rest_S g6 b6 hc (j := 1) (by omega) K3 K2 all loss p6 r6 998 998 own loss all a1 a2
  obtain ⟨σ8, τ8, p8, g8, b8, f8, r8, w8, x8, y8⟩ := rest_S g7 b7 hc (j := 2) (by omega) K3 K2 all loss p7 r7 997 997 own loss all a1 a2
  obtain ⟨σ9, τ9, p9, g9, b9, f9, r9, w9, x9, y9⟩ := rest_S g8 b8 hc (j := 3) (by omega) K3 K2 all loss p8 r8 996 996 own loss all a1 a2
  obtain ⟨σ', τ', p', g', b', f', r', w', x', y'⟩ := rest_S g9 b9 hc (j := 4) (by omega) K3 K2 all loss p9 r9 995 995 own loss all a1 a2
  have hsh := SH_tr (SH_tr (SH_tr (SH_tr w1 w2) (SH_tr w3 w4)) (SH_tr w5 (SH_tr w6 w7))) (SH_tr (SH_tr w8 w9) w')
  have hsh : SHr τ τ' (loss.toInt - (loss - p').toInt) := by
    have e0 : (loss - 0).toInt = loss.toInt := by rw [Int64.sub_zero]
    rw [e0] at hsh
    have e1 : ∀ a b : Int, a = b → SHr τ τ' a → SHr τ τ' b := fun a b h => by rw [h]; exact id
    exact e1 _ _ (by omega) hsh
  refine ⟨σ', τ', p', ?_, ?_, g', b', FQ_tr (FQ_tr hf5 (FQ_tr f6 f7)) (FQ_tr (FQ_tr f8 f9) f'), r', hsh⟩
  · unfold fX5_takeFromOthers
    rw [s1, bd_some]
    refine (x1.trans x2).trans ((x3.trans x4).trans (x5.trans ?_))
    have e : fX5_takeFromOthers_L11 995 σ5 (nI 5) p5 all loss = fX5_takeFromOthers_L63 K2 1000 σ5 (nI 0) p5 all loss := by
      show fX5_takeFromOthers_L11 (994 + 1) _ _ _ _ _ = _
      rw [fX5_takeFromOthers_L11.eq_2, if_pos (show (5 : Int32) ≤ nI 5 by decide), hK2]
      rfl
    refine e.trans ((x6.trans x7).trans ((x8.trans x9).trans (x'.trans ?_)))
    show fX5_takeFromOthers_L63 K2 (994 + 1) _ _ _ _ _ = _
    rw [fX5_takeFromOthers_L63.eq_2, if_pos (show (5 : Int32) ≤ nI 5 by decide), hK2]
  · rw [s2]
    have e : fX6_covers_L46 995 τ (nI 5) all loss own a1 a2 = fX6_covers_L91 K 1000 τ (nI 0) loss all (loss - 0) own a1 a2 := by
      show fX6_covers_L46 (994 + 1) _ _ _ _ _ _ _ = _
      rw [fX6_covers_L46.eq_2, if_pos (show (5 : Int32) ≤ nI 5 by decide), hK, hK3, Int64.sub_zero]
      rfl
    refine e.trans ((y1.trans y2).trans ((y3.trans y4).trans (y5.trans ?_)))
    have e2 : fX6_covers_L91 K 995 τ5 (nI 5) loss all (loss - p5) own a1 a2 = fX6_covers_L196 K3 1000 τ5 (nI 0) loss all (loss - p5) own a1 a2 := by
      show fX6_covers_L91 K (994 + 1) _ _ _ _ _ _ _ _ = _
      rw [fX6_covers_L91.eq_2, if_pos (show (5 : Int32) ≤ nI 5 by decide), hK]
      rfl
    refine e2.trans ((y6.trans y7).trans ((y8.trans y9).trans (y'.trans ?_)))
    show fX6_covers_L196 K3 (994 + 1) _ _ _ _ _ _ _ _ = _
    rw [fX6_covers_L196.eq_2, if_pos (show (5 : Int32) ≤ nI 5 by decide), hK3]
set_option maxHeartbeats 1000000 in
/-- a loss that is covered: nothing is made of it -/
theorem MN_cover {τ τ3 : St} (hO : BO τ) {m : Nat} (hm : m < 5) (hs : 0 ≤ (gL τ 8 0 m).toInt) {loss own paid : Int64} (hl : loss = -gL τ 6 0 m) (ho : own = if gL τ 8 0 m < loss then gL τ 8 0 m else loss) (hw : SHr (pL τ 8 0 m (gL τ 8 0 m - own)) τ3 ((loss - own).toInt - (loss - own - paid).toInt)) (hr : 0 ≤ (loss - own - paid).toInt) (hz : sEq τ m = gL τ 6 0 m) (hneg : (gL τ 6 0 m).toInt < 0) : MN τ (pL (pL τ3 20 0 0 (gL τ3 20 0 0 + ((loss - own) - paid))) 6 0 m 0) := fun K hK => by
  have hl0 := lf_sum hO
  have hb := PSI_b hK hl0
  have hK1 := hK.1
  have hbm := hb m hm
  have he : eqI τ m = (gL τ 6 0 m).toInt := by unfold eqI; rw [hz]
  have hL : loss.toInt = -(gL τ 6 0 m).toInt := by rw [hl]; exact neg64 rfl (by omega)
  have ho2 : 0 ≤ own.toInt ∧ own.toInt ≤ (gL τ 8 0 m).toInt ∧ own.toInt ≤ loss.toInt := by
    by_cases q : gL τ 8 0 m < loss
    · have q' := (lt64 (a := gL τ 8 0 m) (b := loss) rfl rfl).mp q
      rw [ho, if_pos q]
      omega
    · have q' := mt (lt64 (a := gL τ 8 0 m) (b := loss) rfl rfl).mpr q
      rw [ho, if_neg q]
      omega
  have hb8 := Int64.toInt_lt (gL τ 8 0 m)
  have hbl := Int64.toInt_lt loss
  have hsub : (gL τ 8 0 m - own).toInt = (gL τ 8 0 m).toInt - own.toInt := sub64 rfl rfl (by omega) (by omega)
  have hlo : (loss - own).toInt = loss.toInt - own.toInt := sub64 rfl rfl (by omega) (by omega)
  have w1 := SH_put (τ := τ) hm (v := gL τ 8 0 m - own) (by rw [hsub]; omega) (by rw [hsub]; show _ ≤ (gL τ 8 0 m).toInt; omega)
  obtain ⟨v1, v2, v3, v4, v5⟩ := SH_tr w1 hw
  have e9 : shI τ m - (gL τ 8 0 m - own).toInt = own.toInt := by rw [hsub]; show (gL τ 8 0 m).toInt - _ = _; omega
  obtain ⟨-, -, -, -, v6⟩ := hw
  rw [e9, hlo] at v4
  rw [hlo] at v6
  generalize hrr : loss - own - paid = rr at hr v4 v6
  have hun : unI τ3 = unI τ := by unfold unI; rw [v1 20 0 0 (by decide)]
  generalize ht : pL (pL τ3 20 0 0 (gL τ3 20 0 0 + rr)) 6 0 m 0 = τ'
  have gi : ∀ f i j, gI τ' f i j = gI τ f i j := fun f i j => by rw [← ht]; exact v2 f i j
  have gl : ∀ f i j, f ≠ 8 → f ≠ 20 → f ≠ 6 → gL τ' f i j = gL τ f i j := fun f i j h1 h2 h3 => by
    rw [← ht, gL_pL, if_neg (fun q => h3 q.1), gL_pL, if_neg (fun q => h2 q.1)]
    exact v1 f i j h1
  have g8 : ∀ j, shI τ' j = shI τ3 j := fun j => by
    unfold shI
    rw [← ht, gL_pL, if_neg (by simp), gL_pL, if_neg (by simp)]
  have g6 : ∀ j, gL τ' 6 0 j = if j = m then 0 else gL τ 6 0 j := fun j => by
    rw [← ht, gL_pL]
    simp only [true_and]
    by_cases c : j = m
    · rw [if_pos c, if_pos c]
    · rw [if_neg c, if_neg c, gL_pL, if_neg (by simp)]
      exact v1 6 0 j (by decide)
  have g20 : unI τ' = unI τ + rr.toInt := by
    have h20 : gL τ' 20 0 0 = gL τ3 20 0 0 + rr := by
      rw [← ht, gL_pL, if_neg (by simp), gL_pL, if_pos ⟨rfl, rfl, rfl⟩]
    unfold unI at hun hbm ⊢
    rw [h20, add64 hun rfl (by omega) (by omega)]
  have hdif : ∀ j p, sDif τ' j p = sDif τ j p := fun j p => by
    unfold sDif
    rw [gi, gi, gl 5 0 _ (by decide) (by decide) (by decide)]
  have heq : ∀ j, eqI τ' j = if j = m then 0 else eqI τ j := fun j => by
    by_cases c : j = m
    · subst c
      rw [if_pos rfl]
      have h0 : sEq τ' j = 0 := by
        unfold sEq at hz ⊢
        rw [hdif, hdif, hdif, g6, if_pos rfl]
        grind
      unfold eqI
      rw [h0]
      decide
    · rw [if_neg c]
      unfold eqI sEq
      rw [hdif, hdif, hdif, g6, if_neg c]
  have hkq : ∀ k j, kq τ' k j = kq τ k j := fun k j => gi _ _ _
  have hco : ∀ j, coI τ' j = coI τ j := fun j => by
    unfold coI sCol sWor sHair
    simp only [hkq, gi]
  have htn : tn τ' = tn τ := by unfold tn; rw [gi]
  have hlf : sm (lf τ') (tn τ') = sm (lf τ) (tn τ) := by
    rw [htn]
    exact sm_congr (fun k _ => by unfold lf; rw [gi])
  obtain ⟨h1, h2, h3, h4, h5, h6, h7, h8⟩ := hK
  have k0 := heq 0
  have k1 := heq 1
  have k2 := heq 2
  have k3 := heq 3
  have k4 := heq 4
  have key : sm (fun j => ((eqI τ' j).natAbs : Int)) 5 = sm (fun j => ((eqI τ j).natAbs : Int)) 5 - ((eqI τ m).natAbs : Int) + 0 := by
    have u := sm_upd (f := fun j => ((eqI τ j).natAbs : Int)) (g := fun j => ((eqI τ' j).natAbs : Int)) hm (fun k _ hk => by rw [heq, if_neg hk])
    rw [u, heq, if_pos rfl]
    rfl
  have key2 : sm (eqI τ') 5 = sm (eqI τ) 5 - eqI τ m + 0 := by
    have u := sm_upd (f := eqI τ) (g := eqI τ') hm (fun k _ hk => by rw [heq, if_neg hk])
    rw [u, heq, if_pos rfl]
  have hs3 : sm (shI τ') 5 = sm (shI τ3) 5 := sm_congr (fun k _ => g8 k)
  rw [← hs3] at v4
  rw [sm5, sm5] at key key2 v4
  refine ⟨⟨h1, fun p hp => by unfold prI; rw [gi]; exact h2 p hp, fun k hk => by rw [gi]; exact h3 k (by rw [← htn]; exact hk), fun k hk => ⟨by rw [g8]; exact v3 k hk (h4 k hk).1, by rw [hco]; exact (h4 k hk).2⟩, by rw [g20]; omega, fun j hj => by rw [gi]; exact h6 j hj, fun k hk => by simp only [hkq]; exact h7 k hk, ?_⟩, ?_, ?_, ?_⟩
  · unfold PSI at h8 ⊢
    rw [sm5] at h8 ⊢
    rw [hlf, g20]
    simp only [hco]
    omega
  · unfold CQ
    rw [sm5, sm5, g20]
    simp only [hco]
    omega
  · rw [sm5, sm5]
    omega
  · rw [g20]
    omega
set_option maxHeartbeats 1000000 in
theorem cover_of {c B : Int} {σ τ : St} (hG : G B σ τ) {m : Nat} (hm : m < 5) (hf : ¬ gI τ 10 0 m = 0) (hb : BS c τ) (hc : 0 ≤ c ∧ c ≤ 60000000) (hs : 0 ≤ (gL τ 8 0 m).toInt) :
    ∃ σ' τ', fX5_coverLoss σ m = some σ' ∧ bd (fX6_covers τ (nI m) (-gL τ 6 0 m)) (fun q9 => some (pL q9 6 0 m 0)) = some τ' ∧ G B σ' τ' ∧ BS c τ' ∧ FQ0 σ τ σ' τ' ∧ (sEq τ m = gL τ 6 0 m → (gL τ 6 0 m).toInt < 0 → MN τ τ') := by
  obtain ⟨a1, a2, a3⟩ := (G_IA hG) m hm
  obtain ⟨loss, hl⟩ : ∃ loss, loss = -gL τ 6 0 m := ⟨_, rfl⟩
  have hG1 : G B (rcS σ m loss) (pL τ 6 0 m 0) := G_rec hG hm loss 0 (by rw [hl]; grind)
  obtain ⟨own, ho⟩ : ∃ own, own = if gL τ 8 0 m < loss then gL τ 8 0 m else loss := ⟨_, rfl⟩
  have hG2 : G B (pL (rcS σ m loss) 1 m 0 (gL τ 8 0 m - own)) (pL (pL τ 8 0 m (gL τ 8 0 m - own)) 6 0 m 0) := by
    rw [pL_comm _ (show 8 ≠ 6 by omega)]
    exact G_share hG1 m _
  have hb2 : BS c (pL τ 8 0 m (gL τ 8 0 m - own)) := fun i hi h => by
    have hne : i ≠ m := fun e => by subst e; exact hf h
    rw [gL_pL, if_neg (fun q => hne q.2.2)]
    exact hb i hi h
  have hrest : 0 ≤ (loss - own).toInt := by
    by_cases q : gL τ 8 0 m < loss
    · have q' := (lt64 (a := gL τ 8 0 m) (b := loss) rfl rfl).mp q
      have hlb := Int64.toInt_lt loss
      rw [ho, if_pos q, sub64 rfl rfl (by omega) (by omega)]
      omega
    · rw [ho, if_neg q, Int64.sub_self]
      decide
  obtain ⟨σ3, τ3, paid, e1, e2, g3, b3, f3, r3, w3⟩ := others_of hG2 hb2 hc (loss - own) hrest own (nI m) loss
  have hW : gL (pL (rcS σ m loss) 1 m 0 (gL τ 8 0 m - own)) 20 0 0 = gL τ3 20 0 0 := by
    rw [f3.2.2.2.2.1]
    exact hG2.1.2.2.2.2.2.2.1.2
  have hG4 : G B (pL σ3 20 0 0 (gL τ3 20 0 0 + ((loss - own) - paid))) (pL (pL τ3 20 0 0 (gL τ3 20 0 0 + ((loss - own) - paid))) 6 0 m 0) := by
    rw [pL_comm _ (show 20 ≠ 6 by omega)]
    exact G_unp g3 _
  refine ⟨_, _, ?_, ?_, hG4, b3, ⟨f3.1, f3.2.1, f3.2.2.1, f3.2.2.2.1, f3.2.2.2.2.2.1, sameN_tr (sameN_rfl σ) f3.2.2.2.2.2.2⟩, fun hz hneg => ?_⟩
  · have hsh : gL (rcS σ m loss) 1 m 0 = gL τ 8 0 m := a2
    unfold fX5_coverLoss
    rw [a1, ← hl, kst_d, x_rec, bd_some, x_take, hsh, ← ho, bd_some, kst_d, e1, bd_some, hW]
  · have hy : fX6_covers τ (nI m) loss = fX6_covers_L46 1000 (pL τ 8 0 m (gL τ 8 0 m - own)) 0 0 (loss - own) own (nI m) loss := by
      unfold fX6_covers
      rw [if_gd (vin_nI hm (by omega)), clamp_nI (show m < 2147483648 by omega)]
      by_cases q : gL τ 8 0 m < loss
      · have q' := (lt64 (a := gL τ 8 0 m) (b := loss) rfl rfl).mp q
        rw [if_neg (fun q2 => by
          have := (le64 (a := loss) (b := gL τ 8 0 m) rfl rfl).mp q2
          omega), ho, if_pos q, kst_d, kst_d]
      · have q' := mt (lt64 (a := gL τ 8 0 m) (b := loss) rfl rfl).mpr q
        rw [if_pos ((le64 (a := loss) (b := gL τ 8 0 m) rfl rfl).mpr (by omega)), ho, if_neg q, kst_d]
    rw [← hl, hy, e2, bd_some]
  · exact MN_cover (G_BO hG) hm hs hl ho w3 r3 hz hneg
