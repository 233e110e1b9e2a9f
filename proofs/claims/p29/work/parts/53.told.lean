/-! PURE, the calls: what is told; money and collateral -/
theorem INV_of {n : Nat} {σ τ σ' τ' : St} (h : INV n σ τ) (hG : G ((tn τ : Int) + 30 * n) σ' τ') (hL : ∀ m, gI σ' 1 m 0 = gI σ 1 m 0) (h9 : ∀ m, gI τ' 9 0 m = gI τ 9 0 m) (h10 : ∀ m, gI τ' 10 0 m = gI τ 10 0 m) (h8 : ∀ m, gL τ' 8 0 m = gL τ 8 0 m) (h21 : gI τ' 21 0 0 = gI τ 21 0 0) : INV (n + 1) σ' τ' := by
  have ht : tn τ' = tn τ := by unfold tn; rw [h21]
  refine INV_next ⟨?_, fun j hj => ?_, fun j hj => ?_, BS_of h.2.2.2 h10 h8⟩
  · rw [ht]; exact hG
  · rw [hL, h9]; exact h.2.1 j hj
  · rw [h10, h9]; exact h.2.2.1 j hj
theorem G_price {B : Int} {σ τ : St} (h : G B σ τ) {p : Nat} {v : Int32} (hv : 1 ≤ v.toInt ∧ v.toInt ≤ 9999) : G B (pI σ 2 p 0 v) (pI τ 1 0 p v) := by
  obtain ⟨⟨hA, hU, hP, hQ, hO, hK, hW, hN, b1, b2, b3⟩, hC, hJ, hT⟩ := h
  refine ⟨⟨hA, hU, hP, fun q hq => ?_, hO, hK, hW, hN, b1, fun q hq => ?_, b3⟩, hC, hJ, hT⟩
  · obtain ⟨a1, a2, a3⟩ := hQ q hq
    refine ⟨?_, a2, a3⟩
    rw [gI_pI, gI_pI]
    simp only [true_and, and_true]
    by_cases c : q = p
    · rw [if_pos c, if_pos c]
    · rw [if_neg c, if_neg c]; exact a1
  · obtain ⟨a1, a2, a3⟩ := b2 q hq
    have e : gI (pI τ 1 0 p v) 1 0 q = if q = p then v else gI τ 1 0 q := by
      rw [gI_pI]
      simp only [true_and]
    refine ⟨?_, ?_, a3⟩ <;> rw [e] <;> split
    · exact hv.1
    · exact a1
    · exact hv.2
    · exact a2
theorem c_tell {n : Nat} {σ τ : St} (h : INV n σ τ) (a b : Int32) : STEP P1 n σ (fX5_tell σ a b) (fX6_tell τ a b) := by
  unfold fX5_tell fX6_tell
  rcases product_c a with ⟨p, hp, rfl, e1, e2⟩ | ⟨e1, e2⟩
  · rcases within_c b 1 9999 (L := 1) (H := 9999) (by decide) (by decide) with ⟨hb, e3, e4⟩ | ⟨e3, e4⟩
    · rw [e1, e2, xb_r, e3, bd_some, if_neg h10, e4, bd_some, if_neg h10, asks1, bd_some, if_pos h10, xb_r, if_gd (vin_nI hp (by omega)), if_gd (vin_nI hp (by omega)), clamp_nI (show p < 2147483648 by omega), kst_d, kst_d]
      refine STEP_ok (INV_of h (G_price h.1 (τ := pI τ 23 0 0 0) hb) (fun _ => rfl) (fun _ => rfl) (fun _ => rfl) (fun _ => rfl) rfl) rfl (Nat.le_refl _) ?_
      exact ((G_IQ h.1) p hp).1
    · rw [e1, e2, xb_r, e3, bd_some, if_neg h10, e4, bd_some, if_pos rfl, asks0, bd_some, if_neg (not_not_intro rfl), xb_l]
      exact STEP_no h p11 0
  · rw [e1, e2, xb_l, bd_some, if_pos rfl, asks0, bd_some, if_neg (not_not_intro rfl)]
    exact STEP_no h p11 0
theorem G_move {B : Int} {σ τ : St} (h : G B σ τ) {p w : Nat} (hp : p < 3) {v : Int32} (hv : -500 ≤ v.toInt ∧ v.toInt ≤ 500) : G B (pI σ 8 p w v) (pI τ 2 0 (3 * w + p) v) := by
  obtain ⟨⟨hA, hU, hP, hQ, hO, hK, hW, hN, b1, b2, b3⟩, hC, hJ, hT⟩ := h
  refine ⟨⟨hA, hU, hP, fun q hq => ?_, hO, hK, hW, hN, b1, fun q hq => ?_, b3⟩, hC, hJ, hT⟩
  · obtain ⟨a1, a2, a3⟩ := hQ q hq
    refine ⟨a1, a2, fun u hu => ?_⟩
    rw [gI_pI, gI_pI]
    simp only [true_and]
    by_cases c : q = p ∧ u = w
    · rw [if_pos c, if_pos (by omega)]
    · rw [if_neg c, if_neg (by omega)]; exact a3 u hu
  · obtain ⟨a1, a2, a3, a4⟩ := b2 q hq
    refine ⟨a1, a2, a3, fun u hu => ?_⟩
    have e : gI (pI τ 2 0 (3 * w + p) v) 2 0 (3 * u + q) = if 3 * u + q = 3 * w + p then v else gI τ 2 0 (3 * u + q) := by
      rw [gI_pI]
      simp only [true_and]
    rw [e]
    split
    · exact hv
    · exact a4 u hu
theorem c_setMove {n : Nat} {σ τ : St} (h : INV n σ τ) (a b c : Int32) : STEP P1 n σ (fX5_setMove σ a b c) (fX6_setMove τ a b c) := by
  unfold fX5_setMove fX6_setMove
  rcases within_c a 0 3 (L := 0) (H := 3) (by decide) (by decide) with ⟨ha, e1, e2⟩ | ⟨e1, e2⟩
  · obtain ⟨v, hv, rfl⟩ := nI_range (a := a) (N := 4) (by omega)
    rcases product_c b with ⟨p, hp, rfl, e3, e4⟩ | ⟨e3, e4⟩
    · rcases within_c c (-500) 500 (L := -500) (H := 500) (by decide) (by decide) with ⟨hc, e5, e6⟩ | ⟨e5, e6⟩
      · rw [e1, e2, xb_r, e3, bd_some, if_neg h10, e4, bd_some, if_neg h10, e6, bd_some, if_neg h10, asks1, bd_some, if_pos h10, xb_r, e5, xb_r, if_gd (vin_nI hp (by omega)), if_gd (vin_nI hv (by omega)), if_gd (ixv v hv p hp).2, (ixv v hv p hp).1, clamp_nI (show p < 2147483648 by omega), clamp_nI (show v < 2147483648 by omega), kst_d, kst_d]
        refine STEP_ok (INV_of h (G_move h.1 (τ := pI τ 23 0 0 0) hp hc) (fun _ => rfl) (fun _ => rfl) (fun _ => rfl) (fun _ => rfl) rfl) rfl (Nat.le_refl _) ?_
        exact ((G_IQ h.1) p hp).2.2 v hv
      · rw [e1, e2, xb_r, e3, bd_some, if_neg h10, e4, bd_some, if_neg h10, e6, bd_some, if_pos rfl, asks0, bd_some, if_neg (not_not_intro rfl), xb_r, e5, xb_l]
        exact STEP_no h p11 0
    · rw [e1, e2, xb_r, e3, bd_some, if_neg h10, e4, bd_some, if_pos rfl, asks0, bd_some, if_neg (not_not_intro rfl), xb_l]
      exact STEP_no h p11 0
  · rw [e1, e2, xb_l, bd_some, if_pos rfl, asks0, bd_some, if_neg (not_not_intro rfl)]
    exact STEP_no h p11 0
theorem x_tkS {σ : St} {k j : Nat} (h1 : 1 ≤ j) (hj : j < 4) (n : Nat) (a b : Int32) : fX5_tellKind_L25 (n + 1) σ (nI j) k a b = fX5_tellKind_L25 n (pI σ 11 k (j - 1) (gI σ 11 k j)) (nI (j + 1)) k a b := by
  have e : nI j - 1 = nI (j - 1) := by
    obtain ⟨i, rfl⟩ : ∃ i, j = i + 1 := ⟨j - 1, by omega⟩
    rw [nI_pred]
    rfl
  rw [fX5_tellKind_L25.eq_2, if_neg (show ¬ (4 : Int32) ≤ nI j from nI_ge (a := j) (b := 4) hj (by omega)), if_gd (vin_nI hj (by omega)), e, if_gd (vin_nI (show j - 1 < 4 by omega) (by omega)), clamp_nI (show j < 2147483648 by omega), clamp_nI (show j - 1 < 2147483648 by omega), kst_d, nI_1]
theorem y_tkS {τ : St} {k j : Nat} (hk : k < 2) (hj : j < 3) (n : Nat) (b : Int32) : fX6_tellKind_L36 (n + 1) τ (nI (j + 1)) (nI k) b = fX6_tellKind_L36 n (pI τ 3 0 (4 * k + (j + 1)) (gI τ 3 0 (4 * k + j))) (nI j) (nI k) b := by
  have e : (4 * nI k + nI (j + 1)) - 1 = 4 * nI k + nI j := by
    rw [← nI_1, ← Int32.add_assoc, Int32.add_sub_cancel]
  have e2 : nI (j + 1) + (-1) = nI j := by rw [← nI_1]; grind
  rw [fX6_tellKind_L36.eq_2, if_neg (nI_nle (n := j + 1) (by omega) (by omega)), e, if_gd (ix4 k hk j (by omega)).2, if_gd (ix4 k hk (j + 1) (by omega)).2, (ix4 k hk j (by omega)).1, (ix4 k hk (j + 1) (by omega)).1, kst_d, e2]
theorem HR_tell {L0 L1 L2 L3 q0 q1 q2 q3 v : Int32} (h : HR L0 L1 L2 L3 q0 q1 q2 q3) (hv : 1 ≤ v.toInt ∧ v.toInt ≤ 9999) : HR L1 L2 L3 v v q0 q1 q2 := by
  obtain ⟨h1, h2, h3, h4, h5, h6⟩ := h
  refine ⟨rfl, hv.1, hv.2, Or.inl ⟨h2, h1⟩, ?_, ?_⟩
  · rcases h4 with ⟨a, b⟩ | ⟨a, b, c⟩
    · exact Or.inl ⟨a, b⟩
    · exact Or.inr ⟨a, b, Or.inr c⟩
  · rcases h5 with ⟨a, b⟩ | ⟨a, b, c⟩
    · exact Or.inl ⟨a, b⟩
    · exact Or.inr ⟨a, b, Or.inr c⟩
def tkS (σ : St) (k : Nat) (v : Int32) : St := pI (pI (pI (pI σ 11 k 0 (gI σ 11 k 1)) 11 k 1 (gI σ 11 k 2)) 11 k 2 (gI σ 11 k 3)) 11 k 3 v
def tkT (τ : St) (k : Nat) (v : Int32) : St := pI (pI (pI (pI τ 3 0 (4 * k + 3) (gI τ 3 0 (4 * k + 2))) 3 0 (4 * k + 2) (gI τ 3 0 (4 * k + 1))) 3 0 (4 * k + 1) (gI τ 3 0 (4 * k + 0))) 3 0 (4 * k + 0) v
theorem tkS_at (σ : St) (k : Nat) (v : Int32) (k' : Nat) : (gI (tkS σ k v) 11 k' 0 = if k' = k then gI σ 11 k 1 else gI σ 11 k' 0) ∧ (gI (tkS σ k v) 11 k' 1 = if k' = k then gI σ 11 k 2 else gI σ 11 k' 1) ∧ (gI (tkS σ k v) 11 k' 2 = if k' = k then gI σ 11 k 3 else gI σ 11 k' 2) ∧ (gI (tkS σ k v) 11 k' 3 = if k' = k then v else gI σ 11 k' 3) := by
  unfold tkS
  simp only [gI_pI, true_and]
  by_cases c : k' = k
  · simp [c]
  · simp [c]
theorem tkT_at (τ : St) {k k' : Nat} (v : Int32) : (kq (tkT τ k v) k' 0 = if k' = k then v else kq τ k' 0) ∧ (kq (tkT τ k v) k' 1 = if k' = k then kq τ k 0 else kq τ k' 1) ∧ (kq (tkT τ k v) k' 2 = if k' = k then kq τ k 1 else kq τ k' 2) ∧ (kq (tkT τ k v) k' 3 = if k' = k then kq τ k 2 else kq τ k' 3) := by
  unfold tkT kq
  simp only [gI_pI, true_and]
  by_cases c : k' = k
  · subst c
    refine ⟨?_, ?_, ?_, ?_⟩
    · rw [if_pos rfl, if_pos rfl]
    · rw [if_neg (by omega), if_pos rfl, if_pos rfl]
    · rw [if_neg (by omega), if_neg (by omega), if_pos rfl, if_pos rfl]
    · rw [if_neg (by omega), if_neg (by omega), if_neg (by omega), if_pos rfl, if_pos rfl]
  · refine ⟨?_, ?_, ?_, ?_⟩ <;> rw [if_neg (by omega), if_neg (by omega), if_neg (by omega), if_neg (by omega), if_neg c]
theorem sHair_of {τ τ' : St} {k : Nat} (h0 : kq τ' k 0 = kq τ k 0) (h1 : kq τ' k 1 = kq τ k 1) (h2 : kq τ' k 2 = kq τ k 2) (h3 : kq τ' k 3 = kq τ k 3) : sHair τ' k = sHair τ k := by
  unfold sHair
  rw [h0, h1, h2, h3]
theorem G_kind {B : Int} {σ τ : St} (h : G B σ τ) {k : Nat} (hk : k < 2) {v : Int32} (hv : 1 ≤ v.toInt ∧ v.toInt ≤ 9999) : HR (gI (tkS σ k v) 11 k 0) (gI (tkS σ k v) 11 k 1) (gI (tkS σ k v) 11 k 2) (gI (tkS σ k v) 11 k 3) (kq (tkT τ k v) k 0) (kq (tkT τ k v) k 1) (kq (tkT τ k v) k 2) (kq (tkT τ k v) k 3) ∧ G B (pI (tkS σ k v) 6 k 0 (sHair (tkT τ k v) k)) (tkT τ k v) := by
  obtain ⟨⟨hA, hU, hP, hQ, hO, hK, hW, hN, b1, b2, b3⟩, hC, hJ, hT⟩ := h
  have hHR : HR (gI (tkS σ k v) 11 k 0) (gI (tkS σ k v) 11 k 1) (gI (tkS σ k v) 11 k 2) (gI (tkS σ k v) 11 k 3) (kq (tkT τ k v) k 0) (kq (tkT τ k v) k 1) (kq (tkT τ k v) k 2) (kq (tkT τ k v) k 3) := by
    obtain ⟨s0, s1, s2, s3⟩ := tkS_at σ k v k
    obtain ⟨t0, t1, t2, t3⟩ := tkT_at τ (k := k) (k' := k) v
    rw [s0, s1, s2, s3, t0, t1, t2, t3, if_pos rfl, if_pos rfl, if_pos rfl, if_pos rfl, if_pos rfl, if_pos rfl, if_pos rfl, if_pos rfl]
    exact HR_tell (hK k hk).2 hv
  refine ⟨hHR, ⟨hA, hU, hP, hQ, hO, fun k' hk' => ?_, hW, hN, b1, b2, b3⟩, hC, hJ, hT⟩
  by_cases c : k' = k
  · subst c
    exact ⟨by rw [gI_pI, if_pos ⟨rfl, rfl, rfl⟩], hHR⟩
  · obtain ⟨s0, s1, s2, s3⟩ := tkS_at σ k v k'
    obtain ⟨t0, t1, t2, t3⟩ := tkT_at τ (k := k) (k' := k') v
    rw [if_neg c] at s0 s1 s2 s3 t0 t1 t2 t3
    obtain ⟨a1, a2⟩ := hK k' hk'
    refine ⟨?_, ?_⟩
    · rw [gI_pI, if_neg (fun q => c q.2.1), sHair_of t0 t1 t2 t3]
      exact a1
    · show HR (gI (tkS σ k v) 11 k' 0) (gI (tkS σ k v) 11 k' 1) (gI (tkS σ k v) 11 k' 2) (gI (tkS σ k v) 11 k' 3) _ _ _ _
      rw [s0, s1, s2, s3, t0, t1, t2, t3]
      exact a2
def TKi (τ : St) (a b r : Int32) (τ' : St) : Prop := (gI τ' 23 0 0 = 1 ∧ ¬ ((∃ k, k < 2 ∧ a = nI k) ∧ 1 ≤ b.toInt ∧ b.toInt ≤ 9999)) ∨ ∃ k, k < 2 ∧ a = nI k ∧ gI τ' 23 0 0 = 0 ∧ r = sHair (tkT (pI τ 23 0 0 0) k b) k ∧ τ' = tkT (pI τ 23 0 0 0) k b
theorem kind_not {a : Int32} (h : ∀ τ, fX6_in τ a 0 1 = some 0) {m : Nat} (hm : m < 2) (e : a = nI m) : False := by
  subst e
  have h0 := nI_toInt (n := m) (show m < 2147483648 by omega)
  exact out_not h (L := 0) (H := 1) (by decide) (by decide) ⟨by omega, by omega⟩
theorem c_tellKind {n : Nat} {σ τ : St} (h : INV n σ τ) (a b : Int32) : STEPT P1 (TKi τ a b) n σ (fX5_tellKind σ a b) (fX6_tellKind τ a b) := by
  unfold fX5_tellKind fX6_tellKind
  rcases kind_c a with ⟨k, hk, rfl, e1, e2⟩ | ⟨e1, e2⟩
  · rcases within_c b 1 9999 (L := 1) (H := 9999) (by decide) (by decide) with ⟨hb, e3, e4⟩ | ⟨e3, e4⟩
    · rw [e1, e2, xb_r, e3, bd_some, if_neg h10, e4, bd_some, if_neg h10, asks1, bd_some, if_pos h10, xb_r, if_gd (vin_nI hk (by omega)), clamp_nI (show k < 2147483648 by omega)]
      obtain ⟨hHR, hG⟩ := G_kind (τ := pI τ 23 0 0 0) h.1 hk hb
      have hne : kq (tkT (pI τ 23 0 0 0) k b) k 0 ≠ 0 := IK_ne hG.1.2.2.2.2.2.1 hk
      have hx : fX5_tellKind_L25 1000 σ 1 k (nI k) b = some (.inr (sHair (tkT (pI τ 23 0 0 0) k b) k, pI (tkS σ k b) 6 k 0 (sHair (tkT (pI τ 23 0 0 0) k b) k)), 0, 0) := by
        show fX5_tellKind_L25 (999 + 1) σ (nI 1) k (nI k) b = _
        rw [x_tkS (by omega) (by omega)]
        have g2 : gI (pI σ 11 k (1 - 1) (gI σ 11 k 1)) 11 k 2 = gI σ 11 k 2 := by rw [gI_pI, if_neg (by omega)]
        have g3 : gI (pI (pI σ 11 k (1 - 1) (gI σ 11 k 1)) 11 k (2 - 1) (gI σ 11 k 2)) 11 k 3 = gI σ 11 k 3 := by rw [gI_pI, if_neg (by omega), gI_pI, if_neg (by omega)]
        show fX5_tellKind_L25 (998 + 1) _ (nI 2) k (nI k) b = _
        rw [x_tkS (by omega) (by omega), g2]
        show fX5_tellKind_L25 (997 + 1) _ (nI 3) k (nI k) b = _
        rw [x_tkS (by omega) (by omega), g3, fX5_tellKind_L25.eq_2, if_pos (show (4 : Int32) ≤ nI (3 + 1) by decide), if_gd (vin_nI hk (by omega)), show (3 : Int32).toNatClampNeg = 3 by decide, clamp_nI (show k < 2147483648 by omega)]
        show bd (fX5_haircutBy (tkS σ k b) k b) _ = _
        have hh := x_hair (σ := tkS σ k b) (τ := tkT (pI τ 23 0 0 0) k b) hHR
        rw [(tkT_at (pI τ 23 0 0 0) (k := k) (k' := k) b).1, if_pos rfl] at hh
        rw [hh, bd_some, gI_pI, if_pos ⟨rfl, rfl, rfl⟩]
        rfl
      have hy : fX6_tellKind_L36 1000 (pI τ 23 0 0 0) 3 (nI k) b = some (sHair (tkT (pI τ 23 0 0 0) k b) k, tkT (pI τ 23 0 0 0) k b) := by
        show fX6_tellKind_L36 (999 + 1) (pI τ 23 0 0 0) (nI (2 + 1)) (nI k) b = _
        rw [y_tkS hk (by omega)]
        generalize pI τ 23 0 0 0 = t at hne ⊢
        have g2 : gI (pI t 3 0 (4 * k + (2 + 1)) (gI t 3 0 (4 * k + 2))) 3 0 (4 * k + 1) = gI t 3 0 (4 * k + 1) := by rw [gI_pI, if_neg (by omega)]
        have g3 : gI (pI (pI t 3 0 (4 * k + (2 + 1)) (gI t 3 0 (4 * k + 2))) 3 0 (4 * k + (1 + 1)) (gI t 3 0 (4 * k + 1))) 3 0 (4 * k + 0) = gI t 3 0 (4 * k + 0) := by rw [gI_pI, if_neg (by omega), gI_pI, if_neg (by omega)]
        show fX6_tellKind_L36 (998 + 1) _ (nI (1 + 1)) (nI k) b = _
        rw [y_tkS hk (by omega), g2]
        show fX6_tellKind_L36 (997 + 1) _ (nI (0 + 1)) (nI k) b = _
        rw [y_tkS hk (by omega), g3, fX6_tellKind_L36.eq_2, if_pos (show nI 0 ≤ (0 : Int32) by decide), if_gd (ix40 hk).2, (ix40 hk).1]
        show bd (fX6_haircutOf (tkT t k b) (nI k)) _ = _
        rw [y_hair hk hne, bd_some]
        rfl
      rw [hx, hy]
      exact STEPT_of (STEP_ok (INV_of h hG (fun _ => rfl) (fun _ => rfl) (fun _ => rfl) (fun _ => rfl) rfl) rfl (Nat.le_refl _) rfl) (Or.inr ⟨k, hk, rfl, rfl, rfl, rfl⟩)
    · rw [e1, e2, xb_r, e3, bd_some, if_neg h10, e4, bd_some, if_pos rfl, asks0, bd_some, if_neg (not_not_intro rfl), xb_l]
      exact STEPT_of (STEP_no h p11 0) (Or.inl ⟨rfl, fun q => out_not e4 (by decide) (by decide) q.2⟩)
  · rw [e1, e2, xb_l, bd_some, if_pos rfl, asks0, bd_some, if_neg (not_not_intro rfl)]
    exact STEPT_of (STEP_no h p11 0) (Or.inl ⟨rfl, fun ⟨⟨k, hk, e⟩, _⟩ => kind_not e2 hk e⟩)
def TCo (τ : St) (a b r : Int32) (τ' : St) : Prop := (gI τ' 23 0 0 = 1 ∧ ¬ ((∃ m, m < 5 ∧ a = nI m) ∧ 1 ≤ b.toInt ∧ b.toInt ≤ 100000)) ∨ ∃ m, m < 5 ∧ a = nI m ∧ ((gI τ' 23 0 0 = 2 ∧ SX τ τ' ∧ ¬ gI τ 10 0 m = 0) ∨ (gI τ' 23 0 0 = 0 ∧ gI τ 10 0 m = 0 ∧ r = Int64.toInt32 (gL τ 8 0 m + b.toInt64) ∧ τ' = pL (pI τ 23 0 0 0) 8 0 m (gL τ 8 0 m + b.toInt64)))
theorem c_contribute {n : Nat} {σ τ : St} (hn : n < 512) (h : INV n σ τ) (a b : Int32) : STEPT P12 (TCo τ a b) n σ (fX5_contribute σ a b) (fX6_contribute τ a b) := by
  unfold fX5_contribute fX6_contribute
  rcases member_c a with ⟨m, hm, rfl, e1, e2⟩ | ⟨e1, e2⟩
  · rcases within_c b 1 100000 (L := 1) (H := 100000) (by decide) (by decide) with ⟨hb, e3, e4⟩ | ⟨e3, e4⟩
    · obtain ⟨-, f2, f3⟩ := (G_IA h.1) m hm
      rw [e1, e2, xb_r, e3, bd_some, if_neg h10, e4, bd_some, if_neg h10, asks1, bd_some, if_pos h10, xb_r, if_gd (vin_nI hm (by omega)), if_gd (vin_nI hm (by omega)), clamp_nI (show m < 2147483648 by omega), f3]
      rw [show gI (pI τ 23 0 0 0) 10 0 m = gI τ 10 0 m from rfl]
      by_cases c : gI τ 10 0 m = 0
      · rw [if_neg (not_not_intro c), if_pos c, state1, xb_r, f2]
        have hs := h.2.2.2 m hm c
        have hv : (gL τ 8 0 m + b.toInt64).toInt = (gL τ 8 0 m).toInt + b.toInt := add64 rfl (wid rfl) (by omega) (by omega)
        have hG := G_share (τ := pI τ 23 0 0 0) h.1 m (gL τ 8 0 m + b.toInt64)
        refine STEPT_of (r0 := Int64.toInt32 (gL (pL (pI τ 23 0 0 0) 8 0 m (gL τ 8 0 m + b.toInt64)) 8 0 m)) (τ0 := pL (pI τ 23 0 0 0) 8 0 m (gL τ 8 0 m + b.toInt64)) (STEP_ok ⟨G_mono hG (by show (tn τ : Int) + 30 * n ≤ (tn τ : Int) + 30 * ((n + 1 : Nat) : Int); omega), h.2.1, h.2.2.1, fun j hj e => ?_⟩ rfl (Nat.le_refl _) ?_) (Or.inr ⟨m, hm, rfl, Or.inr ⟨rfl, c, by rw [gL_pL, if_pos ⟨rfl, rfl, rfl⟩], rfl⟩⟩)
        · have h1 := h.2.2.2 j hj e
          have e8 : gL (pL (pI τ 23 0 0 0) 8 0 m (gL τ 8 0 m + b.toInt64)) 8 0 j = if j = m then gL τ 8 0 m + b.toInt64 else gL τ 8 0 j := by rw [gL_pL]; simp only [true_and]; rfl
          show 0 ≤ (gL (pL (pI τ 23 0 0 0) 8 0 m (gL τ 8 0 m + b.toInt64)) 8 0 j).toInt ∧ (gL (pL (pI τ 23 0 0 0) 8 0 m (gL τ 8 0 m + b.toInt64)) 8 0 j).toInt ≤ 100000 * ((n + 1 : Nat) : Int)
          rw [e8]
          split
          · rw [hv]; omega
          · omega
        · rw [gL_pL, if_pos ⟨rfl, rfl, rfl⟩, gL_pL, if_pos ⟨rfl, rfl, rfl⟩]
      · rw [if_pos c, if_neg c, state0, xb_l]
        exact STEPT_of (STEP_no2 (INV_t h 0) (Nat.le_refl _) p122 0) (Or.inr ⟨m, hm, rfl, Or.inl ⟨rfl, SX_2 τ _ _, c⟩⟩)
    · rw [e1, e2, xb_r, e3, bd_some, if_neg h10, e4, bd_some, if_pos rfl, asks0, bd_some, if_neg (not_not_intro rfl), xb_l]
      exact STEPT_of (STEP_no h p121 0) (Or.inl ⟨rfl, fun q => out_not e4 (by decide) (by decide) q.2⟩)
  · rw [e1, e2, xb_l, bd_some, if_pos rfl, asks0, bd_some, if_neg (not_not_intro rfl)]
    exact STEPT_of (STEP_no h p121 0) (Or.inl ⟨rfl, fun ⟨⟨k, hk, e⟩, _⟩ => member_not e2 hk e⟩)
theorem nlt_le {a b : Int64} : ¬ a < b ↔ b ≤ a := by rw [Int64.lt_iff_toInt_lt, Int64.le_iff_toInt_le]; omega
def TPy (τ : St) (a b r : Int32) (τ' : St) : Prop := (gI τ' 23 0 0 = 1 ∧ ¬ ((∃ m, m < 5 ∧ a = nI m) ∧ -100000 ≤ b.toInt ∧ b.toInt ≤ 100000)) ∨ ∃ m, m < 5 ∧ a = nI m ∧ ((gI τ' 23 0 0 = 2 ∧ SX τ τ' ∧ (¬ gI τ 10 0 m = 0 ∨ (¬ 0 ≤ b ∧ sFree τ m + b.toInt64 < 0))) ∨ (gI τ' 23 0 0 = 0 ∧ gI τ 10 0 m = 0 ∧ (0 ≤ b ∨ ¬ sFree τ m + b.toInt64 < 0) ∧ r = Int64.toInt32 (gL τ 6 0 m + b.toInt64) ∧ τ' = pL (pI τ 23 0 0 0) 6 0 m (gL τ 6 0 m + b.toInt64)))
theorem c_pay {n : Nat} {σ τ : St} (h : INV n σ τ) (a b : Int32) : STEPT P12 (TPy τ a b) n σ (fX5_pay σ a b) (fX6_pay τ a b) := by
  unfold fX5_pay fX6_pay
  rcases member_c a with ⟨m, hm, rfl, e1, e2⟩ | ⟨e1, e2⟩
  · rcases within_c b (-100000) 100000 (L := -100000) (H := 100000) (by decide) (by decide) with ⟨hb, e3, e4⟩ | ⟨e3, e4⟩
    · obtain ⟨f1, f2, f3⟩ := (G_IA h.1) m hm
      rw [e1, e2, xb_r, e3, bd_some, if_neg h10, e4, bd_some, if_neg h10, asks1, bd_some, if_pos h10, xb_r, if_gd (vin_nI hm (by omega)), if_gd (vin_nI hm (by omega)), clamp_nI (show m < 2147483648 by omega), f3]
      rw [show gI (pI τ 23 0 0 0) 10 0 m = gI τ 10 0 m from rfl]
      by_cases c : gI τ 10 0 m = 0
      · rw [if_neg (not_not_intro c), if_neg (not_not_intro c), state1, xb_r]
        have hgo : ∀ σ1, scr σ σ1 → (0 ≤ b ∨ ¬ sFree τ m + b.toInt64 < 0) → STEPT P12 (TPy τ (nI m) b) n σ (bd (fX5_receiveFromOutside σ1 m b.toInt64) (fun q38 => gd (sameN q38 σ1) (some (.inr (Int64.toInt32 (gL q38 0 m 0), q38), 0, 0)))) (some (Int64.toInt32 (gL (pL (pI τ 23 0 0 0) 6 0 m (gL (pI τ 23 0 0 0) 6 0 m + b.toInt64)) 6 0 m), pL (pI τ 23 0 0 0) 6 0 m (gL (pI τ 23 0 0 0) 6 0 m + b.toInt64))) := fun σ1 sc hor => by
          have h1 := INV_scr sc h
          rw [x_rec, bd_some, if_gd (show sameN (rcS σ1 m b.toInt64) σ1 from sameN_rfl σ1)]
          refine STEPT_of (STEP_ok (INV_of h1 (G_rec (τ := pI τ 23 0 0 0) h1.1 hm b.toInt64 _ rfl) (fun _ => rfl) (fun _ => rfl) (fun _ => rfl) (fun _ => rfl) rfl) rfl (Nat.le_of_eq (pot_scr sc).symm) ?_) (Or.inr ⟨m, hm, rfl, Or.inr ⟨rfl, c, hor, by rw [gL_pL, if_pos ⟨rfl, rfl, rfl⟩]; rfl, rfl⟩⟩)
          rw [rcS_0, if_pos rfl, gL_pL, if_pos ⟨rfl, rfl, rfl⟩, ((G_IA h1.1) m hm).1]
          rfl
        by_cases c2 : 0 ≤ b
        · rw [if_pos c2, if_pos c2, state1, xb_r]
          exact hgo σ (scr_rfl σ) (Or.inl c2)
        · obtain ⟨s1, x1, sc⟩ := x_free h.1.1 hm
          rw [if_neg c2, if_neg c2, x1, bd_some, if_gd (scr_same sc), y_free (τ := pI τ 23 0 0 0) (INV_t h 0).1.1 hm, bd_some]
          rw [show sFree (pI τ 23 0 0 0) m = sFree τ m from rfl]
          by_cases c3 : sFree τ m + b.toInt64 < 0
          · rw [if_pos c3, if_neg (fun q => nlt_le.mpr q c3), state0, xb_l]
            exact STEPT_of (STEP_no2 (INV_t (INV_scr sc h) 0) (Nat.le_of_eq (pot_scr sc).symm) p122 0) (Or.inr ⟨m, hm, rfl, Or.inl ⟨rfl, SX_2 τ _ _, Or.inr ⟨c2, c3⟩⟩⟩)
          · rw [if_neg c3, if_pos (nlt_le.mp c3), state1, xb_r]
            exact hgo s1 sc (Or.inr c3)
      · rw [if_pos c, if_pos c, state0, xb_l]
        exact STEPT_of (STEP_no2 (INV_t h 0) (Nat.le_refl _) p122 0) (Or.inr ⟨m, hm, rfl, Or.inl ⟨rfl, SX_2 τ _ _, Or.inl c⟩⟩)
    · rw [e1, e2, xb_r, e3, bd_some, if_neg h10, e4, bd_some, if_pos rfl, asks0, bd_some, if_neg (not_not_intro rfl), xb_l]
      exact STEPT_of (STEP_no h p121 0) (Or.inl ⟨rfl, fun q => out_not e4 (by decide) (by decide) q.2⟩)
  · rw [e1, e2, xb_l, bd_some, if_pos rfl, asks0, bd_some, if_neg (not_not_intro rfl)]
    exact STEPT_of (STEP_no h p121 0) (Or.inl ⟨rfl, fun ⟨⟨k, hk, e⟩, _⟩ => member_not e2 hk e⟩)
