/-! PURE: prices are told, and told back -/
theorem pro_y {p : Nat} (hp : p < 3) (τ : St) : fX6_isProduct τ (nI p) = some 1 := by
  rcases product_c (nI p) with ⟨_, _, _, _, e⟩ | ⟨_, e⟩
  · exact e τ
  · exact (product_not e hp rfl).elim
theorem Y_tell (τ : St) {p : Nat} (hp : p < 3) {v : Int32} (hv : 1 ≤ v.toInt ∧ v.toInt ≤ 9999) : fX6_tell τ (nI p) v = some (gI τ 1 0 p, pI (pI τ 23 0 0 0) 1 0 p v) := by
  unfold fX6_tell
  rw [pro_y hp, bd_some, if_neg h10, in_in (L := 1) (H := 9999) rfl (by decide) (by decide) hv, bd_some, if_neg h10, asks1, bd_some, if_pos h10, if_gd (vin_nI hp (by omega)), clamp_nI (show p < 2147483648 by omega), kst_d]
  rfl
theorem Y_move (τ : St) {v p : Nat} (hv : v < 4) (hp : p < 3) {c : Int32} (hc : -500 ≤ c.toInt ∧ c.toInt ≤ 500) : fX6_setMove τ (nI v) (nI p) c = some (gI τ 2 0 (3 * v + p), pI (pI τ 23 0 0 0) 2 0 (3 * v + p) c) := by
  have h0 := nI_toInt (n := v) (show v < 2147483648 by omega)
  unfold fX6_setMove
  rw [in_in (L := 0) (H := 3) rfl (by decide) (by decide) (by omega), bd_some, if_neg h10, pro_y hp, bd_some, if_neg h10, in_in (L := -500) (H := 500) rfl (by decide) (by decide) hc, bd_some, if_neg h10, asks1, bd_some, if_pos h10, if_gd (ixv v hv p hp).2, (ixv v hv p hp).1, kst_d]
  rfl
/-- a price, and all else as it was -/
def PRx (τ τ' : St) (p : Nat) (v : Int32) : Prop := (∀ f i j, f ≠ 23 → f ≠ 1 → gI τ' f i j = gI τ f i j) ∧ τ'.2 = τ.2 ∧ ∀ q, gI τ' 1 0 q = if q = p then v else gI τ 1 0 q
theorem PR_1 (τ : St) (p : Nat) (v : Int32) : PRx τ (pI (pI τ 23 0 0 0) 1 0 p v) p v := ⟨fun f i j h1 h2 => by rw [gI_pI, if_neg (fun q => h2 q.1), gI_pI, if_neg (fun q => h1 q.1)], rfl, fun q => by
  rw [gI_pI]
  simp only [true_and]
  split
  · rfl
  · rw [gI_pI, if_neg (by simp)]⟩
theorem PR_tr {a b c : St} {p : Nat} {v w : Int32} (h1 : PRx a b p v) (h2 : PRx b c p w) : PRx a c p w := ⟨fun f i j x y => (h2.1 f i j x y).trans (h1.1 f i j x y), h2.2.1.trans h1.2.1, fun q => by
  rw [h2.2.2, h1.2.2]
  split <;> rfl⟩
theorem PR_L {τ τ' : St} {p : Nat} {v : Int32} (h : PRx τ τ' p v) (f i j : Nat) : gL τ' f i j = gL τ f i j := by unfold gL; rw [h.2.1]
theorem sEq_pr {τ τ' : St} {p : Nat} {v : Int32} (hp : p < 3) (h : PRx τ τ' p v) (m : Nat) : sEq τ' m = sEq τ m + (gI τ 4 0 (3 * m + p)).toInt64 * (v.toInt64 - (gI τ 1 0 p).toInt64) := by
  have hd : ∀ q, sDif τ' m q = sDif τ m q + (if q = p then (gI τ 4 0 (3 * m + p)).toInt64 * (v.toInt64 - (gI τ 1 0 p).toInt64) else 0) := fun q => by
    unfold sDif
    rw [h.1 4 0 _ (by decide) (by decide), PR_L h, h.2.2 q]
    by_cases c : q = p
    · subst c
      rw [if_pos rfl, if_pos rfl]
      grind
    · rw [if_neg c, if_neg c, Int64.add_zero]
  unfold sEq
  rw [hd, hd, hd, PR_L h]
  generalize (gI τ 4 0 (3 * m + p)).toInt64 * (v.toInt64 - (gI τ 1 0 p).toInt64) = d
  rcases (show p = 0 ∨ p = 1 ∨ p = 2 by omega) with rfl | rfl | rfl
  · rw [if_pos rfl, if_neg (by decide), if_neg (by decide)]; grind
  · rw [if_neg (by decide), if_pos rfl, if_neg (by decide)]; grind
  · rw [if_neg (by decide), if_neg (by decide), if_pos rfl]; grind
theorem ps_sum {τ : St} (hO : BO τ) (hP : BP τ) {p : Nat} (hp : p < 3) : sm (fun m => ((ps τ (3 * m + p)).natAbs : Int)) 5 ≤ 20000 := by
  have h1 := lf_sum hO
  have h2 := hO.2.1
  unfold BP at hP
  have e : sm (fun j => ((ps τ j).natAbs : Int)) 15 = sm (fun m => ((ps τ (3 * m + 0)).natAbs : Int)) 5 + sm (fun m => ((ps τ (3 * m + 1)).natAbs : Int)) 5 + sm (fun m => ((ps τ (3 * m + 2)).natAbs : Int)) 5 := by
    simp only [sm, Nat.reduceMul, Nat.reduceAdd, Nat.zero_add, Nat.mul_zero]
    omega
  have nn : ∀ p, 0 ≤ sm (fun m => ((ps τ (3 * m + p)).natAbs : Int)) 5 := fun p => by
    rw [sm5]
    omega
  have n0 := nn 0
  have n1 := nn 1
  have n2 := nn 2
  rcases (show p = 0 ∨ p = 1 ∨ p = 2 by omega) with rfl | rfl | rfl <;> omega
theorem MG_pr {K : Int} {τ τ' : St} {p : Nat} {v : Int32} (hp : p < 3) (hO : BO τ) (hP : BP τ) (hp1 : 1 ≤ prI τ p) (h : PRx τ τ' p v) (hv : 1 ≤ v.toInt ∧ v.toInt ≤ 400) (hK : MG K τ) (hK2 : K + 9000000 ≤ 2000000000) : MG (K + 9000000) τ' := by
  have hl0 := lf_sum hO
  have hb := PSI_b hK hl0
  have hps := ps_sum hO hP hp
  obtain ⟨h1, h2, h3, h4, h5, h6, h7, h8⟩ := hK
  have hp4 := h2 p hp
  have hd : (v.toInt64 - (gI τ 1 0 p).toInt64).toInt = v.toInt - prI τ p := sub64 (wid rfl) (wid rfl) (by show _ ≤ _ - prI τ p; omega) (by show _ - prI τ p < _; omega)
  have key : ∀ m, m < 5 → ((eqI τ' m).natAbs : Int) ≤ (eqI τ m).natAbs + 399 * (ps τ (3 * m + p)).natAbs := fun m hm => by
    have hpb := ps_bnd hO hP (j := 3 * m + p) (by omega)
    have hm2 : (ps τ (3 * m + p) * (v.toInt - prI τ p)).natAbs ≤ (ps τ (3 * m + p)).natAbs * 399 := by
      rw [Int.natAbs_mul]
      exact Nat.mul_le_mul (Nat.le_refl _) (by omega)
    have hmul : ((gI τ 4 0 (3 * m + p)).toInt64 * (v.toInt64 - (gI τ 1 0 p).toInt64)).toInt = ps τ (3 * m + p) * (v.toInt - prI τ p) := mul64 (wid rfl) hd (by show _ ≤ ps τ (3 * m + p) * _; omega) (by show ps τ (3 * m + p) * _ < _; omega)
    have hbm := (hb m hm).1
    unfold eqI at hbm ⊢
    rw [sEq_pr hp h, add64 rfl hmul (by omega) (by omega)]
    omega
  have hs := sm_mono (f := fun m => ((eqI τ' m).natAbs : Int)) (g := fun m => ((eqI τ m).natAbs : Int) + 399 * (ps τ (3 * m + p)).natAbs) (n := 5) key
  rw [sm5, sm5] at hs
  rw [sm5] at hps
  have gi : ∀ f i j, f ≠ 23 → f ≠ 1 → gI τ' f i j = gI τ f i j := h.1
  have htn : tn τ' = tn τ := by unfold tn; rw [gi 21 0 0 (by decide) (by decide)]
  have hkq : ∀ k j, kq τ' k j = kq τ k j := fun k j => gi 3 0 _ (by decide) (by decide)
  have hco : ∀ j, coI τ' j = coI τ j := fun j => by
    unfold coI sCol sWor sHair
    simp only [hkq, gi 7 0 _ (by decide) (by decide)]
  have hsh : ∀ j, shI τ' j = shI τ j := fun j => by unfold shI; rw [PR_L h]
  have hun : unI τ' = unI τ := by unfold unI; rw [PR_L h]
  have hlf : sm (lf τ') (tn τ') = sm (lf τ) (tn τ) := by
    rw [htn]
    exact sm_congr (fun k _ => by unfold lf; rw [gi 15 0 _ (by decide) (by decide)])
  refine ⟨hK2, fun q hq => ?_, fun k hk => by rw [gi 14 0 _ (by decide) (by decide)]; exact h3 k (by rw [← htn]; exact hk), fun m hm => by rw [hsh, hco]; exact h4 m hm, by rw [hun]; exact h5, fun j hj => by rw [gi 7 0 _ (by decide) (by decide)]; exact h6 j hj, fun k hk => by simp only [hkq]; exact h7 k hk, ?_⟩
  · unfold prI
    rw [h.2.2 q]
    split
    · exact hv.2
    · exact h2 q hq
  · unfold PSI at h8 ⊢
    rw [sm5] at h8 ⊢
    rw [hlf, hun]
    simp only [hco, hsh]
    omega
/-- a step of the law is through, and all holds -/
def SDN (K : Int) (n c N : Nat) (q : Int32 × St × St) (a b : Nat) : Prop := q.1 = 1 ∧ ∃ τ', HV K n c q.2.1 q.2.2 τ' a b ∧ tn τ' = N
theorem MG_SX {K : Int} {τ τ' : St} (hx : SX τ τ') (h : MG K τ) : MG K τ' := by
  obtain ⟨v, rfl⟩ := hx
  exact h
theorem toI_add (a b : Int64) : Int64.toInt32 (a + b) = Int64.toInt32 a + Int64.toInt32 b := Int64.toInt32_add a b
theorem toI_mul (a b : Int64) : Int64.toInt32 (a * b) = Int64.toInt32 a * Int64.toInt32 b := Int64.toInt32_mul a b
theorem toI_sub (a b : Int64) : Int64.toInt32 (a - b) = Int64.toInt32 a - Int64.toInt32 b := Int64.toInt32_sub a b
theorem toI_wid (a : Int32) : Int64.toInt32 a.toInt64 = a := Int32.toInt32_toInt64 a
theorem tell_B {n : Nat} {σ1 σ2 τ : St} (h1 : INV n σ1 τ) (h2 : INV n σ2 τ) {p : Nat} (hp : p < 3) {v : Int32} (hv : 1 ≤ v.toInt ∧ v.toInt ≤ 9999) : ∃ s1 s2 τ' m k, fL_both σ1 σ2 0 (nI p) v 0 = some ((gI τ 1 0 p, s1, s2), m, k) ∧ INV (n + 1) s1 τ' ∧ INV (n + 1) s2 τ' ∧ PRx τ τ' p v ∧ m + (pot σ1 + pot σ2) ≤ pot s1 + pot s2 + 200 ∧ k + (pot σ1 + pot σ2) ≤ pot s1 + pot s2 + 200 := by
  obtain ⟨z, s1, s2, τ', m, k, r, e, i1, i2, t, hz, q1, q2⟩ := both_of (fun σ => does_tell σ (nI p) v 0) (STEP_T (c_tell h1 (nI p) v)) (STEP_T (c_tell h2 (nI p) v)) P1_ok.1 P1_ok.2
  obtain ⟨er, et⟩ := Prod.mk.inj (Option.some.inj ((Y_tell τ hp hv).symm.trans t))
  have hP : PRx τ τ' p v := by rw [← et]; exact PR_1 τ p v
  have h23 : gI τ' 23 0 0 = 0 := by rw [← et]; rfl
  have e9 : z = gI τ 1 0 p := (z_ok h23 hz).trans er.symm
  subst e9
  exact ⟨s1, s2, τ', m, k, e, i1, i2, hP, q1, q2⟩
theorem PR_tn {τ τ' : St} {p : Nat} {v : Int32} (h : PRx τ τ' p v) : tn τ' = tn τ := by unfold tn; rw [h.1 21 0 0 (by decide) (by decide)]
theorem L_tellsJ {K : Int} {n c N a b : Nat} {σ1 σ2 τ : St} (hK2 : K + 9000000 ≤ 2000000000) (h : HV K n c σ1 σ2 τ a b) (hN : tn τ = N) (z : Int32) {p : Nat} (hp : p < 3) {v : Int32} (hv : 1 ≤ v.toInt ∧ v.toInt ≤ 400) : LQ (fL_tells_J57 σ1 σ2 z (nI p) v) a b (SDN (K + 9000000) (n + 3) (c + 1200) N) := by
  obtain ⟨h1, h2, hG, ha, hb⟩ := h
  obtain ⟨w, hw, ew⟩ := some_of σ1 (z >>> (5 &&& 31)) 5 (by omega) (by omega)
  have ew : fL_some σ1 (z >>> (5 &&& 31)) 5 = some (nI w) := ew
  unfold fL_tells_J57
  refine LQ_bd ew ?_
  refine LQ_y0 (A_equity h1 hw) ?_
  obtain ⟨s1, u1, t1, m1, k1, e1, i1, j1, p1, q1, q1'⟩ := tell_B h1 h2 hp (v := v) (by omega)
  have hbq := (G_BQ h1.1) p hp
  refine LQ_bt e1 ?_
  have hpos : ¬ gI τ 1 0 p ≤ 0 := fun q => by have := (le32 (A := prI τ p) (b := 0) (B := 0) rfl (by decide)).mp q; have : 1 ≤ prI τ p := hbq.1; omega
  refine LQ_ifn hpos ?_
  refine LQ_y0 (A_equity i1 hw) ?_
  refine LQ_y0 (A_pos i1 hw hp) ?_
  have hE1 : Int64.toInt32 (sEq t1 w) = Int64.toInt32 (sEq τ w) + gI t1 4 0 (3 * w + p) * (v - gI τ 1 0 p) := by
    rw [sEq_pr hp p1, toI_add, toI_mul, toI_sub, toI_wid, toI_wid, toI_wid, p1.1 4 0 _ (by decide) (by decide)]
  refine LQ_ifn (not_not_intro hE1) ?_
  obtain ⟨s2, u2, t2, m2, k2, e2, i2, j2, p2, q2, q2'⟩ := tell_B i1 j1 hp (v := gI τ 1 0 p) ⟨hbq.1, hbq.2.1⟩
  refine LQ_bt e2 ?_
  have hv1 : gI t1 1 0 p = v := by rw [p1.2.2, if_pos rfl]
  refine LQ_ifn (not_not_intro hv1) ?_
  refine LQ_y0 (A_equity i2 hw) ?_
  have p12 := PR_tr p1 p2
  have hE2 : Int64.toInt32 (sEq t2 w) = Int64.toInt32 (sEq τ w) := by
    rw [sEq_pr hp p12, Int64.sub_self, Int64.mul_zero, Int64.add_zero]
  refine LQ_ifn (not_not_intro hE2) ?_
  obtain ⟨s3, u3, t3, m3, k3, e3, i3, j3, p3, q3, q3'⟩ := tell_B i2 j2 hp (v := v) (by omega)
  refine LQ_bt e3 ?_
  have hv2 : gI t2 1 0 p = gI τ 1 0 p := by rw [p2.2.2, if_pos rfl]
  refine LQ_ifn (not_not_intro hv2) ?_
  have p13 := PR_tr p12 p3
  refine LQ_ok ⟨rfl, t3, ⟨i3, j3, MG_pr hp (G_BO h1.1) (G_BP h1.1) hbq.1 p13 hv hG hK2, ?_, ?_⟩, (PR_tn p13).trans hN⟩
  · show a + m1 + m2 + m3 ≤ pot s3 + pot u3 + (c + 1200)
    omega
  · show b + k1 + k2 + k3 ≤ pot s3 + pot u3 + (c + 1200)
    omega
/-- a change of something that no sum of money has in it -/
theorem MG_move {K : Int} {τ : St} (j : Nat) (c : Int32) (h : MG K τ) : MG K (pI (pI τ 23 0 0 0) 2 0 j c) := h
def KNx (τ τ' : St) (k : Nat) (v : Int32) : Prop := (∀ f i j, f ≠ 23 → f ≠ 3 → gI τ' f i j = gI τ f i j) ∧ τ'.2 = τ.2 ∧ kq τ' k 0 = v ∧ ∀ q, q ≠ k → ∀ j, j < 4 → kq τ' q j = kq τ q j
theorem KN_1 (τ : St) {k : Nat} (v : Int32) : KNx τ (tkT (pI τ 23 0 0 0) k v) k v := by
  refine ⟨fun f i j h1 h2 => ?_, rfl, ?_, fun q hq j hj => ?_⟩
  · unfold tkT
    rw [gI_pI, if_neg (fun q => h2 q.1), gI_pI, if_neg (fun q => h2 q.1), gI_pI, if_neg (fun q => h2 q.1), gI_pI, if_neg (fun q => h2 q.1), gI_pI, if_neg (fun q => h1 q.1)]
  · rw [(tkT_at (pI τ 23 0 0 0) (k := k) (k' := k) v).1, if_pos rfl]
  · obtain ⟨a0, a1, a2, a3⟩ := tkT_at (pI τ 23 0 0 0) (k := k) (k' := q) v
    rw [if_neg hq] at a0 a1 a2 a3
    rcases (show j = 0 ∨ j = 1 ∨ j = 2 ∨ j = 3 by omega) with rfl | rfl | rfl | rfl
    · exact a0
    · exact a1
    · exact a2
    · exact a3
theorem wor_b {p u h : Int32} (hp : 1 ≤ p.toInt ∧ p.toInt ≤ 130) (hu : 0 ≤ u.toInt ∧ u.toInt ≤ 1000) (hh : 10 ≤ h.toInt ∧ h.toInt ≤ 90) : (((u.toInt64 * p.toInt64) * (100 - h).toInt64) / 100).toInt = u.toInt * p.toInt * (100 - h.toInt) / 100 ∧ 0 ≤ u.toInt * p.toInt * (100 - h.toInt) / 100 ∧ u.toInt * p.toInt * (100 - h.toInt) / 100 ≤ 130000 := by
  have e1 : (u.toInt64 * p.toInt64).toInt = u.toInt * p.toInt := by
    have := mulB (a := u.toInt) (b := p.toInt) (A := 1000) (B := 130) (by omega) (by omega) (by omega) (by omega)
    exact mul64 (wid rfl) (wid rfl) (by omega) (by omega)
  have b1 := mulB (a := u.toInt) (b := p.toInt) (A := 1000) (B := 130) (by omega) (by omega) (by omega) (by omega)
  have b0 : 0 ≤ u.toInt * p.toInt := Int.mul_nonneg hu.1 (by omega)
  have e2 : (100 - h).toInt = 100 - h.toInt := sub32 (A := 100) (by decide) rfl (by omega) (by omega)
  have b2 := mulB (a := u.toInt * p.toInt) (b := 100 - h.toInt) (A := 130000) (B := 100) (by omega) (by omega) (by omega) (by omega)
  have b3 : 0 ≤ u.toInt * p.toInt * (100 - h.toInt) := Int.mul_nonneg b0 (by omega)
  have e3 : ((u.toInt64 * p.toInt64) * (100 - h).toInt64).toInt = u.toInt * p.toInt * (100 - h.toInt) := mul64 e1 (wid e2) (by omega) (by omega)
  have e4 : ((100 : Int64)).toInt = 100 := by decide
  refine ⟨?_, by omega, by omega⟩
  rw [Int64.toInt_div_of_ne_right _ _ (by decide), e3, e4, Int.tdiv_eq_ediv_of_nonneg b3]
