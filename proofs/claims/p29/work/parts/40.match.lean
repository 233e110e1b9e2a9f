/-! PURE: an order that meets resting ones -/
theorem bt2_some {α β : Type} (a : α) (m n : Nat) (k : α → Option (β × Nat × Nat)) : bt2 (some (a, m, n)) k = tk m n (k a) := rfl
theorem x_twr0 {σ : St} {k w p m : Nat} (h33 : gI σ 33 k 0 = 0) (h31 : gI σ 31 k 0 = nI w) (h32 : gI σ 32 k 0 = nI p) {q : Int32} {s' : St} {mc ms : Nat} (h : fX5_trade (pI σ 35 k 0 (gI σ 35 k 0 - q)) (nI m) (nI w) (nI p) q (gI σ 34 k 0) = some (s', mc, ms)) : fX5_tradeWithResting σ (nI m) k q = some (s', mc, ms) := by
  unfold fX5_tradeWithResting
  rw [show gI (pI σ 35 k 0 (gI σ 35 k 0 - q)) 33 k 0 = gI σ 33 k 0 from rfl, show gI (pI σ 35 k 0 (gI σ 35 k 0 - q)) 31 k 0 = gI σ 31 k 0 from rfl, show gI (pI σ 35 k 0 (gI σ 35 k 0 - q)) 32 k 0 = gI σ 32 k 0 from rfl, show gI (pI σ 35 k 0 (gI σ 35 k 0 - q)) 34 k 0 = gI σ 34 k 0 from rfl, if_pos h33, h31, h32, h, bt2_some, tk_some, Nat.add_zero, Nat.add_zero]
theorem x_twr1 {σ : St} {k w p m : Nat} (h33 : ¬ gI σ 33 k 0 = 0) (h31 : gI σ 31 k 0 = nI w) (h32 : gI σ 32 k 0 = nI p) {q : Int32} {s' : St} {mc ms : Nat} (h : fX5_trade (pI σ 35 k 0 (gI σ 35 k 0 - q)) (nI w) (nI m) (nI p) q (gI σ 34 k 0) = some (s', mc, ms)) : fX5_tradeWithResting σ (nI m) k q = some (s', mc, ms) := by
  unfold fX5_tradeWithResting
  rw [show gI (pI σ 35 k 0 (gI σ 35 k 0 - q)) 33 k 0 = gI σ 33 k 0 from rfl, show gI (pI σ 35 k 0 (gI σ 35 k 0 - q)) 31 k 0 = gI σ 31 k 0 from rfl, show gI (pI σ 35 k 0 (gI σ 35 k 0 - q)) 32 k 0 = gI σ 32 k 0 from rfl, show gI (pI σ 35 k 0 (gI σ 35 k 0 - q)) 34 k 0 = gI σ 34 k 0 from rfl, if_neg h33, h31, h32, h, bt2_some, tk_some, Nat.add_zero, Nat.add_zero]
-- the reference's rounds
theorem y_mend {τ : St} {i p : Nat} (hi : i < 100) (n : Nat) : fX6_matches_L9 (n + 1) τ 1 (nI p) (nI i) = some τ := by
  rw [fX6_matches_L9.eq_2, if_gd (vin_nI hi (by omega)), if_pos (show ¬ (1 : Int32) = 0 by decide), ite_self]
theorem y_mz {τ : St} {i p : Nat} (hi : i < 100) (n : Nat) (v : Int32) (h : gI τ 15 0 i ≤ 0) : fX6_matches_L9 (n + 1) τ v (nI p) (nI i) = some τ := by
  rw [fX6_matches_L9.eq_2, if_gd (vin_nI hi (by omega)), clamp_nI (show i < 2147483648 by omega), if_pos h]
theorem y_mn0 {τ : St} {i p : Nat} (hi : i < 100) (n : Nat) (hl : ¬ gI τ 15 0 i ≤ 0) (h13 : gI τ 13 0 i = 0) (hq : fX6_bestOf τ (nI p) 1 = some (-1)) : fX6_matches_L9 (n + 2) τ 0 (nI p) (nI i) = some τ := by
  rw [fX6_matches_L9.eq_2, if_gd (vin_nI hi (by omega)), clamp_nI (show i < 2147483648 by omega), if_neg hl, if_neg (not_not_intro rfl), if_neg (not_not_intro h13), hq, bd_some, if_pos rfl]
  exact y_mend hi n
theorem y_mn1 {τ : St} {i p : Nat} (hi : i < 100) (n : Nat) (hl : ¬ gI τ 15 0 i ≤ 0) (h13 : ¬ gI τ 13 0 i = 0) (hq : fX6_bestOf τ (nI p) 0 = some (-1)) : fX6_matches_L9 (n + 2) τ 0 (nI p) (nI i) = some τ := by
  rw [fX6_matches_L9.eq_2, if_gd (vin_nI hi (by omega)), clamp_nI (show i < 2147483648 by omega), if_neg hl, if_neg (not_not_intro rfl), if_pos h13, hq, bd_some, if_pos rfl]
  exact y_mend hi n
theorem y_mo0 {τ : St} {i k p : Nat} (hi : i < 100) (hk : k < 100) (n : Nat) (hl : ¬ gI τ 15 0 i ≤ 0) (h13 : gI τ 13 0 i = 0) (hq : fX6_bestOf τ (nI p) 1 = some (nI k)) (hm : ¬ gI τ 14 0 i ≤ gI τ 14 0 k) : fX6_matches_L9 (n + 2) τ 0 (nI p) (nI i) = some τ := by
  rw [fX6_matches_L9.eq_2, if_gd (vin_nI hi (by omega)), clamp_nI (show i < 2147483648 by omega), if_neg hl, if_neg (not_not_intro rfl), if_neg (not_not_intro h13), hq, bd_some, if_neg (nI_ne1 (by omega)), if_pos h13, if_gd (vin_nI hk (by omega)), clamp_nI (show k < 2147483648 by omega), if_neg hm]
  exact y_mend hi n
theorem y_mo1 {τ : St} {i k p : Nat} (hi : i < 100) (hk : k < 100) (n : Nat) (hl : ¬ gI τ 15 0 i ≤ 0) (h13 : ¬ gI τ 13 0 i = 0) (hq : fX6_bestOf τ (nI p) 0 = some (nI k)) (hm : ¬ gI τ 14 0 k ≤ gI τ 14 0 i) : fX6_matches_L9 (n + 2) τ 0 (nI p) (nI i) = some τ := by
  rw [fX6_matches_L9.eq_2, if_gd (vin_nI hi (by omega)), clamp_nI (show i < 2147483648 by omega), if_neg hl, if_neg (not_not_intro rfl), if_pos h13, hq, bd_some, if_neg (nI_ne1 (by omega)), if_neg h13, if_gd (vin_nI hk (by omega)), clamp_nI (show k < 2147483648 by omega), if_neg hm]
  exact y_mend hi n
theorem y_mc0 {τ : St} {i k p : Nat} (hi : i < 100) (hk : k < 100) (n : Nat) (hl : ¬ gI τ 15 0 i ≤ 0) (h13 : gI τ 13 0 i = 0) (hq : fX6_bestOf τ (nI p) 1 = some (nI k)) (hm : gI τ 14 0 i ≤ gI τ 14 0 k) (hw : gI τ 11 0 k = gI τ 11 0 i) : fX6_matches_L9 (n + 1) τ 0 (nI p) (nI i) = fX6_matches_L9 n (pI τ 15 0 k 0) 0 (nI p) (nI i) := by
  rw [fX6_matches_L9.eq_2, if_gd (vin_nI hi (by omega)), clamp_nI (show i < 2147483648 by omega), if_neg hl, if_neg (not_not_intro rfl), if_neg (not_not_intro h13), hq, bd_some, if_neg (nI_ne1 (by omega)), if_pos h13, if_gd (vin_nI hk (by omega)), clamp_nI (show k < 2147483648 by omega), if_pos hm, if_neg (not_not_intro hw)]
theorem y_mc1 {τ : St} {i k p : Nat} (hi : i < 100) (hk : k < 100) (n : Nat) (hl : ¬ gI τ 15 0 i ≤ 0) (h13 : ¬ gI τ 13 0 i = 0) (hq : fX6_bestOf τ (nI p) 0 = some (nI k)) (hm : gI τ 14 0 k ≤ gI τ 14 0 i) (hw : gI τ 11 0 k = gI τ 11 0 i) : fX6_matches_L9 (n + 1) τ 0 (nI p) (nI i) = fX6_matches_L9 n (pI τ 15 0 k 0) 0 (nI p) (nI i) := by
  rw [fX6_matches_L9.eq_2, if_gd (vin_nI hi (by omega)), clamp_nI (show i < 2147483648 by omega), if_neg hl, if_neg (not_not_intro rfl), if_pos h13, hq, bd_some, if_neg (nI_ne1 (by omega)), if_neg h13, if_gd (vin_nI hk (by omega)), clamp_nI (show k < 2147483648 by omega), if_pos hm, if_neg (not_not_intro hw)]
def mq (τ : St) (i k : Nat) : Int32 := if gI τ 15 0 i ≤ gI τ 15 0 k then gI τ 15 0 i else gI τ 15 0 k
def mT (τ : St) (i k b s p : Nat) : St := trT (pI (pI τ 15 0 k (gI τ 15 0 k - mq τ i k)) 15 0 i (gI τ 15 0 i - mq τ i k)) b s p (mq τ i k) (gI τ 14 0 k)
theorem mT_eq {τ : St} {i k b s p : Nat} (hik : i ≠ k) {q : Int32} (hq : mq τ i k = q) : pI (pI (trT τ b s p q (gI τ 14 0 k)) 15 0 k (gI (trT τ b s p q (gI τ 14 0 k)) 15 0 k - q)) 15 0 i (gI (pI (trT τ b s p q (gI τ 14 0 k)) 15 0 k (gI (trT τ b s p q (gI τ 14 0 k)) 15 0 k - q)) 15 0 i - q) = mT τ i k b s p := by
  unfold mT
  rw [hq]
  have e1 : gI (trT τ b s p q (gI τ 14 0 k)) 15 0 k = gI τ 15 0 k := rfl
  have e2 : gI (pI (trT τ b s p q (gI τ 14 0 k)) 15 0 k (gI τ 15 0 k - q)) 15 0 i = gI τ 15 0 i := by
    rw [gI_pI, if_neg (fun z => hik z.2.2)]
    rfl
  rw [e1, e2, trT_pI, trT_pI]
theorem y_mt0 {τ : St} {i k p w mi : Nat} (hi : i < 100) (hk : k < 100) (hik : i ≠ k) (n : Nat) (hl : ¬ gI τ 15 0 i ≤ 0) (h13 : gI τ 13 0 i = 0) (hq : fX6_bestOf τ (nI p) 1 = some (nI k)) (hm : gI τ 14 0 i ≤ gI τ 14 0 k) (hw : ¬ gI τ 11 0 k = gI τ 11 0 i) (ew : gI τ 11 0 k = nI w) (em : gI τ 11 0 i = nI mi) (hw5 : w < 5) (hm5 : mi < 5) (hp : p < 3) : fX6_matches_L9 (n + 1) τ 0 (nI p) (nI i) = fX6_matches_L9 n (mT τ i k w mi p) 0 (nI p) (nI i) := by
  rw [fX6_matches_L9.eq_2, if_gd (vin_nI hi (by omega)), clamp_nI (show i < 2147483648 by omega), if_neg hl, if_neg (not_not_intro rfl), if_neg (not_not_intro h13), hq, bd_some, if_neg (nI_ne1 (by omega)), if_pos h13, if_gd (vin_nI hk (by omega)), clamp_nI (show k < 2147483648 by omega), if_pos hm, if_pos hw]
  by_cases c : gI τ 15 0 i ≤ gI τ 15 0 k
  · rw [if_pos c, kst_d, if_pos h13, if_pos h13, ew, em, y_trade τ hw5 hm5 hp, bd_some, mT_eq hik (show mq τ i k = gI τ 15 0 i from if_pos c)]
  · rw [if_neg c, kst_d, if_pos h13, if_pos h13, ew, em, y_trade τ hw5 hm5 hp, bd_some, mT_eq hik (show mq τ i k = gI τ 15 0 k from if_neg c)]
theorem y_mt1 {τ : St} {i k p w mi : Nat} (hi : i < 100) (hk : k < 100) (hik : i ≠ k) (n : Nat) (hl : ¬ gI τ 15 0 i ≤ 0) (h13 : ¬ gI τ 13 0 i = 0) (hq : fX6_bestOf τ (nI p) 0 = some (nI k)) (hm : gI τ 14 0 k ≤ gI τ 14 0 i) (hw : ¬ gI τ 11 0 k = gI τ 11 0 i) (ew : gI τ 11 0 k = nI w) (em : gI τ 11 0 i = nI mi) (hw5 : w < 5) (hm5 : mi < 5) (hp : p < 3) : fX6_matches_L9 (n + 1) τ 0 (nI p) (nI i) = fX6_matches_L9 n (mT τ i k mi w p) 0 (nI p) (nI i) := by
  rw [fX6_matches_L9.eq_2, if_gd (vin_nI hi (by omega)), clamp_nI (show i < 2147483648 by omega), if_neg hl, if_neg (not_not_intro rfl), if_pos h13, hq, bd_some, if_neg (nI_ne1 (by omega)), if_neg h13, if_gd (vin_nI hk (by omega)), clamp_nI (show k < 2147483648 by omega), if_pos hm, if_pos hw]
  by_cases c : gI τ 15 0 i ≤ gI τ 15 0 k
  · rw [if_pos c, kst_d, if_neg h13, if_neg h13, ew, em, y_trade τ hm5 hw5 hp, bd_some, mT_eq hik (show mq τ i k = gI τ 15 0 i from if_pos c)]
  · rw [if_neg c, kst_d, if_neg h13, if_neg h13, ew, em, y_trade τ hm5 hw5 hp, bd_some, mT_eq hik (show mq τ i k = gI τ 15 0 k from if_neg c)]
/-- a trade of two orders: all that holds goes on to hold, and one order less is open -/
def mS (σ : St) (i k b s p : Nat) (q : Int32) : St := trS (pI (pI σ 35 i 0 (gI σ 35 i 0 - q)) 35 k 0 (gI σ 35 k 0 - q)) b s p q (gI σ 34 k 0)
theorem m_step {B : Int} {σ τ : St} (h : G B σ τ) (hB : B < 50000) {i k b s p : Nat} (hi : i < tn τ) (hk : k < tn τ) (hik : i ≠ k) (hli : 0 < lf τ i) (hlk : 0 < lf τ k) (hb : b < 5) (hs : s < 5) (hp : p < 3) (hbs : b ≠ s) :
    G B (mS σ i k b s p (mq τ i k)) (mT τ i k b s p) ∧ op (mT τ i k b s p) ≤ op τ - 1 ∧ (MN τ (mT τ i k b s p) ∧ 0 ≤ (mq τ i k).toInt ∧ (mq τ i k).toInt ≤ lf τ i ∧ (mq τ i k).toInt ≤ lf τ k ∧ ((mq τ i k).toInt = lf τ i ∨ (mq τ i k).toInt = lf τ k) ∧ ps (mT τ i k b s p) (3 * b + p) = ps τ (3 * b + p) + (mq τ i k).toInt ∧ ps (mT τ i k b s p) (3 * s + p) = ps τ (3 * s + p) - (mq τ i k).toInt ∧ lf (mT τ i k b s p) i = lf τ i - (mq τ i k).toInt) ∧ ∃ mc ms, fX5_trade (pI (pI σ 35 i 0 (gI σ 35 i 0 - mq τ i k)) 35 k 0 (gI σ 35 k 0 - mq τ i k)) (nI b) (nI s) (nI p) (mq τ i k) (gI σ 34 k 0) = some (mS σ i k b s p (mq τ i k), mc, ms) ∧ mc + pot σ ≤ pot (mS σ i k b s p (mq τ i k)) ∧ ms + pot σ ≤ pot (mS σ i k b s p (mq τ i k)) := by
  have hO := G_BO h
  have hIO := G_IO h
  have e35i := (hIO.2 i hi).2.2.2.2.2
  have e35k := (hIO.2 k hk).2.2.2.2.2
  have e34k := (hIO.2 k hk).2.2.2.2.1
  have li := lf_ge hO hi
  have lk := lf_ge hO hk
  obtain ⟨-, -, -, x1, x2, -⟩ := hO.2.2 k hk
  have hq : (mq τ i k).toInt ≤ lf τ i ∧ (mq τ i k).toInt ≤ lf τ k ∧ ((mq τ i k).toInt = lf τ i ∨ (mq τ i k).toInt = lf τ k) := by
    unfold mq
    by_cases c : gI τ 15 0 i ≤ gI τ 15 0 k
    · have c' : lf τ i ≤ lf τ k := Int32.le_iff_toInt_le.mp c
      rw [if_pos c]
      exact ⟨Int.le_refl _, c', Or.inl rfl⟩
    · have c' : ¬ lf τ i ≤ lf τ k := mt Int32.le_iff_toInt_le.mpr c
      rw [if_neg c]
      exact ⟨by show lf τ k ≤ _; omega, Int.le_refl _, Or.inr rfl⟩
  unfold mS mT
  rw [e35i, e35k, e34k]
  generalize hqq : mq τ i k = q at hq ⊢
  have vi : (gI τ 15 0 i - q).toInt = lf τ i - q.toInt := sub32 rfl rfl (by show _ ≤ lf τ i - _; omega) (by show lf τ i - _ < _; omega)
  have vk : (gI τ 15 0 k - q).toInt = lf τ k - q.toInt := sub32 rfl rfl (by show _ ≤ lf τ k - _; omega) (by show lf τ k - _ < _; omega)
  have h1 := G_left h hk (v := gI τ 15 0 k - q) (by omega) (by omega)
  have hk1 : lf (pI τ 15 0 k (gI τ 15 0 k - q)) i = lf τ i := by rw [lf_pI, if_neg hik]
  have h2 := G_left h1 (k := i) hi (v := gI τ 15 0 i - q) (by omega) (by rw [hk1]; omega)
  rw [pI_commj σ (fun z => hik z.1.symm)] at h2
  generalize ht2 : pI (pI τ 15 0 k (gI τ 15 0 k - q)) 15 0 i (gI τ 15 0 i - q) = τ2 at h2 ⊢
  have s1 : sm (lf τ2) (tn τ) = sm (lf τ) (tn τ) - 2 * q.toInt := by
    have a := lf_sum_pI hk (gI τ 15 0 k - q)
    have b := lf_sum_pI (τ := pI τ 15 0 k (gI τ 15 0 k - q)) (k := i) hi (gI τ 15 0 i - q)
    rw [ht2] at b
    have b' : sm (lf τ2) (tn τ) = sm (lf (pI τ 15 0 k (gI τ 15 0 k - q))) (tn τ) - lf (pI τ 15 0 k (gI τ 15 0 k - q)) i + (gI τ 15 0 i - q).toInt := b
    rw [b', a, hk1, vi, vk]
    omega
  have o1 : op τ2 = op τ - 2 + ((if 0 < lf τ k - q.toInt then 1 else 0) + (if 0 < lf τ i - q.toInt then 1 else 0)) := by
    have a := op_pI hk (gI τ 15 0 k - q)
    have b := op_pI (τ := pI τ 15 0 k (gI τ 15 0 k - q)) (k := i) hi (gI τ 15 0 i - q)
    rw [ht2] at b
    have c1 : oc1 τ k = 1 := if_pos hlk
    have c2 : oc1 (pI τ 15 0 k (gI τ 15 0 k - q)) i = 1 := by unfold oc1; rw [hk1, if_pos hli]
    rw [b, a, c1, c2, vi, vk]
    omega
  have hop : op τ2 ≤ op τ - 1 := by
    rw [o1]
    rcases hq.2.2 with e | e
    · rw [if_neg (show ¬ (0 < lf τ i - q.toInt) by omega)]
      split <;> omega
    · rw [if_neg (show ¬ (0 < lf τ k - q.toInt) by omega)]
      split <;> omega
  have p1 : ∀ j, ps τ2 j = ps τ j := fun j => by rw [← ht2]; rfl
  have n1 : tn τ2 = tn τ := by rw [← ht2]; rfl
  have bb := ps_bnd hO (G_BP h) (j := 3 * b + p) (by omega)
  have bs := ps_bnd hO (G_BP h) (j := 3 * s + p) (by omega)
  have hBP : BP (trT τ2 b s p q (gI τ 14 0 k)) := by
    have e := (tr_sum (τ := τ2) (x := gI τ 14 0 k) hb hs hp hbs (q := q) (by omega) (by rw [p1]; exact bb) (by rw [p1]; exact bs)).1
    have hh := G_BP h
    unfold BP at hh ⊢
    rw [e]
    show _ + 2 * sm (lf τ2) (tn τ2) ≤ 200 * (tn τ2 : Int)
    rw [n1, s1]
    simp only [p1]
    have hle : 0 ≤ q.toInt := by rcases hq.2.2 with e | e <;> omega
    omega
  have hle : 0 ≤ q.toInt := by rcases hq.2.2 with e | e <;> omega
  obtain ⟨g1, g2, g3⟩ := G_trade h2 hB hb hs hp hbs (q := q) (x := gI τ 14 0 k) ⟨hle, by omega⟩ ⟨x1, x2⟩ hBP
  have o2 : op (trT τ2 b s p q (gI τ 14 0 k)) = op τ2 := rfl
  have hts := tr_sum (τ := τ2) (x := gI τ 14 0 k) hb hs hp hbs (q := q) (by omega) (by rw [p1]; exact bb) (by rw [p1]; exact bs)
  have hMN : MN τ (trT τ2 b s p q (gI τ 14 0 k)) := MN_trade (τ1 := τ2) hb hs hbs hp (by rw [← ht2]; exact SM_tr (SM_left τ k _) (SM_left _ i _)) (fun m => by rw [← ht2]; rfl) p1 ((G_BQ h) p hp).1 (by
      have e := lf_sum h2.1.2.2.2.2.2.2.2.2.1
      rw [n1] at e
      exact e) x1 (fun K hK => hK.2.2.1 k hk) ⟨hle, by omega⟩ bb bs (by rw [s1]; omega)
  refine ⟨⟨g1.1, g1.2.1, g1.2.2.1, ?_, g1.2.2.2.2⟩, by rw [o2]; exact hop, ⟨hMN, hle, hq.1, hq.2.1, hq.2.2, by rw [hts.2.1, p1], by rw [hts.2.2.1, p1], by show lf τ2 i = _; rw [← ht2, lf_pI, if_pos rfl, vi]⟩, g2⟩
  rw [g3]
  show (gN σ 1 : Int) + op τ2 + 1 ≤ B
  have := h.2.2.2.1
  omega
