/-! PURE: haircuts, equity, collateral -/
def kq (τ : St) (k j : Nat) : Int32 := gI τ 3 0 (4 * k + j)
def hG (g x : Int32) : Int32 := if x ≤ g then g else x
def hL (l x : Int32) : Int32 := if x ≤ 0 then l else if l ≤ x then l else x
def hcut (g l last : Int32) : Int32 := if 90 ≤ 10 + ((((g - l) * 100) + last) - 1) / last then 90 else 10 + ((((g - l) * 100) + last) - 1) / last
def sHair (τ : St) (k : Nat) : Int32 := hcut (hG (hG (hG (kq τ k 0) (kq τ k 1)) (kq τ k 2)) (kq τ k 3)) (hL (hL (hL (kq τ k 0) (kq τ k 1)) (kq τ k 2)) (kq τ k 3)) (kq τ k 0)
theorem ix40 {k : Nat} (hk : k < 2) : (4 * nI k).toNatClampNeg = 4 * k + 0 ∧ vin (4 * nI k) 8 := by
  have h := ix4 k hk 0 (by omega)
  rw [nI_0, Int32.add_zero] at h
  exact h
theorem y_hairS {τ : St} {k : Nat} (hk : k < 2) {j : Nat} (hj : j < 4) (n : Nat) (g l : Int32) : fX6_haircutOf_L14 τ (n + 1) (nI j) g l (nI k) = fX6_haircutOf_L14 τ n (nI (j + 1)) (hG g (kq τ k j)) (hL l (kq τ k j)) (nI k) := by
  rw [fX6_haircutOf_L14.eq_2, if_neg (show ¬ (4 : Int32) ≤ nI j from nI_ge (a := j) (b := 4) hj (by omega)), if_gd (ix4 k hk j hj).2, (ix4 k hk j hj).1]
  simp only [kst, nI_1]
  unfold hG hL kq
  split
  · split <;> rfl
  · split
    · split <;> rfl
    · split <;> rfl
theorem y_hair {τ : St} {k : Nat} (hk : k < 2) (h0 : kq τ k 0 ≠ 0) : fX6_haircutOf τ (nI k) = some (sHair τ k) := by
  unfold fX6_haircutOf
  rw [if_gd (ix40 hk).2, (ix40 hk).1]
  simp only [kst]
  show fX6_haircutOf_L14 τ (999 + 1) (nI 1) (kq τ k 0) (kq τ k 0) (nI k) = _
  rw [y_hairS hk (by omega), y_hairS hk (by omega), y_hairS hk (by omega), fX6_haircutOf_L14.eq_2, if_pos (show (4 : Int32) ≤ nI 4 by decide), if_gd (ix40 hk).2, (ix40 hk).1]
  simp only [kst]
  rw [if_gd (show ¬ gI τ 3 0 (4 * k + 0) = 0 from h0)]
  unfold sHair hcut
  rw [show kq τ k 0 = gI τ 3 0 (4 * k + 0) from rfl]
  split <;> rfl
def hM (g x : Int32) : Int32 := if g < x then x else g
def hm (l x : Int32) : Int32 := if x < l then x else l
theorem x_hairS {σ : St} {k j : Nat} (hj : j < 4) (n : Nat) (g l last : Int32) : fX5_haircutBy_L7 σ (n + 1) (nI j) l g k last = fX5_haircutBy_L7 σ n (nI (j + 1)) (hm l (gI σ 11 k j)) (hM g (gI σ 11 k j)) k last := by
  rw [fX5_haircutBy_L7.eq_2, if_neg (show ¬ (4 : Int32) ≤ nI j from nI_ge (a := j) (b := 4) hj (by omega)), if_gd (vin_nI hj (by omega)), clamp_nI (show j < 2147483648 by omega)]
  simp only [kst, nI_1]
  rfl
/-- the rows of the two sides: the one is the other turned round, what was never told stands as the first price -/
def HR (L0 L1 L2 L3 q0 q1 q2 q3 : Int32) : Prop := L3 = q0 ∧ 1 ≤ q0.toInt ∧ q0.toInt ≤ 9999 ∧ ((1 ≤ q1.toInt ∧ L2 = q1) ∨ (q1 = 0 ∧ L2 = 100 ∧ q0 = 100)) ∧ ((1 ≤ q2.toInt ∧ L1 = q2) ∨ (q2 = 0 ∧ L1 = 100 ∧ (q0 = 100 ∨ q1 = 100))) ∧ ((1 ≤ q3.toInt ∧ L0 = q3) ∨ (q3 = 0 ∧ L0 = 100 ∧ (q0 = 100 ∨ q1 = 100 ∨ q2 = 100)))
theorem hG_i (g x : Int32) : (hG g x).toInt = if x.toInt ≤ g.toInt then g.toInt else x.toInt := by
  unfold hG
  rw [← apply_ite]
  simp only [Int32.le_iff_toInt_le]
theorem hL_i (l x : Int32) : (hL l x).toInt = if x.toInt ≤ 0 then l.toInt else if l.toInt ≤ x.toInt then l.toInt else x.toInt := by
  unfold hL
  by_cases h : x ≤ 0
  · rw [if_pos h, if_pos (show x.toInt ≤ 0 from Int32.le_iff_toInt_le.mp h)]
  · rw [if_neg h, if_neg (show ¬ x.toInt ≤ 0 from fun q => h (Int32.le_iff_toInt_le.mpr q)), ← apply_ite]
    simp only [Int32.le_iff_toInt_le]
theorem hM_i (g x : Int32) : (hM g x).toInt = if g.toInt < x.toInt then x.toInt else g.toInt := by
  unfold hM
  rw [← apply_ite]
  simp only [Int32.lt_iff_toInt_lt]
theorem hm_i (g x : Int32) : (hm g x).toInt = if x.toInt < g.toInt then x.toInt else g.toInt := by
  unfold hm
  rw [← apply_ite]
  simp only [Int32.lt_iff_toInt_lt]
theorem hr_eq {L0 L1 L2 L3 q0 q1 q2 q3 : Int32} (h : HR L0 L1 L2 L3 q0 q1 q2 q3) : hM (hM (hM (hM q0 L0) L1) L2) L3 = hG (hG (hG q0 q1) q2) q3 ∧ hm (hm (hm (hm q0 L0) L1) L2) L3 = hL (hL (hL q0 q1) q2) q3 := by
  obtain ⟨rfl, h0, h0', h1, h2, h3⟩ := h
  have e100 : (100 : Int32).toInt = 100 := by decide
  have e0 : (0 : Int32).toInt = 0 := by decide
  have h1 : (1 ≤ q1.toInt ∧ L2.toInt = q1.toInt) ∨ (q1.toInt = 0 ∧ L2.toInt = 100 ∧ L3.toInt = 100) := by
    rcases h1 with ⟨a, rfl⟩ | ⟨rfl, rfl, rfl⟩
    · exact Or.inl ⟨a, rfl⟩
    · exact Or.inr ⟨rfl, rfl, rfl⟩
  have h2 : (1 ≤ q2.toInt ∧ L1.toInt = q2.toInt) ∨ (q2.toInt = 0 ∧ L1.toInt = 100 ∧ (L3.toInt = 100 ∨ q1.toInt = 100)) := by
    rcases h2 with ⟨a, rfl⟩ | ⟨rfl, rfl, a⟩
    · exact Or.inl ⟨a, rfl⟩
    · exact Or.inr ⟨rfl, rfl, by rcases a with rfl | rfl <;> simp [e100]⟩
  have h3 : (1 ≤ q3.toInt ∧ L0.toInt = q3.toInt) ∨ (q3.toInt = 0 ∧ L0.toInt = 100 ∧ (L3.toInt = 100 ∨ q1.toInt = 100 ∨ q2.toInt = 100)) := by
    rcases h3 with ⟨a, rfl⟩ | ⟨rfl, rfl, a⟩
    · exact Or.inl ⟨a, rfl⟩
    · exact Or.inr ⟨rfl, rfl, by rcases a with rfl | rfl | rfl <;> simp [e100]⟩
  constructor
  · rw [← Int32.toInt_inj]
    simp only [hM_i, hG_i]
    omega
  · rw [← Int32.toInt_inj]
    simp only [hm_i, hL_i]
    omega
theorem dividedUp_of {σ : St} {a b : Int32} (h : 1 ≤ b.toInt) : fX5_dividedUp σ a b = some (((a + b) - 1) / b) := by
  have h1 : (1 : Int32) ≤ b := (le32 (A := 1) (by decide) rfl).mpr h
  unfold fX5_dividedUp
  rw [if_pos h1]
  exact if_gd (c := ¬ b = 0) (fun e => by rw [e] at h; exact absurd h (by decide))
theorem cut90 (c : Int32) : (if c < 90 then c else 90) = if 90 ≤ c then 90 else c := by
  have e90 : (90 : Int32).toInt = 90 := by decide
  by_cases q : c < 90
  · rw [if_pos q, if_neg (fun q2 => by have := (lt32 rfl e90).mp q; have := (le32 e90 rfl).mp q2; omega)]
  · rw [if_neg q, if_pos (by
      have := mt (lt32 rfl e90).mpr q
      exact (le32 e90 rfl).mpr (by omega))]
theorem x_hair {σ τ : St} {k : Nat} (h : HR (gI σ 11 k 0) (gI σ 11 k 1) (gI σ 11 k 2) (gI σ 11 k 3) (kq τ k 0) (kq τ k 1) (kq τ k 2) (kq τ k 3)) : fX5_haircutBy σ k (kq τ k 0) = some (sHair τ k) := by
  unfold fX5_haircutBy
  show fX5_haircutBy_L7 σ (999 + 1) (nI 0) (kq τ k 0) (kq τ k 0) k (kq τ k 0) = _
  rw [x_hairS (by omega), x_hairS (by omega), x_hairS (by omega), x_hairS (by omega), fX5_haircutBy_L7.eq_2, if_pos (show (4 : Int32) ≤ nI 4 by decide), (hr_eq h).1, (hr_eq h).2, dividedUp_of h.2.1]
  exact congrArg some (cut90 _)
def IK (σ τ : St) : Prop := ∀ k, k < 2 → gI σ 6 k 0 = sHair τ k ∧ HR (gI σ 11 k 0) (gI σ 11 k 1) (gI σ 11 k 2) (gI σ 11 k 3) (kq τ k 0) (kq τ k 1) (kq τ k 2) (kq τ k 3)
theorem IK_ne {σ τ : St} (h : IK σ τ) {k : Nat} (hk : k < 2) : kq τ k 0 ≠ 0 := fun e => by
  have := (h k hk).2.2.1
  rw [e] at this
  exact absurd this (by decide)
/-- what units of a kind count for -/
def sWor (τ : St) (k : Nat) (u : Int32) : Int64 := ((u.toInt64 * (kq τ k 0).toInt64) * (100 - sHair τ k).toInt64) / 100
theorem x_wor {σ τ : St} (h : IK σ τ) {k : Nat} (hk : k < 2) (u : Int32) : fX5_worthOf σ (nI k) u = some (sWor τ k u) := by
  unfold fX5_worthOf
  rw [if_gd (vin_nI hk (by omega)), clamp_nI (by omega)]
  simp only [kst]
  rw [show (3 : Int32).toNatClampNeg = 3 from by decide, (h k hk).1, (h k hk).2.1]
  rfl
def sCol (τ : St) (m : Nat) : Int64 := (0 + sWor τ 0 (gI τ 7 0 (2 * m + 0))) + sWor τ 1 (gI τ 7 0 (2 * m + 1))
theorem x_colS {σ τ : St} (h : IK σ τ) (hU : IU σ τ) {m k : Nat} (hm : m < 5) (hk : k < 2) (n : Nat) (v : Int64) : fX5_collateralOf_L5 σ (n + 1) (nI k) v (nI m) = fX5_collateralOf_L5 σ n (nI (k + 1)) (v + sWor τ k (gI τ 7 0 (2 * m + k))) (nI m) := by
  rw [fX5_collateralOf_L5.eq_2, if_neg (show ¬ (2 : Int32) ≤ nI k from nI_ge (a := k) (b := 2) hk (by omega)), if_gd (vin_nI hm (by omega)), if_gd (vin_nI hk (by omega)), clamp_nI (show m < 2147483648 by omega), clamp_nI (show k < 2147483648 by omega), hU m hm k hk, x_wor h hk]
  simp only [kst, nI_1]
  rfl
theorem x_col {σ τ : St} (h : IK σ τ) (hU : IU σ τ) {m : Nat} (hm : m < 5) : fX5_collateralOf σ (nI m) = some (sCol τ m) := by
  unfold fX5_collateralOf
  show fX5_collateralOf_L5 σ (999 + 1) (nI 0) 0 (nI m) = _
  rw [x_colS h hU hm (by omega), x_colS h hU hm (by omega), fX5_collateralOf_L5.eq_2, if_pos (show (2 : Int32) ≤ nI 2 by decide)]
  rfl
theorem y_colS {τ : St} {m k : Nat} (hm : m < 5) (hk : k < 2) (hne : kq τ k 0 ≠ 0) (n : Nat) (v : Int64) : fX6_collateralOf_L5 τ (n + 1) (nI k) v (nI m) = fX6_collateralOf_L5 τ n (nI (k + 1)) (v + sWor τ k (gI τ 7 0 (2 * m + k))) (nI m) := by
  rw [fX6_collateralOf_L5.eq_2, if_neg (show ¬ (2 : Int32) ≤ nI k from nI_ge (a := k) (b := 2) hk (by omega)), if_gd (ix2 m hm k hk).2, if_gd (ix40 hk).2, (ix2 m hm k hk).1, (ix40 hk).1, y_hair hk hne]
  simp only [kst, nI_1]
  rfl
theorem y_col {τ : St} {m : Nat} (hm : m < 5) (hne : ∀ k, k < 2 → kq τ k 0 ≠ 0) : fX6_collateralOf τ (nI m) = some (sCol τ m) := by
  unfold fX6_collateralOf
  show fX6_collateralOf_L5 τ (999 + 1) (nI 0) 0 (nI m) = _
  rw [y_colS hm (by omega) (hne 0 (by omega)), y_colS hm (by omega) (hne 1 (by omega)), fX6_collateralOf_L5.eq_2, if_pos (show (2 : Int32) ≤ nI 2 by decide)]
  rfl
/-- the difference of a product, and the equity -/
def sDif (τ : St) (m p : Nat) : Int64 := (gI τ 4 0 (3 * m + p)).toInt64 * (gI τ 1 0 p).toInt64 - gL τ 5 0 (3 * m + p)
def sEq (τ : St) (m : Nat) : Int64 := ((gL τ 6 0 m + sDif τ m 0) + sDif τ m 1) + sDif τ m 2
theorem x_dif {σ τ : St} (hP : IP σ τ) (hQ : IQ σ τ) {m p : Nat} (hm : m < 5) (hp : p < 3) : fX5_differenceOf σ m (nI p) = some (sDif τ m p) := by
  unfold fX5_differenceOf
  rw [if_gd (vin_nI hp (by omega)), clamp_nI (show p < 2147483648 by omega), (hP m hm p hp).1, (hP m hm p hp).2, (hQ p hp).1]
  rfl
theorem x_eqS {σ τ : St} (hP : IP σ τ) (hQ : IQ σ τ) {m p : Nat} (hm : m < 5) (hp : p < 3) (n : Nat) (v : Int64) (a : Int32) : fX5_equityOf_L15 σ (n + 1) (nI p) v m a = fX5_equityOf_L15 σ n (nI (p + 1)) (v + sDif τ m p) m a := by
  rw [fX5_equityOf_L15.eq_2, if_neg (show ¬ (3 : Int32) ≤ nI p from nI_ge (a := p) (b := 3) hp (by omega)), x_dif hP hQ hm hp]
  simp only [kst, nI_1, bd_some]
theorem x_eq {σ τ : St} (hA : IA σ τ) (hP : IP σ τ) (hQ : IQ σ τ) {m : Nat} (hm : m < 5) : fX5_equityOf σ (nI m) = some (sEq τ m) := by
  unfold fX5_equityOf
  rw [if_gd (vin_nI hm (by omega)), clamp_nI (show m < 2147483648 by omega), (hA m hm).1]
  simp only [kst]
  show fX5_equityOf_L15 σ (999 + 1) (nI 0) _ m (nI m) = _
  rw [x_eqS hP hQ hm (by omega), x_eqS hP hQ hm (by omega), x_eqS hP hQ hm (by omega), fX5_equityOf_L15.eq_2, if_pos (show (3 : Int32) ≤ nI 3 by decide)]
  rfl
theorem y_wor {τ : St} {m p : Nat} (hm : m < 5) (hp : p < 3) : fX6_worth τ (nI m) (nI p) = some ((gI τ 4 0 (3 * m + p)).toInt64 * (gI τ 1 0 p).toInt64) := by
  unfold fX6_worth
  rw [if_gd (ix3 m hm p hp).2, if_gd (vin_nI hp (by omega)), (ix3 m hm p hp).1, clamp_nI (show p < 2147483648 by omega)]
theorem y_eqS {τ : St} {m p : Nat} (hm : m < 5) (hp : p < 3) (n : Nat) (v : Int64) : fX6_equityOf_L10 τ (n + 1) (nI p) v (nI m) = fX6_equityOf_L10 τ n (nI (p + 1)) (v + sDif τ m p) (nI m) := by
  rw [fX6_equityOf_L10.eq_2, if_neg (show ¬ (3 : Int32) ≤ nI p from nI_ge (a := p) (b := 3) hp (by omega)), y_wor hm hp, bd_some, if_gd (ix3 m hm p hp).2, (ix3 m hm p hp).1]
  simp only [kst, nI_1]
  rfl
theorem y_eq {τ : St} {m : Nat} (hm : m < 5) : fX6_equityOf τ (nI m) = some (sEq τ m) := by
  unfold fX6_equityOf
  rw [if_gd (vin_nI hm (by omega)), clamp_nI (show m < 2147483648 by omega)]
  simp only [kst]
  show fX6_equityOf_L10 τ (999 + 1) (nI 0) _ (nI m) = _
  rw [y_eqS hm (by omega), y_eqS hm (by omega), y_eqS hm (by omega), fX6_equityOf_L10.eq_2, if_pos (show (3 : Int32) ≤ nI 3 by decide)]
  rfl
