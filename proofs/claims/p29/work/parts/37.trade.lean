/-! PURE: a trade; the log -/
def bkS (σ : St) (m p : Nat) (q x : Int32) : St := pL (pI σ 4 m p (gI σ 4 m p + q)) 5 m p (gL σ 5 m p + q.toInt64 * x.toInt64)
def lg0 (σ : St) (b s p q x : Int32) : St := pI (pI (pI (pI (pI (newT σ) 40 (gN σ 6) 0 b) 41 (gN σ 6) 0 s) 42 (gN σ 6) 0 p) 43 (gN σ 6) 0 q) 44 (gN σ 6) 0 x
def lgS (σ : St) (b s p q x : Int32) : St := addL14 (lg0 σ b s p q x)
theorem lg0_n (σ : St) (b s p q x : Int32) : gN (lg0 σ b s p q x) 1 = gN σ 1 ∧ gN (lg0 σ b s p q x) 3 = gN σ 3 ∧ gN (lg0 σ b s p q x) 6 = gN σ 6 + 1 ∧ sameN (lg0 σ b s p q x) (newT σ) := ⟨rfl, rfl, rfl, rfl, rfl, rfl, rfl, rfl, rfl, rfl⟩
theorem init4 (σ : St) (b s p q x : Int32) : fX4_init (newT σ) (gN σ 6) b s p q x = some (lg0 σ b s p q x) := rfl
def trS (σ : St) (b s p : Nat) (q x : Int32) : St := pI (lgS (bkS (bkS σ b p q x) s p (-q) x) (nI b) (nI s) (nI p) q x) 20 0 0 (gI σ 20 0 0 + 1)
theorem tk_some {β : Type} (c s : Nat) (b : β) (m n : Nat) : tk c s (some (b, m, n)) = some (b, c + m, s + n) := rfl
theorem x_book {σ : St} {m p : Nat} (hm : m < 5) (hp : p < 3) (q x : Int32) : fX5_book σ (nI m).toNatClampNeg (nI p) q x = some (bkS σ m p q x) := by
  unfold fX5_book bkS
  rw [if_gd (vin_nI hp (by omega)), clamp_nI (show p < 2147483648 by omega), clamp_nI (show m < 2147483648 by omega), gL_pI]
theorem bk_n (σ : St) (m p : Nat) (q x : Int32) : sameN (bkS σ m p q x) σ := ⟨rfl, rfl, rfl, rfl, rfl, rfl, rfl⟩
theorem bk_20 (σ : St) (m p : Nat) (q x : Int32) : gI (bkS σ m p q x) 20 0 0 = gI σ 20 0 0 := by
  unfold bkS
  rw [gI_pL, gI_pI, if_neg (by omega)]
theorem lg_20 (σ : St) (b s p q x : Int32) : gI (addL14 (lg0 σ b s p q x)) 20 0 0 = gI σ 20 0 0 := by
  unfold addL14 lg0 newT
  simp only [gI_pN, gI_pI]
  rw [if_neg (by omega), if_neg (by omega), if_neg (by omega), if_neg (by omega), if_neg (by omega), if_neg (by omega), if_neg (by omega), if_neg (by omega), if_neg (by omega), if_neg (by omega), if_neg (by omega)]
theorem x_trade {σ : St} (hN : IN σ) (h5 : gN σ 1 < 50000) {b s p : Nat} (hb : b < 5) (hs : s < 5) (hp : p < 3) (q x : Int32) : fX5_trade σ (nI b) (nI s) (nI p) q x = some (trS σ b s p q x, 1 + amc (gN σ 1) (gN σ 3), 5 + ams (gN σ 1) (gN σ 3)) := by
  obtain ⟨n1, n2, n3, n4, n5, n6, n7, n8⟩ := hN
  unfold fX5_trade trS lgS
  have b1 := bk_n σ b p q x
  have b2 := bk_n (bkS σ b p q x) s p (-q) x
  have g20 := (lg_20 (bkS (bkS σ b p q x) s p (-q) x) (nI b) (nI s) (nI p) q x).trans ((bk_20 (bkS σ b p q x) s p (-q) x).trans (bk_20 σ b p q x))
  rw [if_gd (vin_nI hb (by omega)), x_book hb hp, bd_some, if_gd b1, if_gd (vin_nI hs (by omega)), x_book hs hp, bd_some, if_gd b2]
  generalize bkS (bkS σ b p q x) s p (-q) x = Q at b2 g20 ⊢
  generalize bkS σ b p q x = Q1 at b1 b2
  obtain ⟨i0, i1, i2, i3, i4, i5, i6⟩ := b1
  obtain ⟨j0, j1, j2, j3, j4, j5, j6⟩ := b2
  have ls := lg0_n Q (nI b) (nI s) (nI p) q x
  rw [if_gd (show gN Q 1 ≤ gN Q 6 by omega), init4, bd_some, if_gd ls.2.2.2]
  generalize lg0 Q (nI b) (nI s) (nI p) q x = L at ls g20 ⊢
  obtain ⟨l1, l3, l6, ls⟩ := ls
  rw [if_gd (show gN L 1 < gN L 6 ∧ gN L 1 ≤ gN L 3 ∧ gN L 3 ≤ 1000000 ∧ gN Q 6 = gN L 1 by omega), tk_some, tk_some, g20, l1, l3, j1, i1, j3, i3, Nat.add_zero, Nat.add_zero]
-- the reference
def trT (τ : St) (b s p : Nat) (q x : Int32) : St :=
  pI (pL (pL (pI (pI τ 4 0 (3 * b + p) (gI τ 4 0 (3 * b + p) + q)) 4 0 (3 * s + p) (gI (pI τ 4 0 (3 * b + p) (gI τ 4 0 (3 * b + p) + q)) 4 0 (3 * s + p) - q)) 5 0 (3 * b + p) (gL τ 5 0 (3 * b + p) + q.toInt64 * x.toInt64)) 5 0 (3 * s + p) (gL (pL τ 5 0 (3 * b + p) (gL τ 5 0 (3 * b + p) + q.toInt64 * x.toInt64)) 5 0 (3 * s + p) - q.toInt64 * x.toInt64)) 22 0 0 (gI τ 22 0 0 + 1)
theorem y_trade (τ : St) {b s p : Nat} (hb : b < 5) (hs : s < 5) (hp : p < 3) (q x : Int32) : fX6_trade τ (nI b) (nI s) (nI p) q x = some (trT τ b s p q x) := by
  unfold fX6_trade
  rw [if_gd (ix3 b hb p hp).2, if_gd (ix3 s hs p hp).2, (ix3 b hb p hp).1, (ix3 s hs p hp).1]
  rfl
def RR (σ τ : St) : Prop := IA σ τ ∧ IU σ τ ∧ IP σ τ ∧ IQ σ τ ∧ IO σ τ ∧ IK σ τ ∧ IW σ τ ∧ IN σ
theorem RD_of {σ τ : St} (h : RR σ τ) (h1 : BO τ) (h2 : BQ τ) (h3 : BP τ) : RD σ τ := ⟨h.1, h.2.1, h.2.2.1, h.2.2.2.1, h.2.2.2.2.1, h.2.2.2.2.2.1, h.2.2.2.2.2.2.1, h.2.2.2.2.2.2.2, h1, h2, h3⟩
theorem RD_RR {σ τ : St} (h : RD σ τ) : RR σ τ := ⟨h.1, h.2.1, h.2.2.1, h.2.2.2.1, h.2.2.2.2.1, h.2.2.2.2.2.1, h.2.2.2.2.2.2.1, h.2.2.2.2.2.2.2.1⟩
theorem gcap_b (c : Nat) (h : c = 0 ∨ 10 ≤ c) : c < gcap c ∧ gcap c ≤ 2 * c + 10 ∧ 10 ≤ gcap c ∧ gcap c ≤ 4 * (gcap c - c) := by
  unfold gcap
  rcases h with rfl | h
  · decide
  · rw [if_neg (by omega), if_pos (by omega)]
    omega
/-- the log's row has no place at first, or ten and more -/
def IC (σ : St) : Prop := (gN σ 3 = 0 ∨ 10 ≤ gN σ 3) ∧ (gN σ 2 = 0 ∨ 10 ≤ gN σ 2)
def pot (σ : St) : Nat := 8 * gN σ 1 + 4 * gN σ 3 + 8 * gN σ 0 + 4 * gN σ 2
theorem tr_IN {σ : St} (hN : IN σ) (hC : IC σ) (h5 : gN σ 1 < 50000) {b s p : Nat} {q x : Int32} : IN (trS σ b s p q x) ∧ IC (trS σ b s p q x) ∧ (1 + amc (gN σ 1) (gN σ 3)) + pot σ ≤ pot (trS σ b s p q x) ∧ (5 + ams (gN σ 1) (gN σ 3)) + pot σ ≤ pot (trS σ b s p q x) ∧ gN (trS σ b s p q x) 1 = gN σ 1 + 1 := by
  obtain ⟨n1, n2, n3, n4, n5, n6, n7, n8⟩ := hN
  obtain ⟨c1, c2⟩ := hC
  have g0 : gN (trS σ b s p q x) 0 = gN σ 0 := rfl
  have g1 : gN (trS σ b s p q x) 1 = gN σ 1 + 1 := rfl
  have g2 : gN (trS σ b s p q x) 2 = gN σ 2 := rfl
  have g3 : gN (trS σ b s p q x) 3 = acap (gN σ 1) (gN σ 3) := rfl
  have g5 : gN (trS σ b s p q x) 5 = gN σ 5 := rfl
  have g6 : gN (trS σ b s p q x) 6 = gN σ 6 + 1 := rfl
  have hg := gcap_b _ c1
  unfold IN IC pot
  rw [g0, g1, g2, g3, g5, g6]
  unfold acap amc ams
  by_cases e : gN σ 1 = gN σ 3
  · rw [if_pos e, if_pos e, if_pos e]
    omega
  · rw [if_neg e, if_neg e, if_neg e]
    omega
theorem ix_eq {m p b r : Nat} (hp : p < 3) (hr : r < 3) : 3 * m + p = 3 * b + r ↔ m = b ∧ p = r := by omega
theorem tr_RR {σ τ : St} (h : RR σ τ) (hC : IC σ) (h5 : gN σ 1 < 50000) {b s p : Nat} (hp : p < 3) {q x : Int32} (hq : -2147483648 < q.toInt) : RR (trS σ b s p q x) (trT τ b s p q x) := by
  obtain ⟨hA, hU, hP, hQ, hO, hK, hW, hN⟩ := h
  refine ⟨hA, hU, fun m hm p' hp' => ?_, hQ, hO, hK, ?_, (tr_IN hN hC h5).1⟩
  · obtain ⟨a1, a2⟩ := hP m hm p' hp'
    have k1 : gI (trS σ b s p q x) 4 m p' = if m = s ∧ p' = p then (if s = b then gI σ 4 b p + q else gI σ 4 s p) + -q else if m = b ∧ p' = p then gI σ 4 b p + q else gI σ 4 m p' := by
      show (if 4 = 4 ∧ m = s ∧ p' = p then gI (bkS σ b p q x) 4 s p + -q else gI (bkS σ b p q x) 4 m p') = _
      have z1 : ∀ m' p', gI (bkS σ b p q x) 4 m' p' = if m' = b ∧ p' = p then gI σ 4 b p + q else gI σ 4 m' p' := fun m' p' => by
        show (if 4 = 4 ∧ m' = b ∧ p' = p then _ else _) = _
        simp only [true_and]
        rfl
      rw [z1, z1]
      simp only [true_and, and_true]
    have k2 : gI (trT τ b s p q x) 4 0 (3 * m + p') = if m = s ∧ p' = p then (if s = b then gI τ 4 0 (3 * b + p) + q else gI τ 4 0 (3 * s + p)) - q else if m = b ∧ p' = p then gI τ 4 0 (3 * b + p) + q else gI τ 4 0 (3 * m + p') := by
      show (if 4 = 4 ∧ 0 = 0 ∧ 3 * m + p' = 3 * s + p then (if 4 = 4 ∧ 0 = 0 ∧ 3 * s + p = 3 * b + p then gI τ 4 0 (3 * b + p) + q else gI τ 4 0 (3 * s + p)) - q else if 4 = 4 ∧ 0 = 0 ∧ 3 * m + p' = 3 * b + p then gI τ 4 0 (3 * b + p) + q else gI τ 4 0 (3 * m + p')) = _
      simp only [true_and, ix_eq hp' hp, ix_eq hp hp, and_true]
    have k3 : gL (trS σ b s p q x) 5 m p' = if m = s ∧ p' = p then (if s = b then gL σ 5 b p + q.toInt64 * x.toInt64 else gL σ 5 s p) + (-q).toInt64 * x.toInt64 else if m = b ∧ p' = p then gL σ 5 b p + q.toInt64 * x.toInt64 else gL σ 5 m p' := by
      show (if 5 = 5 ∧ m = s ∧ p' = p then gL (bkS σ b p q x) 5 s p + (-q).toInt64 * x.toInt64 else gL (bkS σ b p q x) 5 m p') = _
      have z1 : ∀ m' p', gL (bkS σ b p q x) 5 m' p' = if m' = b ∧ p' = p then gL σ 5 b p + q.toInt64 * x.toInt64 else gL σ 5 m' p' := fun m' p' => by
        show (if 5 = 5 ∧ m' = b ∧ p' = p then _ else _) = _
        simp only [true_and]
        rfl
      rw [z1, z1]
      simp only [true_and, and_true]
    have k4 : gL (trT τ b s p q x) 5 0 (3 * m + p') = if m = s ∧ p' = p then (if s = b then gL τ 5 0 (3 * b + p) + q.toInt64 * x.toInt64 else gL τ 5 0 (3 * s + p)) - q.toInt64 * x.toInt64 else if m = b ∧ p' = p then gL τ 5 0 (3 * b + p) + q.toInt64 * x.toInt64 else gL τ 5 0 (3 * m + p') := by
      show (if 5 = 5 ∧ 0 = 0 ∧ 3 * m + p' = 3 * s + p then (if 5 = 5 ∧ 0 = 0 ∧ 3 * s + p = 3 * b + p then gL τ 5 0 (3 * b + p) + q.toInt64 * x.toInt64 else gL τ 5 0 (3 * s + p)) - q.toInt64 * x.toInt64 else if 5 = 5 ∧ 0 = 0 ∧ 3 * m + p' = 3 * b + p then gL τ 5 0 (3 * b + p) + q.toInt64 * x.toInt64 else gL τ 5 0 (3 * m + p')) = _
      simp only [true_and, ix_eq hp' hp, ix_eq hp hp, and_true]
    rw [k1, k2, k3, k4, wid_neg hq]
    by_cases c1 : m = s ∧ p' = p
    · obtain ⟨rfl, rfl⟩ := c1
      simp only [and_self, if_true]
      by_cases c2 : m = b
      · subst c2
        rw [if_pos rfl, if_pos rfl, if_pos rfl, if_pos rfl, a1, a2]
        constructor <;> grind
      · rw [if_neg c2, if_neg c2, if_neg c2, if_neg c2, a1, a2]
        constructor <;> grind
    · rw [if_neg c1, if_neg c1, if_neg c1, if_neg c1]
      by_cases c2 : m = b ∧ p' = p
      · obtain ⟨rfl, rfl⟩ := c2
        simp only [and_self, if_true]
        rw [a1, a2]
        exact ⟨rfl, rfl⟩
      · rw [if_neg c2, if_neg c2, if_neg c2, if_neg c2]
        exact ⟨a1, a2⟩
  · obtain ⟨w1, w2⟩ := hW
    refine ⟨?_, w2⟩
    show gI σ 20 0 0 + 1 = gI τ 22 0 0 + 1
    rw [w1]
