/-! PURE, numbers: the numbers of the machine as whole numbers; sums; the room's words -/
theorem bm32 {x : Int} (h1 : -2147483648 ≤ x) (h2 : x < 2147483648) : x.bmod (2 ^ 32) = x := Int.bmod_eq_of_le (by omega) (by omega)
theorem bm64 {x : Int} (h1 : -9223372036854775808 ≤ x) (h2 : x < 9223372036854775808) : x.bmod (2 ^ 64) = x := Int.bmod_eq_of_le (by omega) (by omega)
theorem add32 {a b : Int32} {A B : Int} (ha : a.toInt = A) (hb : b.toInt = B) (h1 : -2147483648 ≤ A + B) (h2 : A + B < 2147483648) : (a + b).toInt = A + B := by rw [Int32.toInt_add, ha, hb, bm32 h1 h2]
theorem sub32 {a b : Int32} {A B : Int} (ha : a.toInt = A) (hb : b.toInt = B) (h1 : -2147483648 ≤ A - B) (h2 : A - B < 2147483648) : (a - b).toInt = A - B := by rw [Int32.toInt_sub, ha, hb, bm32 h1 h2]
theorem mul32 {a b : Int32} {A B : Int} (ha : a.toInt = A) (hb : b.toInt = B) (h1 : -2147483648 ≤ A * B) (h2 : A * B < 2147483648) : (a * b).toInt = A * B := by rw [Int32.toInt_mul, ha, hb, bm32 h1 h2]
theorem neg32 {a : Int32} {A : Int} (ha : a.toInt = A) (h1 : -2147483648 < A) : (-a).toInt = -A := by
  have := Int32.toInt_lt a
  rw [Int32.toInt_neg, ha, bm32 (by omega) (by omega)]
theorem add64 {a b : Int64} {A B : Int} (ha : a.toInt = A) (hb : b.toInt = B) (h1 : -9223372036854775808 ≤ A + B) (h2 : A + B < 9223372036854775808) : (a + b).toInt = A + B := by rw [Int64.toInt_add, ha, hb, bm64 h1 h2]
theorem sub64 {a b : Int64} {A B : Int} (ha : a.toInt = A) (hb : b.toInt = B) (h1 : -9223372036854775808 ≤ A - B) (h2 : A - B < 9223372036854775808) : (a - b).toInt = A - B := by rw [Int64.toInt_sub, ha, hb, bm64 h1 h2]
theorem mul64 {a b : Int64} {A B : Int} (ha : a.toInt = A) (hb : b.toInt = B) (h1 : -9223372036854775808 ≤ A * B) (h2 : A * B < 9223372036854775808) : (a * b).toInt = A * B := by rw [Int64.toInt_mul, ha, hb, bm64 h1 h2]
theorem neg64 {a : Int64} {A : Int} (ha : a.toInt = A) (h1 : -9223372036854775808 < A) : (-a).toInt = -A := by
  have := Int64.toInt_lt a
  rw [Int64.toInt_neg, ha, bm64 (by omega) (by omega)]
theorem wid {a : Int32} {A : Int} (ha : a.toInt = A) : a.toInt64.toInt = A := by rw [Int32.toInt_toInt64, ha]
theorem le32 {a b : Int32} {A B : Int} (ha : a.toInt = A) (hb : b.toInt = B) : a ≤ b ↔ A ≤ B := by rw [Int32.le_iff_toInt_le, ha, hb]
theorem lt32 {a b : Int32} {A B : Int} (ha : a.toInt = A) (hb : b.toInt = B) : a < b ↔ A < B := by rw [Int32.lt_iff_toInt_lt, ha, hb]
theorem eq32 {a b : Int32} {A B : Int} (ha : a.toInt = A) (hb : b.toInt = B) : a = b ↔ A = B := by rw [← Int32.toInt_inj, ha, hb]
theorem le64 {a b : Int64} {A B : Int} (ha : a.toInt = A) (hb : b.toInt = B) : a ≤ b ↔ A ≤ B := by rw [Int64.le_iff_toInt_le, ha, hb]
theorem lt64 {a b : Int64} {A B : Int} (ha : a.toInt = A) (hb : b.toInt = B) : a < b ↔ A < B := by rw [Int64.lt_iff_toInt_lt, ha, hb]
theorem eq64 {a b : Int64} {A B : Int} (ha : a.toInt = A) (hb : b.toInt = B) : a = b ↔ A = B := by rw [← Int64.toInt_inj, ha, hb]
theorem mulB {a b A B : Int} (ha : -A ≤ a) (ha2 : a ≤ A) (hb : -B ≤ b) (hb2 : b ≤ B) : -(A * B) ≤ a * b ∧ a * b ≤ A * B := by
  have h1 : a.natAbs ≤ A.natAbs := by omega
  have h2 : b.natAbs ≤ B.natAbs := by omega
  have h3 : (a * b).natAbs ≤ (A * B).natAbs := by rw [Int.natAbs_mul, Int.natAbs_mul]; exact Nat.mul_le_mul h1 h2
  have h4 : 0 ≤ A * B := Int.mul_nonneg (by omega) (by omega)
  omega
theorem ring64 (a b c : Int64) : (a + b) * c - b * c = a * c := by grind
theorem wid_add {a b : Int32} (h1 : -2147483648 ≤ a.toInt + b.toInt) (h2 : a.toInt + b.toInt < 2147483648) : (a + b).toInt64 = a.toInt64 + b.toInt64 := by
  rw [← Int64.toInt_inj, wid (add32 rfl rfl h1 h2), add64 (wid rfl) (wid rfl) (by omega) (by omega)]
theorem wid_sub {a b : Int32} (h1 : -2147483648 ≤ a.toInt - b.toInt) (h2 : a.toInt - b.toInt < 2147483648) : (a - b).toInt64 = a.toInt64 - b.toInt64 := by
  rw [← Int64.toInt_inj, wid (sub32 rfl rfl h1 h2), sub64 (wid rfl) (wid rfl) (by omega) (by omega)]
theorem wid_neg {a : Int32} (h1 : -2147483648 < a.toInt) : (-a).toInt64 = -a.toInt64 := by
  rw [← Int64.toInt_inj, wid (neg32 rfl h1), neg64 (wid rfl) (by omega)]
theorem vin_nI {k N : Nat} (h : k < N) (hN : N < 2 ^ 31) : vin (nI k) N := nI_in h hN
theorem vin_of {a : Int32} {N : Nat} (h : vin a N) (hN : N < 2 ^ 31) : ∃ k, k < N ∧ a = nI k := by
  obtain ⟨j, hj, rfl⟩ := nI_of (x := a) (fun q => h (Or.inl q))
  exact ⟨j, by have := vin_lt h; rwa [nI_clamp hj] at this, rfl⟩
-- sums
def sm (f : Nat → Int) : Nat → Int
  | 0 => 0
  | n + 1 => sm f n + f n
theorem sm_congr {f g : Nat → Int} {n : Nat} (h : ∀ k, k < n → f k = g k) : sm f n = sm g n := by
  induction n with
  | zero => rfl
  | succ n ih => rw [sm, sm, ih (fun k hk => h k (by omega)), h n (by omega)]
theorem sm_upd {f g : Nat → Int} {n j : Nat} (hj : j < n) (h : ∀ k, k < n → k ≠ j → g k = f k) : sm g n = sm f n - f j + g j := by
  induction n with
  | zero => omega
  | succ n ih =>
    rw [sm, sm]
    by_cases e : j = n
    · subst e
      rw [sm_congr (f := g) (g := f) (fun k hk => h k (by omega) (by omega))]
      omega
    · rw [ih (by omega) (fun k hk hn => h k (by omega) hn), h n (by omega) (by omega)]
      omega
theorem sm_bnd {f : Nat → Int} {n : Nat} {B : Int} (h : ∀ k, k < n → 0 ≤ f k ∧ f k ≤ B) : 0 ≤ sm f n ∧ sm f n ≤ B * n := by
  induction n with
  | zero => simp [sm]
  | succ n ih =>
    have h1 := ih (fun k hk => h k (by omega))
    have h2 := h n (by omega)
    rw [sm]
    have e : B * ((n + 1 : Nat) : Int) = B * n + B := by rw [Int.natCast_add, Int.mul_add]; simp
    rw [e]
    omega
theorem sm_mono {f g : Nat → Int} {n : Nat} (h : ∀ k, k < n → f k ≤ g k) : sm f n ≤ sm g n := by
  induction n with
  | zero => exact Int.le_refl _
  | succ n ih =>
    have h1 := ih (fun k hk => h k (by omega))
    have h2 := h n (by omega)
    rw [sm, sm]
    omega
theorem sm_le {f : Nat → Int} {n j : Nat} (hj : j < n) (h : ∀ k, k < n → 0 ≤ f k) : f j ≤ sm f n := by
  induction n with
  | zero => omega
  | succ n ih =>
    have h0 : ∀ m, m ≤ n → 0 ≤ sm f m := fun m hm => by
      have := sm_mono (f := fun _ => 0) (g := f) (n := m) (fun k hk => h k (by omega))
      have e : sm (fun _ => (0 : Int)) m = 0 := by
        clear this hm
        induction m with
        | zero => rfl
        | succ m ih => rw [sm, ih]; rfl
      omega
    have h2 := h n (by omega)
    rw [sm]
    by_cases e : j = n
    · subst e
      have := h0 j (by omega)
      omega
    · have := ih (by omega) (fun k hk => h k (by omega))
      omega
/-- a read of one place, after a write of one place of the same family -/
theorem clamp_nI {k : Nat} (h : k < 2147483648) : (nI k).toNatClampNeg = k := nI_clamp h
theorem ix3 : ∀ m, m < 5 → ∀ p, p < 3 → (3 * nI m + nI p).toNatClampNeg = 3 * m + p ∧ vin (3 * nI m + nI p) 15 := by decide +kernel
theorem ix2 : ∀ m, m < 5 → ∀ p, p < 2 → (2 * nI m + nI p).toNatClampNeg = 2 * m + p ∧ vin (2 * nI m + nI p) 10 := by decide +kernel
theorem ixv : ∀ v, v < 4 → ∀ p, p < 3 → (3 * nI v + nI p).toNatClampNeg = 3 * v + p ∧ vin (3 * nI v + nI p) 12 := by decide +kernel
theorem ix4 : ∀ k, k < 2 → ∀ p, p < 4 → (4 * nI k + nI p).toNatClampNeg = 4 * k + p ∧ vin (4 * nI k + nI p) 8 := by decide +kernel
theorem bz_cases {v : Int32} (h : bz v) : v = 0 ∨ v = 1 := h
theorem if_gd {β : Type} {c : Prop} [Decidable c] {x : Option β} (h : c) : gd c x = x := if_pos h
/-- of the scratch row alone: all else is the same -/
def scr (σ σ1 : St) : Prop := σ1.1 = σ.1 ∧ σ1.2.2 = σ.2.2 ∧ ∀ f, f ≠ 16 → σ1.2.1 f = σ.2.1 f
theorem scr_rfl (σ : St) : scr σ σ := ⟨rfl, rfl, fun _ _ => rfl⟩
theorem scr_tr {a b c : St} (h1 : scr a b) (h2 : scr b c) : scr a c := ⟨h2.1.trans h1.1, h2.2.1.trans h1.2.1, fun f hf => (h2.2.2 f hf).trans (h1.2.2 f hf)⟩
theorem scr_pL (σ : St) (i j : Nat) (v : Int64) : scr σ (pL σ 16 i j v) := ⟨rfl, rfl, fun f hf => by
  funext a b
  exact if_neg (fun q => hf q.1)⟩
theorem scr_gI {a b : St} (h : scr a b) (f i j : Nat) : gI b f i j = gI a f i j := by unfold gI; rw [h.1]
theorem scr_gN {a b : St} (h : scr a b) (k : Nat) : gN b k = gN a k := by unfold gN; rw [h.2.1]
theorem scr_gL {a b : St} (h : scr a b) (f i j : Nat) (hf : f ≠ 16) : gL b f i j = gL a f i j := by unfold gL; rw [h.2.2 f hf]
theorem scr_same {a b : St} (h : scr a b) : sameN b a := by
  refine ⟨?_, ?_, ?_, ?_, ?_, ?_, ?_⟩ <;> exact scr_gN h _
