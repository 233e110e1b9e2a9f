/-! PURE: both houses are told the same -/
def HV (K : Int) (n c : Nat) (σ1 σ2 τ : St) (a b : Nat) : Prop := INV n σ1 τ ∧ INV n σ2 τ ∧ MG K τ ∧ a ≤ pot σ1 + pot σ2 + c ∧ b ≤ pot σ1 + pot σ2 + c
theorem INV_le {n n' : Nat} {σ τ : St} (h : INV n σ τ) (hn : n ≤ n') : INV n' σ τ := by
  obtain ⟨d, rfl⟩ := Nat.exists_eq_add_of_le hn
  induction d with
  | zero => exact h
  | succ d ih => exact INV_next (ih (by omega))
section LQS
variable {R S : Type} {x y : Option (R × Nat × Nat)} {a b m k : Nat} {Q : R → Nat → Nat → Prop}
def LQ (x : Option (R × Nat × Nat)) (a b : Nat) (Q : R → Nat → Nat → Prop) : Prop := ∃ r m k, x = some (r, m, k) ∧ Q r (a + m) (b + k)
theorem LQ_ok {r : R} (h : Q r a b) : LQ (some (r, 0, 0)) a b Q := ⟨r, 0, 0, rfl, h⟩
theorem LQ_tk (h : LQ x (a + m) (b + k) Q) : LQ (tk m k x) a b Q := by
  obtain ⟨r, m', k', e, hq⟩ := h
  refine ⟨r, m + m', k + k', by rw [e, tk_some], ?_⟩
  rw [← Nat.add_assoc, ← Nat.add_assoc]
  exact hq
theorem LQ_bt {z : Option (S × Nat × Nat)} {r : S} (h : z = some (r, m, k)) {f : S → Option (R × Nat × Nat)} (hk : LQ (f r) (a + m) (b + k) Q) : LQ (bt2 z f) a b Q := by
  rw [bt_c h]
  exact LQ_tk hk
theorem LQ_b0 {z : Option (S × Nat × Nat)} {r : S} (h : z = some (r, 0, 0)) {f : S → Option (R × Nat × Nat)} (hk : LQ (f r) a b Q) : LQ (bt2 z f) a b Q := by
  rw [bt_0 h]
  exact hk
theorem LQ_y0 {z : Option (XO S × Nat × Nat)} {r : S} (h : z = some (.inr r, 0, 0)) {f : S → Option (R × Nat × Nat)} (hk : LQ (f r) a b Q) : LQ (yb z f) a b Q := by
  rw [yb_0 h]
  exact hk
theorem LQ_bd {z : Option S} {r : S} (h : z = some r) {f : S → Option (R × Nat × Nat)} (hk : LQ (f r) a b Q) : LQ (bd z f) a b Q := by
  rw [h, bd_some]
  exact hk
theorem LQ_kst {r : S} {f : S → Option (R × Nat × Nat)} (hk : LQ (f r) a b Q) : LQ (kst r f) a b Q := hk
theorem LQ_gd {c : Prop} [Decidable c] (hc : c) (h : LQ x a b Q) : LQ (gd c x) a b Q := by
  rw [if_gd hc]
  exact h
theorem LQ_if {c : Prop} [Decidable c] (hc : c) (h : LQ x a b Q) : LQ (if c then x else y) a b Q := by
  rw [if_pos hc]
  exact h
theorem LQ_ifn {c : Prop} [Decidable c] (hc : ¬ c) (h : LQ y a b Q) : LQ (if c then x else y) a b Q := by
  rw [if_neg hc]
  exact h
theorem LQ_mono {Q' : R → Nat → Nat → Prop} (h : LQ x a b Q) (hq : ∀ r a b, Q r a b → Q' r a b) : LQ x a b Q' := by
  obtain ⟨r, m, k, e, h1⟩ := h
  exact ⟨r, m, k, e, hq _ _ _ h1⟩
theorem LQ_seq {z : Option (S × Nat × Nat)} {Q1 : S → Nat → Nat → Prop} {f : S → Option (R × Nat × Nat)} (h : LQ z a b Q1) (hf : ∀ r a b, Q1 r a b → LQ (f r) a b Q) : LQ (bt2 z f) a b Q := by
  obtain ⟨r, m, k, e, h1⟩ := h
  exact LQ_bt e (hf _ _ _ h1)
end LQS
theorem ush1 (x : Int32) : 0 ≤ (ush x 1).toInt := by
  have h : ush x 1 = (x.toUInt32 >>> 1).toInt32 := rfl
  rw [h]
  show 0 ≤ ((x.toUInt32 >>> 1).toBitVec).toInt
  have h2 : (x.toUInt32 >>> 1).toBitVec.toNat = x.toUInt32.toNat / 2 := by
    show (x.toUInt32 >>> 1).toNat = _
    rw [UInt32.toNat_shiftRight]
    show x.toUInt32.toNat >>> 1 = _
    rw [Nat.shiftRight_eq_div_pow]
  have h3 : x.toUInt32.toNat < 4294967296 := UInt32.toNat_lt _
  rw [BitVec.toInt_eq_toNat_of_lt (by rw [h2]; omega)]
  omega
theorem some_of (σ : St) (x : Int32) (N : Nat) (h0 : 0 < N) (hN : N < 2147483648) : ∃ k, k < N ∧ fL_some σ x (nI N) = some (nI k) := by
  have hn : (nI N).toInt = (N : Int) := nI_toInt hN
  have hne : ¬ nI N = 0 := fun e => by
    have := (nI_eq (a := N) (b := 0) hN (by omega)).mp e
    omega
  have hn1 : nI N ≠ -1 := nI_ne1 hN
  have hy := ush1 x
  have hyl := Int32.toInt_lt (ush x 1)
  unfold fL_some
  rw [if_gd hne]
  generalize ush x 1 = y at hy hyl ⊢
  have hd : (y / nI N).toInt = y.toInt / (N : Int) := by
    rw [Int32.toInt_div_of_ne_right _ _ hn1, hn, Int.tdiv_eq_ediv_of_nonneg hy]
  have hN0 : (0 : Int) < N := by omega
  have e1 := Int.emod_nonneg y.toInt (show (N : Int) ≠ 0 by omega)
  have e2 := Int.emod_lt_of_pos y.toInt hN0
  have e3 := Int.mul_ediv_add_emod y.toInt (N : Int)
  have e4 : y.toInt / (N : Int) * N = (N : Int) * (y.toInt / N) := Int.mul_comm _ _
  have hm : (y / nI N * nI N).toInt = y.toInt / (N : Int) * N := mul32 hd hn (by omega) (by omega)
  have hs : (y - y / nI N * nI N).toInt = y.toInt % (N : Int) := by
    rw [sub32 rfl hm (by omega) (by omega)]
    omega
  obtain ⟨k, hk, e⟩ := nI_range (a := y - y / nI N * nI N) (N := N) (by omega)
  exact ⟨k, hk, by rw [e]⟩
theorem STEP_T {P : Nat → Prop} {n : Nat} {σ : St} {x : Option (XO (Int32 × St) × Nat × Nat)} {y : Option (Int32 × St)} (h : STEP P n σ x y) : STEPT P (fun r τ' => y = some (r, τ')) n σ x y := by
  obtain ⟨u, mc, ms, r, τ', h1, h2, h3⟩ := h
  exact ⟨u, mc, ms, r, τ', h1, h2, h3, h2⟩
/-- what both houses are told, and tell -/
def BO2 (P : Nat → Prop) (T : Int32 → St → Prop) (n : Nat) (σ1 σ2 : St) (x : Option ((Int32 × St × St) × Nat × Nat)) : Prop := ∃ z s1 s2 τ' m k r, x = some ((z, s1, s2), m, k) ∧ INV (n + 1) s1 τ' ∧ INV (n + 1) s2 τ' ∧ T r τ' ∧ ((gI τ' 23 0 0 = 0 ∧ z = r) ∨ ∃ j, P j ∧ gI τ' 23 0 0 = xcat j ∧ xcode j = some z) ∧ m + (pot σ1 + pot σ2) ≤ pot s1 + pot s2 + 200 ∧ k + (pot σ1 + pot σ2) ≤ pot s1 + pot s2 + 200
theorem both_of {P : Nat → Prop} {T : Int32 → St → Prop} {n : Nat} {σ1 σ2 : St} {w a b c : Int32} {f5 : St → Option (XO (Int32 × St) × Nat × Nat)} {y : Option (Int32 × St)} (d : ∀ σ, fL_does σ w a b c = f5 σ) (s1 : STEPT P T n σ1 (f5 σ1) y) (s2 : STEPT P T n σ2 (f5 σ2) y) (hP : ∀ k, P k → k = 1 ∨ k = 2 ∨ k = 3) (h3 : ¬ (P 1 ∧ P 3)) : BO2 P T n σ1 σ2 (fL_both σ1 σ2 w a b c) := by
  obtain ⟨u1, mc1, ms1, r, τ', x1, y1, o1, t1⟩ := s1
  obtain ⟨u2, mc2, ms2, r2, t2', x2, y2, o2, -⟩ := s2
  obtain ⟨er, et⟩ := Prod.mk.inj (Option.some.inj (y1.symm.trans y2))
  subst er
  subst et
  have x1 := (d σ1).trans x1
  have x2 := (d σ2).trans x2
  have hx0 : ∀ j, ¬ (0 : Int32) = xcat j := fun j => by unfold xcat; split <;> decide
  cases u1 with
  | inl e1 =>
    obtain ⟨k1, s1⟩ := e1
    obtain ⟨p1, c1, i1, q1, q2⟩ := o1
    cases u2 with
    | inl e2 =>
      obtain ⟨k2, s2⟩ := e2
      obtain ⟨p2, c2, i2, q3, q4⟩ := o2
      have ek : k1 = k2 := by
        have hh := c1.symm.trans c2
        have h13 : P 1 → P 3 → False := fun a b => h3 ⟨a, b⟩
        rcases hP k1 p1 with e1 | e1 | e1 <;> rcases hP k2 p2 with e2 | e2 | e2 <;> rw [e1, e2] at hh <;> rw [e1] at p1 <;> rw [e2] at p2 <;> first
          | exact e1.trans e2.symm
          | exact absurd hh (by decide)
          | exact (h13 p1 p2).elim
          | exact (h13 p2 p1).elim
      subst ek
      obtain ⟨z, hz⟩ : ∃ z, xcode k1 = some z := by rcases hP k1 p1 with rfl | rfl | rfl <;> exact ⟨_, rfl⟩
      refine ⟨z, s1, s2, τ', mc1 + (mc2 + 0), ms1 + (ms2 + 0), r, ?_, i1, i2, t1, Or.inr ⟨k1, p1, c1, hz⟩, by omega, by omega⟩
      unfold fL_both
      rw [bt_c (call_ex x1 hz), bt_c (call_ex x2 hz), if_neg (not_not_intro rfl), tk_some, tk_some]
    | inr v2 =>
      obtain ⟨v2, s2⟩ := v2
      exact absurd (o2.1.symm.trans c1) (hx0 k1)
  | inr v1 =>
    obtain ⟨v1, s1⟩ := v1
    obtain ⟨c1, e1, i1, q1, q2⟩ := o1
    cases u2 with
    | inl e2 =>
      obtain ⟨k2, s2⟩ := e2
      exact absurd (c1.symm.trans o2.2.1) (hx0 k2)
    | inr v2 =>
      obtain ⟨v2, s2⟩ := v2
      obtain ⟨c2, e2, i2, q3, q4⟩ := o2
      refine ⟨v1, s1, s2, τ', mc1 + (mc2 + 0), ms1 + (ms2 + 0), r, ?_, i1, i2, t1, Or.inl ⟨c1, e1⟩, by omega, by omega⟩
      unfold fL_both
      rw [bt_c (call_in x1), bt_c (call_in x2), if_neg (not_not_intro (show v1 = v2 from e1.trans e2.symm)), tk_some, tk_some]
theorem P1_ok : (∀ k, P1 k → k = 1 ∨ k = 2 ∨ k = 3) ∧ ¬ (P1 1 ∧ P1 3) := ⟨fun k h => Or.inl h, fun h => absurd h.2 (show ¬ 3 = 1 by decide)⟩
theorem P12_ok : (∀ k, P12 k → k = 1 ∨ k = 2 ∨ k = 3) ∧ ¬ (P12 1 ∧ P12 3) := ⟨fun k h => h.elim Or.inl (fun h => Or.inr (Or.inl h)), fun h => h.2.elim (fun q => absurd q (by decide)) (fun q => absurd q (by decide))⟩
theorem P32_ok : (∀ k, P32 k → k = 1 ∨ k = 2 ∨ k = 3) ∧ ¬ (P32 1 ∧ P32 3) := ⟨fun k h => h.elim (fun h => Or.inr (Or.inr h)) (fun h => Or.inr (Or.inl h)), fun h => h.1.elim (fun q => absurd q (by decide)) (fun q => absurd q (by decide))⟩
theorem z_not {τ' : St} {z r : Int32} (h2 : gI τ' 23 0 0 = 2) (h : (gI τ' 23 0 0 = 0 ∧ z = r) ∨ ∃ j, P12 j ∧ gI τ' 23 0 0 = xcat j ∧ xcode j = some z) : z = -2000000003 := by
  rcases h with ⟨h, -⟩ | ⟨j, rfl | rfl, h, e⟩
  · rw [h2] at h; exact absurd h (by decide)
  · rw [h2] at h; exact absurd h (by decide)
  · exact (Option.some.inj e).symm
theorem z_ok {P : Nat → Prop} {τ' : St} {z r : Int32} (h2 : gI τ' 23 0 0 = 0) (h : (gI τ' 23 0 0 = 0 ∧ z = r) ∨ ∃ j, P j ∧ gI τ' 23 0 0 = xcat j ∧ xcode j = some z) : z = r := by
  rcases h with ⟨-, h⟩ | ⟨j, -, h, -⟩
  · exact h
  · rw [h2] at h
    exact absurd h (by unfold xcat; split <;> decide)
