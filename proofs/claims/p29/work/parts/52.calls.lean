/-! PURE, the calls: what they demand; an hour and an evening; what is asked -/
def INV (n : Nat) (σ τ : St) : Prop := HI (100000 * n) ((tn τ : Int) + 30 * n) σ τ
theorem BS_mono {c c' : Int} {τ : St} (h : BS c τ) (hc : c ≤ c') : BS c' τ := fun j hj e => by
  have := h j hj e
  omega
theorem INV_next {n : Nat} {σ τ : St} (h : INV n σ τ) : INV (n + 1) σ τ := by
  obtain ⟨h1, h2, h3, h4⟩ := h
  exact ⟨G_mono h1 (by omega), h2, h3, BS_mono h4 (by omega)⟩
theorem INV_t {n : Nat} {σ τ : St} (h : INV n σ τ) (v : Int32) : INV n σ (pI τ 23 0 0 v) := h
/-- what a call tells, on both sides -/
def OK (P : Nat → Prop) (n : Nat) (σ : St) (u : XO (Int32 × St)) (mc ms : Nat) (r : Int32) (τ' : St) : Prop := match u with
  | .inl (k, σ') => P k ∧ gI τ' 23 0 0 = xcat k ∧ INV (n + 1) σ' τ' ∧ mc + pot σ ≤ pot σ' + 100 ∧ ms + pot σ ≤ pot σ' + 100
  | .inr (x, σ') => gI τ' 23 0 0 = 0 ∧ x = r ∧ INV (n + 1) σ' τ' ∧ mc + pot σ ≤ pot σ' + 100 ∧ ms + pot σ ≤ pot σ' + 100
def STEP (P : Nat → Prop) (n : Nat) (σ : St) (x : Option (XO (Int32 × St) × Nat × Nat)) (y : Option (Int32 × St)) : Prop := ∃ u mc ms r τ', x = some (u, mc, ms) ∧ y = some (r, τ') ∧ OK P n σ u mc ms r τ'
/-- the same, and what holds of the reference behind it -/
def STEPT (P : Nat → Prop) (T : Int32 → St → Prop) (n : Nat) (σ : St) (x : Option (XO (Int32 × St) × Nat × Nat)) (y : Option (Int32 × St)) : Prop := ∃ u mc ms r τ', x = some (u, mc, ms) ∧ y = some (r, τ') ∧ OK P n σ u mc ms r τ' ∧ T r τ'
theorem STEPT_of {P : Nat → Prop} {T : Int32 → St → Prop} {n : Nat} {σ : St} {x : Option (XO (Int32 × St) × Nat × Nat)} {r0 : Int32} {τ0 : St} (h : STEP P n σ x (some (r0, τ0))) (t : T r0 τ0) : STEPT P T n σ x (some (r0, τ0)) := by
  obtain ⟨u, mc, ms, r, τ', h1, h2, h3⟩ := h
  cases h2
  exact ⟨u, mc, ms, r0, τ0, h1, rfl, h3, t⟩
/-- but for the number of what was thrown -/
def SX (τ τ' : St) : Prop := ∃ v, τ' = pI τ 23 0 0 v
theorem SX_1 (τ : St) (v : Int32) : SX τ (pI τ 23 0 0 v) := ⟨v, rfl⟩
theorem SX_2 (τ : St) (v w : Int32) : SX τ (pI (pI τ 23 0 0 w) 23 0 0 v) := ⟨v, by
  refine Prod.ext ?_ rfl
  funext a b c
  show (if a = 23 ∧ b = 0 ∧ c = 0 then v else if a = 23 ∧ b = 0 ∧ c = 0 then w else τ.1 a b c) = if a = 23 ∧ b = 0 ∧ c = 0 then v else τ.1 a b c
  split <;> rfl⟩
theorem xb_r {α β : Type} (a : α) (k : α → Option (XO β × Nat × Nat)) : xb (some (.inr a, 0, 0)) k = k a := tk_00 _
theorem xb_l {α β : Type} (e : Nat × St) (c s : Nat) (k : α → Option (XO β × Nat × Nat)) : xb (some (.inl e, c, s)) k = some (.inl e, c, s) := rfl
theorem asks0 (τ : St) : fX6_asks τ 0 = some (0, pI τ 23 0 0 1) := by
  unfold fX6_asks
  rw [if_pos rfl, if_gd (Or.inl rfl)]
theorem asks1 (τ : St) : fX6_asks τ 1 = some (1, pI τ 23 0 0 0) := by
  unfold fX6_asks
  rw [if_neg (by decide), if_gd (Or.inr rfl)]
theorem h10 : ¬ (1 : Int32) = 0 := by decide
theorem STEP_no {P : Nat → Prop} {n : Nat} {σ τ : St} (h : INV n σ τ) (h1 : P 1) (r : Int32) : STEP P n σ (some (.inl (1, σ), 1, 6)) (some (r, pI τ 23 0 0 1)) :=
  ⟨_, _, _, _, _, rfl, rfl, h1, by show gI (pI τ 23 0 0 1) 23 0 0 = xcat 1; rw [gI_pI, if_pos ⟨rfl, rfl, rfl⟩]; rfl, INV_next h, by omega, by omega⟩
theorem STEP_no2 {P : Nat → Prop} {n : Nat} {σ σ1 τ1 : St} (h : INV n σ1 τ1) (hp : pot σ ≤ pot σ1) (h2 : P 2) (r : Int32) : STEP P n σ (some (.inl (2, σ1), 1, 6)) (some (r, pI τ1 23 0 0 2)) :=
  ⟨_, _, _, _, _, rfl, rfl, h2, by show gI (pI τ1 23 0 0 2) 23 0 0 = xcat 2; rw [gI_pI, if_pos ⟨rfl, rfl, rfl⟩]; rfl, INV_next h, by omega, by omega⟩
theorem STEP_ok {P : Nat → Prop} {n : Nat} {σ σ' τ' : St} {r x : Int32} (h : INV (n + 1) σ' τ') (ht : gI τ' 23 0 0 = 0) (hp : pot σ ≤ pot σ') (hx : x = r) : STEP P n σ (some (.inr (x, σ'), 0, 0)) (some (r, τ')) :=
  ⟨_, _, _, _, _, rfl, rfl, ht, hx, h, by omega, by omega⟩
theorem dW_in {σ : St} {a lo hi : Int32} {A L H : Int} (ha : a.toInt = A) (hl : lo.toInt = L) (hh : hi.toInt = H) (h : L ≤ A ∧ A ≤ H) : fX5_demandWithin σ a lo hi = some (.inr σ, 0, 0) := by
  unfold fX5_demandWithin
  rw [if_neg (fun q => by have := (lt32 ha hl).mp q; omega), if_pos ((le32 ha hh).mpr h.2)]
theorem dW_out {σ : St} {a lo hi : Int32} {A L H : Int} (ha : a.toInt = A) (hl : lo.toInt = L) (hh : hi.toInt = H) (h : ¬ (L ≤ A ∧ A ≤ H)) : fX5_demandWithin σ a lo hi = some (.inl (1, σ), 1, 6) := by
  unfold fX5_demandWithin
  by_cases c : a < lo
  · rw [if_pos c]
  · have := mt (lt32 ha hl).mpr c
    rw [if_neg c, if_neg (fun q => by have := (le32 ha hh).mp q; omega)]
theorem in_in {σ : St} {a lo hi : Int32} {A L H : Int} (ha : a.toInt = A) (hl : lo.toInt = L) (hh : hi.toInt = H) (h : L ≤ A ∧ A ≤ H) : fX6_in σ a lo hi = some 1 := by
  unfold fX6_in
  rw [if_neg (fun q => by have := (lt32 ha hl).mp q; omega), if_neg (fun q => by have := (lt32 hh ha).mp q; omega)]
theorem in_out {σ : St} {a lo hi : Int32} {A L H : Int} (ha : a.toInt = A) (hl : lo.toInt = L) (hh : hi.toInt = H) (h : ¬ (L ≤ A ∧ A ≤ H)) : fX6_in σ a lo hi = some 0 := by
  unfold fX6_in
  by_cases c : a < lo
  · rw [if_pos c]
  · have := mt (lt32 ha hl).mpr c
    rw [if_neg c, if_pos ((lt32 hh ha).mpr (by omega))]
/-- a number in its bounds, or not, on both sides -/
theorem within_c (a lo hi : Int32) {L H : Int} (hl : lo.toInt = L) (hh : hi.toInt = H) : ((L ≤ a.toInt ∧ a.toInt ≤ H) ∧ (∀ σ, fX5_demandWithin σ a lo hi = some (.inr σ, 0, 0)) ∧ ∀ τ, fX6_in τ a lo hi = some 1) ∨ ((∀ σ, fX5_demandWithin σ a lo hi = some (.inl (1, σ), 1, 6)) ∧ ∀ τ, fX6_in τ a lo hi = some 0) := by
  by_cases h : L ≤ a.toInt ∧ a.toInt ≤ H
  · exact Or.inl ⟨h, fun σ => dW_in rfl hl hh h, fun τ => in_in rfl hl hh h⟩
  · exact Or.inr ⟨fun σ => dW_out rfl hl hh h, fun τ => in_out rfl hl hh h⟩
theorem nI_range {a : Int32} {N : Nat} (h : 0 ≤ a.toInt ∧ a.toInt < (N : Int)) : ∃ k, k < N ∧ a = nI k := by
  have hl := Int32.toInt_lt a
  refine ⟨a.toInt.toNat, by omega, ?_⟩
  rw [← Int32.toInt_inj, nI_toInt (by omega)]
  omega
theorem member_c (a : Int32) : (∃ m, m < 5 ∧ a = nI m ∧ (∀ σ, fX5_demandMember σ a = some (.inr σ, 0, 0)) ∧ ∀ τ, fX6_isMember τ a = some 1) ∨ ((∀ σ, fX5_demandMember σ a = some (.inl (1, σ), 1, 6)) ∧ ∀ τ, fX6_isMember τ a = some 0) := by
  have e0 : (0 : Int32).toInt = 0 := by decide
  have e4 : (4 : Int32).toInt = 4 := by decide
  have e5 : (5 : Int32).toInt = 5 := by decide
  by_cases h : 0 ≤ a.toInt ∧ a.toInt ≤ 4
  · obtain ⟨m, hm, e⟩ := nI_range (a := a) (N := 5) (by omega)
    refine Or.inl ⟨m, hm, e, fun σ => ?_, fun τ => ?_⟩
    · unfold fX5_demandMember
      rw [dW_in rfl e0 e4 h, xb_r]
    · unfold fX6_isMember
      rw [if_neg (fun q => by have := (lt32 rfl e0).mp q; omega), if_neg (fun q => by have := (le32 e5 rfl).mp q; omega)]
  · refine Or.inr ⟨fun σ => ?_, fun τ => ?_⟩
    · unfold fX5_demandMember
      rw [dW_out rfl e0 e4 h, xb_l]
    · unfold fX6_isMember
      by_cases c : a < 0
      · rw [if_pos c]
      · have := mt (lt32 (a := a) rfl e0).mpr c
        rw [if_neg c, if_pos ((le32 e5 rfl).mpr (by omega))]
theorem product_c (a : Int32) : (∃ m, m < 3 ∧ a = nI m ∧ (∀ σ, fX5_demandProduct σ a = some (.inr σ, 0, 0)) ∧ ∀ τ, fX6_isProduct τ a = some 1) ∨ ((∀ σ, fX5_demandProduct σ a = some (.inl (1, σ), 1, 6)) ∧ ∀ τ, fX6_isProduct τ a = some 0) := by
  have e0 : (0 : Int32).toInt = 0 := by decide
  have e4 : (2 : Int32).toInt = 2 := by decide
  have e5 : (3 : Int32).toInt = 3 := by decide
  by_cases h : 0 ≤ a.toInt ∧ a.toInt ≤ 2
  · obtain ⟨m, hm, e⟩ := nI_range (a := a) (N := 3) (by omega)
    refine Or.inl ⟨m, hm, e, fun σ => ?_, fun τ => ?_⟩
    · unfold fX5_demandProduct
      rw [dW_in rfl e0 e4 h, xb_r]
    · unfold fX6_isProduct
      rw [if_neg (fun q => by have := (lt32 rfl e0).mp q; omega), if_neg (fun q => by have := (le32 e5 rfl).mp q; omega)]
  · refine Or.inr ⟨fun σ => ?_, fun τ => ?_⟩
    · unfold fX5_demandProduct
      rw [dW_out rfl e0 e4 h, xb_l]
    · unfold fX6_isProduct
      by_cases c : a < 0
      · rw [if_pos c]
      · have := mt (lt32 (a := a) rfl e0).mpr c
        rw [if_neg c, if_pos ((le32 e5 rfl).mpr (by omega))]
theorem kind_c (a : Int32) : (∃ m, m < 2 ∧ a = nI m ∧ (∀ σ, fX5_demandKind σ a = some (.inr σ, 0, 0)) ∧ ∀ τ, fX6_in τ a 0 1 = some 1) ∨ ((∀ σ, fX5_demandKind σ a = some (.inl (1, σ), 1, 6)) ∧ ∀ τ, fX6_in τ a 0 1 = some 0) := by
  have e0 : (0 : Int32).toInt = 0 := by decide
  have e1 : (1 : Int32).toInt = 1 := by decide
  by_cases h : 0 ≤ a.toInt ∧ a.toInt ≤ 1
  · obtain ⟨m, hm, e⟩ := nI_range (a := a) (N := 2) (by omega)
    refine Or.inl ⟨m, hm, e, fun σ => ?_, fun τ => in_in rfl e0 e1 h⟩
    unfold fX5_demandKind
    rw [dW_in rfl e0 e1 h, xb_r]
  · refine Or.inr ⟨fun σ => ?_, fun τ => in_out rfl e0 e1 h⟩
    unfold fX5_demandKind
    rw [dW_out rfl e0 e1 h, xb_l]
theorem state1 (σ : St) : fX5_demandState σ 1 = some (.inr σ, 0, 0) := by unfold fX5_demandState; rw [if_pos h10]
theorem state0 (σ : St) : fX5_demandState σ 0 = some (.inl (2, σ), 1, 6) := by unfold fX5_demandState; rw [if_neg (not_not_intro rfl)]
-- what is asked of a member
def P1 : Nat → Prop := fun k => k = 1
def P12 : Nat → Prop := fun k => k = 1 ∨ k = 2
theorem p11 : P1 1 := rfl
theorem p121 : P12 1 := Or.inl rfl
theorem p122 : P12 2 := Or.inr rfl
theorem c_called {n : Nat} {σ τ : St} (h : INV n σ τ) (a : Int32) : STEP P1 n σ (fX5_called σ a) (fX6_called τ a) := by
  unfold fX5_called fX6_called
  rcases member_c a with ⟨m, hm, rfl, e1, e2⟩ | ⟨e1, e2⟩
  · rw [e1, e2, xb_r, bd_some, asks1, bd_some, if_neg h10, if_gd (vin_nI hm (by omega)), if_gd (vin_nI hm (by omega)), clamp_nI (show m < 2147483648 by omega)]
    exact STEP_ok (INV_next (INV_t h 0)) rfl (Nat.le_refl _) (h.2.1 m hm)
  · rw [e1, e2, xb_l, bd_some, asks0, bd_some, if_pos rfl]
    exact STEP_no h p11 0
theorem c_hasFailed {n : Nat} {σ τ : St} (h : INV n σ τ) (a : Int32) : STEP P1 n σ (fX5_hasFailed σ a) (fX6_hasFailed τ a) := by
  unfold fX5_hasFailed fX6_hasFailed
  rcases member_c a with ⟨m, hm, rfl, e1, e2⟩ | ⟨e1, e2⟩
  · have e3 := ((G_IA h.1) m hm).2.2
    have hz := (h.2.2.1 m hm).1
    rw [e1, e2, xb_r, bd_some, asks1, bd_some, if_neg h10, if_gd (vin_nI hm (by omega)), if_gd (vin_nI hm (by omega)), clamp_nI (show m < 2147483648 by omega), e3]
    rw [if_gd hz, show gI (pI τ 23 0 0 0) 10 0 m = gI τ 10 0 m from rfl]
    rcases hz with z | z
    · rw [z, if_pos rfl]
      exact STEP_ok (INV_next (INV_t h 0)) rfl (Nat.le_refl _) rfl
    · rw [z, if_neg h10]
      exact STEP_ok (INV_next (INV_t h 0)) rfl (Nat.le_refl _) rfl
  · rw [e1, e2, xb_l, bd_some, asks0, bd_some, if_pos rfl]
    exact STEP_no h p11 0
theorem c_cash {n : Nat} {σ τ : St} (h : INV n σ τ) (a : Int32) : STEP P1 n σ (fX5_cash σ a) (fX6_cash τ a) := by
  unfold fX5_cash fX6_cash
  rcases member_c a with ⟨m, hm, rfl, e1, e2⟩ | ⟨e1, e2⟩
  · rw [e1, e2, xb_r, bd_some, asks1, bd_some, if_neg h10, if_gd (vin_nI hm (by omega)), if_gd (vin_nI hm (by omega)), clamp_nI (show m < 2147483648 by omega), ((G_IA h.1) m hm).1]
    exact STEP_ok (INV_next (INV_t h 0)) rfl (Nat.le_refl _) rfl
  · rw [e1, e2, xb_l, bd_some, asks0, bd_some, if_pos rfl]
    exact STEP_no h p11 0
theorem c_share {n : Nat} {σ τ : St} (h : INV n σ τ) (a : Int32) : STEP P1 n σ (fX5_share σ a) (fX6_share τ a) := by
  unfold fX5_share fX6_share
  rcases member_c a with ⟨m, hm, rfl, e1, e2⟩ | ⟨e1, e2⟩
  · rw [e1, e2, xb_r, bd_some, asks1, bd_some, if_neg h10, if_gd (vin_nI hm (by omega)), if_gd (vin_nI hm (by omega)), clamp_nI (show m < 2147483648 by omega), ((G_IA h.1) m hm).2.1]
    exact STEP_ok (INV_next (INV_t h 0)) rfl (Nat.le_refl _) rfl
  · rw [e1, e2, xb_l, bd_some, asks0, bd_some, if_pos rfl]
    exact STEP_no h p11 0
theorem c_equity {n : Nat} {σ τ : St} (h : INV n σ τ) (a : Int32) : STEP P1 n σ (fX5_equity σ a) (fX6_equity τ a) := by
  unfold fX5_equity fX6_equity
  rcases member_c a with ⟨m, hm, rfl, e1, e2⟩ | ⟨e1, e2⟩
  · rw [e1, e2, xb_r, bd_some, asks1, bd_some, if_neg h10, x_eq (G_IA h.1) (G_IP h.1) (G_IQ h.1) hm, y_eq hm, bd_some, bd_some]
    exact STEP_ok (INV_next (INV_t h 0)) rfl (Nat.le_refl _) rfl
  · rw [e1, e2, xb_l, bd_some, asks0, bd_some, if_pos rfl]
    exact STEP_no h p11 0
theorem c_collateral {n : Nat} {σ τ : St} (h : INV n σ τ) (a : Int32) : STEP P1 n σ (fX5_collateral σ a) (fX6_collateral τ a) := by
  unfold fX5_collateral fX6_collateral
  have hK := h.1.1.2.2.2.2.2.1
  have hU := h.1.1.2.1
  rcases member_c a with ⟨m, hm, rfl, e1, e2⟩ | ⟨e1, e2⟩
  · rw [e1, e2, xb_r, bd_some, asks1, bd_some, if_neg h10, x_col hK hU hm, y_col (τ := pI τ 23 0 0 0) hm (fun k hk => IK_ne hK hk), bd_some, bd_some]
    exact STEP_ok (INV_next (INV_t h 0)) rfl (Nat.le_refl _) rfl
  · rw [e1, e2, xb_l, bd_some, asks0, bd_some, if_pos rfl]
    exact STEP_no h p11 0
theorem INV_scr {n : Nat} {σ σ1 τ : St} (c : scr σ σ1) (h : INV n σ τ) : INV n σ1 τ := ⟨G_scr c h.1, fun j hj => (scr_gI c ..).trans (h.2.1 j hj), h.2.2⟩
theorem c_free {n : Nat} {σ τ : St} (h : INV n σ τ) (a : Int32) : STEP P1 n σ (fX5_free σ a) (fX6_free τ a) := by
  unfold fX5_free fX6_free
  rcases member_c a with ⟨m, hm, rfl, e1, e2⟩ | ⟨e1, e2⟩
  · obtain ⟨s1, x1, sc⟩ := x_free h.1.1 hm
    rw [e1, e2, xb_r, bd_some, asks1, bd_some, if_neg h10, x1, y_free (τ := pI τ 23 0 0 0) (INV_t h 0).1.1 hm, bd_some, bd_some, if_gd (scr_same sc)]
    exact STEP_ok (INV_next (INV_t (INV_scr sc h) 0)) rfl (Nat.le_of_eq (pot_scr sc).symm) rfl
  · rw [e1, e2, xb_l, bd_some, asks0, bd_some, if_pos rfl]
    exact STEP_no h p11 0
theorem c_margin {n : Nat} {σ τ : St} (h : INV n σ τ) (a : Int32) : STEP P1 n σ (fX5_margin σ a) (fX6_margin τ a) := by
  unfold fX5_margin fX6_margin
  rcases member_c a with ⟨m, hm, rfl, e1, e2⟩ | ⟨e1, e2⟩
  · obtain ⟨r, s1, x1, x2, sc⟩ := x_marg (G_IQ h.1) (G_IO h.1) (G_IN h.1) (G_IP h.1) (G_BO h.1) (G_BP h.1) (G_BQ h.1) hm
    obtain ⟨w, y1, y2⟩ := y_marg (τ := pI τ 23 0 0 0) (G_BO h.1) (G_BP h.1) (G_BQ h.1) hm
    have hb := sMarg_b (G_BO h.1) (G_BP h.1) (G_BQ h.1) hm
    have y2 : w.toInt = sMarg τ m := y2
    rw [e1, e2, xb_r, bd_some, asks1, bd_some, if_neg h10, x1, y1, bd_some, bd_some, if_gd (scr_same sc)]
    refine STEP_ok (INV_next (INV_t (INV_scr sc h) 0)) rfl (Nat.le_of_eq (pot_scr sc).symm) ?_
    rw [← Int32.toInt_inj, Int64.toInt_toInt32, x2, y2, bm32 (by omega) (by omega)]
  · rw [e1, e2, xb_l, bd_some, asks0, bd_some, if_pos rfl]
    exact STEP_no h p11 0
theorem c_haircut {n : Nat} {σ τ : St} (h : INV n σ τ) (a : Int32) : STEP P1 n σ (fX5_haircut σ a) (fX6_haircut τ a) := by
  unfold fX5_haircut fX6_haircut
  have hK := h.1.1.2.2.2.2.2.1
  rcases kind_c a with ⟨m, hm, rfl, e1, e2⟩ | ⟨e1, e2⟩
  · rw [e1, e2, xb_r, bd_some, asks1, bd_some, if_neg h10, if_gd (vin_nI hm (by omega)), clamp_nI (show m < 2147483648 by omega), y_hair (τ := pI τ 23 0 0 0) hm (IK_ne hK hm), bd_some]
    exact STEP_ok (INV_next (INV_t h 0)) rfl (Nat.le_refl _) (hK m hm).1
  · rw [e1, e2, xb_l, bd_some, asks0, bd_some, if_pos rfl]
    exact STEP_no h p11 0
theorem c_position {n : Nat} {σ τ : St} (h : INV n σ τ) (a b : Int32) : STEP P1 n σ (fX5_position σ a b) (fX6_position τ a b) := by
  unfold fX5_position fX6_position
  rcases member_c a with ⟨m, hm, rfl, e1, e2⟩ | ⟨e1, e2⟩
  · rcases product_c b with ⟨p, hp, rfl, e3, e4⟩ | ⟨e3, e4⟩
    · rw [e1, e2, xb_r, e3, bd_some, if_neg h10, e4, bd_some, if_neg h10, asks1, bd_some, if_neg h10, xb_r, if_gd (vin_nI hm (by omega)), if_gd (vin_nI hp (by omega)), if_gd (ix3 m hm p hp).2, (ix3 m hm p hp).1, clamp_nI (show m < 2147483648 by omega), clamp_nI (show p < 2147483648 by omega)]
      exact STEP_ok (INV_next (INV_t h 0)) rfl (Nat.le_refl _) ((G_IP h.1) m hm p hp).1
    · rw [e1, e2, xb_r, e3, bd_some, if_neg h10, e4, bd_some, if_pos rfl, asks0, bd_some, if_pos rfl, xb_l]
      exact STEP_no h p11 0
  · rw [e1, e2, xb_l, bd_some, if_pos rfl, asks0, bd_some, if_pos rfl]
    exact STEP_no h p11 0
theorem out_not {a lo hi : Int32} {L H : Int} (h : ∀ τ, fX6_in τ a lo hi = some 0) (hl : lo.toInt = L) (hh : hi.toInt = H) (hq : L ≤ a.toInt ∧ a.toInt ≤ H) : False := by
  have := (in_in (σ := tau0) (a := a) rfl hl hh hq).symm.trans (h tau0)
  exact absurd (Option.some.inj this) (by decide)
theorem member_not {a : Int32} (h : ∀ τ, fX6_isMember τ a = some 0) {m : Nat} (hm : m < 5) (e : a = nI m) : False := by
  subst e
  have h := h tau0
  unfold fX6_isMember at h
  rw [if_neg (nI_pos (show m < 2147483648 by omega)), if_neg (show ¬ (5 : Int32) ≤ nI m from nI_ge (a := m) (b := 5) hm (by omega))] at h
  exact absurd (Option.some.inj h) (by decide)
theorem product_not {a : Int32} (h : ∀ τ, fX6_isProduct τ a = some 0) {m : Nat} (hm : m < 3) (e : a = nI m) : False := by
  subst e
  have h := h tau0
  unfold fX6_isProduct at h
  rw [if_neg (nI_pos (show m < 2147483648 by omega)), if_neg (show ¬ (3 : Int32) ≤ nI m from nI_ge (a := m) (b := 3) hm (by omega))] at h
  exact absurd (Option.some.inj h) (by decide)
