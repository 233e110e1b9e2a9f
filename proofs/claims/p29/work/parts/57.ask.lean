/-! PURE: what is asked of a house; the law's call of it -/
theorem pass_eq (x : Option (XO (Int32 × St) × Nat × Nat)) : xb x (fun q => some (.inr (q.1, q.2), 0, 0)) = x := by
  cases x with
  | none => rfl
  | some y =>
    obtain ⟨u, m, n⟩ := y
    cases u with
    | inl e => rfl
    | inr q => rfl
theorem call_in {σ : St} {w a b c : Int32} {q : Int32 × St} {m n : Nat} (h : fL_does σ w a b c = some (.inr q, m, n)) : fL_call σ w a b c = some (q, m, n) := by unfold fL_call; rw [h]
theorem call_ex {σ σ' : St} {w a b c : Int32} {k m n : Nat} {z : Int32} (h : fL_does σ w a b c = some (.inl (k, σ'), m, n)) (hz : xcode k = some z) : fL_call σ w a b c = some ((z, σ'), m, n) := by
  unfold fL_call
  rw [h]
  show (match xcode k with | some z => some ((z, σ'), m, n) | none => none) = _
  rw [hz]
theorem yb_0 {α β : Type} {x : Option (XO α × Nat × Nat)} {a : α} (h : x = some (.inr a, 0, 0)) (k : α → Option (β × Nat × Nat)) : yb x k = k a := by rw [h, yb_r, tk_00]
theorem bt_0 {α β : Type} {x : Option (α × Nat × Nat)} {a : α} (h : x = some (a, 0, 0)) (k : α → Option (β × Nat × Nat)) : bt2 x k = k a := by rw [h, bt2_some, tk_00]
theorem does_tell (σ : St) (a b c : Int32) : fL_does σ 0 a b c = fX5_tell σ a b := by
  unfold fL_does
  rw [if_pos rfl, pass_eq]
theorem does_setMove (σ : St) (a b c : Int32) : fL_does σ 1 a b c = fX5_setMove σ a b c := by
  unfold fL_does
  rw [if_neg (show ¬ (1 : Int32) = 0 by decide), if_pos rfl, pass_eq]
theorem does_tellKind (σ : St) (a b c : Int32) : fL_does σ 2 a b c = fX5_tellKind σ a b := by
  unfold fL_does
  rw [if_neg (show ¬ (2 : Int32) = 0 by decide), if_neg (show ¬ (2 : Int32) = 1 by decide), if_pos rfl, pass_eq]
theorem does_pay (σ : St) (a b c : Int32) : fL_does σ 3 a b c = fX5_pay σ a b := by
  unfold fL_does
  rw [if_neg (show ¬ (3 : Int32) = 0 by decide), if_neg (show ¬ (3 : Int32) = 1 by decide), if_neg (show ¬ (3 : Int32) = 2 by decide), if_pos rfl, pass_eq]
theorem does_bring (σ : St) (a b c : Int32) : fL_does σ 4 a b c = fX5_bring σ a b c := by
  unfold fL_does
  rw [if_neg (show ¬ (4 : Int32) = 0 by decide), if_neg (show ¬ (4 : Int32) = 1 by decide), if_neg (show ¬ (4 : Int32) = 2 by decide), if_neg (show ¬ (4 : Int32) = 3 by decide), if_pos rfl, pass_eq]
theorem does_contribute (σ : St) (a b c : Int32) : fL_does σ 5 a b c = fX5_contribute σ a b := by
  unfold fL_does
  rw [if_neg (show ¬ (5 : Int32) = 0 by decide), if_neg (show ¬ (5 : Int32) = 1 by decide), if_neg (show ¬ (5 : Int32) = 2 by decide), if_neg (show ¬ (5 : Int32) = 3 by decide), if_neg (show ¬ (5 : Int32) = 4 by decide), if_pos rfl, pass_eq]
theorem does_cancel (σ : St) (a b c : Int32) : fL_does σ 7 a b c = fX5_cancel σ a := by
  unfold fL_does
  rw [if_neg (show ¬ (7 : Int32) = 0 by decide), if_neg (show ¬ (7 : Int32) = 1 by decide), if_neg (show ¬ (7 : Int32) = 2 by decide), if_neg (show ¬ (7 : Int32) = 3 by decide), if_neg (show ¬ (7 : Int32) = 4 by decide), if_neg (show ¬ (7 : Int32) = 5 by decide), if_neg (show ¬ (7 : Int32) = 6 by decide), if_pos rfl, pass_eq]
theorem does_left (σ : St) (a b c : Int32) : fL_does σ 9 a b c = fX5_left σ a := by
  unfold fL_does
  rw [if_neg (show ¬ (9 : Int32) = 0 by decide), if_neg (show ¬ (9 : Int32) = 1 by decide), if_neg (show ¬ (9 : Int32) = 2 by decide), if_neg (show ¬ (9 : Int32) = 3 by decide), if_neg (show ¬ (9 : Int32) = 4 by decide), if_neg (show ¬ (9 : Int32) = 5 by decide), if_neg (show ¬ (9 : Int32) = 6 by decide), if_neg (show ¬ (9 : Int32) = 7 by decide), if_neg (show ¬ (9 : Int32) = 8 by decide), if_pos rfl, pass_eq]
theorem does_position (σ : St) (a b c : Int32) : fL_does σ 13 a b c = fX5_position σ a b := by
  unfold fL_does
  rw [if_neg (show ¬ (13 : Int32) = 0 by decide), if_neg (show ¬ (13 : Int32) = 1 by decide), if_neg (show ¬ (13 : Int32) = 2 by decide), if_neg (show ¬ (13 : Int32) = 3 by decide), if_neg (show ¬ (13 : Int32) = 4 by decide), if_neg (show ¬ (13 : Int32) = 5 by decide), if_neg (show ¬ (13 : Int32) = 6 by decide), if_neg (show ¬ (13 : Int32) = 7 by decide), if_neg (show ¬ (13 : Int32) = 8 by decide), if_neg (show ¬ (13 : Int32) = 9 by decide), if_neg (show ¬ (13 : Int32) = 10 by decide), if_neg (show ¬ (13 : Int32) = 11 by decide), if_neg (show ¬ (13 : Int32) = 12 by decide), if_pos rfl, pass_eq]
theorem does_haircut (σ : St) (a b c : Int32) : fL_does σ 18 a b c = fX5_haircut σ a := by
  unfold fL_does
  rw [if_neg (show ¬ (18 : Int32) = 0 by decide), if_neg (show ¬ (18 : Int32) = 1 by decide), if_neg (show ¬ (18 : Int32) = 2 by decide), if_neg (show ¬ (18 : Int32) = 3 by decide), if_neg (show ¬ (18 : Int32) = 4 by decide), if_neg (show ¬ (18 : Int32) = 5 by decide), if_neg (show ¬ (18 : Int32) = 6 by decide), if_neg (show ¬ (18 : Int32) = 7 by decide), if_neg (show ¬ (18 : Int32) = 8 by decide), if_neg (show ¬ (18 : Int32) = 9 by decide), if_neg (show ¬ (18 : Int32) = 10 by decide), if_neg (show ¬ (18 : Int32) = 11 by decide), if_neg (show ¬ (18 : Int32) = 12 by decide), if_neg (show ¬ (18 : Int32) = 13 by decide), if_neg (show ¬ (18 : Int32) = 14 by decide), if_neg (show ¬ (18 : Int32) = 15 by decide), if_neg (show ¬ (18 : Int32) = 16 by decide), if_neg (show ¬ (18 : Int32) = 17 by decide), if_pos rfl, pass_eq]
theorem does_free (σ : St) (a b c : Int32) : fL_does σ 20 a b c = fX5_free σ a := by
  unfold fL_does
  rw [if_neg (show ¬ (20 : Int32) = 0 by decide), if_neg (show ¬ (20 : Int32) = 1 by decide), if_neg (show ¬ (20 : Int32) = 2 by decide), if_neg (show ¬ (20 : Int32) = 3 by decide), if_neg (show ¬ (20 : Int32) = 4 by decide), if_neg (show ¬ (20 : Int32) = 5 by decide), if_neg (show ¬ (20 : Int32) = 6 by decide), if_neg (show ¬ (20 : Int32) = 7 by decide), if_neg (show ¬ (20 : Int32) = 8 by decide), if_neg (show ¬ (20 : Int32) = 9 by decide), if_neg (show ¬ (20 : Int32) = 10 by decide), if_neg (show ¬ (20 : Int32) = 11 by decide), if_neg (show ¬ (20 : Int32) = 12 by decide), if_neg (show ¬ (20 : Int32) = 13 by decide), if_neg (show ¬ (20 : Int32) = 14 by decide), if_neg (show ¬ (20 : Int32) = 15 by decide), if_neg (show ¬ (20 : Int32) = 16 by decide), if_neg (show ¬ (20 : Int32) = 17 by decide), if_neg (show ¬ (20 : Int32) = 18 by decide), if_neg (show ¬ (20 : Int32) = 19 by decide), if_pos rfl, pass_eq]
theorem does_called (σ : St) (a b c : Int32) : fL_does σ 11 a b c = fX5_called σ a := by
  unfold fL_does
  rw [if_neg (show ¬ (11 : Int32) = 0 by decide), if_neg (show ¬ (11 : Int32) = 1 by decide), if_neg (show ¬ (11 : Int32) = 2 by decide), if_neg (show ¬ (11 : Int32) = 3 by decide), if_neg (show ¬ (11 : Int32) = 4 by decide), if_neg (show ¬ (11 : Int32) = 5 by decide), if_neg (show ¬ (11 : Int32) = 6 by decide), if_neg (show ¬ (11 : Int32) = 7 by decide), if_neg (show ¬ (11 : Int32) = 8 by decide), if_neg (show ¬ (11 : Int32) = 9 by decide), if_neg (show ¬ (11 : Int32) = 10 by decide), if_pos rfl, pass_eq]
theorem does_halt0 (σ : St) (a c : Int32) : fL_does σ 8 a 0 c = fX5_halt σ a 0 := by
  unfold fL_does
  rw [if_neg (show ¬ (8 : Int32) = 0 by decide), if_neg (show ¬ (8 : Int32) = 1 by decide), if_neg (show ¬ (8 : Int32) = 2 by decide), if_neg (show ¬ (8 : Int32) = 3 by decide), if_neg (show ¬ (8 : Int32) = 4 by decide), if_neg (show ¬ (8 : Int32) = 5 by decide), if_neg (show ¬ (8 : Int32) = 6 by decide), if_neg (show ¬ (8 : Int32) = 7 by decide), if_pos rfl, if_pos (show ¬ (0 : Int32) = 1 by decide), pass_eq]
theorem does_best0 (σ : St) (a c : Int32) : fL_does σ 10 a 0 c = fX5_best σ a 0 := by
  unfold fL_does
  rw [if_neg (show ¬ (10 : Int32) = 0 by decide), if_neg (show ¬ (10 : Int32) = 1 by decide), if_neg (show ¬ (10 : Int32) = 2 by decide), if_neg (show ¬ (10 : Int32) = 3 by decide), if_neg (show ¬ (10 : Int32) = 4 by decide), if_neg (show ¬ (10 : Int32) = 5 by decide), if_neg (show ¬ (10 : Int32) = 6 by decide), if_neg (show ¬ (10 : Int32) = 7 by decide), if_neg (show ¬ (10 : Int32) = 8 by decide), if_neg (show ¬ (10 : Int32) = 9 by decide), if_pos rfl, if_pos (show ¬ (0 : Int32) = 1 by decide), pass_eq]
theorem does_halt1 (σ : St) (a c : Int32) : fL_does σ 8 a 1 c = fX5_halt σ a 1 := by
  unfold fL_does
  rw [if_neg (show ¬ (8 : Int32) = 0 by decide), if_neg (show ¬ (8 : Int32) = 1 by decide), if_neg (show ¬ (8 : Int32) = 2 by decide), if_neg (show ¬ (8 : Int32) = 3 by decide), if_neg (show ¬ (8 : Int32) = 4 by decide), if_neg (show ¬ (8 : Int32) = 5 by decide), if_neg (show ¬ (8 : Int32) = 6 by decide), if_neg (show ¬ (8 : Int32) = 7 by decide), if_pos rfl, if_neg (show ¬ ¬ (1 : Int32) = 1 by decide), pass_eq]
theorem does_best1 (σ : St) (a c : Int32) : fL_does σ 10 a 1 c = fX5_best σ a 1 := by
  unfold fL_does
  rw [if_neg (show ¬ (10 : Int32) = 0 by decide), if_neg (show ¬ (10 : Int32) = 1 by decide), if_neg (show ¬ (10 : Int32) = 2 by decide), if_neg (show ¬ (10 : Int32) = 3 by decide), if_neg (show ¬ (10 : Int32) = 4 by decide), if_neg (show ¬ (10 : Int32) = 5 by decide), if_neg (show ¬ (10 : Int32) = 6 by decide), if_neg (show ¬ (10 : Int32) = 7 by decide), if_neg (show ¬ (10 : Int32) = 8 by decide), if_neg (show ¬ (10 : Int32) = 9 by decide), if_pos rfl, if_neg (show ¬ ¬ (1 : Int32) = 1 by decide), pass_eq]
theorem does_place (σ : St) (a b c : Int32) : fL_does σ 6 a b c = fX5_place σ a (b >>> (1 &&& 31)) (if ¬ (b &&& 1) = 1 then 0 else 1) (c >>> (8 &&& 31)) ((c &&& 255) - 1) := by
  unfold fL_does
  rw [if_neg (show ¬ (6 : Int32) = 0 by decide), if_neg (show ¬ (6 : Int32) = 1 by decide), if_neg (show ¬ (6 : Int32) = 2 by decide), if_neg (show ¬ (6 : Int32) = 3 by decide), if_neg (show ¬ (6 : Int32) = 4 by decide), if_neg (show ¬ (6 : Int32) = 5 by decide), if_pos rfl]
  by_cases h : ¬ (b &&& 1) = 1
  · rw [if_pos h, if_pos h, pass_eq]
  · rw [if_neg h, if_neg h, pass_eq]
-- the bounds of what is asked
theorem mem_in {m : Nat} (hm : m < 5) (σ : St) : fX5_demandMember σ (nI m) = some (.inr σ, 0, 0) := by
  rcases member_c (nI m) with ⟨_, _, _, e1, _⟩ | ⟨_, e2⟩
  · exact e1 σ
  · exact (member_not e2 hm rfl).elim
theorem pro_in {m : Nat} (hm : m < 3) (σ : St) : fX5_demandProduct σ (nI m) = some (.inr σ, 0, 0) := by
  rcases product_c (nI m) with ⟨_, _, _, e1, _⟩ | ⟨_, e2⟩
  · exact e1 σ
  · exact (product_not e2 hm rfl).elim
theorem kin_in {m : Nat} (hm : m < 2) (σ : St) : fX5_demandKind σ (nI m) = some (.inr σ, 0, 0) := by
  rcases kind_c (nI m) with ⟨_, _, _, e1, _⟩ | ⟨_, e2⟩
  · exact e1 σ
  · have h0 := nI_toInt (n := m) (show m < 2147483648 by omega)
    exact (out_not e2 (L := 0) (H := 1) (by decide) (by decide) ⟨by omega, by omega⟩).elim
section ASK
variable {n : Nat} {σ τ : St} {m p k : Nat}
theorem A_called (h : INV n σ τ) (hm : m < 5) : fX5_called σ (nI m) = some (.inr (gI τ 9 0 m, σ), 0, 0) := by
  unfold fX5_called
  rw [mem_in hm, xb_r, if_gd (vin_nI hm (by omega)), clamp_nI (show m < 2147483648 by omega), h.2.1 m hm]
theorem A_failed (h : INV n σ τ) (hm : m < 5) : fX5_hasFailed σ (nI m) = some (.inr (gI τ 10 0 m, σ), 0, 0) := by
  unfold fX5_hasFailed
  rw [mem_in hm, xb_r, if_gd (vin_nI hm (by omega)), clamp_nI (show m < 2147483648 by omega), ((G_IA h.1) m hm).2.2, if_gd (h.2.2.1 m hm).1]
theorem A_cash (h : INV n σ τ) (hm : m < 5) : fX5_cash σ (nI m) = some (.inr (Int64.toInt32 (gL τ 6 0 m), σ), 0, 0) := by
  unfold fX5_cash
  rw [mem_in hm, xb_r, if_gd (vin_nI hm (by omega)), clamp_nI (show m < 2147483648 by omega), ((G_IA h.1) m hm).1]
theorem A_share (h : INV n σ τ) (hm : m < 5) : fX5_share σ (nI m) = some (.inr (Int64.toInt32 (gL τ 8 0 m), σ), 0, 0) := by
  unfold fX5_share
  rw [mem_in hm, xb_r, if_gd (vin_nI hm (by omega)), clamp_nI (show m < 2147483648 by omega), ((G_IA h.1) m hm).2.1]
theorem A_equity (h : INV n σ τ) (hm : m < 5) : fX5_equity σ (nI m) = some (.inr (Int64.toInt32 (sEq τ m), σ), 0, 0) := by
  unfold fX5_equity
  rw [mem_in hm, xb_r, x_eq (G_IA h.1) (G_IP h.1) (G_IQ h.1) hm, bd_some]
theorem A_col (h : INV n σ τ) (hm : m < 5) : fX5_collateral σ (nI m) = some (.inr (Int64.toInt32 (sCol τ m), σ), 0, 0) := by
  unfold fX5_collateral
  rw [mem_in hm, xb_r, x_col h.1.1.2.2.2.2.2.1 h.1.1.2.1 hm, bd_some]
theorem A_free (h : INV n σ τ) (hm : m < 5) : ∃ σ', fX5_free σ (nI m) = some (.inr (Int64.toInt32 (sFree τ m), σ'), 0, 0) ∧ scr σ σ' := by
  obtain ⟨s1, x1, sc⟩ := x_free h.1.1 hm
  refine ⟨s1, ?_, sc⟩
  unfold fX5_free
  rw [mem_in hm, xb_r, x1, bd_some, if_gd (scr_same sc)]
theorem A_hair (h : INV n σ τ) (hm : m < 2) : fX5_haircut σ (nI m) = some (.inr (sHair τ m, σ), 0, 0) := by
  unfold fX5_haircut
  rw [kin_in hm, xb_r, if_gd (vin_nI hm (by omega)), clamp_nI (show m < 2147483648 by omega), (h.1.1.2.2.2.2.2.1 m hm).1]
theorem A_pos (h : INV n σ τ) (hm : m < 5) (hp : p < 3) : fX5_position σ (nI m) (nI p) = some (.inr (gI τ 4 0 (3 * m + p), σ), 0, 0) := by
  unfold fX5_position
  rw [mem_in hm, xb_r, pro_in hp, xb_r, if_gd (vin_nI hm (by omega)), clamp_nI (show m < 2147483648 by omega), if_gd (vin_nI hp (by omega)), clamp_nI (show p < 2147483648 by omega), ((G_IP h.1) m hm p hp).1]
theorem A_left (h : INV n σ τ) (hk : k < tn τ) : fX5_left σ (nI k) = some (.inr (gI τ 15 0 k, σ), 0, 0) := by
  have h100 := (G_BO h.1).2.1
  have hN := (G_IO h.1).1
  unfold fX5_left
  rcases order_c h (nI k) with ⟨j, hj, e, e1, -⟩ | ⟨-, e2⟩
  · have e : k = j := (nI_eq (by omega) (by omega)).mp e
    subst e
    rw [e1, xb_r, if_gd (vin_nI (show k < gN σ 0 by omega) (by omega)), if_gd (lok_of (G_IN h.1)), clamp_nI (show k < 2147483648 by omega), ((G_IO h.1).2 k hk).2.2.2.2.2]
  · unfold fX6_isOrder at e2
    rw [(G_BO h.1).1, if_neg (nI_pos (show k < 2147483648 by omega)), if_neg (fun q => by have := (nI_leI (a := tn τ) (b := k) (by omega) (by omega)).mp q; omega)] at e2
    exact absurd (Option.some.inj e2) (by decide)
theorem order_x (h : INV n σ τ) {a : Int32} (ha : a = -1 ∨ a = nI (tn τ)) : fX5_demandOrder σ a = some (.inl (3, σ), 1, 6) := by
  have h100 := (G_BO h.1).2.1
  rcases order_c h a with ⟨j, hj, e, -⟩ | ⟨e1, -⟩
  · rcases ha with ha | ha
    · exact absurd (ha.symm.trans e).symm (nI_ne1 (by omega))
    · have := (nI_eq (by omega) (by omega)).mp (ha.symm.trans e)
      omega
  · exact e1
theorem A_leftX (h : INV n σ τ) : fX5_left σ (nI (tn τ)) = some (.inl (3, σ), 1, 6) := by
  unfold fX5_left
  rw [order_x h (Or.inr rfl), xb_l]
theorem A_best (h : INV n σ τ) (hp : p < 3) (b : Int32) : (∃ j, opn τ p b j ∧ fX6_bestOf τ (nI p) b = some (nI j) ∧ fX5_best σ (nI p) b = some (.inr (nI j, σ), 0, 0)) ∨ (fX6_bestOf τ (nI p) b = some (-1) ∧ fX5_best σ (nI p) b = some (.inl (4, σ), 1, 6)) := by
  obtain ⟨o, b1, b2, b3⟩ := best_of (G_IO h.1) (G_IN h.1) (G_BO h.1) p b
  unfold fX5_best
  rw [pro_in hp, xb_r, b1, bd_some]
  cases o with
  | none =>
    rw [oc_none]
    exact Or.inr ⟨b2, rfl⟩
  | some k =>
    have hk : k < tn τ := (b3 k rfl).1
    rw [oc_some, if_gd (show k < gN σ 5 by rw [(G_IN h.1).1, (G_IO h.1).1]; exact hk), ((G_IO h.1).2 k hk).1]
    exact Or.inl ⟨k, b3 k rfl, b2, rfl⟩
theorem A_trades (h : INV n σ τ) : fX5_trades σ = some (gI τ 22 0 0) := by
  show some (gI σ 20 0 0) = _
  rw [(h.1.1.2.2.2.2.2.2.1).1]
theorem A_unpaid (h : INV n σ τ) : fX5_unpaid σ = some (Int64.toInt32 (gL τ 20 0 0)) := by
  show some (Int64.toInt32 (gL σ 20 0 0)) = _
  rw [(h.1.1.2.2.2.2.2.2.1).2]
theorem A_eqT (h : INV n σ τ) (hm : m < 5) : fX5_equityByTrades σ (nI m) = some (.inr (Int64.toInt32 (sEq τ m), σ), 0, 0) := by
  obtain ⟨u, mc, ms, r, τ', e1, e2, e3⟩ := c_equityByTrades h (nI m)
  have hy : fX6_equityByTrades τ (nI m) = some (Int64.toInt32 (sEq τ m), pI τ 23 0 0 0) := by
    rcases member_c (nI m) with ⟨_, _, _, -, e4⟩ | ⟨-, e4⟩
    · unfold fX6_equityByTrades
      rw [e4, bd_some, asks1, bd_some, if_neg h10, y_eq hm, bd_some]
      rfl
    · exact (member_not e4 hm rfl).elim
  obtain ⟨er, et⟩ := Prod.mk.inj (Option.some.inj (hy.symm.trans e2))
  -- the class's own answer, its state as it was
  have hx : ∃ v, fX5_equityByTrades σ (nI m) = some (.inr (v, σ), 0, 0) := by
    have hJ := h.1.2.2.1
    have hN := G_IN h.1
    have h8 := hN.2.2.2.2.2.2.2
    have hl := by_L (G_IQ h.1) (G_BQ h.1) hN hJ.1 (m := m) 60000 0 (gL σ 2 m 0) (by omega) (by omega) (by
      unfold byT
      show _ = (_ + ((_ * 0 + _ * 0) + _ * 0)) - 0
      grind)
    have hl : fX5_equityByTrades_L17 60000 σ 0 (gL σ 2 m 0) (nI m) = _ := hl
    unfold fX5_equityByTrades
    rw [mem_in hm, xb_r, if_gd (vin_nI hm (by omega)), clamp_nI (show m < 2147483648 by omega), kst_d, hl]
    exact ⟨_, rfl⟩
  obtain ⟨v, hx⟩ := hx
  obtain ⟨ev, -⟩ := Prod.mk.inj (Option.some.inj (hx.symm.trans e1))
  subst ev
  have e4 : v = r := e3.2.1
  rw [hx, e4, ← er]
end ASK
-- sums of what is asked
theorem nI5 : (5 : Int32) ≤ nI 5 := by decide
def tI (v : Int64) : Int64 := Int32.toInt64 (Int64.toInt32 v)
def eqs (τ : St) : Int64 := ((((0 + tI (sEq τ 0)) + tI (sEq τ 1)) + tI (sEq τ 2)) + tI (sEq τ 3)) + tI (sEq τ 4)
def shs (τ : St) : Int64 := ((((0 + tI (gL τ 8 0 0)) + tI (gL τ 8 0 1)) + tI (gL τ 8 0 2)) + tI (gL τ 8 0 3)) + tI (gL τ 8 0 4)
theorem S_eq {n : Nat} {σ τ : St} (h : INV n σ τ) {m : Nat} (hm : m < 5) (k : Nat) (v : Int64) : fL_equities_L4 (k + 1) σ (nI m) v = fL_equities_L4 k σ (nI (m + 1)) (v + tI (sEq τ m)) := by
  rw [fL_equities_L4.eq_2, if_neg (show ¬ (5 : Int32) ≤ nI m from nI_ge (a := m) (b := 5) hm (by omega)), yb_0 (A_equity h hm), kst_d, kst_d, nI_1]
  rfl
theorem L_equities {n : Nat} {σ τ : St} (h : INV n σ τ) : fL_equities σ = some ((eqs τ, σ), 0, 0) := by
  have e : fL_equities σ = fL_equities_L4 (999 + 1) σ (nI 0) 0 := rfl
  rw [e, S_eq h (by omega), S_eq h (by omega), S_eq h (by omega), S_eq h (by omega), S_eq h (by omega), fL_equities_L4.eq_2, if_pos nI5]
  rfl
theorem S_sh {n : Nat} {σ τ : St} (h : INV n σ τ) {m : Nat} (hm : m < 5) (k : Nat) (v : Int64) : fL_shares_L4 (k + 1) σ (nI m) v = fL_shares_L4 k σ (nI (m + 1)) (v + tI (gL τ 8 0 m)) := by
  rw [fL_shares_L4.eq_2, if_neg (show ¬ (5 : Int32) ≤ nI m from nI_ge (a := m) (b := 5) hm (by omega)), yb_0 (A_share h hm), kst_d, kst_d, nI_1]
  rfl
theorem L_shares {n : Nat} {σ τ : St} (h : INV n σ τ) : fL_shares σ = some ((shs τ, σ), 0, 0) := by
  have e : fL_shares σ = fL_shares_L4 (999 + 1) σ (nI 0) 0 := rfl
  rw [e, S_sh h (by omega), S_sh h (by omega), S_sh h (by omega), S_sh h (by omega), S_sh h (by omega), fL_shares_L4.eq_2, if_pos nI5]
  rfl
def st1 (τ : St) (m : Nat) : Nat := if gI τ 10 0 m = 0 then 1 else 0
def stn (τ : St) : Nat := st1 τ 0 + st1 τ 1 + st1 τ 2 + st1 τ 3 + st1 τ 4
theorem S_st {n : Nat} {σ τ : St} (h : INV n σ τ) {m : Nat} (hm : m < 5) (k v : Nat) : fL_standing_L4 (k + 1) σ (nI m) (nI v) = fL_standing_L4 k σ (nI (m + 1)) (nI (v + st1 τ m)) := by
  rw [fL_standing_L4.eq_2, if_neg (show ¬ (5 : Int32) ≤ nI m from nI_ge (a := m) (b := 5) hm (by omega)), yb_0 (A_failed h hm)]
  unfold st1
  by_cases c : gI τ 10 0 m = 0
  · rw [if_pos c, if_pos c, kst_d, kst_d, nI_1, nI_1]
  · rw [if_neg c, if_neg c, kst_d, kst_d, nI_1, Int32.add_zero]
    rfl
theorem L_standing {n : Nat} {σ τ : St} (h : INV n σ τ) : fL_standing σ = some ((nI (stn τ), σ), 0, 0) := by
  have e : fL_standing σ = fL_standing_L4 (999 + 1) σ (nI 0) (nI 0) := rfl
  rw [e, S_st h (by omega), S_st h (by omega), S_st h (by omega), S_st h (by omega), S_st h (by omega), fL_standing_L4.eq_2, if_pos nI5]
  unfold stn
  rw [Nat.zero_add]
