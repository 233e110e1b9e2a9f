/-! PURE, the calls: collateral brought; orders -/
theorem pI_back (σ : St) (f i j : Nat) (v : Int32) : pI (pI σ f i j v) f i j (gI σ f i j) = σ := by
  refine Prod.ext ?_ rfl
  funext a b c
  show (if a = f ∧ b = i ∧ c = j then σ.1 f i j else if a = f ∧ b = i ∧ c = j then v else σ.1 a b c) = σ.1 a b c
  split
  · rename_i h
    obtain ⟨rfl, rfl, rfl⟩ := h
    rfl
  · rfl
theorem nlt_le32 {a b : Int32} : ¬ a < b ↔ b ≤ a := by rw [Int32.lt_iff_toInt_lt, Int32.le_iff_toInt_le]; omega
theorem sFree_units (τ : St) (m : Nat) {k : Nat} (hk : k < 2) (v : Int32) : sFree (pI τ 7 0 (2 * m + k) v) m = (sFree τ m - sWor τ k (gI τ 7 0 (2 * m + k))) + sWor τ k v := by
  have e : ∀ k', sWor (pI τ 7 0 (2 * m + k) v) k' (gI (pI τ 7 0 (2 * m + k) v) 7 0 (2 * m + k')) = if k' = k then sWor τ k v else sWor τ k' (gI τ 7 0 (2 * m + k')) := fun k' => by
    show sWor τ k' (gI (pI τ 7 0 (2 * m + k) v) 7 0 (2 * m + k')) = _
    rw [gI_pI]
    simp only [true_and]
    by_cases c : k' = k
    · rw [if_pos (by omega), if_pos c, c]
    · rw [if_neg (by omega), if_neg c]
  have e1 : sEq (pI τ 7 0 (2 * m + k) v) m = sEq τ m := rfl
  have e2 : sMarg (pI τ 7 0 (2 * m + k) v) m = sMarg τ m := rfl
  have e3 : sCol (pI τ 7 0 (2 * m + k) v) m = (0 + (if 0 = k then sWor τ k v else sWor τ 0 (gI τ 7 0 (2 * m + 0)))) + (if 1 = k then sWor τ k v else sWor τ 1 (gI τ 7 0 (2 * m + 1))) := by
    unfold sCol
    rw [e 0, e 1]
  unfold sFree
  rw [e1, e2, e3]
  unfold sCol
  rcases (show k = 0 ∨ k = 1 by omega) with rfl | rfl
  · rw [if_pos rfl, if_neg (by omega)]
    grind
  · rw [if_neg (by omega), if_pos rfl]
    grind
def TBr (τ : St) (a b c r : Int32) (τ' : St) : Prop := (gI τ' 23 0 0 = 1 ∧ ¬ ((∃ m, m < 5 ∧ a = nI m) ∧ (∃ k, k < 2 ∧ b = nI k) ∧ -1000 ≤ c.toInt ∧ c.toInt ≤ 1000)) ∨ ∃ m k, m < 5 ∧ k < 2 ∧ a = nI m ∧ b = nI k ∧ ((gI τ' 23 0 0 = 2 ∧ SX τ τ' ∧ (¬ gI τ 10 0 m = 0 ∨ ¬ (0 ≤ (gI τ 7 0 (2 * m + k) + c).toInt ∧ (gI τ 7 0 (2 * m + k) + c).toInt ≤ 1000) ∨ ¬ 0 ≤ c)) ∨ (gI τ' 23 0 0 = 0 ∧ gI τ 10 0 m = 0 ∧ (0 ≤ (gI τ 7 0 (2 * m + k) + c).toInt ∧ (gI τ 7 0 (2 * m + k) + c).toInt ≤ 1000) ∧ (0 ≤ c ∨ 0 ≤ sFree τ' m) ∧ r = gI τ 7 0 (2 * m + k) + c ∧ τ' = pI (pI τ 23 0 0 0) 7 0 (2 * m + k) (gI τ 7 0 (2 * m + k) + c)))
theorem c_bring {n : Nat} {σ τ : St} (h : INV n σ τ) (a b c : Int32) : STEPT P12 (TBr τ a b c) n σ (fX5_bring σ a b c) (fX6_bring τ a b c) := by
  unfold fX5_bring fX6_bring
  rcases member_c a with ⟨m, hm, rfl, e1, e2⟩ | ⟨e1, e2⟩
  · rcases kind_c b with ⟨k, hk, rfl, e3, e4⟩ | ⟨e3, e4⟩
    · rcases within_c c (-1000) 1000 (L := -1000) (H := 1000) (by decide) (by decide) with ⟨hc, e5, e6⟩ | ⟨e5, e6⟩
      · obtain ⟨f1, f2, f3⟩ := (G_IA h.1) m hm
        have hK := h.1.1.2.2.2.2.2.1
        have hU := (h.1.1.2.1) m hm k hk
        rw [e1, e2, xb_r, e3, bd_some, if_neg h10, e4, bd_some, if_neg h10, e6, bd_some, if_neg h10, asks1, bd_some, if_pos h10, xb_r, e5, xb_r, if_gd (ix2 m hm k hk).2, (ix2 m hm k hk).1]
        have gk : ∀ (X : Option (XO (Int32 × St) × Nat × Nat)), gd (vin (nI k) 2) X = X := fun X => if_gd (vin_nI hk (by omega))
        have gm : ∀ (X : Option (XO (Int32 × St) × Nat × Nat)), gd (vin (nI m) 5) X = X := fun X => if_gd (vin_nI hm (by omega))
        have gm2 : ∀ (X : Option (Int32 × St)), gd (vin (nI m) 5) X = X := fun X => if_gd (vin_nI hm (by omega))
        simp only [gk, gm, gm2, kst_d, clamp_nI (show m < 2147483648 by omega), clamp_nI (show k < 2147483648 by omega)]
        rw [hU, f3]
        rw [show gI (pI τ 23 0 0 0) 10 0 m = gI τ 10 0 m from rfl, show gI (pI τ 23 0 0 0) 7 0 (2 * m + k) = gI τ 7 0 (2 * m + k) from rfl]
        have hT := INV_t h 0
        by_cases z : gI τ 10 0 m = 0
        · rw [if_neg (not_not_intro z), if_neg (not_not_intro z)]
          generalize hv : gI τ 7 0 (2 * m + k) + c = v
          have e0 : (0 : Int32).toInt = 0 := by decide
          have eM : (1000 : Int32).toInt = 1000 := by decide
          by_cases w : 0 ≤ v.toInt ∧ v.toInt ≤ 1000
          · rw [in_in rfl e0 eM w, bd_some, if_pos h10, if_neg (fun q => by have := (lt32 rfl e0).mp q; omega), if_neg (fun q => by have := (lt32 eM rfl).mp q; omega), state1, xb_r]
            have hgo : ∀ σ1, scr σ σ1 → (0 ≤ c ∨ 0 ≤ sFree (pI (pI τ 23 0 0 0) 7 0 (2 * m + k) v) m) → STEPT P12 (TBr τ (nI m) (nI k) c) n σ (some (.inr (v, pI σ1 3 m k v), 0, 0)) (some (v, pI (pI τ 23 0 0 0) 7 0 (2 * m + k) v)) := fun σ1 sc hor => by
              have h1 := INV_scr sc h
              exact STEPT_of (STEP_ok (INV_of h1 (G_units (τ := pI τ 23 0 0 0) h1.1 hk v) (fun _ => rfl) (fun _ => rfl) (fun _ => rfl) (fun _ => rfl) rfl) rfl (Nat.le_of_eq (pot_scr sc).symm) rfl) (Or.inr ⟨m, k, hm, hk, rfl, rfl, Or.inr ⟨rfl, z, by rw [hv]; exact w, hor, hv.symm, by rw [hv]⟩⟩)
            by_cases c2 : 0 ≤ c
            · rw [if_pos c2, if_pos c2, state1, xb_r]
              exact hgo σ (scr_rfl σ) (Or.inl c2)
            · obtain ⟨s1, x1, sc⟩ := x_free h.1.1 hm
              have h1 := INV_scr sc h
              have hK1 := h1.1.1.2.2.2.2.2.1
              have hR2 : RD (pI s1 3 m k v) (pI (pI τ 23 0 0 0) 7 0 (2 * m + k) v) := (G_units (τ := pI τ 23 0 0 0) h1.1 hk v).1
              have hsf : sFree (pI (pI τ 23 0 0 0) 7 0 (2 * m + k) v) m = (sFree τ m - sWor τ k (gI τ 7 0 (2 * m + k))) + sWor τ k v := sFree_units (pI τ 23 0 0 0) m hk v
              rw [if_neg c2, if_neg c2, x1, bd_some, if_gd (scr_same sc), x_wor hK1 hk, bd_some, x_wor hK1 hk, bd_some, y_free hR2 hm, bd_some, hsf]
              by_cases c3 : (sFree τ m - sWor τ k (gI τ 7 0 (2 * m + k))) + sWor τ k v < 0
              · rw [if_pos c3, if_neg (fun q => nlt_le.mpr q c3), state0, xb_l]
                have eb : pI (pI (pI τ 23 0 0 0) 7 0 (2 * m + k) v) 7 0 (2 * m + k) (gI τ 7 0 (2 * m + k)) = pI τ 23 0 0 0 := pI_back (pI τ 23 0 0 0) 7 0 (2 * m + k) v
                rw [eb]
                exact STEPT_of (STEP_no2 (INV_t h1 0) (Nat.le_of_eq (pot_scr sc).symm) p122 0) (Or.inr ⟨m, k, hm, hk, rfl, rfl, Or.inl ⟨rfl, SX_2 τ _ _, Or.inr (Or.inr c2)⟩⟩)
              · rw [if_neg c3, if_pos (nlt_le.mp c3), state1, xb_r]
                exact hgo s1 sc (Or.inr (by rw [hsf]; exact nlt_le.mp c3))
          · rw [in_out rfl e0 eM w, bd_some, if_neg (not_not_intro rfl)]
            by_cases c2 : v < 0
            · rw [if_pos c2, state0, xb_l]
              exact STEPT_of (STEP_no2 (INV_t h 0) (Nat.le_refl _) p122 0) (Or.inr ⟨m, k, hm, hk, rfl, rfl, Or.inl ⟨rfl, SX_2 τ _ _, Or.inr (Or.inl (by rw [hv]; exact w))⟩⟩)
            · have := mt (lt32 (a := v) rfl e0).mpr c2
              rw [if_neg c2, if_pos ((lt32 eM rfl).mpr (by omega)), state0, xb_l]
              exact STEPT_of (STEP_no2 (INV_t h 0) (Nat.le_refl _) p122 0) (Or.inr ⟨m, k, hm, hk, rfl, rfl, Or.inl ⟨rfl, SX_2 τ _ _, Or.inr (Or.inl (by rw [hv]; exact w))⟩⟩)
        · rw [if_pos z, if_pos z, state0, xb_l]
          exact STEPT_of (STEP_no2 (INV_t h 0) (Nat.le_refl _) p122 0) (Or.inr ⟨m, k, hm, hk, rfl, rfl, Or.inl ⟨rfl, SX_2 τ _ _, Or.inl z⟩⟩)
      · rw [e1, e2, xb_r, e3, bd_some, if_neg h10, e4, bd_some, if_neg h10, e6, bd_some, if_pos rfl, asks0, bd_some, if_neg (not_not_intro rfl), xb_r, e5, xb_l]
        exact STEPT_of (STEP_no h p121 0) (Or.inl ⟨rfl, fun q => out_not e6 (by decide) (by decide) q.2.2⟩)
    · rw [e1, e2, xb_r, e3, bd_some, if_neg h10, e4, bd_some, if_pos rfl, asks0, bd_some, if_neg (not_not_intro rfl), xb_l]
      exact STEPT_of (STEP_no h p121 0) (Or.inl ⟨rfl, fun ⟨_, ⟨k, hk, e⟩, _⟩ => kind_not e4 hk e⟩)
  · rw [e1, e2, xb_l, bd_some, if_pos rfl, asks0, bd_some, if_neg (not_not_intro rfl)]
    exact STEPT_of (STEP_no h p121 0) (Or.inl ⟨rfl, fun ⟨⟨k, hk, e⟩, _⟩ => member_not e2 hk e⟩)
-- orders
def P32 : Nat → Prop := fun k => k = 3 ∨ k = 2
def P3 : Nat → Prop := fun k => k = 3
def P14 : Nat → Prop := fun k => k = 1 ∨ k = 4
theorem STEP_k {P : Nat → Prop} {n : Nat} {σ τ1 : St} {k : Nat} {v : Int32} (h : INV n σ τ1) (hk : P k) (hv : xcat k = v) (r : Int32) : STEP P n σ (some (.inl (k, σ), 1, 6)) (some (r, pI τ1 23 0 0 v)) :=
  ⟨_, _, _, _, _, rfl, rfl, hk, by show gI (pI τ1 23 0 0 v) 23 0 0 = xcat k; rw [gI_pI, if_pos ⟨rfl, rfl, rfl⟩, hv], INV_next h, by omega, by omega⟩
theorem order_c {n : Nat} {σ τ : St} (h : INV n σ τ) (a : Int32) : (∃ k, k < tn τ ∧ a = nI k ∧ fX5_demandOrder σ a = some (.inr σ, 0, 0) ∧ fX6_isOrder τ a = some 1) ∨ (fX5_demandOrder σ a = some (.inl (3, σ), 1, 6) ∧ fX6_isOrder τ a = some 0) := by
  have e0 : (0 : Int32).toInt = 0 := by decide
  have hN := (G_IO h.1).1
  have hO := G_BO h.1
  have h100 := hO.2.1
  have en : (nI (tn τ)).toInt = (tn τ : Int) := nI_toInt (by omega)
  unfold fX5_demandOrder fX6_isOrder
  rw [hN, hO.1]
  by_cases c : 0 ≤ a.toInt ∧ a.toInt < (tn τ : Int)
  · obtain ⟨k, hk, e⟩ := nI_range c
    exact Or.inl ⟨k, hk, e, by rw [if_neg (fun q => by have := (lt32 rfl e0).mp q; omega), if_pos ((lt32 rfl en).mpr c.2)], by rw [if_neg (fun q => by have := (lt32 rfl e0).mp q; omega), if_neg (fun q => by have := (le32 en rfl).mp q; omega)]⟩
  · refine Or.inr ?_
    by_cases c2 : a < 0
    · rw [if_pos c2, if_pos c2]
      exact ⟨rfl, rfl⟩
    · have := mt (lt32 (a := a) rfl e0).mpr c2
      rw [if_neg c2, if_neg c2, if_neg (fun q => by have := (lt32 rfl en).mp q; omega), if_pos ((le32 en rfl).mpr (by omega))]
      exact ⟨rfl, rfl⟩
theorem c_left {n : Nat} {σ τ : St} (h : INV n σ τ) (a : Int32) : STEP P3 n σ (fX5_left σ a) (fX6_left τ a) := by
  unfold fX5_left fX6_left
  rcases order_c h a with ⟨k, hk, rfl, e1, e2⟩ | ⟨e1, e2⟩
  · have h100 := (G_BO h.1).2.1
    have hN := (G_IO h.1).1
    rw [e1, e2, xb_r, bd_some, asks1, bd_some, if_neg h10, if_gd (vin_nI (show k < gN σ 0 by omega) (by omega)), if_gd (lok_of (G_IN h.1)), if_gd (vin_nI (show k < 100 by omega) (by omega)), clamp_nI (show k < 2147483648 by omega)]
    exact STEP_ok (INV_next (INV_t h 0)) rfl (Nat.le_refl _) ((G_IO h.1).2 k hk).2.2.2.2.2
  · rw [e1, e2, xb_l, bd_some, asks0, bd_some, if_pos rfl]
    exact STEP_k (k := 3) h (show P3 3 from rfl) rfl 0
def TCan (τ : St) (a r : Int32) (τ' : St) : Prop := (gI τ' 23 0 0 = 1 ∧ SX τ τ' ∧ ∀ k, k < tn τ → a ≠ nI k) ∨ ∃ k, k < tn τ ∧ a = nI k ∧ ((gI τ' 23 0 0 = 2 ∧ SX τ τ' ∧ gI τ 15 0 k = 0) ∨ (¬ gI τ 15 0 k = 0 ∧ r = gI τ 15 0 k ∧ τ' = pI (pI τ 23 0 0 0) 15 0 k 0))
theorem c_cancel {n : Nat} {σ τ : St} (h : INV n σ τ) (a : Int32) : STEPT P32 (TCan τ a) n σ (fX5_cancel σ a) (fX6_cancel τ a) := by
  unfold fX5_cancel fX6_cancel
  rcases order_c h a with ⟨k, hk, rfl, e1, e2⟩ | ⟨e1, e2⟩
  · have h100 := (G_BO h.1).2.1
    have hN := (G_IO h.1).1
    have hl := lf_ge (G_BO h.1) hk
    have e35 := ((G_IO h.1).2 k hk).2.2.2.2.2
    rw [e1, e2, xb_r, bd_some, asks1, bd_some, if_pos h10, if_gd (vin_nI (show k < gN σ 0 by omega) (by omega)), if_gd (lok_of (G_IN h.1)), if_gd (vin_nI (show k < 100 by omega) (by omega)), clamp_nI (show k < 2147483648 by omega), e35]
    rw [show gI (pI τ 23 0 0 0) 15 0 k = gI τ 15 0 k from rfl]
    by_cases c : gI τ 15 0 k = 0
    · have c2 : gI τ 15 0 k ≤ 0 := by rw [c]; decide
      rw [if_pos c2, if_neg (not_not_intro c), state0, xb_l]
      exact STEPT_of (STEP_k (k := 2) (INV_t h 0) (Or.inr rfl) rfl 0) (Or.inr ⟨k, hk, rfl, Or.inl ⟨rfl, SX_2 τ _ _, c⟩⟩)
    · have c2 : ¬ gI τ 15 0 k ≤ 0 := fun q => by
        have := lf_le0.mp q
        exact c ((eq32 (A := lf τ k) (b := 0) (B := 0) rfl (by decide)).mpr (by omega))
      rw [if_neg c2, if_pos c, state1, xb_r, kst_d, kst_d, e35]
      exact STEPT_of (STEP_ok (INV_of h (G_left (τ := pI τ 23 0 0 0) h.1 hk (v := 0) (by decide) (by show (0 : Int) ≤ lf τ k; omega)) (fun _ => rfl) (fun _ => rfl) (fun _ => rfl) (fun _ => rfl) rfl) rfl (Nat.le_refl _) rfl) (Or.inr ⟨k, hk, rfl, Or.inr ⟨c, rfl, rfl⟩⟩)
  · rw [e1, e2, xb_l, bd_some, asks0, bd_some, if_neg (not_not_intro rfl)]
    refine STEPT_of (STEP_k (k := 3) h (Or.inl rfl) rfl 0) (Or.inl ⟨rfl, SX_1 τ _, fun k hk e => ?_⟩)
    have h100 := (G_BO h.1).2.1
    unfold fX6_isOrder at e2
    rw [e, (G_BO h.1).1, if_neg (nI_pos (show k < 2147483648 by omega)), if_neg (fun q => by have := (nI_leI (a := tn τ) (b := k) (by omega) (by omega)).mp q; omega)] at e2
    exact absurd (Option.some.inj e2) (by decide)
theorem c_best {n : Nat} {σ τ : St} (h : INV n σ τ) (a b : Int32) : STEP P14 n σ (fX5_best σ a b) (fX6_best τ a b) := by
  unfold fX5_best fX6_best
  rcases product_c a with ⟨p, hp, rfl, e1, e2⟩ | ⟨e1, e2⟩
  · obtain ⟨o, b1, b2, b3⟩ := best_of (τ := pI τ 23 0 0 0) (G_IO h.1) (G_IN h.1) (G_BO h.1) p b
    rw [e1, e2, xb_r, bd_some, asks1, bd_some, if_pos h10, b1, b2, bd_some, bd_some]
    cases o with
    | none =>
      rw [oc_none, show enc none = -1 from rfl, if_neg (not_not_intro rfl)]
      exact STEP_k (k := 4) (INV_t h 0) (Or.inr rfl) rfl 0
    | some k =>
      have hk : k < tn τ := (b3 k rfl).1
      have h100 := (G_BO h.1).2.1
      rw [oc_some, show enc (some k) = nI k from rfl, if_gd (show k < gN σ 5 by rw [(G_IN h.1).1, (G_IO h.1).1]; exact hk), if_pos (nI_ne1 (by omega))]
      exact STEP_ok (INV_next (INV_t h 0)) rfl (Nat.le_refl _) ((G_IO h.1).2 k hk).1
  · rw [e1, e2, xb_l, bd_some, asks0, bd_some, if_neg (not_not_intro rfl)]
    exact STEP_k (k := 1) h (Or.inl rfl) rfl 0
-- halts
theorem halt_L {B : Int} {p : Nat} (hp : p < 3) {hv : Int32} (hz : hv = 1) : ∀ (n n2 k : Nat) (σ τ : St) (c : Int32), G B σ (pI τ 16 0 p hv) → k ≤ tn τ → tn τ - k < n → tn τ - k < n2 →
    ∃ σ' τ' c', fX5_cancelOrdersFor_L4 n σ (nI k) c (nI p) = some (c', σ') ∧ fX6_halt_L18 n2 τ (nI k) c (nI p) hv = some (c', pI τ' 16 0 p hv) ∧ G B σ' (pI τ' 16 0 p hv) ∧ FF σ τ σ' τ' ∧ sameN σ' σ ∧ (∀ j, (k ≤ j ∨ ¬ 0 < lf τ j) → j < tn τ → gI τ 12 0 j = nI p → ¬ 0 < lf τ' j) ∧ ∃ d : Nat, d + k ≤ tn τ ∧ c' = c + nI d ∧ ((∀ j, k ≤ j → j < tn τ → gI τ 12 0 j = nI p → ¬ 0 < lf τ j) → d = 0) := by
  intro n
  induction n with
  | zero => intro n2 k σ τ c _ _ h; omega
  | succ n ih =>
    intro n2 k σ τ c hG hk hn hn2
    obtain ⟨n2, rfl⟩ : ∃ n9, n2 = n9 + 1 := ⟨n2 - 1, by omega⟩
    have hO : BO τ := (G_BO (τ := pI τ 16 0 p hv) hG : BO (pI τ 16 0 p hv))
    have hIO : IO σ τ := (G_IO (τ := pI τ 16 0 p hv) hG : IO σ (pI τ 16 0 p hv))
    have h100 := hO.2.1
    have hN := hIO.1
    rw [fX5_cancelOrdersFor_L4.eq_2, fX6_halt_L18.eq_2, hO.1]
    by_cases e : k = tn τ
    · subst e
      rw [if_pos ((nI_leI (by omega) (by omega)).mpr (Nat.le_of_eq hN)), if_pos ((nI_leI (by omega) (by omega)).mpr (Nat.le_refl _)), if_gd (vin_nI hp (by omega)), if_gd (show bz hv from Or.inr hz), clamp_nI (show p < 2147483648 by omega)]
      exact ⟨σ, τ, c, rfl, rfl, hG, FF_rfl σ τ, sameN_rfl σ, fun j h1 h2 _ => h1.elim (fun z => by omega) id, 0, by omega, by rw [nI_0, Int32.add_zero], fun _ => rfl⟩
    · have hlt : k < tn τ := by omega
      have hle : ¬ nI (tn τ) ≤ nI k := fun q => by have := (nI_leI (by omega) (by omega)).mp q; omega
      obtain ⟨-, -, k32, -, -, k35⟩ := hIO.2 k hlt
      rw [if_neg (show ¬ nI (gN σ 0) ≤ nI k by rw [hN]; exact hle), if_neg hle, if_neg (show ¬ hv = 0 by rw [hz]; decide), if_gd (vin_nI (show k < gN σ 0 by omega) (by omega)), if_gd (lok_of (G_IN hG)), if_gd (vin_nI (show k < 100 by omega) (by omega)), clamp_nI (show k < 2147483648 by omega), k32, k35]
      simp only [kst_d, nI_1]
      have hnx0 := ih n2 (k + 1) σ τ c hG (by omega) (by omega) (by omega)
      have hnx : (gI τ 15 0 k ≤ 0 ∨ ¬ gI τ 12 0 k = nI p) → ∃ σ' τ' c', fX5_cancelOrdersFor_L4 n σ (nI (k + 1)) c (nI p) = some (c', σ') ∧ fX6_halt_L18 n2 τ (nI (k + 1)) c (nI p) hv = some (c', pI τ' 16 0 p hv) ∧ G B σ' (pI τ' 16 0 p hv) ∧ FF σ τ σ' τ' ∧ sameN σ' σ ∧ (∀ j, (k ≤ j ∨ ¬ 0 < lf τ j) → j < tn τ → gI τ 12 0 j = nI p → ¬ 0 < lf τ' j) ∧ ∃ d : Nat, d + k ≤ tn τ ∧ c' = c + nI d ∧ ((∀ j, k ≤ j → j < tn τ → gI τ 12 0 j = nI p → ¬ 0 < lf τ j) → d = 0) := fun hc => by
        obtain ⟨σ', τ', c', e1, e2, e3, e4, e5, e6, d, d1, d2, d3⟩ := hnx0
        refine ⟨σ', τ', c', e1, e2, e3, e4, e5, fun j h1 h2 h3 => ?_, d, by omega, d2, fun z => d3 (fun j h1 => z j (by omega))⟩
        by_cases cj : j = k
        · subst cj
          rcases hc with hc | hc
          · exact e6 j (Or.inr (by have := lf_le0.mp hc; omega)) h2 h3
          · exact absurd h3 hc
        · exact e6 j (h1.elim (fun z => Or.inl (by omega)) Or.inr) h2 h3
      by_cases c1 : gI τ 15 0 k ≤ 0
      · rw [if_pos c1, if_pos c1, ite_self]
        exact hnx (Or.inl c1)
      · rw [if_neg c1, if_neg c1]
        by_cases c2 : gI τ 12 0 k = nI p
        · rw [if_neg (not_not_intro c2), if_neg (not_not_intro c2)]
          have hl := lf_ge hO hlt
          have g1 : G B (pI σ 35 k 0 0) (pI (pI τ 15 0 k 0) 16 0 p hv) := by
            rw [pI_comm _ (show 15 ≠ 16 by omega)]
            exact G_left hG (k := k) hlt (v := 0) (by decide) (by show (0 : Int) ≤ lf τ k; omega)
          obtain ⟨σ', τ', c', e1, e2, e3, e4, e5, e6, d, d1, d2, d3⟩ := ih n2 (k + 1) (pI σ 35 k 0 0) (pI τ 15 0 k 0) (c + 1) g1 (by show k + 1 ≤ tn τ; omega) (by show tn τ - (k + 1) < n; omega) (by show tn τ - (k + 1) < n2; omega)
          have d1 : d + (k + 1) ≤ tn τ := d1
          refine ⟨σ', τ', c', e1, e2, e3, FF_tr (FF_left σ τ k 0 0 (MN_left hlt (by show (0 : Int) ≤ lf τ k; omega))) e4, e5, fun j h1 h2 h3 => ?_, d + 1, by omega, by rw [d2, ← nI_1]; grind, fun z => absurd (show 0 < lf τ k by have := mt lf_le0.mpr c1; omega) (z k (Nat.le_refl _) hlt c2)⟩
          refine e6 j ?_ h2 h3
          rw [lf_pI]
          by_cases cj : j = k
          · rw [if_pos cj]; exact Or.inr (by decide)
          · rw [if_neg cj]
            rcases h1 with h1 | h1
            · exact Or.inl (by omega)
            · exact Or.inr h1
        · rw [if_pos c2, if_pos c2]
          exact hnx (Or.inr c2)
theorem G_halt {B : Int} {σ τ : St} (h : G B σ τ) {p : Nat} {v : Int32} (hv : bz v) : G B (pI σ 5 p 0 v) (pI τ 16 0 p v) := by
  obtain ⟨⟨hA, hU, hP, hQ, hO, hK, hW, hN, b1, b2, b3⟩, hC, hJ, hT⟩ := h
  refine ⟨⟨hA, hU, hP, fun q hq => ?_, hO, hK, hW, hN, b1, fun q hq => ?_, b3⟩, hC, hJ, hT⟩
  · obtain ⟨a1, a2, a3⟩ := hQ q hq
    refine ⟨a1, ?_, a3⟩
    rw [gI_pI, gI_pI]
    simp only [true_and, and_true]
    by_cases c : q = p
    · rw [if_pos c, if_pos c]
    · rw [if_neg c, if_neg c]; exact a2
  · obtain ⟨a1, a2, a3, a4⟩ := b2 q hq
    refine ⟨a1, a2, ?_, a4⟩
    rw [gI_pI]
    simp only [true_and]
    by_cases c : q = p
    · rw [if_pos c]; exact hv
    · rw [if_neg c]; exact a3
def THa (τ : St) (a b r : Int32) (τ' : St) : Prop := (gI τ' 23 0 0 = 1 ∧ SX τ τ' ∧ ¬ ∃ p, p < 3 ∧ a = nI p) ∨ ∃ p, p < 3 ∧ a = nI p ∧ gI τ' 23 0 0 = 0 ∧ ((b = 0 ∧ r = 0 ∧ τ' = pI (pI τ 23 0 0 0) 16 0 p 0) ∨ (b = 1 ∧ ∃ τ1, τ' = pI τ1 16 0 p 1 ∧ FR0 (pI τ 23 0 0 0) τ1 ∧ (∀ j, j < tn τ → gI τ 12 0 j = nI p → ¬ 0 < lf τ1 j) ∧ ∃ d : Nat, d ≤ 100 ∧ r = nI d ∧ ((∀ j, j < tn τ → gI τ 12 0 j = nI p → ¬ 0 < lf τ j) → d = 0)))
theorem c_halt {n : Nat} {σ τ : St} (h : INV n σ τ) (a : Int32) {b : Int32} (hb : bz b) : STEPT P1 (THa τ a b) n σ (fX5_halt σ a b) (fX6_halt τ a b) := by
  unfold fX5_halt fX6_halt
  rcases product_c a with ⟨p, hp, rfl, e1, e2⟩ | ⟨e1, e2⟩
  · have hG := G_halt (τ := pI τ 23 0 0 0) h.1 (p := p) hb
    rw [e1, e2, xb_r, bd_some, asks1, bd_some, if_pos h10, if_gd (vin_nI hp (by omega)), if_gd hb, clamp_nI (show p < 2147483648 by omega)]
    rcases hb with rfl | rfl
    · rw [if_pos rfl]
      have hy : fX6_halt_L18 1000 (pI τ 23 0 0 0) 0 0 (nI p) 0 = some (0, pI (pI τ 23 0 0 0) 16 0 p 0) := by
        show fX6_halt_L18 (999 + 1) _ _ _ _ _ = _
        rw [fX6_halt_L18.eq_2, if_pos rfl, ite_self, if_gd (vin_nI hp (by omega)), if_gd (show bz (0 : Int32) from Or.inl rfl), clamp_nI (show p < 2147483648 by omega)]
      rw [hy]
      exact STEPT_of (STEP_ok (INV_of h hG (fun _ => rfl) (fun _ => rfl) (fun _ => rfl) (fun _ => rfl) rfl) rfl (Nat.le_refl _) rfl) (Or.inr ⟨p, hp, rfl, rfl, Or.inl ⟨rfl, rfl, rfl⟩⟩)
    · rw [if_neg h10]
      have h100 := (G_BO h.1).2.1
      obtain ⟨σ', τ', c', x1, y1, g1, f1, s1, o1, d, d1, d2, d3⟩ := halt_L hp rfl 1000 1000 0 (pI σ 5 p 0 1) (pI τ 23 0 0 0) 0 hG (by omega) (by show tn τ - 0 < 1000; omega) (by show tn τ - 0 < 1000; omega)
      have hx : fX5_cancelOrdersFor (pI σ 5 p 0 1) (nI p) = some (c', σ') := x1
      have hy : fX6_halt_L18 1000 (pI τ 23 0 0 0) 0 0 (nI p) 1 = some (c', pI τ' 16 0 p 1) := y1
      rw [hx, bd_some, if_gd s1, hy]
      refine STEPT_of (STEP_ok (INV_of h g1 (fun m => f1.2.1 m) (fun m => f1.1.1.2.1 m) (fun m => f1.1.1.1 m) (fun m => f1.1.1.2.2.1 m) f1.1.1.2.2.2.2.1) (f1.1.1.2.2.2.1) ?_ rfl) ?_
      · exact Nat.le_of_eq (pot_same s1).symm
      · have d1 : d + 0 ≤ tn τ := d1
        exact Or.inr ⟨p, hp, rfl, f1.1.1.2.2.2.1, Or.inr ⟨rfl, τ', rfl, f1.1.1, fun j h1 h2 => o1 j (Or.inl (Nat.zero_le _)) h1 h2, d, by omega, by rw [d2, Int32.zero_add], fun z => d3 (fun j _ h1 h2 => z j h1 h2)⟩⟩
  · rw [e1, e2, xb_l, bd_some, asks0, bd_some, if_neg (not_not_intro rfl)]
    exact STEPT_of (STEP_no h p11 0) (Or.inl ⟨rfl, SX_1 τ _, fun ⟨_, hp, e⟩ => product_not e2 hp e⟩)
