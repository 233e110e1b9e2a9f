/-! PURE: the law's body, over two houses just made, answers 1 within its room -/
theorem law_pure (L : Nat) (xs : Nat → Int32) (hL : L ≤ 260) : ∃ (σ1' σ2' : St) (mr sr : Nat), fL_law_J16 L xs sig0 sig0 = some ((1, σ1', σ2'), mr, sr) ∧ 74 + mr ≤ 685711 ∧ 282 + sr ≤ 7044564 := by
  sorry
