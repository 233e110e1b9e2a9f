/-! THE LAW, a call's end: what both threw, what both told -/
abbrev lvL (n b a am o : Nat) : List (Nat × Value) := [(4, .int (nI (6 * n))), (0, .ref b), (1, .ref a), (2, .ref am), (3, .ref o)]
theorem OK_P {P : Nat → Prop} {n : Nat} {σ : St} {u : XO (Int32 × St)} {mc ms : Nat} {r : Int32} {τ' : St} (h : OK P n σ u mc ms r τ') : ∀ k σ', u = .inl (k, σ') → P k := fun k σ' e => by
  subst e
  exact h.1
theorem xcat_ne (k : Nat) : ¬ xcat k = 0 := by
  unfold xcat
  split <;> decide
theorem OK_XT {P : Nat → Prop} {n : Nat} {σ : St} {u : XO (Int32 × St)} {mc ms : Nat} {r z : Int32} {τ' σ' : St} {v v' : Nat → Int64} {g : Int32 → Int64} (h : OK P n σ u mc ms r τ') (hx : XT xcat g u v z (σ', v')) : gI τ' 23 0 0 = z ∧ (z = 0 → v' 0 = g r) ∧ INV (n + 1) σ' τ' ∧ mc + pot σ ≤ pot σ' + 100 ∧ ms + pot σ ≤ pot σ' + 100 := by
  cases u with
  | inl q =>
    obtain ⟨k, σ1⟩ := q
    obtain ⟨h1, h2, h3, h4, h5⟩ := h
    obtain ⟨rfl, e⟩ := hx
    cases e
    exact ⟨h2, fun q => absurd q (xcat_ne k), h3, h4, h5⟩
  | inr q =>
    obtain ⟨y, σ1⟩ := q
    obtain ⟨h1, h2, h3, h4, h5⟩ := h
    obtain ⟨rfl, e⟩ := hx
    cases e
    subst h2
    exact ⟨h1, fun _ => if_pos rfl, h3, h4, h5⟩
theorem OK_room {P : Nat → Prop} {n : Nat} {σ : St} {u : XO (Int32 × St)} {mc ms : Nat} {r : Int32} {τ' : St} {cells slots : Nat} (h : OK P n σ u mc ms r τ') (hn : n < 512) (hc : cells ≤ 80 + pot σ + 100 * n) (hs : slots ≤ 1000 + pot σ + 100 * n) : cells + mc ≤ 601024 ∧ slots + ms ≤ 7293034 := by
  cases u with
  | inl q =>
    obtain ⟨k, σ1⟩ := q
    obtain ⟨h1, h2, h3, h4, h5⟩ := h
    have := pot_le h3 (by omega)
    omega
  | inr q =>
    obtain ⟨y, σ1⟩ := q
    obtain ⟨h1, h2, h3, h4, h5⟩ := h
    have := pot_le h3 (by omega)
    omega
theorem q_55 : (Cond.initialized "MarginCourtLaw") ∈ WU := wu_mem (lw_in1 (List.mem_of_getElem? (i := 0) rfl)) rfl
theorem q_211 : (Cond.methodLink "MarginCourtLaw" 137 ⟨"MarginCourt", "trades", "()I"⟩) ∈ WU := wu_mem (lw_in1 (List.mem_of_getElem? (i := 156) rfl)) rfl
theorem q_212 : (Cond.instanceMethod ⟨"MarginCourt", "trades", "()I"⟩) ∈ WU := wu_mem (lw_in1 (List.mem_of_getElem? (i := 157) rfl)) rfl
theorem q_213 : (Cond.selects "MarginCourt" ⟨"MarginCourt", "trades", "()I"⟩ ⟨"MarginCourt", "trades", "()I"⟩) ∈ WU := wu_mem (lw_in1 (List.mem_of_getElem? (i := 158) rfl)) rfl
theorem q_214 : (Cond.code ⟨"MarginCourt", "trades", "()I"⟩ prog_1_method_13_code 1 (some .int)) ∈ WU := wu_mem (lw_in1 (List.mem_of_getElem? (i := 159) rfl)) rfl
theorem q_215 : (Cond.methodLink "MarginCourtLaw" 141 ⟨"MarginCourt", "hour", "()I"⟩) ∈ WU := wu_mem (lw_in1 (List.mem_of_getElem? (i := 160) rfl)) rfl
theorem q_216 : (Cond.instanceMethod ⟨"MarginCourt", "hour", "()I"⟩) ∈ WU := wu_mem (lw_in1 (List.mem_of_getElem? (i := 161) rfl)) rfl
theorem q_217 : (Cond.selects "MarginCourt" ⟨"MarginCourt", "hour", "()I"⟩ ⟨"MarginCourt", "hour", "()I"⟩) ∈ WU := wu_mem (lw_in1 (List.mem_of_getElem? (i := 162) rfl)) rfl
theorem q_218 : (Cond.code ⟨"MarginCourt", "hour", "()I"⟩ prog_1_method_14_code 3 (some .int)) ∈ WU := wu_mem (lw_in1 (List.mem_of_getElem? (i := 163) rfl)) rfl
theorem q_454 : (Cond.methodLink "MarginCourtLaw" 145 ⟨"MarginCourt", "evening", "()I"⟩) ∈ WU := wu_mem (lw_in2 (List.mem_of_getElem? (i := 159) rfl)) rfl
theorem q_455 : (Cond.instanceMethod ⟨"MarginCourt", "evening", "()I"⟩) ∈ WU := wu_mem (lw_in2 (List.mem_of_getElem? (i := 160) rfl)) rfl
theorem q_456 : (Cond.selects "MarginCourt" ⟨"MarginCourt", "evening", "()I"⟩ ⟨"MarginCourt", "evening", "()I"⟩) ∈ WU := wu_mem (lw_in2 (List.mem_of_getElem? (i := 161) rfl)) rfl
theorem q_457 : (Cond.code ⟨"MarginCourt", "evening", "()I"⟩ prog_1_method_15_code 4 (some .int)) ∈ WU := wu_mem (lw_in2 (List.mem_of_getElem? (i := 162) rfl)) rfl
theorem q_458 : (Cond.methodLink "MarginCourtLaw" 182 ⟨"MarginCourt", "unpaid", "()I"⟩) ∈ WU := wu_mem (lw_in2 (List.mem_of_getElem? (i := 163) rfl)) rfl
theorem q_459 : (Cond.instanceMethod ⟨"MarginCourt", "unpaid", "()I"⟩) ∈ WU := wu_mem (lw_in2 (List.mem_of_getElem? (i := 164) rfl)) rfl
theorem q_460 : (Cond.selects "MarginCourt" ⟨"MarginCourt", "unpaid", "()I"⟩ ⟨"MarginCourt", "unpaid", "()I"⟩) ∈ WU := wu_mem (lw_in2 (List.mem_of_getElem? (i := 165) rfl)) rfl
theorem q_461 : (Cond.code ⟨"MarginCourt", "unpaid", "()I"⟩ prog_1_method_27_code 1 (some .int)) ∈ WU := wu_mem (lw_in2 (List.mem_of_getElem? (i := 166) rfl)) rfl
theorem q_462 : (Cond.methodLink "MarginCourtLaw" 93 ⟨"MarginCourtLaw", "tell", "(LMarginCourt;II[J)I"⟩) ∈ WU := wu_mem (lw_in2 (List.mem_of_getElem? (i := 167) rfl)) rfl
theorem q_463 : (Cond.static ⟨"MarginCourtLaw", "tell", "(LMarginCourt;II[J)I"⟩) ∈ WU := wu_mem (lw_in2 (List.mem_of_getElem? (i := 168) rfl)) rfl
theorem q_464 : (Cond.codeWith ⟨"MarginCourtLaw", "tell", "(LMarginCourt;II[J)I"⟩ method_3_code 5 (some .int) [(0, 10, 13, 13)]) ∈ WU := wu_mem (lw_in2 (List.mem_of_getElem? (i := 169) rfl)) rfl
theorem q_540 : (Cond.methodLink "MarginCourtLaw" 103 ⟨"MarginCourtLaw", "setMove", "(LMarginCourt;III[J)I"⟩) ∈ WU := wu_mem (lw_in3 (List.mem_of_getElem? (i := 5) rfl)) rfl
theorem q_541 : (Cond.static ⟨"MarginCourtLaw", "setMove", "(LMarginCourt;III[J)I"⟩) ∈ WU := wu_mem (lw_in3 (List.mem_of_getElem? (i := 6) rfl)) rfl
theorem q_542 : (Cond.codeWith ⟨"MarginCourtLaw", "setMove", "(LMarginCourt;III[J)I"⟩ method_4_code 6 (some .int) [(0, 12, 15, 13)]) ∈ WU := wu_mem (lw_in3 (List.mem_of_getElem? (i := 7) rfl)) rfl
theorem q_547 : (Cond.methodLink "MarginCourtLaw" 107 ⟨"MarginCourtLaw", "tellKind", "(LMarginCourt;II[J)I"⟩) ∈ WU := wu_mem (lw_in3 (List.mem_of_getElem? (i := 12) rfl)) rfl
theorem q_548 : (Cond.static ⟨"MarginCourtLaw", "tellKind", "(LMarginCourt;II[J)I"⟩) ∈ WU := wu_mem (lw_in3 (List.mem_of_getElem? (i := 13) rfl)) rfl
theorem q_549 : (Cond.codeWith ⟨"MarginCourtLaw", "tellKind", "(LMarginCourt;II[J)I"⟩ method_5_code 5 (some .int) [(0, 10, 13, 13)]) ∈ WU := wu_mem (lw_in3 (List.mem_of_getElem? (i := 14) rfl)) rfl
theorem q_564 : (Cond.methodLink "MarginCourtLaw" 110 ⟨"MarginCourtLaw", "pay", "(LMarginCourt;II[J)I"⟩) ∈ WU := wu_mem (lw_in3 (List.mem_of_getElem? (i := 29) rfl)) rfl
theorem q_565 : (Cond.static ⟨"MarginCourtLaw", "pay", "(LMarginCourt;II[J)I"⟩) ∈ WU := wu_mem (lw_in3 (List.mem_of_getElem? (i := 30) rfl)) rfl
theorem q_566 : (Cond.codeWith ⟨"MarginCourtLaw", "pay", "(LMarginCourt;II[J)I"⟩ method_6_code 5 (some .int) [(0, 10, 13, 13), (0, 10, 17, 25)]) ∈ WU := wu_mem (lw_in3 (List.mem_of_getElem? (i := 31) rfl)) rfl
theorem q_595 : (Cond.methodLink "MarginCourtLaw" 113 ⟨"MarginCourtLaw", "bring", "(LMarginCourt;III[J)I"⟩) ∈ WU := wu_mem (lw_in3 (List.mem_of_getElem? (i := 60) rfl)) rfl
theorem q_596 : (Cond.static ⟨"MarginCourtLaw", "bring", "(LMarginCourt;III[J)I"⟩) ∈ WU := wu_mem (lw_in3 (List.mem_of_getElem? (i := 61) rfl)) rfl
theorem q_597 : (Cond.codeWith ⟨"MarginCourtLaw", "bring", "(LMarginCourt;III[J)I"⟩ method_7_code 6 (some .int) [(0, 12, 15, 13), (0, 12, 19, 25)]) ∈ WU := wu_mem (lw_in3 (List.mem_of_getElem? (i := 62) rfl)) rfl
theorem q_602 : (Cond.methodLink "MarginCourtLaw" 116 ⟨"MarginCourtLaw", "contribute", "(LMarginCourt;II[J)I"⟩) ∈ WU := wu_mem (lw_in3 (List.mem_of_getElem? (i := 67) rfl)) rfl
theorem q_603 : (Cond.static ⟨"MarginCourtLaw", "contribute", "(LMarginCourt;II[J)I"⟩) ∈ WU := wu_mem (lw_in3 (List.mem_of_getElem? (i := 68) rfl)) rfl
theorem q_604 : (Cond.codeWith ⟨"MarginCourtLaw", "contribute", "(LMarginCourt;II[J)I"⟩ method_8_code 5 (some .int) [(0, 10, 13, 13), (0, 10, 17, 25)]) ∈ WU := wu_mem (lw_in3 (List.mem_of_getElem? (i := 69) rfl)) rfl
theorem q_609 : (Cond.methodLink "MarginCourtLaw" 119 ⟨"MarginCourtLaw", "place", "(LMarginCourt;IIZII[J)I"⟩) ∈ WU := wu_mem (lw_in3 (List.mem_of_getElem? (i := 74) rfl)) rfl
theorem q_610 : (Cond.static ⟨"MarginCourtLaw", "place", "(LMarginCourt;IIZII[J)I"⟩) ∈ WU := wu_mem (lw_in3 (List.mem_of_getElem? (i := 75) rfl)) rfl
theorem q_611 : (Cond.codeWith ⟨"MarginCourtLaw", "place", "(LMarginCourt;IIZII[J)I"⟩ method_9_code 8 (some .int) [(0, 16, 19, 13), (0, 16, 23, 25)]) ∈ WU := wu_mem (lw_in3 (List.mem_of_getElem? (i := 76) rfl)) rfl
theorem q_653 : (Cond.methodLink "MarginCourtLaw" 123 ⟨"MarginCourtLaw", "cancel", "(LMarginCourt;I[J)I"⟩) ∈ WU := wu_mem (lw_in3 (List.mem_of_getElem? (i := 118) rfl)) rfl
theorem q_654 : (Cond.static ⟨"MarginCourtLaw", "cancel", "(LMarginCourt;I[J)I"⟩) ∈ WU := wu_mem (lw_in3 (List.mem_of_getElem? (i := 119) rfl)) rfl
theorem q_655 : (Cond.codeWith ⟨"MarginCourtLaw", "cancel", "(LMarginCourt;I[J)I"⟩ method_10_code 4 (some .int) [(0, 9, 12, 41), (0, 9, 15, 25)]) ∈ WU := wu_mem (lw_in3 (List.mem_of_getElem? (i := 120) rfl)) rfl
theorem q_680 : (Cond.methodLink "MarginCourtLaw" 127 ⟨"MarginCourtLaw", "halt", "(LMarginCourt;IZ[J)I"⟩) ∈ WU := wu_mem (lw_in3 (List.mem_of_getElem? (i := 145) rfl)) rfl
theorem q_681 : (Cond.static ⟨"MarginCourtLaw", "halt", "(LMarginCourt;IZ[J)I"⟩) ∈ WU := wu_mem (lw_in3 (List.mem_of_getElem? (i := 146) rfl)) rfl
theorem q_682 : (Cond.codeWith ⟨"MarginCourtLaw", "halt", "(LMarginCourt;IZ[J)I"⟩ method_11_code 5 (some .int) [(0, 10, 13, 13)]) ∈ WU := wu_mem (lw_in3 (List.mem_of_getElem? (i := 147) rfl)) rfl
theorem q_691 : (Cond.methodLink "MarginCourtLaw" 131 ⟨"MarginCourtLaw", "left", "(LMarginCourt;I[J)I"⟩) ∈ WU := wu_mem (lw_in3 (List.mem_of_getElem? (i := 156) rfl)) rfl
theorem q_692 : (Cond.static ⟨"MarginCourtLaw", "left", "(LMarginCourt;I[J)I"⟩) ∈ WU := wu_mem (lw_in3 (List.mem_of_getElem? (i := 157) rfl)) rfl
theorem q_693 : (Cond.codeWith ⟨"MarginCourtLaw", "left", "(LMarginCourt;I[J)I"⟩ method_12_code 4 (some .int) [(0, 9, 12, 41)]) ∈ WU := wu_mem (lw_in3 (List.mem_of_getElem? (i := 158) rfl)) rfl
theorem q_698 : (Cond.methodLink "MarginCourtLaw" 134 ⟨"MarginCourtLaw", "best", "(LMarginCourt;IZ[J)I"⟩) ∈ WU := wu_mem (lw_in3 (List.mem_of_getElem? (i := 163) rfl)) rfl
theorem q_699 : (Cond.static ⟨"MarginCourtLaw", "best", "(LMarginCourt;IZ[J)I"⟩) ∈ WU := wu_mem (lw_in3 (List.mem_of_getElem? (i := 164) rfl)) rfl
theorem q_700 : (Cond.codeWith ⟨"MarginCourtLaw", "best", "(LMarginCourt;IZ[J)I"⟩ method_13_code 5 (some .int) [(0, 10, 13, 13), (0, 10, 17, 53)]) ∈ WU := wu_mem (lw_in3 (List.mem_of_getElem? (i := 165) rfl)) rfl
theorem q_721 : (Cond.methodLink "MarginCourtLaw" 149 ⟨"MarginCourtLaw", "called", "(LMarginCourt;I[J)I"⟩) ∈ WU := wu_mem (lw_in3 (List.mem_of_getElem? (i := 186) rfl)) rfl
theorem q_722 : (Cond.static ⟨"MarginCourtLaw", "called", "(LMarginCourt;I[J)I"⟩) ∈ WU := wu_mem (lw_in3 (List.mem_of_getElem? (i := 187) rfl)) rfl
theorem q_723 : (Cond.codeWith ⟨"MarginCourtLaw", "called", "(LMarginCourt;I[J)I"⟩ method_14_code 4 (some .int) [(0, 9, 12, 13)]) ∈ WU := wu_mem (lw_in3 (List.mem_of_getElem? (i := 188) rfl)) rfl
theorem q_728 : (Cond.methodLink "MarginCourtLaw" 152 ⟨"MarginCourtLaw", "hasFailed", "(LMarginCourt;I[J)I"⟩) ∈ WU := wu_mem (lw_in3 (List.mem_of_getElem? (i := 193) rfl)) rfl
theorem q_729 : (Cond.static ⟨"MarginCourtLaw", "hasFailed", "(LMarginCourt;I[J)I"⟩) ∈ WU := wu_mem (lw_in3 (List.mem_of_getElem? (i := 194) rfl)) rfl
theorem q_730 : (Cond.codeWith ⟨"MarginCourtLaw", "hasFailed", "(LMarginCourt;I[J)I"⟩ method_15_code 4 (some .int) [(0, 16, 19, 13)]) ∈ WU := wu_mem (lw_in3 (List.mem_of_getElem? (i := 195) rfl)) rfl
theorem q_735 : (Cond.methodLink "MarginCourtLaw" 155 ⟨"MarginCourtLaw", "position", "(LMarginCourt;II[J)I"⟩) ∈ WU := wu_mem (lw_in3 (List.mem_of_getElem? (i := 200) rfl)) rfl
theorem q_736 : (Cond.static ⟨"MarginCourtLaw", "position", "(LMarginCourt;II[J)I"⟩) ∈ WU := wu_mem (lw_in3 (List.mem_of_getElem? (i := 201) rfl)) rfl
theorem q_737 : (Cond.codeWith ⟨"MarginCourtLaw", "position", "(LMarginCourt;II[J)I"⟩ method_16_code 5 (some .int) [(0, 10, 13, 13)]) ∈ WU := wu_mem (lw_in3 (List.mem_of_getElem? (i := 202) rfl)) rfl
theorem q_742 : (Cond.methodLink "MarginCourtLaw" 158 ⟨"MarginCourtLaw", "cash", "(LMarginCourt;I[J)I"⟩) ∈ WU := wu_mem (lw_in3 (List.mem_of_getElem? (i := 207) rfl)) rfl
theorem q_743 : (Cond.static ⟨"MarginCourtLaw", "cash", "(LMarginCourt;I[J)I"⟩) ∈ WU := wu_mem (lw_in3 (List.mem_of_getElem? (i := 208) rfl)) rfl
theorem q_744 : (Cond.codeWith ⟨"MarginCourtLaw", "cash", "(LMarginCourt;I[J)I"⟩ method_17_code 4 (some .int) [(0, 9, 12, 13)]) ∈ WU := wu_mem (lw_in3 (List.mem_of_getElem? (i := 209) rfl)) rfl
theorem q_749 : (Cond.methodLink "MarginCourtLaw" 161 ⟨"MarginCourtLaw", "equity", "(LMarginCourt;I[J)I"⟩) ∈ WU := wu_mem (lw_in3 (List.mem_of_getElem? (i := 214) rfl)) rfl
theorem q_750 : (Cond.static ⟨"MarginCourtLaw", "equity", "(LMarginCourt;I[J)I"⟩) ∈ WU := wu_mem (lw_in3 (List.mem_of_getElem? (i := 215) rfl)) rfl
theorem q_751 : (Cond.codeWith ⟨"MarginCourtLaw", "equity", "(LMarginCourt;I[J)I"⟩ method_18_code 4 (some .int) [(0, 9, 12, 13)]) ∈ WU := wu_mem (lw_in3 (List.mem_of_getElem? (i := 216) rfl)) rfl
theorem q_756 : (Cond.methodLink "MarginCourtLaw" 164 ⟨"MarginCourtLaw", "equityByTrades", "(LMarginCourt;I[J)I"⟩) ∈ WU := wu_mem (lw_in3 (List.mem_of_getElem? (i := 221) rfl)) rfl
theorem q_757 : (Cond.static ⟨"MarginCourtLaw", "equityByTrades", "(LMarginCourt;I[J)I"⟩) ∈ WU := wu_mem (lw_in3 (List.mem_of_getElem? (i := 222) rfl)) rfl
theorem q_758 : (Cond.codeWith ⟨"MarginCourtLaw", "equityByTrades", "(LMarginCourt;I[J)I"⟩ method_19_code 4 (some .int) [(0, 9, 12, 13)]) ∈ WU := wu_mem (lw_in3 (List.mem_of_getElem? (i := 223) rfl)) rfl
theorem q_767 : (Cond.methodLink "MarginCourtLaw" 167 ⟨"MarginCourtLaw", "margin", "(LMarginCourt;I[J)I"⟩) ∈ WU := wu_mem (lw_in3 (List.mem_of_getElem? (i := 232) rfl)) rfl
theorem q_768 : (Cond.static ⟨"MarginCourtLaw", "margin", "(LMarginCourt;I[J)I"⟩) ∈ WU := wu_mem (lw_in3 (List.mem_of_getElem? (i := 233) rfl)) rfl
theorem q_769 : (Cond.codeWith ⟨"MarginCourtLaw", "margin", "(LMarginCourt;I[J)I"⟩ method_20_code 4 (some .int) [(0, 9, 12, 13)]) ∈ WU := wu_mem (lw_in3 (List.mem_of_getElem? (i := 234) rfl)) rfl
theorem q_774 : (Cond.methodLink "MarginCourtLaw" 170 ⟨"MarginCourtLaw", "haircut", "(LMarginCourt;I[J)I"⟩) ∈ WU := wu_mem (lw_in3 (List.mem_of_getElem? (i := 239) rfl)) rfl
theorem q_775 : (Cond.static ⟨"MarginCourtLaw", "haircut", "(LMarginCourt;I[J)I"⟩) ∈ WU := wu_mem (lw_in4 (List.mem_of_getElem? (i := 0) rfl)) rfl
theorem q_776 : (Cond.codeWith ⟨"MarginCourtLaw", "haircut", "(LMarginCourt;I[J)I"⟩ method_21_code 4 (some .int) [(0, 9, 12, 13)]) ∈ WU := wu_mem (lw_in4 (List.mem_of_getElem? (i := 1) rfl)) rfl
theorem q_781 : (Cond.methodLink "MarginCourtLaw" 173 ⟨"MarginCourtLaw", "collateral", "(LMarginCourt;I[J)I"⟩) ∈ WU := wu_mem (lw_in4 (List.mem_of_getElem? (i := 6) rfl)) rfl
theorem q_782 : (Cond.static ⟨"MarginCourtLaw", "collateral", "(LMarginCourt;I[J)I"⟩) ∈ WU := wu_mem (lw_in4 (List.mem_of_getElem? (i := 7) rfl)) rfl
theorem q_783 : (Cond.codeWith ⟨"MarginCourtLaw", "collateral", "(LMarginCourt;I[J)I"⟩ method_22_code 4 (some .int) [(0, 9, 12, 13)]) ∈ WU := wu_mem (lw_in4 (List.mem_of_getElem? (i := 8) rfl)) rfl
theorem q_788 : (Cond.methodLink "MarginCourtLaw" 176 ⟨"MarginCourtLaw", "free", "(LMarginCourt;I[J)I"⟩) ∈ WU := wu_mem (lw_in4 (List.mem_of_getElem? (i := 13) rfl)) rfl
theorem q_789 : (Cond.static ⟨"MarginCourtLaw", "free", "(LMarginCourt;I[J)I"⟩) ∈ WU := wu_mem (lw_in4 (List.mem_of_getElem? (i := 14) rfl)) rfl
theorem q_790 : (Cond.codeWith ⟨"MarginCourtLaw", "free", "(LMarginCourt;I[J)I"⟩ method_23_code 4 (some .int) [(0, 9, 12, 13)]) ∈ WU := wu_mem (lw_in4 (List.mem_of_getElem? (i := 15) rfl)) rfl
theorem q_795 : (Cond.methodLink "MarginCourtLaw" 179 ⟨"MarginCourtLaw", "share", "(LMarginCourt;I[J)I"⟩) ∈ WU := wu_mem (lw_in4 (List.mem_of_getElem? (i := 20) rfl)) rfl
theorem q_796 : (Cond.static ⟨"MarginCourtLaw", "share", "(LMarginCourt;I[J)I"⟩) ∈ WU := wu_mem (lw_in4 (List.mem_of_getElem? (i := 21) rfl)) rfl
theorem q_797 : (Cond.codeWith ⟨"MarginCourtLaw", "share", "(LMarginCourt;I[J)I"⟩ method_24_code 4 (some .int) [(0, 9, 12, 13)]) ∈ WU := wu_mem (lw_in4 (List.mem_of_getElem? (i := 22) rfl)) rfl
theorem q_876 : (Cond.methodLink "MarginCourtLaw" 99 ⟨"MarginCourtModel", "thrown", "()I"⟩) ∈ WU := wu_mem (lw_in4 (List.mem_of_getElem? (i := 101) rfl)) rfl
theorem q_877 : (Cond.instanceMethod ⟨"MarginCourtModel", "thrown", "()I"⟩) ∈ WU := wu_mem (lw_in4 (List.mem_of_getElem? (i := 102) rfl)) rfl
theorem q_878 : (Cond.selects "MarginCourtModel" ⟨"MarginCourtModel", "thrown", "()I"⟩ ⟨"MarginCourtModel", "thrown", "()I"⟩) ∈ WU := wu_mem (lw_in4 (List.mem_of_getElem? (i := 103) rfl)) rfl
theorem q_879 : (Cond.code ⟨"MarginCourtModel", "thrown", "()I"⟩ prog_8_method_2_code 1 (some .int)) ∈ WU := wu_mem (lw_in4 (List.mem_of_getElem? (i := 104) rfl)) rfl
theorem q_880 : (Cond.methodLink "MarginCourtLaw" 98 ⟨"MarginCourtModel", "tell", "(II)I"⟩) ∈ WU := wu_mem (lw_in4 (List.mem_of_getElem? (i := 105) rfl)) rfl
theorem q_881 : (Cond.instanceMethod ⟨"MarginCourtModel", "tell", "(II)I"⟩) ∈ WU := wu_mem (lw_in4 (List.mem_of_getElem? (i := 106) rfl)) rfl
theorem q_882 : (Cond.selects "MarginCourtModel" ⟨"MarginCourtModel", "tell", "(II)I"⟩ ⟨"MarginCourtModel", "tell", "(II)I"⟩) ∈ WU := wu_mem (lw_in4 (List.mem_of_getElem? (i := 107) rfl)) rfl
theorem q_883 : (Cond.code ⟨"MarginCourtModel", "tell", "(II)I"⟩ prog_8_method_8_code 4 (some .int)) ∈ WU := wu_mem (lw_in4 (List.mem_of_getElem? (i := 108) rfl)) rfl
theorem q_894 : (Cond.methodLink "MarginCourtLaw" 106 ⟨"MarginCourtModel", "setMove", "(III)I"⟩) ∈ WU := wu_mem (lw_in4 (List.mem_of_getElem? (i := 119) rfl)) rfl
theorem q_895 : (Cond.instanceMethod ⟨"MarginCourtModel", "setMove", "(III)I"⟩) ∈ WU := wu_mem (lw_in4 (List.mem_of_getElem? (i := 120) rfl)) rfl
theorem q_896 : (Cond.selects "MarginCourtModel" ⟨"MarginCourtModel", "setMove", "(III)I"⟩ ⟨"MarginCourtModel", "setMove", "(III)I"⟩) ∈ WU := wu_mem (lw_in4 (List.mem_of_getElem? (i := 121) rfl)) rfl
theorem q_897 : (Cond.code ⟨"MarginCourtModel", "setMove", "(III)I"⟩ prog_8_method_9_code 5 (some .int)) ∈ WU := wu_mem (lw_in4 (List.mem_of_getElem? (i := 122) rfl)) rfl
theorem q_898 : (Cond.methodLink "MarginCourtLaw" 109 ⟨"MarginCourtModel", "tellKind", "(II)I"⟩) ∈ WU := wu_mem (lw_in4 (List.mem_of_getElem? (i := 123) rfl)) rfl
theorem q_899 : (Cond.instanceMethod ⟨"MarginCourtModel", "tellKind", "(II)I"⟩) ∈ WU := wu_mem (lw_in4 (List.mem_of_getElem? (i := 124) rfl)) rfl
theorem q_900 : (Cond.selects "MarginCourtModel" ⟨"MarginCourtModel", "tellKind", "(II)I"⟩ ⟨"MarginCourtModel", "tellKind", "(II)I"⟩) ∈ WU := wu_mem (lw_in4 (List.mem_of_getElem? (i := 125) rfl)) rfl
theorem q_901 : (Cond.code ⟨"MarginCourtModel", "tellKind", "(II)I"⟩ prog_8_method_11_code 4 (some .int)) ∈ WU := wu_mem (lw_in4 (List.mem_of_getElem? (i := 126) rfl)) rfl
theorem q_906 : (Cond.methodLink "MarginCourtLaw" 112 ⟨"MarginCourtModel", "pay", "(II)I"⟩) ∈ WU := wu_mem (lw_in4 (List.mem_of_getElem? (i := 131) rfl)) rfl
theorem q_907 : (Cond.instanceMethod ⟨"MarginCourtModel", "pay", "(II)I"⟩) ∈ WU := wu_mem (lw_in4 (List.mem_of_getElem? (i := 132) rfl)) rfl
theorem q_908 : (Cond.selects "MarginCourtModel" ⟨"MarginCourtModel", "pay", "(II)I"⟩ ⟨"MarginCourtModel", "pay", "(II)I"⟩) ∈ WU := wu_mem (lw_in4 (List.mem_of_getElem? (i := 133) rfl)) rfl
theorem q_909 : (Cond.code ⟨"MarginCourtModel", "pay", "(II)I"⟩ prog_8_method_18_code 3 (some .int)) ∈ WU := wu_mem (lw_in4 (List.mem_of_getElem? (i := 134) rfl)) rfl
theorem q_944 : (Cond.methodLink "MarginCourtLaw" 115 ⟨"MarginCourtModel", "bring", "(III)I"⟩) ∈ WU := wu_mem (lw_in4 (List.mem_of_getElem? (i := 169) rfl)) rfl
theorem q_945 : (Cond.instanceMethod ⟨"MarginCourtModel", "bring", "(III)I"⟩) ∈ WU := wu_mem (lw_in4 (List.mem_of_getElem? (i := 170) rfl)) rfl
theorem q_946 : (Cond.selects "MarginCourtModel" ⟨"MarginCourtModel", "bring", "(III)I"⟩ ⟨"MarginCourtModel", "bring", "(III)I"⟩) ∈ WU := wu_mem (lw_in4 (List.mem_of_getElem? (i := 171) rfl)) rfl
theorem q_947 : (Cond.code ⟨"MarginCourtModel", "bring", "(III)I"⟩ prog_8_method_19_code 5 (some .int)) ∈ WU := wu_mem (lw_in4 (List.mem_of_getElem? (i := 172) rfl)) rfl
theorem q_948 : (Cond.methodLink "MarginCourtLaw" 118 ⟨"MarginCourtModel", "contribute", "(II)I"⟩) ∈ WU := wu_mem (lw_in4 (List.mem_of_getElem? (i := 173) rfl)) rfl
theorem q_949 : (Cond.instanceMethod ⟨"MarginCourtModel", "contribute", "(II)I"⟩) ∈ WU := wu_mem (lw_in4 (List.mem_of_getElem? (i := 174) rfl)) rfl
theorem q_950 : (Cond.selects "MarginCourtModel" ⟨"MarginCourtModel", "contribute", "(II)I"⟩ ⟨"MarginCourtModel", "contribute", "(II)I"⟩) ∈ WU := wu_mem (lw_in4 (List.mem_of_getElem? (i := 175) rfl)) rfl
theorem q_951 : (Cond.code ⟨"MarginCourtModel", "contribute", "(II)I"⟩ prog_8_method_20_code 3 (some .int)) ∈ WU := wu_mem (lw_in4 (List.mem_of_getElem? (i := 176) rfl)) rfl
theorem q_952 : (Cond.methodLink "MarginCourtLaw" 122 ⟨"MarginCourtModel", "place", "(IIZII)I"⟩) ∈ WU := wu_mem (lw_in4 (List.mem_of_getElem? (i := 177) rfl)) rfl
theorem q_953 : (Cond.instanceMethod ⟨"MarginCourtModel", "place", "(IIZII)I"⟩) ∈ WU := wu_mem (lw_in4 (List.mem_of_getElem? (i := 178) rfl)) rfl
theorem q_954 : (Cond.selects "MarginCourtModel" ⟨"MarginCourtModel", "place", "(IIZII)I"⟩ ⟨"MarginCourtModel", "place", "(IIZII)I"⟩) ∈ WU := wu_mem (lw_in4 (List.mem_of_getElem? (i := 179) rfl)) rfl
theorem q_955 : (Cond.code ⟨"MarginCourtModel", "place", "(IIZII)I"⟩ prog_8_method_24_code 6 (some .int)) ∈ WU := wu_mem (lw_in4 (List.mem_of_getElem? (i := 180) rfl)) rfl
theorem q_968 : (Cond.methodLink "MarginCourtLaw" 126 ⟨"MarginCourtModel", "cancel", "(I)I"⟩) ∈ WU := wu_mem (lw_in4 (List.mem_of_getElem? (i := 193) rfl)) rfl
theorem q_969 : (Cond.instanceMethod ⟨"MarginCourtModel", "cancel", "(I)I"⟩) ∈ WU := wu_mem (lw_in4 (List.mem_of_getElem? (i := 194) rfl)) rfl
theorem q_970 : (Cond.selects "MarginCourtModel" ⟨"MarginCourtModel", "cancel", "(I)I"⟩ ⟨"MarginCourtModel", "cancel", "(I)I"⟩) ∈ WU := wu_mem (lw_in4 (List.mem_of_getElem? (i := 195) rfl)) rfl
theorem q_971 : (Cond.code ⟨"MarginCourtModel", "cancel", "(I)I"⟩ prog_8_method_26_code 3 (some .int)) ∈ WU := wu_mem (lw_in4 (List.mem_of_getElem? (i := 196) rfl)) rfl
theorem q_976 : (Cond.methodLink "MarginCourtLaw" 130 ⟨"MarginCourtModel", "halt", "(IZ)I"⟩) ∈ WU := wu_mem (lw_in4 (List.mem_of_getElem? (i := 201) rfl)) rfl
theorem q_977 : (Cond.instanceMethod ⟨"MarginCourtModel", "halt", "(IZ)I"⟩) ∈ WU := wu_mem (lw_in4 (List.mem_of_getElem? (i := 202) rfl)) rfl
theorem q_978 : (Cond.selects "MarginCourtModel" ⟨"MarginCourtModel", "halt", "(IZ)I"⟩ ⟨"MarginCourtModel", "halt", "(IZ)I"⟩) ∈ WU := wu_mem (lw_in4 (List.mem_of_getElem? (i := 203) rfl)) rfl
theorem q_979 : (Cond.code ⟨"MarginCourtModel", "halt", "(IZ)I"⟩ prog_8_method_27_code 5 (some .int)) ∈ WU := wu_mem (lw_in4 (List.mem_of_getElem? (i := 204) rfl)) rfl
theorem q_980 : (Cond.methodLink "MarginCourtLaw" 133 ⟨"MarginCourtModel", "left", "(I)I"⟩) ∈ WU := wu_mem (lw_in4 (List.mem_of_getElem? (i := 205) rfl)) rfl
theorem q_981 : (Cond.instanceMethod ⟨"MarginCourtModel", "left", "(I)I"⟩) ∈ WU := wu_mem (lw_in4 (List.mem_of_getElem? (i := 206) rfl)) rfl
theorem q_982 : (Cond.selects "MarginCourtModel" ⟨"MarginCourtModel", "left", "(I)I"⟩ ⟨"MarginCourtModel", "left", "(I)I"⟩) ∈ WU := wu_mem (lw_in4 (List.mem_of_getElem? (i := 207) rfl)) rfl
theorem q_983 : (Cond.code ⟨"MarginCourtModel", "left", "(I)I"⟩ prog_8_method_28_code 2 (some .int)) ∈ WU := wu_mem (lw_in4 (List.mem_of_getElem? (i := 208) rfl)) rfl
theorem q_984 : (Cond.methodLink "MarginCourtLaw" 136 ⟨"MarginCourtModel", "best", "(IZ)I"⟩) ∈ WU := wu_mem (lw_in4 (List.mem_of_getElem? (i := 209) rfl)) rfl
theorem q_985 : (Cond.instanceMethod ⟨"MarginCourtModel", "best", "(IZ)I"⟩) ∈ WU := wu_mem (lw_in4 (List.mem_of_getElem? (i := 210) rfl)) rfl
theorem q_986 : (Cond.selects "MarginCourtModel" ⟨"MarginCourtModel", "best", "(IZ)I"⟩ ⟨"MarginCourtModel", "best", "(IZ)I"⟩) ∈ WU := wu_mem (lw_in4 (List.mem_of_getElem? (i := 211) rfl)) rfl
theorem q_987 : (Cond.code ⟨"MarginCourtModel", "best", "(IZ)I"⟩ prog_8_method_29_code 4 (some .int)) ∈ WU := wu_mem (lw_in4 (List.mem_of_getElem? (i := 212) rfl)) rfl
theorem q_988 : (Cond.methodLink "MarginCourtLaw" 140 ⟨"MarginCourtModel", "trades", "()I"⟩) ∈ WU := wu_mem (lw_in4 (List.mem_of_getElem? (i := 213) rfl)) rfl
theorem q_989 : (Cond.instanceMethod ⟨"MarginCourtModel", "trades", "()I"⟩) ∈ WU := wu_mem (lw_in4 (List.mem_of_getElem? (i := 214) rfl)) rfl
theorem q_990 : (Cond.selects "MarginCourtModel" ⟨"MarginCourtModel", "trades", "()I"⟩ ⟨"MarginCourtModel", "trades", "()I"⟩) ∈ WU := wu_mem (lw_in4 (List.mem_of_getElem? (i := 215) rfl)) rfl
theorem q_991 : (Cond.code ⟨"MarginCourtModel", "trades", "()I"⟩ prog_8_method_30_code 1 (some .int)) ∈ WU := wu_mem (lw_in4 (List.mem_of_getElem? (i := 216) rfl)) rfl
theorem q_992 : (Cond.methodLink "MarginCourtLaw" 144 ⟨"MarginCourtModel", "hour", "()I"⟩) ∈ WU := wu_mem (lw_in4 (List.mem_of_getElem? (i := 217) rfl)) rfl
theorem q_993 : (Cond.instanceMethod ⟨"MarginCourtModel", "hour", "()I"⟩) ∈ WU := wu_mem (lw_in4 (List.mem_of_getElem? (i := 218) rfl)) rfl
theorem q_994 : (Cond.selects "MarginCourtModel" ⟨"MarginCourtModel", "hour", "()I"⟩ ⟨"MarginCourtModel", "hour", "()I"⟩) ∈ WU := wu_mem (lw_in4 (List.mem_of_getElem? (i := 219) rfl)) rfl
theorem q_995 : (Cond.code ⟨"MarginCourtModel", "hour", "()I"⟩ prog_8_method_39_code 3 (some .int)) ∈ WU := wu_mem (lw_in4 (List.mem_of_getElem? (i := 220) rfl)) rfl
theorem q_1028 : (Cond.methodLink "MarginCourtLaw" 148 ⟨"MarginCourtModel", "evening", "()I"⟩) ∈ WU := wu_mem (lw_in5 (List.mem_of_getElem? (i := 13) rfl)) rfl
theorem q_1029 : (Cond.instanceMethod ⟨"MarginCourtModel", "evening", "()I"⟩) ∈ WU := wu_mem (lw_in5 (List.mem_of_getElem? (i := 14) rfl)) rfl
theorem q_1030 : (Cond.selects "MarginCourtModel" ⟨"MarginCourtModel", "evening", "()I"⟩ ⟨"MarginCourtModel", "evening", "()I"⟩) ∈ WU := wu_mem (lw_in5 (List.mem_of_getElem? (i := 15) rfl)) rfl
theorem q_1031 : (Cond.code ⟨"MarginCourtModel", "evening", "()I"⟩ prog_8_method_40_code 4 (some .int)) ∈ WU := wu_mem (lw_in5 (List.mem_of_getElem? (i := 16) rfl)) rfl
theorem q_1032 : (Cond.methodLink "MarginCourtLaw" 151 ⟨"MarginCourtModel", "called", "(I)I"⟩) ∈ WU := wu_mem (lw_in5 (List.mem_of_getElem? (i := 17) rfl)) rfl
theorem q_1033 : (Cond.instanceMethod ⟨"MarginCourtModel", "called", "(I)I"⟩) ∈ WU := wu_mem (lw_in5 (List.mem_of_getElem? (i := 18) rfl)) rfl
theorem q_1034 : (Cond.selects "MarginCourtModel" ⟨"MarginCourtModel", "called", "(I)I"⟩ ⟨"MarginCourtModel", "called", "(I)I"⟩) ∈ WU := wu_mem (lw_in5 (List.mem_of_getElem? (i := 19) rfl)) rfl
theorem q_1035 : (Cond.code ⟨"MarginCourtModel", "called", "(I)I"⟩ prog_8_method_41_code 2 (some .int)) ∈ WU := wu_mem (lw_in5 (List.mem_of_getElem? (i := 20) rfl)) rfl
theorem q_1036 : (Cond.methodLink "MarginCourtLaw" 154 ⟨"MarginCourtModel", "hasFailed", "(I)Z"⟩) ∈ WU := wu_mem (lw_in5 (List.mem_of_getElem? (i := 21) rfl)) rfl
theorem q_1037 : (Cond.instanceMethod ⟨"MarginCourtModel", "hasFailed", "(I)Z"⟩) ∈ WU := wu_mem (lw_in5 (List.mem_of_getElem? (i := 22) rfl)) rfl
theorem q_1038 : (Cond.selects "MarginCourtModel" ⟨"MarginCourtModel", "hasFailed", "(I)Z"⟩ ⟨"MarginCourtModel", "hasFailed", "(I)Z"⟩) ∈ WU := wu_mem (lw_in5 (List.mem_of_getElem? (i := 23) rfl)) rfl
theorem q_1039 : (Cond.code ⟨"MarginCourtModel", "hasFailed", "(I)Z"⟩ prog_8_method_42_code 2 (some .boolean)) ∈ WU := wu_mem (lw_in5 (List.mem_of_getElem? (i := 24) rfl)) rfl
theorem q_1040 : (Cond.methodLink "MarginCourtLaw" 157 ⟨"MarginCourtModel", "position", "(II)I"⟩) ∈ WU := wu_mem (lw_in5 (List.mem_of_getElem? (i := 25) rfl)) rfl
theorem q_1041 : (Cond.instanceMethod ⟨"MarginCourtModel", "position", "(II)I"⟩) ∈ WU := wu_mem (lw_in5 (List.mem_of_getElem? (i := 26) rfl)) rfl
theorem q_1042 : (Cond.selects "MarginCourtModel" ⟨"MarginCourtModel", "position", "(II)I"⟩ ⟨"MarginCourtModel", "position", "(II)I"⟩) ∈ WU := wu_mem (lw_in5 (List.mem_of_getElem? (i := 27) rfl)) rfl
theorem q_1043 : (Cond.code ⟨"MarginCourtModel", "position", "(II)I"⟩ prog_8_method_43_code 3 (some .int)) ∈ WU := wu_mem (lw_in5 (List.mem_of_getElem? (i := 28) rfl)) rfl
theorem q_1044 : (Cond.methodLink "MarginCourtLaw" 160 ⟨"MarginCourtModel", "cash", "(I)I"⟩) ∈ WU := wu_mem (lw_in5 (List.mem_of_getElem? (i := 29) rfl)) rfl
theorem q_1045 : (Cond.instanceMethod ⟨"MarginCourtModel", "cash", "(I)I"⟩) ∈ WU := wu_mem (lw_in5 (List.mem_of_getElem? (i := 30) rfl)) rfl
theorem q_1046 : (Cond.selects "MarginCourtModel" ⟨"MarginCourtModel", "cash", "(I)I"⟩ ⟨"MarginCourtModel", "cash", "(I)I"⟩) ∈ WU := wu_mem (lw_in5 (List.mem_of_getElem? (i := 31) rfl)) rfl
theorem q_1047 : (Cond.code ⟨"MarginCourtModel", "cash", "(I)I"⟩ prog_8_method_44_code 2 (some .int)) ∈ WU := wu_mem (lw_in5 (List.mem_of_getElem? (i := 32) rfl)) rfl
theorem q_1048 : (Cond.methodLink "MarginCourtLaw" 163 ⟨"MarginCourtModel", "equity", "(I)I"⟩) ∈ WU := wu_mem (lw_in5 (List.mem_of_getElem? (i := 33) rfl)) rfl
theorem q_1049 : (Cond.instanceMethod ⟨"MarginCourtModel", "equity", "(I)I"⟩) ∈ WU := wu_mem (lw_in5 (List.mem_of_getElem? (i := 34) rfl)) rfl
theorem q_1050 : (Cond.selects "MarginCourtModel" ⟨"MarginCourtModel", "equity", "(I)I"⟩ ⟨"MarginCourtModel", "equity", "(I)I"⟩) ∈ WU := wu_mem (lw_in5 (List.mem_of_getElem? (i := 35) rfl)) rfl
theorem q_1051 : (Cond.code ⟨"MarginCourtModel", "equity", "(I)I"⟩ prog_8_method_45_code 2 (some .int)) ∈ WU := wu_mem (lw_in5 (List.mem_of_getElem? (i := 36) rfl)) rfl
theorem q_1052 : (Cond.methodLink "MarginCourtLaw" 166 ⟨"MarginCourtModel", "equityByTrades", "(I)I"⟩) ∈ WU := wu_mem (lw_in5 (List.mem_of_getElem? (i := 37) rfl)) rfl
theorem q_1053 : (Cond.instanceMethod ⟨"MarginCourtModel", "equityByTrades", "(I)I"⟩) ∈ WU := wu_mem (lw_in5 (List.mem_of_getElem? (i := 38) rfl)) rfl
theorem q_1054 : (Cond.selects "MarginCourtModel" ⟨"MarginCourtModel", "equityByTrades", "(I)I"⟩ ⟨"MarginCourtModel", "equityByTrades", "(I)I"⟩) ∈ WU := wu_mem (lw_in5 (List.mem_of_getElem? (i := 39) rfl)) rfl
theorem q_1055 : (Cond.code ⟨"MarginCourtModel", "equityByTrades", "(I)I"⟩ prog_8_method_46_code 2 (some .int)) ∈ WU := wu_mem (lw_in5 (List.mem_of_getElem? (i := 40) rfl)) rfl
theorem q_1056 : (Cond.methodLink "MarginCourtLaw" 169 ⟨"MarginCourtModel", "margin", "(I)I"⟩) ∈ WU := wu_mem (lw_in5 (List.mem_of_getElem? (i := 41) rfl)) rfl
theorem q_1057 : (Cond.instanceMethod ⟨"MarginCourtModel", "margin", "(I)I"⟩) ∈ WU := wu_mem (lw_in5 (List.mem_of_getElem? (i := 42) rfl)) rfl
theorem q_1058 : (Cond.selects "MarginCourtModel" ⟨"MarginCourtModel", "margin", "(I)I"⟩ ⟨"MarginCourtModel", "margin", "(I)I"⟩) ∈ WU := wu_mem (lw_in5 (List.mem_of_getElem? (i := 43) rfl)) rfl
theorem q_1059 : (Cond.code ⟨"MarginCourtModel", "margin", "(I)I"⟩ prog_8_method_47_code 2 (some .int)) ∈ WU := wu_mem (lw_in5 (List.mem_of_getElem? (i := 44) rfl)) rfl
theorem q_1060 : (Cond.methodLink "MarginCourtLaw" 172 ⟨"MarginCourtModel", "haircut", "(I)I"⟩) ∈ WU := wu_mem (lw_in5 (List.mem_of_getElem? (i := 45) rfl)) rfl
theorem q_1061 : (Cond.instanceMethod ⟨"MarginCourtModel", "haircut", "(I)I"⟩) ∈ WU := wu_mem (lw_in5 (List.mem_of_getElem? (i := 46) rfl)) rfl
theorem q_1062 : (Cond.selects "MarginCourtModel" ⟨"MarginCourtModel", "haircut", "(I)I"⟩ ⟨"MarginCourtModel", "haircut", "(I)I"⟩) ∈ WU := wu_mem (lw_in5 (List.mem_of_getElem? (i := 47) rfl)) rfl
theorem q_1063 : (Cond.code ⟨"MarginCourtModel", "haircut", "(I)I"⟩ prog_8_method_48_code 2 (some .int)) ∈ WU := wu_mem (lw_in5 (List.mem_of_getElem? (i := 48) rfl)) rfl
theorem q_1064 : (Cond.methodLink "MarginCourtLaw" 175 ⟨"MarginCourtModel", "collateral", "(I)I"⟩) ∈ WU := wu_mem (lw_in5 (List.mem_of_getElem? (i := 49) rfl)) rfl
theorem q_1065 : (Cond.instanceMethod ⟨"MarginCourtModel", "collateral", "(I)I"⟩) ∈ WU := wu_mem (lw_in5 (List.mem_of_getElem? (i := 50) rfl)) rfl
theorem q_1066 : (Cond.selects "MarginCourtModel" ⟨"MarginCourtModel", "collateral", "(I)I"⟩ ⟨"MarginCourtModel", "collateral", "(I)I"⟩) ∈ WU := wu_mem (lw_in5 (List.mem_of_getElem? (i := 51) rfl)) rfl
theorem q_1067 : (Cond.code ⟨"MarginCourtModel", "collateral", "(I)I"⟩ prog_8_method_49_code 2 (some .int)) ∈ WU := wu_mem (lw_in5 (List.mem_of_getElem? (i := 52) rfl)) rfl
theorem q_1068 : (Cond.methodLink "MarginCourtLaw" 178 ⟨"MarginCourtModel", "free", "(I)I"⟩) ∈ WU := wu_mem (lw_in5 (List.mem_of_getElem? (i := 53) rfl)) rfl
theorem q_1069 : (Cond.instanceMethod ⟨"MarginCourtModel", "free", "(I)I"⟩) ∈ WU := wu_mem (lw_in5 (List.mem_of_getElem? (i := 54) rfl)) rfl
theorem q_1070 : (Cond.selects "MarginCourtModel" ⟨"MarginCourtModel", "free", "(I)I"⟩ ⟨"MarginCourtModel", "free", "(I)I"⟩) ∈ WU := wu_mem (lw_in5 (List.mem_of_getElem? (i := 55) rfl)) rfl
theorem q_1071 : (Cond.code ⟨"MarginCourtModel", "free", "(I)I"⟩ prog_8_method_50_code 2 (some .int)) ∈ WU := wu_mem (lw_in5 (List.mem_of_getElem? (i := 56) rfl)) rfl
theorem q_1072 : (Cond.methodLink "MarginCourtLaw" 181 ⟨"MarginCourtModel", "share", "(I)I"⟩) ∈ WU := wu_mem (lw_in5 (List.mem_of_getElem? (i := 57) rfl)) rfl
theorem q_1073 : (Cond.instanceMethod ⟨"MarginCourtModel", "share", "(I)I"⟩) ∈ WU := wu_mem (lw_in5 (List.mem_of_getElem? (i := 58) rfl)) rfl
theorem q_1074 : (Cond.selects "MarginCourtModel" ⟨"MarginCourtModel", "share", "(I)I"⟩ ⟨"MarginCourtModel", "share", "(I)I"⟩) ∈ WU := wu_mem (lw_in5 (List.mem_of_getElem? (i := 59) rfl)) rfl
theorem q_1075 : (Cond.code ⟨"MarginCourtModel", "share", "(I)I"⟩ prog_8_method_51_code 2 (some .int)) ∈ WU := wu_mem (lw_in5 (List.mem_of_getElem? (i := 60) rfl)) rfl
theorem q_1076 : (Cond.methodLink "MarginCourtLaw" 185 ⟨"MarginCourtModel", "unpaid", "()I"⟩) ∈ WU := wu_mem (lw_in5 (List.mem_of_getElem? (i := 61) rfl)) rfl
theorem q_1077 : (Cond.instanceMethod ⟨"MarginCourtModel", "unpaid", "()I"⟩) ∈ WU := wu_mem (lw_in5 (List.mem_of_getElem? (i := 62) rfl)) rfl
theorem q_1078 : (Cond.selects "MarginCourtModel" ⟨"MarginCourtModel", "unpaid", "()I"⟩ ⟨"MarginCourtModel", "unpaid", "()I"⟩) ∈ WU := wu_mem (lw_in5 (List.mem_of_getElem? (i := 63) rfl)) rfl
theorem q_1079 : (Cond.code ⟨"MarginCourtModel", "unpaid", "()I"⟩ prog_8_method_52_code 1 (some .int)) ∈ WU := wu_mem (lw_in5 (List.mem_of_getElem? (i := 64) rfl)) rfl
theorem gW_103 : GoodIn WU (va_wsS RL 103 yL_setMove (WSh yL_setMove cL_setMove 6 (some .int) [(0, 12, 15, 13)])) := gH_of q_540 q_541 q_55 q_542
theorem gW_106 : GoodIn WU (wsV RL 106 RX6 yX6_setMove (WSy yX6_setMove cX6_setMove 5 (some .int))) := gV_of q_894 q_895 q_896 q_63 q_897
theorem gW_107 : GoodIn WU (va_wsS RL 107 yL_tellKind (WSh yL_tellKind cL_tellKind 5 (some .int) [(0, 10, 13, 13)])) := gH_of q_547 q_548 q_55 q_549
theorem gW_109 : GoodIn WU (wsV RL 109 RX6 yX6_tellKind (WSy yX6_tellKind cX6_tellKind 4 (some .int))) := gV_of q_898 q_899 q_900 q_63 q_901
theorem gW_110 : GoodIn WU (va_wsS RL 110 yL_pay (WSh yL_pay cL_pay 5 (some .int) [(0, 10, 13, 13), (0, 10, 17, 25)])) := gH_of q_564 q_565 q_55 q_566
theorem gW_112 : GoodIn WU (wsV RL 112 RX6 yX6_pay (WSy yX6_pay cX6_pay 3 (some .int))) := gV_of q_906 q_907 q_908 q_63 q_909
theorem gW_113 : GoodIn WU (va_wsS RL 113 yL_bring (WSh yL_bring cL_bring 6 (some .int) [(0, 12, 15, 13), (0, 12, 19, 25)])) := gH_of q_595 q_596 q_55 q_597
theorem gW_115 : GoodIn WU (wsV RL 115 RX6 yX6_bring (WSy yX6_bring cX6_bring 5 (some .int))) := gV_of q_944 q_945 q_946 q_63 q_947
theorem gW_116 : GoodIn WU (va_wsS RL 116 yL_contribute (WSh yL_contribute cL_contribute 5 (some .int) [(0, 10, 13, 13), (0, 10, 17, 25)])) := gH_of q_602 q_603 q_55 q_604
theorem gW_118 : GoodIn WU (wsV RL 118 RX6 yX6_contribute (WSy yX6_contribute cX6_contribute 3 (some .int))) := gV_of q_948 q_949 q_950 q_63 q_951
theorem gW_119 : GoodIn WU (va_wsS RL 119 yL_place (WSh yL_place cL_place 8 (some .int) [(0, 16, 19, 13), (0, 16, 23, 25)])) := gH_of q_609 q_610 q_55 q_611
theorem gW_122 : GoodIn WU (wsV RL 122 RX6 yX6_place (WSy yX6_place cX6_place 6 (some .int))) := gV_of q_952 q_953 q_954 q_63 q_955
theorem gW_123 : GoodIn WU (va_wsS RL 123 yL_cancel (WSh yL_cancel cL_cancel 4 (some .int) [(0, 9, 12, 41), (0, 9, 15, 25)])) := gH_of q_653 q_654 q_55 q_655
theorem gW_126 : GoodIn WU (wsV RL 126 RX6 yX6_cancel (WSy yX6_cancel cX6_cancel 3 (some .int))) := gV_of q_968 q_969 q_970 q_63 q_971
theorem gW_127 : GoodIn WU (va_wsS RL 127 yL_halt (WSh yL_halt cL_halt 5 (some .int) [(0, 10, 13, 13)])) := gH_of q_680 q_681 q_55 q_682
theorem gW_130 : GoodIn WU (wsV RL 130 RX6 yX6_halt (WSy yX6_halt cX6_halt 5 (some .int))) := gV_of q_976 q_977 q_978 q_63 q_979
theorem gW_131 : GoodIn WU (va_wsS RL 131 yL_left (WSh yL_left cL_left 4 (some .int) [(0, 9, 12, 41)])) := gH_of q_691 q_692 q_55 q_693
theorem gW_133 : GoodIn WU (wsV RL 133 RX6 yX6_left (WSy yX6_left cX6_left 2 (some .int))) := gV_of q_980 q_981 q_982 q_63 q_983
theorem gW_134 : GoodIn WU (va_wsS RL 134 yL_best (WSh yL_best cL_best 5 (some .int) [(0, 10, 13, 13), (0, 10, 17, 53)])) := gH_of q_698 q_699 q_55 q_700
theorem gW_136 : GoodIn WU (wsV RL 136 RX6 yX6_best (WSy yX6_best cX6_best 4 (some .int))) := gV_of q_984 q_985 q_986 q_63 q_987
theorem gW_137 : GoodIn WU (wsV RL 137 RX5 yX5_trades (WSy yX5_trades cX5_trades 1 (some .int))) := gV_of q_211 q_212 q_213 q_56 q_214
theorem gW_140 : GoodIn WU (wsV RL 140 RX6 yX6_trades (WSy yX6_trades cX6_trades 1 (some .int))) := gV_of q_988 q_989 q_990 q_63 q_991
theorem gW_141 : GoodIn WU (wsV RL 141 RX5 yX5_hour (WSy yX5_hour cX5_hour 3 (some .int))) := gV_of q_215 q_216 q_217 q_56 q_218
theorem gW_144 : GoodIn WU (wsV RL 144 RX6 yX6_hour (WSy yX6_hour cX6_hour 3 (some .int))) := gV_of q_992 q_993 q_994 q_63 q_995
theorem gW_145 : GoodIn WU (wsV RL 145 RX5 yX5_evening (WSy yX5_evening cX5_evening 4 (some .int))) := gV_of q_454 q_455 q_456 q_56 q_457
theorem gW_148 : GoodIn WU (wsV RL 148 RX6 yX6_evening (WSy yX6_evening cX6_evening 4 (some .int))) := gV_of q_1028 q_1029 q_1030 q_63 q_1031
theorem gW_149 : GoodIn WU (va_wsS RL 149 yL_called (WSh yL_called cL_called 4 (some .int) [(0, 9, 12, 13)])) := gH_of q_721 q_722 q_55 q_723
theorem gW_151 : GoodIn WU (wsV RL 151 RX6 yX6_called (WSy yX6_called cX6_called 2 (some .int))) := gV_of q_1032 q_1033 q_1034 q_63 q_1035
theorem gW_152 : GoodIn WU (va_wsS RL 152 yL_hasFailed (WSh yL_hasFailed cL_hasFailed 4 (some .int) [(0, 16, 19, 13)])) := gH_of q_728 q_729 q_55 q_730
theorem gW_154 : GoodIn WU (wsV RL 154 RX6 yX6_hasFailed (WSy yX6_hasFailed cX6_hasFailed 2 (some .boolean))) := gV_of q_1036 q_1037 q_1038 q_63 q_1039
theorem gW_155 : GoodIn WU (va_wsS RL 155 yL_position (WSh yL_position cL_position 5 (some .int) [(0, 10, 13, 13)])) := gH_of q_735 q_736 q_55 q_737
theorem gW_157 : GoodIn WU (wsV RL 157 RX6 yX6_position (WSy yX6_position cX6_position 3 (some .int))) := gV_of q_1040 q_1041 q_1042 q_63 q_1043
theorem gW_158 : GoodIn WU (va_wsS RL 158 yL_cash (WSh yL_cash cL_cash 4 (some .int) [(0, 9, 12, 13)])) := gH_of q_742 q_743 q_55 q_744
theorem gW_160 : GoodIn WU (wsV RL 160 RX6 yX6_cash (WSy yX6_cash cX6_cash 2 (some .int))) := gV_of q_1044 q_1045 q_1046 q_63 q_1047
theorem gW_161 : GoodIn WU (va_wsS RL 161 yL_equity (WSh yL_equity cL_equity 4 (some .int) [(0, 9, 12, 13)])) := gH_of q_749 q_750 q_55 q_751
theorem gW_163 : GoodIn WU (wsV RL 163 RX6 yX6_equity (WSy yX6_equity cX6_equity 2 (some .int))) := gV_of q_1048 q_1049 q_1050 q_63 q_1051
theorem gW_164 : GoodIn WU (va_wsS RL 164 yL_equityByTrades (WSh yL_equityByTrades cL_equityByTrades 4 (some .int) [(0, 9, 12, 13)])) := gH_of q_756 q_757 q_55 q_758
theorem gW_166 : GoodIn WU (wsV RL 166 RX6 yX6_equityByTrades (WSy yX6_equityByTrades cX6_equityByTrades 2 (some .int))) := gV_of q_1052 q_1053 q_1054 q_63 q_1055
theorem gW_167 : GoodIn WU (va_wsS RL 167 yL_margin (WSh yL_margin cL_margin 4 (some .int) [(0, 9, 12, 13)])) := gH_of q_767 q_768 q_55 q_769
theorem gW_169 : GoodIn WU (wsV RL 169 RX6 yX6_margin (WSy yX6_margin cX6_margin 2 (some .int))) := gV_of q_1056 q_1057 q_1058 q_63 q_1059
theorem gW_170 : GoodIn WU (va_wsS RL 170 yL_haircut (WSh yL_haircut cL_haircut 4 (some .int) [(0, 9, 12, 13)])) := gH_of q_774 q_775 q_55 q_776
theorem gW_172 : GoodIn WU (wsV RL 172 RX6 yX6_haircut (WSy yX6_haircut cX6_haircut 2 (some .int))) := gV_of q_1060 q_1061 q_1062 q_63 q_1063
theorem gW_173 : GoodIn WU (va_wsS RL 173 yL_collateral (WSh yL_collateral cL_collateral 4 (some .int) [(0, 9, 12, 13)])) := gH_of q_781 q_782 q_55 q_783
theorem gW_175 : GoodIn WU (wsV RL 175 RX6 yX6_collateral (WSy yX6_collateral cX6_collateral 2 (some .int))) := gV_of q_1064 q_1065 q_1066 q_63 q_1067
theorem gW_176 : GoodIn WU (va_wsS RL 176 yL_free (WSh yL_free cL_free 4 (some .int) [(0, 9, 12, 13)])) := gH_of q_788 q_789 q_55 q_790
theorem gW_178 : GoodIn WU (wsV RL 178 RX6 yX6_free (WSy yX6_free cX6_free 2 (some .int))) := gV_of q_1068 q_1069 q_1070 q_63 q_1071
theorem gW_179 : GoodIn WU (va_wsS RL 179 yL_share (WSh yL_share cL_share 4 (some .int) [(0, 9, 12, 13)])) := gH_of q_795 q_796 q_55 q_797
theorem gW_181 : GoodIn WU (wsV RL 181 RX6 yX6_share (WSy yX6_share cX6_share 2 (some .int))) := gV_of q_1072 q_1073 q_1074 q_63 q_1075
theorem gW_182 : GoodIn WU (wsV RL 182 RX5 yX5_unpaid (WSy yX5_unpaid cX5_unpaid 1 (some .int))) := gV_of q_458 q_459 q_460 q_56 q_461
theorem gW_185 : GoodIn WU (wsV RL 185 RX6 yX6_unpaid (WSy yX6_unpaid cX6_unpaid 1 (some .int))) := gV_of q_1076 q_1077 q_1078 q_63 q_1079
theorem gW_93 : GoodIn WU (va_wsS RL 93 yL_tell (WSh yL_tell cL_tell 5 (some .int) [(0, 10, 13, 13)])) := gH_of q_462 q_463 q_55 q_464
theorem gW_98 : GoodIn WU (wsV RL 98 RX6 yX6_tell (WSy yX6_tell cX6_tell 4 (some .int))) := gV_of q_880 q_881 q_882 q_63 q_883
theorem gW_99 : GoodIn WU (wsV RL 99 RX6 yX6_thrown (WSy yX6_thrown cX6_thrown 1 (some .int))) := gV_of q_876 q_877 q_878 q_63 q_879
section LAWE
variable {p : Program} {l : Launch} {e : Env} {s : State} {m : MethodId} {args : Array Value} {below : List Frame} {meth : Method} {c : Code} {H : Heap} {locs : List Loc} {cells slots : Nat} {Q : State → Prop}
variable {pc : Nat} {ls : Array Slot} {D : va_G} {dA : Nat → ClassId} {ad adm : Nat → Nat → Nat} {o a : Nat} {σ τ σ' τ' : St} {v v' : Nat → Int64} {mc ms x mi n b : Nat} {u : XO (Int32 × St)} {P : Nat → Prop} {r z : Int32}
theorem lgEnd {off : Int} (hC : CTX p s m args meth c code 7 RL ret) (hK : LK D dA s x mi) (hn : n < 512) (hO : OK P n σ u mc ms r τ') (hXT : XT xcat (fun r => r.toInt64) u v z (σ', v')) (hS : LGS D dA s x a (adm 0 0) o σ' τ' v' ad adm H locs) (hc : cells ≤ 80 + pot σ + 100 * n) (hs : slots ≤ 1000 + pot σ + 100 * n) (hl : lv_has ls 7 ((5, .int z) :: lvL n b a (adm 0 0) o)) (d0 : decode code (pc + 0) = .ok (.istore 6, 2)) (d2 : decode code (pc + 2) = .ok (.aload_n 2, 1)) (d3 : decode code (pc + 3) = .ok (.invokevirtual 99, 3)) (d6 : decode code (pc + 6) = .ok (.iload 5, 2)) (d8 : decode code (pc + 8) = .ok (.if_icmp .eq 5, 3)) (d13 : decode code (pc + 13) = .ok (.iload 5, 2)) (d15 : decode code (pc + 15) = .ok (.ifCond .ne 15, 3)) (d18 : decode code (pc + 18) = .ok (.aload_n 3, 1)) (d19 : decode code (pc + 19) = .ok (.iconst 0, 1)) (d20 : decode code (pc + 20) = .ok (.laload, 1)) (d21 : decode code (pc + 21) = .ok (.iload 6, 2)) (d23 : decode code (pc + 23) = .ok (.i2l, 1)) (d24 : decode code (pc + 24) = .ok (.lcmp, 1)) (d25 : decode code (pc + 25) = .ok (.ifCond .eq 5, 3)) (d30 : decode code (pc + 30) = .ok (.goto off, 3)) (hoff : ((pc + 30 : Nat) : Int) + off = ((1679 : Nat) : Int)) (kk : ∀ (H1 : Heap) (locs1 : List Loc) (c1 s1 : Nat) (ls1 : Array Slot), LGP D dA s x a (adm 0 0) o (n + 1) H1 locs1 c1 s1 → lv_has ls1 7 (lvL n b a (adm 0 0) o) → W p l e room_1 s m args below meth c H1 locs1 c1 s1 Q (F0 m 1679 ls1 [])) : W p l e room_1 s m args below meth c H locs (cells + mc) (slots + ms) Q (F0 m pc ls [.int r]) := by
  obtain ⟨hx, hb, hml, hown, hts, hr, hlk⟩ := id hC
  obtain ⟨k1, k2, k3, k4, k5⟩ := OK_XT hO hXT
  have hrm := OK_room hO hn hc hs
  refine lv_istore (i := 6) (lv' := (6, .int r) :: (5, .int z) :: lvL n b a (adm 0 0) o) hx hb d0 hl (by decide) rfl (fun ls hl => ?_)
  refine lv_aload_n hx hb d2 rfl (lv_at hl 5 rfl) ?_
  refine kLM (va_runV (As := []) (rest := []) ⟨hx, hb, hml, hown, hts⟩ (mX6_thrown l D dA adm τ' _ (gI τ' 23 0 0) rfl) (cwV 0 hts gW_99 rfl rfl rfl (by decide +kernel) ⟨Nat.le_of_ble_eq_true rfl, Nat.le_of_ble_eq_true rfl⟩) (preLM_of hK hS _) rfl rfl hl.1 rfl (lv_room (Nat.le_of_ble_eq_true rfl)) d3 hrm) hS (fun H locs hS => ?_)
  have fin : ∀ ls : Array Slot, lv_has ls 7 ((6, .int r) :: (5, .int z) :: lvL n b a (adm 0 0) o) → W p l e room_1 s m args below meth c H locs (cells + mc) (slots + ms) Q (F0 m (pc + 30) ls []) := fun ls hl => by
    refine lv_goto hx hb d30 hoff ?_
    exact kk H locs _ _ ls ⟨ad, σ', v', adm, τ', hS, k3, by omega, by omega⟩ (lv_sub hl [2, 3, 4, 5, 6] rfl)
  refine lv_iload hx hb d6 (lv_at hl 1 rfl) ?_
  refine lv_icmp_eq (tgt := pc + 13) hx hb d8 (by omega) (fun q => ?_) (fun q => absurd k1 q)
  refine lv_iload hx hb d13 (lv_at hl 1 rfl) ?_
  refine lv_if_ne (tgt := pc + 30) hx hb d15 (by omega) (fun q => fin ls hl) (fun q => ?_)
  refine lv_aload_n hx hb d18 rfl (lv_at hl 6 rfl) ?_
  refine lv_iconst (v := 0) hx hb d19 (by decide) ?_
  refine lg_row hC hK hS d20 ?_
  refine lv_iload hx hb d21 (lv_at hl 0 rfl) ?_
  refine lv_i2l hx hb d23 rfl ?_
  refine W.lcmp hx hb d24 ?_
  refine lv_if_eq (tgt := pc + 30) hx hb d25 (by omega) (fun q => fin ls hl) (fun q9 => absurd ((lg_cmp_eq _ _).mpr (k2 q)) q9)
theorem lgEndB {off : Int} (hC : CTX p s m args meth c code 7 RL ret) (hK : LK D dA s x mi) (hn : n < 512) (hO : OK P n σ u mc ms r τ') (hXT : XT xcat bll u v z (σ', v')) (hS : LGS D dA s x a (adm 0 0) o σ' τ' v' ad adm H locs) (hc : cells ≤ 80 + pot σ + 100 * n) (hs : slots ≤ 1000 + pot σ + 100 * n) (hl : lv_has ls 7 ((5, .int z) :: lvL n b a (adm 0 0) o)) (d0 : decode code (pc + 0) = .ok (.istore 6, 2)) (d2 : decode code (pc + 2) = .ok (.aload_n 2, 1)) (d3 : decode code (pc + 3) = .ok (.invokevirtual 99, 3)) (d6 : decode code (pc + 6) = .ok (.iload 5, 2)) (d8 : decode code (pc + 8) = .ok (.if_icmp .eq 5, 3)) (d13 : decode code (pc + 13) = .ok (.iload 5, 2)) (d15 : decode code (pc + 15) = .ok (.ifCond .ne 22, 3)) (d18 : decode code (pc + 18) = .ok (.aload_n 3, 1)) (d19 : decode code (pc + 19) = .ok (.iconst 0, 1)) (d20 : decode code (pc + 20) = .ok (.laload, 1)) (d21 : decode code (pc + 21) = .ok (.iload 6, 2)) (d23 : decode code (pc + 23) = .ok (.ifCond .eq 7, 3)) (d26 : decode code (pc + 26) = .ok (.lconst 1, 1)) (d27 : decode code (pc + 27) = .ok (.goto 4, 3)) (d30 : decode code (pc + 30) = .ok (.lconst 0, 1)) (d31 : decode code (pc + 31) = .ok (.lcmp, 1)) (d32 : decode code (pc + 32) = .ok (.ifCond .eq 5, 3)) (d37 : decode code (pc + 37) = .ok (.goto off, 3)) (hoff : ((pc + 37 : Nat) : Int) + off = ((1679 : Nat) : Int)) (kk : ∀ (H1 : Heap) (locs1 : List Loc) (c1 s1 : Nat) (ls1 : Array Slot), LGP D dA s x a (adm 0 0) o (n + 1) H1 locs1 c1 s1 → lv_has ls1 7 (lvL n b a (adm 0 0) o) → W p l e room_1 s m args below meth c H1 locs1 c1 s1 Q (F0 m 1679 ls1 [])) : W p l e room_1 s m args below meth c H locs (cells + mc) (slots + ms) Q (F0 m pc ls [.int r]) := by
  obtain ⟨hx, hb, hml, hown, hts, hr, hlk⟩ := id hC
  obtain ⟨k1, k2, k3, k4, k5⟩ := OK_XT hO hXT
  have hrm := OK_room hO hn hc hs
  refine lv_istore (i := 6) (lv' := (6, .int r) :: (5, .int z) :: lvL n b a (adm 0 0) o) hx hb d0 hl (by decide) rfl (fun ls hl => ?_)
  refine lv_aload_n hx hb d2 rfl (lv_at hl 5 rfl) ?_
  refine kLM (va_runV (As := []) (rest := []) ⟨hx, hb, hml, hown, hts⟩ (mX6_thrown l D dA adm τ' _ (gI τ' 23 0 0) rfl) (cwV 0 hts gW_99 rfl rfl rfl (by decide +kernel) ⟨Nat.le_of_ble_eq_true rfl, Nat.le_of_ble_eq_true rfl⟩) (preLM_of hK hS _) rfl rfl hl.1 rfl (lv_room (Nat.le_of_ble_eq_true rfl)) d3 hrm) hS (fun H locs hS => ?_)
  have fin : ∀ ls : Array Slot, lv_has ls 7 ((6, .int r) :: (5, .int z) :: lvL n b a (adm 0 0) o) → W p l e room_1 s m args below meth c H locs (cells + mc) (slots + ms) Q (F0 m (pc + 37) ls []) := fun ls hl => by
    refine lv_goto hx hb d37 hoff ?_
    exact kk H locs _ _ ls ⟨ad, σ', v', adm, τ', hS, k3, by omega, by omega⟩ (lv_sub hl [2, 3, 4, 5, 6] rfl)
  refine lv_iload hx hb d6 (lv_at hl 1 rfl) ?_
  refine lv_icmp_eq (tgt := pc + 13) hx hb d8 (by omega) (fun q => ?_) (fun q => absurd k1 q)
  refine lv_iload hx hb d13 (lv_at hl 1 rfl) ?_
  refine lv_if_ne (tgt := pc + 37) hx hb d15 (by omega) (fun q => fin ls hl) (fun q => ?_)
  refine lv_aload_n hx hb d18 rfl (lv_at hl 6 rfl) ?_
  refine lv_iconst (v := 0) hx hb d19 (by decide) ?_
  refine lg_row hC hK hS d20 ?_
  refine lv_iload hx hb d21 (lv_at hl 0 rfl) ?_
  refine lg_booll hC d23 d26 d27 d30 ?_
  refine W.lcmp hx hb d31 ?_
  refine lv_if_eq (tgt := pc + 37) hx hb d32 (by omega) (fun q => fin ls hl) (fun q9 => absurd ((lg_cmp_eq _ _).mpr (k2 q)) q9)
end LAWE
