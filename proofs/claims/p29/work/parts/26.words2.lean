/-! words of the law -/
theorem q_34 : (Cond.initialized "MarginCourtLaw") ∈ WU := wu_mem (lw_in1 (List.mem_of_getElem? (i := 0) rfl)) rfl
theorem q_189 : (Cond.methodLink "MarginCourtLaw" 61 ⟨"MarginCourt", "left", "(I)I"⟩) ∈ WU := wu_mem (lw_in1 (List.mem_of_getElem? (i := 155) rfl)) rfl
theorem q_190 : (Cond.instanceMethod ⟨"MarginCourt", "left", "(I)I"⟩) ∈ WU := wu_mem (lw_in1 (List.mem_of_getElem? (i := 156) rfl)) rfl
theorem q_191 : (Cond.selects "MarginCourt" ⟨"MarginCourt", "left", "(I)I"⟩ ⟨"MarginCourt", "left", "(I)I"⟩) ∈ WU := wu_mem (lw_in1 (List.mem_of_getElem? (i := 157) rfl)) rfl
theorem q_192 : (Cond.code ⟨"MarginCourt", "left", "(I)I"⟩ prog_1_method_11_code 2 (some .int)) ∈ WU := wu_mem (lw_in1 (List.mem_of_getElem? (i := 158) rfl)) rfl
theorem q_203 : (Cond.castable "java/lang/IndexOutOfBoundsException" "java/lang/IndexOutOfBoundsException") ∈ NWL := nwl_mem (lw_in1 (List.mem_of_getElem? (i := 169) rfl)) rfl
theorem q_285 : (Cond.methodLink "MarginCourtLaw" 128 ⟨"MarginCourtLaw", "some", "(II)I"⟩) ∈ WU := wu_mem (lw_in2 (List.mem_of_getElem? (i := 11) rfl)) rfl
theorem q_286 : (Cond.static ⟨"MarginCourtLaw", "some", "(II)I"⟩) ∈ WU := wu_mem (lw_in2 (List.mem_of_getElem? (i := 12) rfl)) rfl
theorem q_287 : (Cond.code ⟨"MarginCourtLaw", "some", "(II)I"⟩ method_3_code 2 (some .int)) ∈ WU := wu_mem (lw_in2 (List.mem_of_getElem? (i := 13) rfl)) rfl
theorem q_288 : (Cond.methodLink "MarginCourtLaw" 120 ⟨"MarginCourtLaw", "call", "(LMarginCourt;IIII)I"⟩) ∈ WU := wu_mem (lw_in2 (List.mem_of_getElem? (i := 14) rfl)) rfl
theorem q_289 : (Cond.static ⟨"MarginCourtLaw", "call", "(LMarginCourt;IIII)I"⟩) ∈ WU := wu_mem (lw_in2 (List.mem_of_getElem? (i := 15) rfl)) rfl
theorem q_290 : (Cond.codeWith ⟨"MarginCourtLaw", "call", "(LMarginCourt;IIII)I"⟩ method_4_code 6 (some .int) [(0, 9, 10, 15), (0, 9, 15, 18), (0, 9, 20, 21), (0, 9, 25, 24)]) ∈ WU := wu_mem (lw_in2 (List.mem_of_getElem? (i := 16) rfl)) rfl
theorem q_291 : (Cond.classLink "MarginCourtLaw" 15 "java/lang/IndexOutOfBoundsException") ∈ WU := wu_mem (lw_in2 (List.mem_of_getElem? (i := 17) rfl)) rfl
theorem q_292 : (Cond.classLink "MarginCourtLaw" 18 "java/lang/IllegalArgumentException") ∈ WU := wu_mem (lw_in2 (List.mem_of_getElem? (i := 18) rfl)) rfl
theorem q_293 : (Cond.classLink "MarginCourtLaw" 21 "java/lang/IllegalStateException") ∈ WU := wu_mem (lw_in2 (List.mem_of_getElem? (i := 19) rfl)) rfl
theorem q_294 : (Cond.classLink "MarginCourtLaw" 24 "java/util/NoSuchElementException") ∈ WU := wu_mem (lw_in2 (List.mem_of_getElem? (i := 20) rfl)) rfl
theorem q_295 : (Cond.methodLink "MarginCourtLaw" 9 ⟨"MarginCourtLaw", "does", "(LMarginCourt;IIII)I"⟩) ∈ WU := wu_mem (lw_in2 (List.mem_of_getElem? (i := 21) rfl)) rfl
theorem q_296 : (Cond.static ⟨"MarginCourtLaw", "does", "(LMarginCourt;IIII)I"⟩) ∈ WU := wu_mem (lw_in2 (List.mem_of_getElem? (i := 22) rfl)) rfl
theorem q_297 : (Cond.code ⟨"MarginCourtLaw", "does", "(LMarginCourt;IIII)I"⟩ method_5_code 5 (some .int)) ∈ WU := wu_mem (lw_in2 (List.mem_of_getElem? (i := 23) rfl)) rfl
theorem q_298 : (Cond.methodLink "MarginCourtLaw" 27 ⟨"MarginCourt", "tell", "(II)I"⟩) ∈ WU := wu_mem (lw_in2 (List.mem_of_getElem? (i := 24) rfl)) rfl
theorem q_299 : (Cond.instanceMethod ⟨"MarginCourt", "tell", "(II)I"⟩) ∈ WU := wu_mem (lw_in2 (List.mem_of_getElem? (i := 25) rfl)) rfl
theorem q_300 : (Cond.selects "MarginCourt" ⟨"MarginCourt", "tell", "(II)I"⟩ ⟨"MarginCourt", "tell", "(II)I"⟩) ∈ WU := wu_mem (lw_in2 (List.mem_of_getElem? (i := 26) rfl)) rfl
theorem q_301 : (Cond.code ⟨"MarginCourt", "tell", "(II)I"⟩ prog_1_method_2_code 4 (some .int)) ∈ WU := wu_mem (lw_in2 (List.mem_of_getElem? (i := 27) rfl)) rfl
theorem q_310 : (Cond.castable "java/lang/IllegalArgumentException" "java/lang/IllegalArgumentException") ∈ NWL := nwl_mem (lw_in2 (List.mem_of_getElem? (i := 36) rfl)) rfl
theorem q_323 : (Cond.methodLink "MarginCourtLaw" 33 ⟨"MarginCourt", "setMove", "(III)I"⟩) ∈ WU := wu_mem (lw_in2 (List.mem_of_getElem? (i := 49) rfl)) rfl
theorem q_324 : (Cond.instanceMethod ⟨"MarginCourt", "setMove", "(III)I"⟩) ∈ WU := wu_mem (lw_in2 (List.mem_of_getElem? (i := 50) rfl)) rfl
theorem q_325 : (Cond.selects "MarginCourt" ⟨"MarginCourt", "setMove", "(III)I"⟩ ⟨"MarginCourt", "setMove", "(III)I"⟩) ∈ WU := wu_mem (lw_in2 (List.mem_of_getElem? (i := 51) rfl)) rfl
theorem q_326 : (Cond.code ⟨"MarginCourt", "setMove", "(III)I"⟩ prog_1_method_3_code 5 (some .int)) ∈ WU := wu_mem (lw_in2 (List.mem_of_getElem? (i := 52) rfl)) rfl
theorem q_327 : (Cond.methodLink "MarginCourtLaw" 37 ⟨"MarginCourt", "tellKind", "(II)I"⟩) ∈ WU := wu_mem (lw_in2 (List.mem_of_getElem? (i := 53) rfl)) rfl
theorem q_328 : (Cond.instanceMethod ⟨"MarginCourt", "tellKind", "(II)I"⟩) ∈ WU := wu_mem (lw_in2 (List.mem_of_getElem? (i := 54) rfl)) rfl
theorem q_329 : (Cond.selects "MarginCourt" ⟨"MarginCourt", "tellKind", "(II)I"⟩ ⟨"MarginCourt", "tellKind", "(II)I"⟩) ∈ WU := wu_mem (lw_in2 (List.mem_of_getElem? (i := 55) rfl)) rfl
theorem q_330 : (Cond.code ⟨"MarginCourt", "tellKind", "(II)I"⟩ prog_1_method_4_code 5 (some .int)) ∈ WU := wu_mem (lw_in2 (List.mem_of_getElem? (i := 56) rfl)) rfl
theorem q_346 : (Cond.methodLink "MarginCourtLaw" 40 ⟨"MarginCourt", "pay", "(II)I"⟩) ∈ WU := wu_mem (lw_in2 (List.mem_of_getElem? (i := 72) rfl)) rfl
theorem q_347 : (Cond.instanceMethod ⟨"MarginCourt", "pay", "(II)I"⟩) ∈ WU := wu_mem (lw_in2 (List.mem_of_getElem? (i := 73) rfl)) rfl
theorem q_348 : (Cond.selects "MarginCourt" ⟨"MarginCourt", "pay", "(II)I"⟩ ⟨"MarginCourt", "pay", "(II)I"⟩) ∈ WU := wu_mem (lw_in2 (List.mem_of_getElem? (i := 74) rfl)) rfl
theorem q_349 : (Cond.code ⟨"MarginCourt", "pay", "(II)I"⟩ prog_1_method_5_code 4 (some .int)) ∈ WU := wu_mem (lw_in2 (List.mem_of_getElem? (i := 75) rfl)) rfl
theorem q_360 : (Cond.castable "java/lang/IllegalStateException" "java/lang/IllegalStateException") ∈ NWL := nwl_mem (lw_in2 (List.mem_of_getElem? (i := 86) rfl)) rfl
theorem q_408 : (Cond.methodLink "MarginCourtLaw" 43 ⟨"MarginCourt", "bring", "(III)I"⟩) ∈ WU := wu_mem (lw_in2 (List.mem_of_getElem? (i := 134) rfl)) rfl
theorem q_409 : (Cond.instanceMethod ⟨"MarginCourt", "bring", "(III)I"⟩) ∈ WU := wu_mem (lw_in2 (List.mem_of_getElem? (i := 135) rfl)) rfl
theorem q_410 : (Cond.selects "MarginCourt" ⟨"MarginCourt", "bring", "(III)I"⟩ ⟨"MarginCourt", "bring", "(III)I"⟩) ∈ WU := wu_mem (lw_in2 (List.mem_of_getElem? (i := 136) rfl)) rfl
theorem q_411 : (Cond.code ⟨"MarginCourt", "bring", "(III)I"⟩ prog_1_method_6_code 7 (some .int)) ∈ WU := wu_mem (lw_in2 (List.mem_of_getElem? (i := 137) rfl)) rfl
theorem q_412 : (Cond.methodLink "MarginCourtLaw" 46 ⟨"MarginCourt", "contribute", "(II)I"⟩) ∈ WU := wu_mem (lw_in2 (List.mem_of_getElem? (i := 138) rfl)) rfl
theorem q_413 : (Cond.instanceMethod ⟨"MarginCourt", "contribute", "(II)I"⟩) ∈ WU := wu_mem (lw_in2 (List.mem_of_getElem? (i := 139) rfl)) rfl
theorem q_414 : (Cond.selects "MarginCourt" ⟨"MarginCourt", "contribute", "(II)I"⟩ ⟨"MarginCourt", "contribute", "(II)I"⟩) ∈ WU := wu_mem (lw_in2 (List.mem_of_getElem? (i := 140) rfl)) rfl
theorem q_415 : (Cond.code ⟨"MarginCourt", "contribute", "(II)I"⟩ prog_1_method_7_code 4 (some .int)) ∈ WU := wu_mem (lw_in2 (List.mem_of_getElem? (i := 141) rfl)) rfl
theorem q_416 : (Cond.methodLink "MarginCourtLaw" 49 ⟨"MarginCourt", "place", "(IIZII)I"⟩) ∈ WU := wu_mem (lw_in2 (List.mem_of_getElem? (i := 142) rfl)) rfl
theorem q_417 : (Cond.instanceMethod ⟨"MarginCourt", "place", "(IIZII)I"⟩) ∈ WU := wu_mem (lw_in2 (List.mem_of_getElem? (i := 143) rfl)) rfl
theorem q_418 : (Cond.selects "MarginCourt" ⟨"MarginCourt", "place", "(IIZII)I"⟩ ⟨"MarginCourt", "place", "(IIZII)I"⟩) ∈ WU := wu_mem (lw_in2 (List.mem_of_getElem? (i := 144) rfl)) rfl
theorem q_419 : (Cond.code ⟨"MarginCourt", "place", "(IIZII)I"⟩ prog_1_method_8_code 8 (some .int)) ∈ WU := wu_mem (lw_in2 (List.mem_of_getElem? (i := 145) rfl)) rfl
theorem q_556 : (Cond.methodLink "MarginCourtLaw" 53 ⟨"MarginCourt", "cancel", "(I)I"⟩) ∈ WU := wu_mem (lw_in3 (List.mem_of_getElem? (i := 42) rfl)) rfl
theorem q_557 : (Cond.instanceMethod ⟨"MarginCourt", "cancel", "(I)I"⟩) ∈ WU := wu_mem (lw_in3 (List.mem_of_getElem? (i := 43) rfl)) rfl
theorem q_558 : (Cond.selects "MarginCourt" ⟨"MarginCourt", "cancel", "(I)I"⟩ ⟨"MarginCourt", "cancel", "(I)I"⟩) ∈ WU := wu_mem (lw_in3 (List.mem_of_getElem? (i := 44) rfl)) rfl
theorem q_559 : (Cond.code ⟨"MarginCourt", "cancel", "(I)I"⟩ prog_1_method_9_code 4 (some .int)) ∈ WU := wu_mem (lw_in3 (List.mem_of_getElem? (i := 45) rfl)) rfl
theorem q_560 : (Cond.methodLink "MarginCourtLaw" 57 ⟨"MarginCourt", "halt", "(IZ)I"⟩) ∈ WU := wu_mem (lw_in3 (List.mem_of_getElem? (i := 46) rfl)) rfl
theorem q_561 : (Cond.instanceMethod ⟨"MarginCourt", "halt", "(IZ)I"⟩) ∈ WU := wu_mem (lw_in3 (List.mem_of_getElem? (i := 47) rfl)) rfl
theorem q_562 : (Cond.selects "MarginCourt" ⟨"MarginCourt", "halt", "(IZ)I"⟩ ⟨"MarginCourt", "halt", "(IZ)I"⟩) ∈ WU := wu_mem (lw_in3 (List.mem_of_getElem? (i := 48) rfl)) rfl
theorem q_563 : (Cond.code ⟨"MarginCourt", "halt", "(IZ)I"⟩ prog_1_method_10_code 3 (some .int)) ∈ WU := wu_mem (lw_in3 (List.mem_of_getElem? (i := 49) rfl)) rfl
theorem q_568 : (Cond.methodLink "MarginCourtLaw" 64 ⟨"MarginCourt", "best", "(IZ)I"⟩) ∈ WU := wu_mem (lw_in3 (List.mem_of_getElem? (i := 54) rfl)) rfl
theorem q_569 : (Cond.instanceMethod ⟨"MarginCourt", "best", "(IZ)I"⟩) ∈ WU := wu_mem (lw_in3 (List.mem_of_getElem? (i := 55) rfl)) rfl
theorem q_570 : (Cond.selects "MarginCourt" ⟨"MarginCourt", "best", "(IZ)I"⟩ ⟨"MarginCourt", "best", "(IZ)I"⟩) ∈ WU := wu_mem (lw_in3 (List.mem_of_getElem? (i := 56) rfl)) rfl
theorem q_571 : (Cond.code ⟨"MarginCourt", "best", "(IZ)I"⟩ prog_1_method_12_code 4 (some .int)) ∈ WU := wu_mem (lw_in3 (List.mem_of_getElem? (i := 57) rfl)) rfl
theorem q_574 : (Cond.castable "java/util/NoSuchElementException" "java/util/NoSuchElementException") ∈ NWL := nwl_mem (lw_in3 (List.mem_of_getElem? (i := 60) rfl)) rfl
theorem q_587 : (Cond.methodLink "MarginCourtLaw" 67 ⟨"MarginCourt", "called", "(I)I"⟩) ∈ WU := wu_mem (lw_in3 (List.mem_of_getElem? (i := 73) rfl)) rfl
theorem q_588 : (Cond.instanceMethod ⟨"MarginCourt", "called", "(I)I"⟩) ∈ WU := wu_mem (lw_in3 (List.mem_of_getElem? (i := 74) rfl)) rfl
theorem q_589 : (Cond.selects "MarginCourt" ⟨"MarginCourt", "called", "(I)I"⟩ ⟨"MarginCourt", "called", "(I)I"⟩) ∈ WU := wu_mem (lw_in3 (List.mem_of_getElem? (i := 75) rfl)) rfl
theorem q_590 : (Cond.code ⟨"MarginCourt", "called", "(I)I"⟩ prog_1_method_16_code 2 (some .int)) ∈ WU := wu_mem (lw_in3 (List.mem_of_getElem? (i := 76) rfl)) rfl
theorem q_591 : (Cond.methodLink "MarginCourtLaw" 70 ⟨"MarginCourt", "hasFailed", "(I)Z"⟩) ∈ WU := wu_mem (lw_in3 (List.mem_of_getElem? (i := 77) rfl)) rfl
theorem q_592 : (Cond.instanceMethod ⟨"MarginCourt", "hasFailed", "(I)Z"⟩) ∈ WU := wu_mem (lw_in3 (List.mem_of_getElem? (i := 78) rfl)) rfl
theorem q_593 : (Cond.selects "MarginCourt" ⟨"MarginCourt", "hasFailed", "(I)Z"⟩ ⟨"MarginCourt", "hasFailed", "(I)Z"⟩) ∈ WU := wu_mem (lw_in3 (List.mem_of_getElem? (i := 79) rfl)) rfl
theorem q_594 : (Cond.code ⟨"MarginCourt", "hasFailed", "(I)Z"⟩ prog_1_method_17_code 2 (some .boolean)) ∈ WU := wu_mem (lw_in3 (List.mem_of_getElem? (i := 80) rfl)) rfl
theorem q_595 : (Cond.methodLink "MarginCourtLaw" 74 ⟨"MarginCourt", "position", "(II)I"⟩) ∈ WU := wu_mem (lw_in3 (List.mem_of_getElem? (i := 81) rfl)) rfl
theorem q_596 : (Cond.instanceMethod ⟨"MarginCourt", "position", "(II)I"⟩) ∈ WU := wu_mem (lw_in3 (List.mem_of_getElem? (i := 82) rfl)) rfl
theorem q_597 : (Cond.selects "MarginCourt" ⟨"MarginCourt", "position", "(II)I"⟩ ⟨"MarginCourt", "position", "(II)I"⟩) ∈ WU := wu_mem (lw_in3 (List.mem_of_getElem? (i := 83) rfl)) rfl
theorem q_598 : (Cond.code ⟨"MarginCourt", "position", "(II)I"⟩ prog_1_method_18_code 3 (some .int)) ∈ WU := wu_mem (lw_in3 (List.mem_of_getElem? (i := 84) rfl)) rfl
theorem q_599 : (Cond.methodLink "MarginCourtLaw" 77 ⟨"MarginCourt", "cash", "(I)I"⟩) ∈ WU := wu_mem (lw_in3 (List.mem_of_getElem? (i := 85) rfl)) rfl
theorem q_600 : (Cond.instanceMethod ⟨"MarginCourt", "cash", "(I)I"⟩) ∈ WU := wu_mem (lw_in3 (List.mem_of_getElem? (i := 86) rfl)) rfl
theorem q_601 : (Cond.selects "MarginCourt" ⟨"MarginCourt", "cash", "(I)I"⟩ ⟨"MarginCourt", "cash", "(I)I"⟩) ∈ WU := wu_mem (lw_in3 (List.mem_of_getElem? (i := 87) rfl)) rfl
theorem q_602 : (Cond.code ⟨"MarginCourt", "cash", "(I)I"⟩ prog_1_method_19_code 2 (some .int)) ∈ WU := wu_mem (lw_in3 (List.mem_of_getElem? (i := 88) rfl)) rfl
theorem q_603 : (Cond.methodLink "MarginCourtLaw" 80 ⟨"MarginCourt", "equity", "(I)I"⟩) ∈ WU := wu_mem (lw_in3 (List.mem_of_getElem? (i := 89) rfl)) rfl
theorem q_604 : (Cond.instanceMethod ⟨"MarginCourt", "equity", "(I)I"⟩) ∈ WU := wu_mem (lw_in3 (List.mem_of_getElem? (i := 90) rfl)) rfl
theorem q_605 : (Cond.selects "MarginCourt" ⟨"MarginCourt", "equity", "(I)I"⟩ ⟨"MarginCourt", "equity", "(I)I"⟩) ∈ WU := wu_mem (lw_in3 (List.mem_of_getElem? (i := 91) rfl)) rfl
theorem q_606 : (Cond.code ⟨"MarginCourt", "equity", "(I)I"⟩ prog_1_method_20_code 2 (some .int)) ∈ WU := wu_mem (lw_in3 (List.mem_of_getElem? (i := 92) rfl)) rfl
theorem q_607 : (Cond.methodLink "MarginCourtLaw" 83 ⟨"MarginCourt", "equityByTrades", "(I)I"⟩) ∈ WU := wu_mem (lw_in3 (List.mem_of_getElem? (i := 93) rfl)) rfl
theorem q_608 : (Cond.instanceMethod ⟨"MarginCourt", "equityByTrades", "(I)I"⟩) ∈ WU := wu_mem (lw_in3 (List.mem_of_getElem? (i := 94) rfl)) rfl
theorem q_609 : (Cond.selects "MarginCourt" ⟨"MarginCourt", "equityByTrades", "(I)I"⟩ ⟨"MarginCourt", "equityByTrades", "(I)I"⟩) ∈ WU := wu_mem (lw_in3 (List.mem_of_getElem? (i := 95) rfl)) rfl
theorem q_610 : (Cond.code ⟨"MarginCourt", "equityByTrades", "(I)I"⟩ prog_1_method_21_code 5 (some .int)) ∈ WU := wu_mem (lw_in3 (List.mem_of_getElem? (i := 96) rfl)) rfl
theorem q_615 : (Cond.methodLink "MarginCourtLaw" 86 ⟨"MarginCourt", "margin", "(I)I"⟩) ∈ WU := wu_mem (lw_in3 (List.mem_of_getElem? (i := 101) rfl)) rfl
theorem q_616 : (Cond.instanceMethod ⟨"MarginCourt", "margin", "(I)I"⟩) ∈ WU := wu_mem (lw_in3 (List.mem_of_getElem? (i := 102) rfl)) rfl
theorem q_617 : (Cond.selects "MarginCourt" ⟨"MarginCourt", "margin", "(I)I"⟩ ⟨"MarginCourt", "margin", "(I)I"⟩) ∈ WU := wu_mem (lw_in3 (List.mem_of_getElem? (i := 103) rfl)) rfl
theorem q_618 : (Cond.code ⟨"MarginCourt", "margin", "(I)I"⟩ prog_1_method_22_code 2 (some .int)) ∈ WU := wu_mem (lw_in3 (List.mem_of_getElem? (i := 104) rfl)) rfl
theorem q_619 : (Cond.methodLink "MarginCourtLaw" 89 ⟨"MarginCourt", "haircut", "(I)I"⟩) ∈ WU := wu_mem (lw_in3 (List.mem_of_getElem? (i := 105) rfl)) rfl
theorem q_620 : (Cond.instanceMethod ⟨"MarginCourt", "haircut", "(I)I"⟩) ∈ WU := wu_mem (lw_in3 (List.mem_of_getElem? (i := 106) rfl)) rfl
theorem q_621 : (Cond.selects "MarginCourt" ⟨"MarginCourt", "haircut", "(I)I"⟩ ⟨"MarginCourt", "haircut", "(I)I"⟩) ∈ WU := wu_mem (lw_in3 (List.mem_of_getElem? (i := 107) rfl)) rfl
theorem q_622 : (Cond.code ⟨"MarginCourt", "haircut", "(I)I"⟩ prog_1_method_23_code 2 (some .int)) ∈ WU := wu_mem (lw_in3 (List.mem_of_getElem? (i := 108) rfl)) rfl
theorem q_623 : (Cond.methodLink "MarginCourtLaw" 92 ⟨"MarginCourt", "collateral", "(I)I"⟩) ∈ WU := wu_mem (lw_in3 (List.mem_of_getElem? (i := 109) rfl)) rfl
theorem q_624 : (Cond.instanceMethod ⟨"MarginCourt", "collateral", "(I)I"⟩) ∈ WU := wu_mem (lw_in3 (List.mem_of_getElem? (i := 110) rfl)) rfl
theorem q_625 : (Cond.selects "MarginCourt" ⟨"MarginCourt", "collateral", "(I)I"⟩ ⟨"MarginCourt", "collateral", "(I)I"⟩) ∈ WU := wu_mem (lw_in3 (List.mem_of_getElem? (i := 111) rfl)) rfl
theorem q_626 : (Cond.code ⟨"MarginCourt", "collateral", "(I)I"⟩ prog_1_method_24_code 2 (some .int)) ∈ WU := wu_mem (lw_in3 (List.mem_of_getElem? (i := 112) rfl)) rfl
theorem q_627 : (Cond.methodLink "MarginCourtLaw" 95 ⟨"MarginCourt", "free", "(I)I"⟩) ∈ WU := wu_mem (lw_in3 (List.mem_of_getElem? (i := 113) rfl)) rfl
theorem q_628 : (Cond.instanceMethod ⟨"MarginCourt", "free", "(I)I"⟩) ∈ WU := wu_mem (lw_in3 (List.mem_of_getElem? (i := 114) rfl)) rfl
theorem q_629 : (Cond.selects "MarginCourt" ⟨"MarginCourt", "free", "(I)I"⟩ ⟨"MarginCourt", "free", "(I)I"⟩) ∈ WU := wu_mem (lw_in3 (List.mem_of_getElem? (i := 115) rfl)) rfl
theorem q_630 : (Cond.code ⟨"MarginCourt", "free", "(I)I"⟩ prog_1_method_25_code 2 (some .int)) ∈ WU := wu_mem (lw_in3 (List.mem_of_getElem? (i := 116) rfl)) rfl
theorem q_631 : (Cond.methodLink "MarginCourtLaw" 98 ⟨"MarginCourt", "share", "(I)I"⟩) ∈ WU := wu_mem (lw_in3 (List.mem_of_getElem? (i := 117) rfl)) rfl
theorem q_632 : (Cond.instanceMethod ⟨"MarginCourt", "share", "(I)I"⟩) ∈ WU := wu_mem (lw_in3 (List.mem_of_getElem? (i := 118) rfl)) rfl
theorem q_633 : (Cond.selects "MarginCourt" ⟨"MarginCourt", "share", "(I)I"⟩ ⟨"MarginCourt", "share", "(I)I"⟩) ∈ WU := wu_mem (lw_in3 (List.mem_of_getElem? (i := 119) rfl)) rfl
theorem q_634 : (Cond.code ⟨"MarginCourt", "share", "(I)I"⟩ prog_1_method_26_code 2 (some .int)) ∈ WU := wu_mem (lw_in3 (List.mem_of_getElem? (i := 120) rfl)) rfl
theorem q_635 : (Cond.constant "MarginCourtLaw" 17 (-2000000001 : Int32)) ∈ WU := wu_mem (lw_in3 (List.mem_of_getElem? (i := 121) rfl)) rfl
theorem q_636 : (Cond.constant "MarginCourtLaw" 20 (-2000000002 : Int32)) ∈ WU := wu_mem (lw_in3 (List.mem_of_getElem? (i := 122) rfl)) rfl
theorem q_637 : (Cond.constant "MarginCourtLaw" 23 (-2000000003 : Int32)) ∈ WU := wu_mem (lw_in3 (List.mem_of_getElem? (i := 123) rfl)) rfl
theorem q_638 : (Cond.constant "MarginCourtLaw" 26 (-2000000004 : Int32)) ∈ WU := wu_mem (lw_in3 (List.mem_of_getElem? (i := 124) rfl)) rfl
theorem q_639 : (Cond.methodLink "MarginCourtLaw" 135 ⟨"MarginCourtLaw", "all", "(LMarginCourt;I)J"⟩) ∈ WU := wu_mem (lw_in3 (List.mem_of_getElem? (i := 125) rfl)) rfl
theorem q_640 : (Cond.static ⟨"MarginCourtLaw", "all", "(LMarginCourt;I)J"⟩) ∈ WU := wu_mem (lw_in3 (List.mem_of_getElem? (i := 126) rfl)) rfl
theorem q_641 : (Cond.code ⟨"MarginCourtLaw", "all", "(LMarginCourt;I)J"⟩ method_6_code 5 (some .long)) ∈ WU := wu_mem (lw_in3 (List.mem_of_getElem? (i := 127) rfl)) rfl
theorem q_642 : (Cond.methodLink "MarginCourtLaw" 101 ⟨"MarginCourt", "trades", "()I"⟩) ∈ WU := wu_mem (lw_in3 (List.mem_of_getElem? (i := 128) rfl)) rfl
theorem q_643 : (Cond.instanceMethod ⟨"MarginCourt", "trades", "()I"⟩) ∈ WU := wu_mem (lw_in3 (List.mem_of_getElem? (i := 129) rfl)) rfl
theorem q_644 : (Cond.selects "MarginCourt" ⟨"MarginCourt", "trades", "()I"⟩ ⟨"MarginCourt", "trades", "()I"⟩) ∈ WU := wu_mem (lw_in3 (List.mem_of_getElem? (i := 130) rfl)) rfl
theorem q_645 : (Cond.code ⟨"MarginCourt", "trades", "()I"⟩ prog_1_method_13_code 1 (some .int)) ∈ WU := wu_mem (lw_in3 (List.mem_of_getElem? (i := 131) rfl)) rfl
theorem q_646 : (Cond.constantLong "MarginCourtLaw" 105 (7 : Int64)) ∈ WU := wu_mem (lw_in3 (List.mem_of_getElem? (i := 132) rfl)) rfl
theorem q_647 : (Cond.methodLink "MarginCourtLaw" 107 ⟨"MarginCourt", "unpaid", "()I"⟩) ∈ WU := wu_mem (lw_in3 (List.mem_of_getElem? (i := 133) rfl)) rfl
theorem q_648 : (Cond.instanceMethod ⟨"MarginCourt", "unpaid", "()I"⟩) ∈ WU := wu_mem (lw_in3 (List.mem_of_getElem? (i := 134) rfl)) rfl
theorem q_649 : (Cond.selects "MarginCourt" ⟨"MarginCourt", "unpaid", "()I"⟩ ⟨"MarginCourt", "unpaid", "()I"⟩) ∈ WU := wu_mem (lw_in3 (List.mem_of_getElem? (i := 135) rfl)) rfl
theorem q_650 : (Cond.code ⟨"MarginCourt", "unpaid", "()I"⟩ prog_1_method_27_code 1 (some .int)) ∈ WU := wu_mem (lw_in3 (List.mem_of_getElem? (i := 136) rfl)) rfl
theorem q_651 : (Cond.constantLong "MarginCourtLaw" 110 (1000003 : Int64)) ∈ WU := wu_mem (lw_in3 (List.mem_of_getElem? (i := 137) rfl)) rfl
theorem q_652 : (Cond.constantLong "MarginCourtLaw" 112 (31 : Int64)) ∈ WU := wu_mem (lw_in3 (List.mem_of_getElem? (i := 138) rfl)) rfl
theorem q_653 : (Cond.constantLong "MarginCourtLaw" 114 (4099 : Int64)) ∈ WU := wu_mem (lw_in3 (List.mem_of_getElem? (i := 139) rfl)) rfl
theorem q_654 : (Cond.constantLong "MarginCourtLaw" 116 (131 : Int64)) ∈ WU := wu_mem (lw_in3 (List.mem_of_getElem? (i := 140) rfl)) rfl
theorem q_655 : (Cond.constantLong "MarginCourtLaw" 118 (103 : Int64)) ∈ WU := wu_mem (lw_in3 (List.mem_of_getElem? (i := 141) rfl)) rfl
theorem q_656 : (Cond.constantLong "MarginCourtLaw" 123 (97 : Int64)) ∈ WU := wu_mem (lw_in3 (List.mem_of_getElem? (i := 142) rfl)) rfl
theorem q_657 : (Cond.constantLong "MarginCourtLaw" 125 (3 : Int64)) ∈ WU := wu_mem (lw_in3 (List.mem_of_getElem? (i := 143) rfl)) rfl
theorem q_658 : (Cond.methodLink "MarginCourtLaw" 131 ⟨"MarginCourtLaw", "both", "(LMarginCourt;LMarginCourt;IIII)I"⟩) ∈ WU := wu_mem (lw_in3 (List.mem_of_getElem? (i := 144) rfl)) rfl
theorem q_659 : (Cond.static ⟨"MarginCourtLaw", "both", "(LMarginCourt;LMarginCourt;IIII)I"⟩) ∈ WU := wu_mem (lw_in3 (List.mem_of_getElem? (i := 145) rfl)) rfl
theorem q_660 : (Cond.code ⟨"MarginCourtLaw", "both", "(LMarginCourt;LMarginCourt;IIII)I"⟩ method_7_code 7 (some .int)) ∈ WU := wu_mem (lw_in3 (List.mem_of_getElem? (i := 146) rfl)) rfl
theorem q_661 : (Cond.constant "MarginCourtLaw" 127 (-2000000099 : Int32)) ∈ WU := wu_mem (lw_in3 (List.mem_of_getElem? (i := 147) rfl)) rfl
theorem q_662 : (Cond.methodLink "MarginCourtLaw" 139 ⟨"MarginCourtLaw", "equities", "(LMarginCourt;)J"⟩) ∈ WU := wu_mem (lw_in3 (List.mem_of_getElem? (i := 148) rfl)) rfl
theorem q_663 : (Cond.static ⟨"MarginCourtLaw", "equities", "(LMarginCourt;)J"⟩) ∈ WU := wu_mem (lw_in3 (List.mem_of_getElem? (i := 149) rfl)) rfl
theorem q_664 : (Cond.code ⟨"MarginCourtLaw", "equities", "(LMarginCourt;)J"⟩ method_8_code 4 (some .long)) ∈ WU := wu_mem (lw_in3 (List.mem_of_getElem? (i := 150) rfl)) rfl
theorem q_677 : (Cond.methodLink "MarginCourtLaw" 143 ⟨"MarginCourt", "evening", "()I"⟩) ∈ WU := wu_mem (lw_in3 (List.mem_of_getElem? (i := 163) rfl)) rfl
theorem q_678 : (Cond.instanceMethod ⟨"MarginCourt", "evening", "()I"⟩) ∈ WU := wu_mem (lw_in3 (List.mem_of_getElem? (i := 164) rfl)) rfl
theorem q_679 : (Cond.selects "MarginCourt" ⟨"MarginCourt", "evening", "()I"⟩ ⟨"MarginCourt", "evening", "()I"⟩) ∈ WU := wu_mem (lw_in3 (List.mem_of_getElem? (i := 165) rfl)) rfl
theorem q_680 : (Cond.code ⟨"MarginCourt", "evening", "()I"⟩ prog_1_method_15_code 4 (some .int)) ∈ WU := wu_mem (lw_in3 (List.mem_of_getElem? (i := 166) rfl)) rfl
theorem q_688 : (Cond.methodLink "MarginCourtLaw" 146 ⟨"MarginCourtLaw", "standing", "(LMarginCourt;)I"⟩) ∈ WU := wu_mem (lw_in3 (List.mem_of_getElem? (i := 174) rfl)) rfl
theorem q_689 : (Cond.static ⟨"MarginCourtLaw", "standing", "(LMarginCourt;)I"⟩) ∈ WU := wu_mem (lw_in3 (List.mem_of_getElem? (i := 175) rfl)) rfl
theorem q_690 : (Cond.code ⟨"MarginCourtLaw", "standing", "(LMarginCourt;)I"⟩ method_10_code 3 (some .int)) ∈ WU := wu_mem (lw_in3 (List.mem_of_getElem? (i := 176) rfl)) rfl
theorem q_691 : (Cond.methodLink "MarginCourtLaw" 150 ⟨"MarginCourtLaw", "shares", "(LMarginCourt;)J"⟩) ∈ WU := wu_mem (lw_in3 (List.mem_of_getElem? (i := 177) rfl)) rfl
theorem q_692 : (Cond.static ⟨"MarginCourtLaw", "shares", "(LMarginCourt;)J"⟩) ∈ WU := wu_mem (lw_in3 (List.mem_of_getElem? (i := 178) rfl)) rfl
theorem q_693 : (Cond.code ⟨"MarginCourtLaw", "shares", "(LMarginCourt;)J"⟩ method_9_code 4 (some .long)) ∈ WU := wu_mem (lw_in3 (List.mem_of_getElem? (i := 179) rfl)) rfl
theorem q_694 : (Cond.methodLink "MarginCourtLaw" 153 ⟨"MarginCourt", "hour", "()I"⟩) ∈ WU := wu_mem (lw_in3 (List.mem_of_getElem? (i := 180) rfl)) rfl
theorem q_695 : (Cond.instanceMethod ⟨"MarginCourt", "hour", "()I"⟩) ∈ WU := wu_mem (lw_in3 (List.mem_of_getElem? (i := 181) rfl)) rfl
theorem q_696 : (Cond.selects "MarginCourt" ⟨"MarginCourt", "hour", "()I"⟩ ⟨"MarginCourt", "hour", "()I"⟩) ∈ WU := wu_mem (lw_in3 (List.mem_of_getElem? (i := 182) rfl)) rfl
theorem q_697 : (Cond.code ⟨"MarginCourt", "hour", "()I"⟩ prog_1_method_14_code 3 (some .int)) ∈ WU := wu_mem (lw_in3 (List.mem_of_getElem? (i := 183) rfl)) rfl
theorem q_773 : (Cond.constant "MarginCourtLaw" 156 (100001 : Int32)) ∈ WU := wu_mem (lw_in4 (List.mem_of_getElem? (i := 19) rfl)) rfl
theorem gL_101 : GoodIn WU (wsV RL 101 RX5 yX5_trades (WSy yX5_trades cX5_trades 1 (some .int))) := gV_of q_642 q_643 q_644 q_35 q_645
theorem gL_107 : GoodIn WU (wsV RL 107 RX5 yX5_unpaid (WSy yX5_unpaid cX5_unpaid 1 (some .int))) := gV_of q_647 q_648 q_649 q_35 q_650
theorem gL_120 : GoodIn WU (va_wsS RL 120 yL_call (WSh yL_call cL_call 6 (some .int) [(0, 9, 10, 15), (0, 9, 15, 18), (0, 9, 20, 21), (0, 9, 25, 24)])) := gH_of q_288 q_289 q_34 q_290
theorem gL_128 : GoodIn WU (va_wsS RL 128 yL_some (WSy yL_some cL_some 2 (some .int))) := gS_of q_285 q_286 q_34 q_287
theorem gL_131 : GoodIn WU (va_wsS RL 131 yL_both (WSy yL_both cL_both 7 (some .int))) := gS_of q_658 q_659 q_34 q_660
theorem gL_135 : GoodIn WU (va_wsS RL 135 yL_all (WSy yL_all cL_all 5 (some .long))) := gS_of q_639 q_640 q_34 q_641
theorem gL_139 : GoodIn WU (va_wsS RL 139 yL_equities (WSy yL_equities cL_equities 4 (some .long))) := gS_of q_662 q_663 q_34 q_664
theorem gL_143 : GoodIn WU (wsV RL 143 RX5 yX5_evening (WSy yX5_evening cX5_evening 4 (some .int))) := gV_of q_677 q_678 q_679 q_35 q_680
theorem gL_146 : GoodIn WU (va_wsS RL 146 yL_standing (WSy yL_standing cL_standing 3 (some .int))) := gS_of q_688 q_689 q_34 q_690
theorem gL_150 : GoodIn WU (va_wsS RL 150 yL_shares (WSy yL_shares cL_shares 4 (some .long))) := gS_of q_691 q_692 q_34 q_693
theorem gL_153 : GoodIn WU (wsV RL 153 RX5 yX5_hour (WSy yX5_hour cX5_hour 3 (some .int))) := gV_of q_694 q_695 q_696 q_35 q_697
theorem gL_27 : GoodIn WU (wsV RL 27 RX5 yX5_tell (WSy yX5_tell cX5_tell 4 (some .int))) := gV_of q_298 q_299 q_300 q_35 q_301
theorem gL_33 : GoodIn WU (wsV RL 33 RX5 yX5_setMove (WSy yX5_setMove cX5_setMove 5 (some .int))) := gV_of q_323 q_324 q_325 q_35 q_326
theorem gL_37 : GoodIn WU (wsV RL 37 RX5 yX5_tellKind (WSy yX5_tellKind cX5_tellKind 5 (some .int))) := gV_of q_327 q_328 q_329 q_35 q_330
theorem gL_40 : GoodIn WU (wsV RL 40 RX5 yX5_pay (WSy yX5_pay cX5_pay 4 (some .int))) := gV_of q_346 q_347 q_348 q_35 q_349
theorem gL_43 : GoodIn WU (wsV RL 43 RX5 yX5_bring (WSy yX5_bring cX5_bring 7 (some .int))) := gV_of q_408 q_409 q_410 q_35 q_411
theorem gL_46 : GoodIn WU (wsV RL 46 RX5 yX5_contribute (WSy yX5_contribute cX5_contribute 4 (some .int))) := gV_of q_412 q_413 q_414 q_35 q_415
theorem gL_49 : GoodIn WU (wsV RL 49 RX5 yX5_place (WSy yX5_place cX5_place 8 (some .int))) := gV_of q_416 q_417 q_418 q_35 q_419
theorem gL_53 : GoodIn WU (wsV RL 53 RX5 yX5_cancel (WSy yX5_cancel cX5_cancel 4 (some .int))) := gV_of q_556 q_557 q_558 q_35 q_559
theorem gL_57 : GoodIn WU (wsV RL 57 RX5 yX5_halt (WSy yX5_halt cX5_halt 3 (some .int))) := gV_of q_560 q_561 q_562 q_35 q_563
theorem gL_61 : GoodIn WU (wsV RL 61 RX5 yX5_left (WSy yX5_left cX5_left 2 (some .int))) := gV_of q_189 q_190 q_191 q_35 q_192
theorem gL_64 : GoodIn WU (wsV RL 64 RX5 yX5_best (WSy yX5_best cX5_best 4 (some .int))) := gV_of q_568 q_569 q_570 q_35 q_571
theorem gL_67 : GoodIn WU (wsV RL 67 RX5 yX5_called (WSy yX5_called cX5_called 2 (some .int))) := gV_of q_587 q_588 q_589 q_35 q_590
theorem gL_70 : GoodIn WU (wsV RL 70 RX5 yX5_hasFailed (WSy yX5_hasFailed cX5_hasFailed 2 (some .boolean))) := gV_of q_591 q_592 q_593 q_35 q_594
theorem gL_74 : GoodIn WU (wsV RL 74 RX5 yX5_position (WSy yX5_position cX5_position 3 (some .int))) := gV_of q_595 q_596 q_597 q_35 q_598
theorem gL_77 : GoodIn WU (wsV RL 77 RX5 yX5_cash (WSy yX5_cash cX5_cash 2 (some .int))) := gV_of q_599 q_600 q_601 q_35 q_602
theorem gL_80 : GoodIn WU (wsV RL 80 RX5 yX5_equity (WSy yX5_equity cX5_equity 2 (some .int))) := gV_of q_603 q_604 q_605 q_35 q_606
theorem gL_83 : GoodIn WU (wsV RL 83 RX5 yX5_equityByTrades (WSy yX5_equityByTrades cX5_equityByTrades 5 (some .int))) := gV_of q_607 q_608 q_609 q_35 q_610
theorem gL_86 : GoodIn WU (wsV RL 86 RX5 yX5_margin (WSy yX5_margin cX5_margin 2 (some .int))) := gV_of q_615 q_616 q_617 q_35 q_618
theorem gL_89 : GoodIn WU (wsV RL 89 RX5 yX5_haircut (WSy yX5_haircut cX5_haircut 2 (some .int))) := gV_of q_619 q_620 q_621 q_35 q_622
theorem gL_9 : GoodIn WU (va_wsS RL 9 yL_does (WSy yL_does cL_does 5 (some .int))) := gS_of q_295 q_296 q_34 q_297
theorem gL_92 : GoodIn WU (wsV RL 92 RX5 yX5_collateral (WSy yX5_collateral cX5_collateral 2 (some .int))) := gV_of q_623 q_624 q_625 q_35 q_626
theorem gL_95 : GoodIn WU (wsV RL 95 RX5 yX5_free (WSy yX5_free cX5_free 2 (some .int))) := gV_of q_627 q_628 q_629 q_35 q_630
theorem gL_98 : GoodIn WU (wsV RL 98 RX5 yX5_share (WSy yX5_share cX5_share 2 (some .int))) := gV_of q_631 q_632 q_633 q_35 q_634
