/-! words of the tables, by their places; the fields of the classes; the words of calls -/
theorem q_0 : (Cond.selects "MarginCourt" ⟨"MarginCourt", "demandOrder", "(I)V"⟩ ⟨"MarginCourt", "demandOrder", "(I)V"⟩) ∈ WU := wu_mem (lw_in0 (List.mem_of_getElem? (i := 0) rfl)) rfl
theorem q_2 : (Cond.selects "MarginCourt" ⟨"MarginCourt", "freeOf", "(I)J"⟩ ⟨"MarginCourt", "freeOf", "(I)J"⟩) ∈ WU := wu_mem (lw_in0 (List.mem_of_getElem? (i := 2) rfl)) rfl
theorem q_3 : (Cond.selects "MarginCourt" ⟨"MarginCourt", "equityOf", "(I)J"⟩ ⟨"MarginCourt", "equityOf", "(I)J"⟩) ∈ WU := wu_mem (lw_in0 (List.mem_of_getElem? (i := 3) rfl)) rfl
theorem q_4 : (Cond.selects "MarginCourt" ⟨"MarginCourt", "differenceOf", "(LMarginCourt$Account;I)J"⟩ ⟨"MarginCourt", "differenceOf", "(LMarginCourt$Account;I)J"⟩) ∈ WU := wu_mem (lw_in0 (List.mem_of_getElem? (i := 4) rfl)) rfl
theorem q_5 : (Cond.selects "MarginCourt" ⟨"MarginCourt", "collateralOf", "(I)J"⟩ ⟨"MarginCourt", "collateralOf", "(I)J"⟩) ∈ WU := wu_mem (lw_in0 (List.mem_of_getElem? (i := 5) rfl)) rfl
theorem q_6 : (Cond.selects "MarginCourt" ⟨"MarginCourt", "worthOf", "(II)J"⟩ ⟨"MarginCourt", "worthOf", "(II)J"⟩) ∈ WU := wu_mem (lw_in0 (List.mem_of_getElem? (i := 6) rfl)) rfl
theorem q_7 : (Cond.selects "MarginCourt" ⟨"MarginCourt", "marginOf", "(I)J"⟩ ⟨"MarginCourt", "marginOf", "(I)J"⟩) ∈ WU := wu_mem (lw_in0 (List.mem_of_getElem? (i := 7) rfl)) rfl
theorem q_8 : (Cond.selects "MarginCourt" ⟨"MarginCourt", "restOf", "(IIZ)J"⟩ ⟨"MarginCourt", "restOf", "(IIZ)J"⟩) ∈ WU := wu_mem (lw_in0 (List.mem_of_getElem? (i := 8) rfl)) rfl
theorem q_9 : (Cond.selects "java/util/ArrayList" ⟨"java/util/ArrayList", "add", "(Ljava/lang/Object;[Ljava/lang/Object;I)V"⟩ ⟨"java/util/ArrayList", "add", "(Ljava/lang/Object;[Ljava/lang/Object;I)V"⟩) ∈ WU := wu_mem (lw_in0 (List.mem_of_getElem? (i := 9) rfl)) rfl
theorem q_10 : (Cond.selects "java/util/ArrayList" ⟨"java/util/ArrayList", "grow", "()[Ljava/lang/Object;"⟩ ⟨"java/util/ArrayList", "grow", "()[Ljava/lang/Object;"⟩) ∈ WU := wu_mem (lw_in0 (List.mem_of_getElem? (i := 10) rfl)) rfl
theorem q_11 : (Cond.selects "java/util/ArrayList" ⟨"java/util/ArrayList", "grow", "(I)[Ljava/lang/Object;"⟩ ⟨"java/util/ArrayList", "grow", "(I)[Ljava/lang/Object;"⟩) ∈ WU := wu_mem (lw_in0 (List.mem_of_getElem? (i := 11) rfl)) rfl
theorem q_12 : (Cond.selects "MarginCourt" ⟨"MarginCourt", "match", "(LMarginCourt$Order;)V"⟩ ⟨"MarginCourt", "match", "(LMarginCourt$Order;)V"⟩) ∈ WU := wu_mem (lw_in0 (List.mem_of_getElem? (i := 12) rfl)) rfl
theorem q_13 : (Cond.selects "MarginCourt" ⟨"MarginCourt", "bestResting", "(IZ)LMarginCourt$Order;"⟩ ⟨"MarginCourt", "bestResting", "(IZ)LMarginCourt$Order;"⟩) ∈ WU := wu_mem (lw_in0 (List.mem_of_getElem? (i := 13) rfl)) rfl
theorem q_14 : (Cond.selects "MarginCourt" ⟨"MarginCourt", "tradeWithResting", "(ILMarginCourt$Order;I)V"⟩ ⟨"MarginCourt", "tradeWithResting", "(ILMarginCourt$Order;I)V"⟩) ∈ WU := wu_mem (lw_in0 (List.mem_of_getElem? (i := 14) rfl)) rfl
theorem q_15 : (Cond.selects "MarginCourt" ⟨"MarginCourt", "trade", "(IIIII)V"⟩ ⟨"MarginCourt", "trade", "(IIIII)V"⟩) ∈ WU := wu_mem (lw_in0 (List.mem_of_getElem? (i := 15) rfl)) rfl
theorem q_16 : (Cond.selects "MarginCourt" ⟨"MarginCourt", "cancelOrdersFor", "(I)I"⟩ ⟨"MarginCourt", "cancelOrdersFor", "(I)I"⟩) ∈ WU := wu_mem (lw_in0 (List.mem_of_getElem? (i := 16) rfl)) rfl
theorem q_17 : (Cond.selects "MarginCourt" ⟨"MarginCourt", "gainOf", "(ILMarginCourt$Trade;)J"⟩ ⟨"MarginCourt", "gainOf", "(ILMarginCourt$Trade;)J"⟩) ∈ WU := wu_mem (lw_in0 (List.mem_of_getElem? (i := 17) rfl)) rfl
theorem q_18 : (Cond.selects "MarginCourt" ⟨"MarginCourt", "netPositions", "(LMarginCourt$Account;)J"⟩ ⟨"MarginCourt", "netPositions", "(LMarginCourt$Account;)J"⟩) ∈ WU := wu_mem (lw_in0 (List.mem_of_getElem? (i := 18) rfl)) rfl
theorem q_19 : (Cond.selects "MarginCourt" ⟨"MarginCourt", "countHour", "(I)I"⟩ ⟨"MarginCourt", "countHour", "(I)I"⟩) ∈ WU := wu_mem (lw_in0 (List.mem_of_getElem? (i := 19) rfl)) rfl
theorem q_20 : (Cond.selects "MarginCourt" ⟨"MarginCourt", "closeOut", "(I)V"⟩ ⟨"MarginCourt", "closeOut", "(I)V"⟩) ∈ WU := wu_mem (lw_in0 (List.mem_of_getElem? (i := 20) rfl)) rfl
theorem q_21 : (Cond.selects "MarginCourt" ⟨"MarginCourt", "cancelOrdersOf", "(I)V"⟩ ⟨"MarginCourt", "cancelOrdersOf", "(I)V"⟩) ∈ WU := wu_mem (lw_in0 (List.mem_of_getElem? (i := 21) rfl)) rfl
theorem q_22 : (Cond.selects "MarginCourt" ⟨"MarginCourt", "productsByRisk", "(I)[I"⟩ ⟨"MarginCourt", "productsByRisk", "(I)[I"⟩) ∈ WU := wu_mem (lw_in0 (List.mem_of_getElem? (i := 22) rfl)) rfl
theorem q_23 : (Cond.selects "MarginCourt" ⟨"MarginCourt", "goesAhead", "(III)Z"⟩ ⟨"MarginCourt", "goesAhead", "(III)Z"⟩) ∈ WU := wu_mem (lw_in0 (List.mem_of_getElem? (i := 23) rfl)) rfl
theorem q_24 : (Cond.selects "MarginCourt" ⟨"MarginCourt", "riskOf", "(II)J"⟩ ⟨"MarginCourt", "riskOf", "(II)J"⟩) ∈ WU := wu_mem (lw_in0 (List.mem_of_getElem? (i := 24) rfl)) rfl
theorem q_25 : (Cond.selects "MarginCourt" ⟨"MarginCourt", "closePosition", "(II)V"⟩ ⟨"MarginCourt", "closePosition", "(II)V"⟩) ∈ WU := wu_mem (lw_in0 (List.mem_of_getElem? (i := 25) rfl)) rfl
theorem q_26 : (Cond.selects "MarginCourt" ⟨"MarginCourt", "fail", "(I)V"⟩ ⟨"MarginCourt", "fail", "(I)V"⟩) ∈ WU := wu_mem (lw_in0 (List.mem_of_getElem? (i := 26) rfl)) rfl
theorem q_27 : (Cond.selects "MarginCourt" ⟨"MarginCourt", "memberWithMostFree", "()I"⟩ ⟨"MarginCourt", "memberWithMostFree", "()I"⟩) ∈ WU := wu_mem (lw_in0 (List.mem_of_getElem? (i := 27) rfl)) rfl
theorem q_28 : (Cond.selects "MarginCourt" ⟨"MarginCourt", "handOver", "(III)V"⟩ ⟨"MarginCourt", "handOver", "(III)V"⟩) ∈ WU := wu_mem (lw_in0 (List.mem_of_getElem? (i := 28) rfl)) rfl
theorem q_29 : (Cond.selects "MarginCourt" ⟨"MarginCourt", "drop", "(IIII)V"⟩ ⟨"MarginCourt", "drop", "(IIII)V"⟩) ∈ WU := wu_mem (lw_in0 (List.mem_of_getElem? (i := 29) rfl)) rfl
theorem q_30 : (Cond.selects "MarginCourt" ⟨"MarginCourt", "sellCollateral", "(I)V"⟩ ⟨"MarginCourt", "sellCollateral", "(I)V"⟩) ∈ WU := wu_mem (lw_in0 (List.mem_of_getElem? (i := 30) rfl)) rfl
theorem q_31 : (Cond.selects "MarginCourt" ⟨"MarginCourt", "coverLoss", "(LMarginCourt$Account;)V"⟩ ⟨"MarginCourt", "coverLoss", "(LMarginCourt$Account;)V"⟩) ∈ WU := wu_mem (lw_in0 (List.mem_of_getElem? (i := 31) rfl)) rfl
theorem q_32 : (Cond.selects "MarginCourt" ⟨"MarginCourt", "takeFromOthers", "(J)J"⟩ ⟨"MarginCourt", "takeFromOthers", "(J)J"⟩) ∈ WU := wu_mem (lw_in0 (List.mem_of_getElem? (i := 32) rfl)) rfl
theorem q_33 : (Cond.selects "MarginCourt" ⟨"MarginCourt", "sharesOfOthers", "()J"⟩ ⟨"MarginCourt", "sharesOfOthers", "()J"⟩) ∈ WU := wu_mem (lw_in0 (List.mem_of_getElem? (i := 33) rfl)) rfl
theorem q_35 : (Cond.initialized "MarginCourt") ∈ WU := wu_mem (lw_in1 (List.mem_of_getElem? (i := 1) rfl)) rfl
theorem q_36 : (Cond.initialized "java/util/AbstractCollection") ∈ WU := wu_mem (lw_in1 (List.mem_of_getElem? (i := 2) rfl)) rfl
theorem q_37 : (Cond.initialized "java/util/AbstractList") ∈ WU := wu_mem (lw_in1 (List.mem_of_getElem? (i := 3) rfl)) rfl
theorem q_38 : (Cond.initialized "java/util/ArrayList") ∈ WU := wu_mem (lw_in1 (List.mem_of_getElem? (i := 4) rfl)) rfl
theorem q_45 : (Cond.initialized "java/lang/IllegalArgumentException") ∈ WU := wu_mem (lw_in1 (List.mem_of_getElem? (i := 11) rfl)) rfl
theorem q_46 : (Cond.initialized "java/util/Objects") ∈ WU := wu_mem (lw_in1 (List.mem_of_getElem? (i := 12) rfl)) rfl
theorem q_47 : (Cond.initialized "jdk/internal/util/Preconditions") ∈ WU := wu_mem (lw_in1 (List.mem_of_getElem? (i := 13) rfl)) rfl
theorem q_48 : (Cond.initialized "java/lang/Math") ∈ WU := wu_mem (lw_in1 (List.mem_of_getElem? (i := 14) rfl)) rfl
theorem q_49 : (Cond.initialized "java/lang/IndexOutOfBoundsException") ∈ WU := wu_mem (lw_in1 (List.mem_of_getElem? (i := 15) rfl)) rfl
theorem q_50 : (Cond.initialized "java/lang/IllegalStateException") ∈ WU := wu_mem (lw_in1 (List.mem_of_getElem? (i := 16) rfl)) rfl
theorem q_51 : (Cond.initialized "MarginCourt$Order") ∈ WU := wu_mem (lw_in1 (List.mem_of_getElem? (i := 17) rfl)) rfl
theorem q_52 : (Cond.initialized "jdk/internal/util/ArraysSupport") ∈ WU := wu_mem (lw_in1 (List.mem_of_getElem? (i := 18) rfl)) rfl
theorem q_53 : (Cond.initialized "java/util/Arrays") ∈ WU := wu_mem (lw_in1 (List.mem_of_getElem? (i := 19) rfl)) rfl
theorem q_54 : (Cond.initialized "java/lang/System") ∈ WU := wu_mem (lw_in1 (List.mem_of_getElem? (i := 20) rfl)) rfl
theorem q_55 : (Cond.initialized "MarginCourt$Trade") ∈ WU := wu_mem (lw_in1 (List.mem_of_getElem? (i := 21) rfl)) rfl
theorem q_56 : (Cond.initialized "java/util/NoSuchElementException") ∈ WU := wu_mem (lw_in1 (List.mem_of_getElem? (i := 22) rfl)) rfl
theorem q_63 : (Cond.instanceMethod ⟨"java/lang/Object", "<init>", "()V"⟩) ∈ WU := wu_mem (lw_in1 (List.mem_of_getElem? (i := 29) rfl)) rfl
theorem q_64 : (Cond.code ⟨"java/lang/Object", "<init>", "()V"⟩ object_method_1_code 1 none) ∈ WU := wu_mem (lw_in1 (List.mem_of_getElem? (i := 30) rfl)) rfl
theorem q_76 : (Cond.methodLink "java/util/ArrayList" 1 ⟨"java/util/AbstractList", "<init>", "()V"⟩) ∈ WU := wu_mem (lw_in1 (List.mem_of_getElem? (i := 42) rfl)) rfl
theorem q_77 : (Cond.instanceMethod ⟨"java/util/AbstractList", "<init>", "()V"⟩) ∈ WU := wu_mem (lw_in1 (List.mem_of_getElem? (i := 43) rfl)) rfl
theorem q_78 : (Cond.code ⟨"java/util/AbstractList", "<init>", "()V"⟩ prog_21_method_1_code 1 none) ∈ WU := wu_mem (lw_in1 (List.mem_of_getElem? (i := 44) rfl)) rfl
theorem q_79 : (Cond.methodLink "java/util/AbstractList" 1 ⟨"java/util/AbstractCollection", "<init>", "()V"⟩) ∈ WU := wu_mem (lw_in1 (List.mem_of_getElem? (i := 45) rfl)) rfl
theorem q_80 : (Cond.instanceMethod ⟨"java/util/AbstractCollection", "<init>", "()V"⟩) ∈ WU := wu_mem (lw_in1 (List.mem_of_getElem? (i := 46) rfl)) rfl
theorem q_81 : (Cond.code ⟨"java/util/AbstractCollection", "<init>", "()V"⟩ prog_20_method_1_code 1 none) ∈ WU := wu_mem (lw_in1 (List.mem_of_getElem? (i := 47) rfl)) rfl
theorem q_82 : (Cond.methodLink "java/util/AbstractCollection" 1 ⟨"java/lang/Object", "<init>", "()V"⟩) ∈ WU := wu_mem (lw_in1 (List.mem_of_getElem? (i := 48) rfl)) rfl
theorem q_83 : (Cond.fieldLink "java/util/ArrayList" 39 "java/util/ArrayList" "DEFAULTCAPACITY_EMPTY_ELEMENTDATA" "[Ljava/lang/Object;") ∈ WU := wu_mem (lw_in1 (List.mem_of_getElem? (i := 49) rfl)) rfl
theorem q_85 : (Cond.fieldLink "java/util/ArrayList" 9 "java/util/ArrayList" "elementData" "[Ljava/lang/Object;") ∈ WU := wu_mem (lw_in1 (List.mem_of_getElem? (i := 51) rfl)) rfl
theorem q_86 : (Cond.fieldLink "java/util/ArrayList" 48 "java/util/ArrayList" "size" "I") ∈ WU := wu_mem (lw_in1 (List.mem_of_getElem? (i := 52) rfl)) rfl
theorem q_87 : (Cond.fieldLink "java/util/AbstractList" 7 "java/util/AbstractList" "modCount" "I") ∈ WU := wu_mem (lw_in1 (List.mem_of_getElem? (i := 53) rfl)) rfl
theorem q_88 : (Cond.fieldLink "java/util/ArrayList" 63 "java/util/ArrayList" "modCount" "I") ∈ WU := wu_mem (lw_in1 (List.mem_of_getElem? (i := 54) rfl)) rfl
theorem q_89 : (Cond.sameField "java/util/ArrayList" "java/util/AbstractList" "modCount" "I") ∈ WU := wu_mem (lw_in1 (List.mem_of_getElem? (i := 55) rfl)) rfl
theorem q_101 : (Cond.methodLink "MarginCourt$Account" 3 ⟨"java/lang/Object", "<init>", "()V"⟩) ∈ WU := wu_mem (lw_in1 (List.mem_of_getElem? (i := 67) rfl)) rfl
theorem q_102 : (Cond.fieldLinkNest "MarginCourt" 94 "MarginCourt$Account" "cash" "J" "MarginCourt") ∈ NWL := nwl_mem (lw_in1 (List.mem_of_getElem? (i := 68) rfl)) rfl
theorem q_103 : (Cond.fieldLinkNest "MarginCourt" 105 "MarginCourt$Account" "share" "J" "MarginCourt") ∈ NWL := nwl_mem (lw_in1 (List.mem_of_getElem? (i := 69) rfl)) rfl
theorem q_104 : (Cond.fieldLinkNest "MarginCourt" 177 "MarginCourt$Account" "outside" "J" "MarginCourt") ∈ NWL := nwl_mem (lw_in1 (List.mem_of_getElem? (i := 70) rfl)) rfl
theorem q_105 : (Cond.fieldLinkNest "MarginCourt" 78 "MarginCourt$Account" "failed" "Z" "MarginCourt") ∈ NWL := nwl_mem (lw_in1 (List.mem_of_getElem? (i := 71) rfl)) rfl
theorem q_106 : (Cond.fieldLink "MarginCourt$Account" 9 "MarginCourt$Account" "hoursCalled" "I") ∈ WU := wu_mem (lw_in1 (List.mem_of_getElem? (i := 72) rfl)) rfl
theorem q_107 : (Cond.fieldLinkNest "MarginCourt" 168 "MarginCourt$Account" "hoursCalled" "I" "MarginCourt") ∈ NWL := nwl_mem (lw_in1 (List.mem_of_getElem? (i := 73) rfl)) rfl
theorem q_108 : (Cond.fieldLink "MarginCourt$Account" 15 "MarginCourt$Account" "units" "[I") ∈ WU := wu_mem (lw_in1 (List.mem_of_getElem? (i := 74) rfl)) rfl
theorem q_109 : (Cond.fieldLinkNest "MarginCourt" 98 "MarginCourt$Account" "units" "[I" "MarginCourt") ∈ NWL := nwl_mem (lw_in1 (List.mem_of_getElem? (i := 75) rfl)) rfl
theorem q_110 : (Cond.fieldLink "MarginCourt$Account" 19 "MarginCourt$Account" "positions" "[I") ∈ WU := wu_mem (lw_in1 (List.mem_of_getElem? (i := 76) rfl)) rfl
theorem q_111 : (Cond.fieldLinkNest "MarginCourt" 171 "MarginCourt$Account" "positions" "[I" "MarginCourt") ∈ NWL := nwl_mem (lw_in1 (List.mem_of_getElem? (i := 77) rfl)) rfl
theorem q_112 : (Cond.fieldLink "MarginCourt$Account" 22 "MarginCourt$Account" "paidSums" "[J") ∈ WU := wu_mem (lw_in1 (List.mem_of_getElem? (i := 78) rfl)) rfl
theorem q_113 : (Cond.fieldLinkNest "MarginCourt" 243 "MarginCourt$Account" "paidSums" "[J" "MarginCourt") ∈ NWL := nwl_mem (lw_in1 (List.mem_of_getElem? (i := 79) rfl)) rfl
theorem q_131 : (Cond.arrayClass .long) ∈ WU := wu_mem (lw_in1 (List.mem_of_getElem? (i := 97) rfl)) rfl
theorem q_132 : (Cond.arrayClass .int) ∈ WU := wu_mem (lw_in1 (List.mem_of_getElem? (i := 98) rfl)) rfl
theorem q_137 : (Cond.methodLink "MarginCourt$Product" 3 ⟨"java/lang/Object", "<init>", "()V"⟩) ∈ WU := wu_mem (lw_in1 (List.mem_of_getElem? (i := 103) rfl)) rfl
theorem q_138 : (Cond.fieldLink "MarginCourt$Product" 9 "MarginCourt$Product" "price" "I") ∈ WU := wu_mem (lw_in1 (List.mem_of_getElem? (i := 104) rfl)) rfl
theorem q_139 : (Cond.fieldLinkNest "MarginCourt" 52 "MarginCourt$Product" "price" "I" "MarginCourt") ∈ NWL := nwl_mem (lw_in1 (List.mem_of_getElem? (i := 105) rfl)) rfl
theorem q_140 : (Cond.fieldLinkNest "MarginCourt" 112 "MarginCourt$Product" "halted" "Z" "MarginCourt") ∈ NWL := nwl_mem (lw_in1 (List.mem_of_getElem? (i := 106) rfl)) rfl
theorem q_141 : (Cond.fieldLink "MarginCourt$Product" 15 "MarginCourt$Product" "moves" "[I") ∈ WU := wu_mem (lw_in1 (List.mem_of_getElem? (i := 107) rfl)) rfl
theorem q_142 : (Cond.fieldLinkNest "MarginCourt" 56 "MarginCourt$Product" "moves" "[I" "MarginCourt") ∈ NWL := nwl_mem (lw_in1 (List.mem_of_getElem? (i := 108) rfl)) rfl
theorem q_154 : (Cond.methodLink "MarginCourt$Kind" 3 ⟨"java/lang/Object", "<init>", "()V"⟩) ∈ WU := wu_mem (lw_in1 (List.mem_of_getElem? (i := 120) rfl)) rfl
theorem q_155 : (Cond.fieldLink "MarginCourt$Kind" 9 "MarginCourt$Kind" "lastPrices" "[I") ∈ WU := wu_mem (lw_in1 (List.mem_of_getElem? (i := 121) rfl)) rfl
theorem q_156 : (Cond.fieldLinkNest "MarginCourt" 63 "MarginCourt$Kind" "lastPrices" "[I" "MarginCourt") ∈ NWL := nwl_mem (lw_in1 (List.mem_of_getElem? (i := 122) rfl)) rfl
theorem q_157 : (Cond.fieldLink "MarginCourt$Kind" 15 "MarginCourt$Kind" "haircut" "I") ∈ WU := wu_mem (lw_in1 (List.mem_of_getElem? (i := 123) rfl)) rfl
theorem q_158 : (Cond.fieldLinkNest "MarginCourt" 70 "MarginCourt$Kind" "haircut" "I" "MarginCourt") ∈ NWL := nwl_mem (lw_in1 (List.mem_of_getElem? (i := 124) rfl)) rfl
theorem q_164 : (Cond.fieldLink "MarginCourt" 11 "MarginCourt" "accounts" "[LMarginCourt$Account;") ∈ WU := wu_mem (lw_in1 (List.mem_of_getElem? (i := 130) rfl)) rfl
theorem q_165 : (Cond.fieldLink "MarginCourt" 17 "MarginCourt" "products" "[LMarginCourt$Product;") ∈ WU := wu_mem (lw_in1 (List.mem_of_getElem? (i := 131) rfl)) rfl
theorem q_166 : (Cond.fieldLink "MarginCourt" 23 "MarginCourt" "kinds" "[LMarginCourt$Kind;") ∈ WU := wu_mem (lw_in1 (List.mem_of_getElem? (i := 132) rfl)) rfl
theorem q_167 : (Cond.fieldLink "MarginCourt" 30 "MarginCourt" "orders" "Ljava/util/ArrayList;") ∈ WU := wu_mem (lw_in1 (List.mem_of_getElem? (i := 133) rfl)) rfl
theorem q_168 : (Cond.fieldLink "MarginCourt" 34 "MarginCourt" "log" "Ljava/util/ArrayList;") ∈ WU := wu_mem (lw_in1 (List.mem_of_getElem? (i := 134) rfl)) rfl
theorem q_169 : (Cond.fieldLink "MarginCourt" 37 "MarginCourt" "lossesByMove" "[J") ∈ WU := wu_mem (lw_in1 (List.mem_of_getElem? (i := 135) rfl)) rfl
theorem q_170 : (Cond.fieldLink "MarginCourt" 152 "MarginCourt" "tradeCount" "I") ∈ WU := wu_mem (lw_in1 (List.mem_of_getElem? (i := 136) rfl)) rfl
theorem q_171 : (Cond.fieldLink "MarginCourt" 192 "MarginCourt" "unpaidLoss" "J") ∈ WU := wu_mem (lw_in1 (List.mem_of_getElem? (i := 137) rfl)) rfl
theorem q_193 : (Cond.methodLink "MarginCourt" 128 ⟨"MarginCourt", "demandOrder", "(I)V"⟩) ∈ WU := wu_mem (lw_in1 (List.mem_of_getElem? (i := 159) rfl)) rfl
theorem q_195 : (Cond.instanceMethod ⟨"MarginCourt", "demandOrder", "(I)V"⟩) ∈ WU := wu_mem (lw_in1 (List.mem_of_getElem? (i := 161) rfl)) rfl
theorem q_196 : (Cond.code ⟨"MarginCourt", "demandOrder", "(I)V"⟩ prog_1_method_33_code 2 none) ∈ WU := wu_mem (lw_in1 (List.mem_of_getElem? (i := 162) rfl)) rfl
theorem q_197 : (Cond.methodLink "MarginCourt" 108 ⟨"java/util/ArrayList", "size", "()I"⟩) ∈ WU := wu_mem (lw_in1 (List.mem_of_getElem? (i := 163) rfl)) rfl
theorem q_198 : (Cond.instanceMethod ⟨"java/util/ArrayList", "size", "()I"⟩) ∈ WU := wu_mem (lw_in1 (List.mem_of_getElem? (i := 164) rfl)) rfl
theorem q_199 : (Cond.selects "java/util/ArrayList" ⟨"java/util/ArrayList", "size", "()I"⟩ ⟨"java/util/ArrayList", "size", "()I"⟩) ∈ WU := wu_mem (lw_in1 (List.mem_of_getElem? (i := 165) rfl)) rfl
theorem q_200 : (Cond.code ⟨"java/util/ArrayList", "size", "()I"⟩ prog_22_method_8_code 1 (some .int)) ∈ WU := wu_mem (lw_in1 (List.mem_of_getElem? (i := 166) rfl)) rfl
theorem q_201 : (Cond.classLink "MarginCourt" 201 "java/lang/IndexOutOfBoundsException") ∈ WU := wu_mem (lw_in1 (List.mem_of_getElem? (i := 167) rfl)) rfl
theorem q_265 : (Cond.methodLink "MarginCourt" 131 ⟨"java/util/ArrayList", "get", "(I)Ljava/lang/Object;"⟩) ∈ WU := wu_mem (lw_in1 (List.mem_of_getElem? (i := 231) rfl)) rfl
theorem q_266 : (Cond.instanceMethod ⟨"java/util/ArrayList", "get", "(I)Ljava/lang/Object;"⟩) ∈ WU := wu_mem (lw_in1 (List.mem_of_getElem? (i := 232) rfl)) rfl
theorem q_267 : (Cond.selects "java/util/ArrayList" ⟨"java/util/ArrayList", "get", "(I)Ljava/lang/Object;"⟩ ⟨"java/util/ArrayList", "get", "(I)Ljava/lang/Object;"⟩) ∈ WU := wu_mem (lw_in1 (List.mem_of_getElem? (i := 233) rfl)) rfl
theorem q_268 : (Cond.code ⟨"java/util/ArrayList", "get", "(I)Ljava/lang/Object;"⟩ prog_22_method_20_code 2 (some (.object "java/lang/Object"))) ∈ WU := wu_mem (lw_in1 (List.mem_of_getElem? (i := 234) rfl)) rfl
theorem q_269 : (Cond.methodLink "java/util/ArrayList" 118 ⟨"java/util/Objects", "checkIndex", "(II)I"⟩) ∈ WU := wu_mem (lw_in1 (List.mem_of_getElem? (i := 235) rfl)) rfl
theorem q_270 : (Cond.static ⟨"java/util/Objects", "checkIndex", "(II)I"⟩) ∈ WU := wu_mem (lw_in1 (List.mem_of_getElem? (i := 236) rfl)) rfl
theorem q_271 : (Cond.code ⟨"java/util/Objects", "checkIndex", "(II)I"⟩ prog_27_method_17_code 2 (some .int)) ∈ WU := wu_mem (lw_in1 (List.mem_of_getElem? (i := 237) rfl)) rfl
theorem q_272 : (Cond.methodLink "java/util/Objects" 105 ⟨"jdk/internal/util/Preconditions", "checkIndex", "(IILjava/util/function/BiFunction;)I"⟩) ∈ WU := wu_mem (lw_in1 (List.mem_of_getElem? (i := 238) rfl)) rfl
theorem q_273 : (Cond.static ⟨"jdk/internal/util/Preconditions", "checkIndex", "(IILjava/util/function/BiFunction;)I"⟩) ∈ WU := wu_mem (lw_in1 (List.mem_of_getElem? (i := 239) rfl)) rfl
theorem q_274 : (Cond.code ⟨"jdk/internal/util/Preconditions", "checkIndex", "(IILjava/util/function/BiFunction;)I"⟩ prog_31_method_11_code 3 (some .int)) ∈ WU := wu_mem (lw_in2 (List.mem_of_getElem? (i := 0) rfl)) rfl
theorem q_275 : (Cond.methodLink "java/util/ArrayList" 123 ⟨"java/util/ArrayList", "elementData", "(I)Ljava/lang/Object;"⟩) ∈ WU := wu_mem (lw_in2 (List.mem_of_getElem? (i := 1) rfl)) rfl
theorem q_276 : (Cond.instanceMethod ⟨"java/util/ArrayList", "elementData", "(I)Ljava/lang/Object;"⟩) ∈ WU := wu_mem (lw_in2 (List.mem_of_getElem? (i := 2) rfl)) rfl
theorem q_277 : (Cond.selects "java/util/ArrayList" ⟨"java/util/ArrayList", "elementData", "(I)Ljava/lang/Object;"⟩ ⟨"java/util/ArrayList", "elementData", "(I)Ljava/lang/Object;"⟩) ∈ WU := wu_mem (lw_in2 (List.mem_of_getElem? (i := 3) rfl)) rfl
theorem q_278 : (Cond.code ⟨"java/util/ArrayList", "elementData", "(I)Ljava/lang/Object;"⟩ prog_22_method_18_code 2 (some (.object "java/lang/Object"))) ∈ WU := wu_mem (lw_in2 (List.mem_of_getElem? (i := 4) rfl)) rfl
theorem q_279 : (Cond.classLink "MarginCourt" 115 "MarginCourt$Order") ∈ WU := wu_mem (lw_in2 (List.mem_of_getElem? (i := 5) rfl)) rfl
theorem q_302 : (Cond.methodLink "MarginCourt" 44 ⟨"MarginCourt", "demandProduct", "(I)V"⟩) ∈ WU := wu_mem (lw_in2 (List.mem_of_getElem? (i := 28) rfl)) rfl
theorem q_303 : (Cond.static ⟨"MarginCourt", "demandProduct", "(I)V"⟩) ∈ WU := wu_mem (lw_in2 (List.mem_of_getElem? (i := 29) rfl)) rfl
theorem q_304 : (Cond.code ⟨"MarginCourt", "demandProduct", "(I)V"⟩ prog_1_method_29_code 1 none) ∈ WU := wu_mem (lw_in2 (List.mem_of_getElem? (i := 30) rfl)) rfl
theorem q_305 : (Cond.methodLink "MarginCourt" 48 ⟨"MarginCourt", "demandWithin", "(III)V"⟩) ∈ WU := wu_mem (lw_in2 (List.mem_of_getElem? (i := 31) rfl)) rfl
theorem q_306 : (Cond.static ⟨"MarginCourt", "demandWithin", "(III)V"⟩) ∈ WU := wu_mem (lw_in2 (List.mem_of_getElem? (i := 32) rfl)) rfl
theorem q_307 : (Cond.code ⟨"MarginCourt", "demandWithin", "(III)V"⟩ prog_1_method_31_code 3 none) ∈ WU := wu_mem (lw_in2 (List.mem_of_getElem? (i := 33) rfl)) rfl
theorem q_308 : (Cond.classLink "MarginCourt" 195 "java/lang/IllegalArgumentException") ∈ WU := wu_mem (lw_in2 (List.mem_of_getElem? (i := 34) rfl)) rfl
theorem q_331 : (Cond.methodLink "MarginCourt" 60 ⟨"MarginCourt", "demandKind", "(I)V"⟩) ∈ WU := wu_mem (lw_in2 (List.mem_of_getElem? (i := 57) rfl)) rfl
theorem q_332 : (Cond.static ⟨"MarginCourt", "demandKind", "(I)V"⟩) ∈ WU := wu_mem (lw_in2 (List.mem_of_getElem? (i := 58) rfl)) rfl
theorem q_333 : (Cond.code ⟨"MarginCourt", "demandKind", "(I)V"⟩ prog_1_method_30_code 1 none) ∈ WU := wu_mem (lw_in2 (List.mem_of_getElem? (i := 59) rfl)) rfl
theorem q_334 : (Cond.methodLink "MarginCourt" 66 ⟨"MarginCourt", "haircutBy", "([II)I"⟩) ∈ WU := wu_mem (lw_in2 (List.mem_of_getElem? (i := 60) rfl)) rfl
theorem q_335 : (Cond.static ⟨"MarginCourt", "haircutBy", "([II)I"⟩) ∈ WU := wu_mem (lw_in2 (List.mem_of_getElem? (i := 61) rfl)) rfl
theorem q_336 : (Cond.code ⟨"MarginCourt", "haircutBy", "([II)I"⟩ prog_1_method_49_code 5 (some .int)) ∈ WU := wu_mem (lw_in2 (List.mem_of_getElem? (i := 62) rfl)) rfl
theorem q_337 : (Cond.methodLink "MarginCourt" 263 ⟨"java/lang/Math", "max", "(II)I"⟩) ∈ WU := wu_mem (lw_in2 (List.mem_of_getElem? (i := 63) rfl)) rfl
theorem q_338 : (Cond.static ⟨"java/lang/Math", "max", "(II)I"⟩) ∈ WU := wu_mem (lw_in2 (List.mem_of_getElem? (i := 64) rfl)) rfl
theorem q_339 : (Cond.code ⟨"java/lang/Math", "max", "(II)I"⟩ prog_16_method_65_code 2 (some .int)) ∈ WU := wu_mem (lw_in2 (List.mem_of_getElem? (i := 65) rfl)) rfl
theorem q_340 : (Cond.methodLink "MarginCourt" 223 ⟨"java/lang/Math", "min", "(II)I"⟩) ∈ WU := wu_mem (lw_in2 (List.mem_of_getElem? (i := 66) rfl)) rfl
theorem q_341 : (Cond.static ⟨"java/lang/Math", "min", "(II)I"⟩) ∈ WU := wu_mem (lw_in2 (List.mem_of_getElem? (i := 67) rfl)) rfl
theorem q_342 : (Cond.code ⟨"java/lang/Math", "min", "(II)I"⟩ prog_16_method_69_code 2 (some .int)) ∈ WU := wu_mem (lw_in2 (List.mem_of_getElem? (i := 68) rfl)) rfl
theorem q_343 : (Cond.methodLink "MarginCourt" 266 ⟨"MarginCourt", "dividedUp", "(II)I"⟩) ∈ WU := wu_mem (lw_in2 (List.mem_of_getElem? (i := 69) rfl)) rfl
theorem q_344 : (Cond.static ⟨"MarginCourt", "dividedUp", "(II)I"⟩) ∈ WU := wu_mem (lw_in2 (List.mem_of_getElem? (i := 70) rfl)) rfl
theorem q_345 : (Cond.code ⟨"MarginCourt", "dividedUp", "(II)I"⟩ prog_1_method_50_code 2 (some .int)) ∈ WU := wu_mem (lw_in2 (List.mem_of_getElem? (i := 71) rfl)) rfl
theorem q_350 : (Cond.methodLink "MarginCourt" 73 ⟨"MarginCourt", "demandMember", "(I)V"⟩) ∈ WU := wu_mem (lw_in2 (List.mem_of_getElem? (i := 76) rfl)) rfl
theorem q_351 : (Cond.static ⟨"MarginCourt", "demandMember", "(I)V"⟩) ∈ WU := wu_mem (lw_in2 (List.mem_of_getElem? (i := 77) rfl)) rfl
theorem q_352 : (Cond.code ⟨"MarginCourt", "demandMember", "(I)V"⟩ prog_1_method_28_code 1 none) ∈ WU := wu_mem (lw_in2 (List.mem_of_getElem? (i := 78) rfl)) rfl
theorem q_353 : (Cond.constant "MarginCourt" 76 (-100000 : Int32)) ∈ WU := wu_mem (lw_in2 (List.mem_of_getElem? (i := 79) rfl)) rfl
theorem q_354 : (Cond.constant "MarginCourt" 77 (100000 : Int32)) ∈ WU := wu_mem (lw_in2 (List.mem_of_getElem? (i := 80) rfl)) rfl
theorem q_355 : (Cond.methodLink "MarginCourt" 82 ⟨"MarginCourt", "demandState", "(Z)V"⟩) ∈ WU := wu_mem (lw_in2 (List.mem_of_getElem? (i := 81) rfl)) rfl
theorem q_356 : (Cond.static ⟨"MarginCourt", "demandState", "(Z)V"⟩) ∈ WU := wu_mem (lw_in2 (List.mem_of_getElem? (i := 82) rfl)) rfl
theorem q_357 : (Cond.code ⟨"MarginCourt", "demandState", "(Z)V"⟩ prog_1_method_32_code 1 none) ∈ WU := wu_mem (lw_in2 (List.mem_of_getElem? (i := 83) rfl)) rfl
theorem q_358 : (Cond.classLink "MarginCourt" 198 "java/lang/IllegalStateException") ∈ WU := wu_mem (lw_in2 (List.mem_of_getElem? (i := 84) rfl)) rfl
theorem q_373 : (Cond.methodLink "MarginCourt" 86 ⟨"MarginCourt", "freeOf", "(I)J"⟩) ∈ WU := wu_mem (lw_in2 (List.mem_of_getElem? (i := 99) rfl)) rfl
theorem q_375 : (Cond.instanceMethod ⟨"MarginCourt", "freeOf", "(I)J"⟩) ∈ WU := wu_mem (lw_in2 (List.mem_of_getElem? (i := 101) rfl)) rfl
theorem q_376 : (Cond.code ⟨"MarginCourt", "freeOf", "(I)J"⟩ prog_1_method_43_code 2 (some .long)) ∈ WU := wu_mem (lw_in2 (List.mem_of_getElem? (i := 102) rfl)) rfl
theorem q_377 : (Cond.methodLink "MarginCourt" 174 ⟨"MarginCourt", "equityOf", "(I)J"⟩) ∈ WU := wu_mem (lw_in2 (List.mem_of_getElem? (i := 103) rfl)) rfl
theorem q_379 : (Cond.instanceMethod ⟨"MarginCourt", "equityOf", "(I)J"⟩) ∈ WU := wu_mem (lw_in2 (List.mem_of_getElem? (i := 105) rfl)) rfl
theorem q_380 : (Cond.code ⟨"MarginCourt", "equityOf", "(I)J"⟩ prog_1_method_44_code 6 (some .long)) ∈ WU := wu_mem (lw_in2 (List.mem_of_getElem? (i := 106) rfl)) rfl
theorem q_381 : (Cond.methodLink "MarginCourt" 246 ⟨"MarginCourt", "differenceOf", "(LMarginCourt$Account;I)J"⟩) ∈ WU := wu_mem (lw_in2 (List.mem_of_getElem? (i := 107) rfl)) rfl
theorem q_383 : (Cond.instanceMethod ⟨"MarginCourt", "differenceOf", "(LMarginCourt$Account;I)J"⟩) ∈ WU := wu_mem (lw_in2 (List.mem_of_getElem? (i := 109) rfl)) rfl
theorem q_384 : (Cond.code ⟨"MarginCourt", "differenceOf", "(LMarginCourt$Account;I)J"⟩ prog_1_method_45_code 3 (some .long)) ∈ WU := wu_mem (lw_in2 (List.mem_of_getElem? (i := 110) rfl)) rfl
theorem q_385 : (Cond.methodLink "MarginCourt" 189 ⟨"MarginCourt", "collateralOf", "(I)J"⟩) ∈ WU := wu_mem (lw_in2 (List.mem_of_getElem? (i := 111) rfl)) rfl
theorem q_387 : (Cond.instanceMethod ⟨"MarginCourt", "collateralOf", "(I)J"⟩) ∈ WU := wu_mem (lw_in2 (List.mem_of_getElem? (i := 113) rfl)) rfl
theorem q_388 : (Cond.code ⟨"MarginCourt", "collateralOf", "(I)J"⟩ prog_1_method_47_code 5 (some .long)) ∈ WU := wu_mem (lw_in2 (List.mem_of_getElem? (i := 114) rfl)) rfl
theorem q_389 : (Cond.methodLink "MarginCourt" 101 ⟨"MarginCourt", "worthOf", "(II)J"⟩) ∈ WU := wu_mem (lw_in2 (List.mem_of_getElem? (i := 115) rfl)) rfl
theorem q_391 : (Cond.instanceMethod ⟨"MarginCourt", "worthOf", "(II)J"⟩) ∈ WU := wu_mem (lw_in2 (List.mem_of_getElem? (i := 117) rfl)) rfl
theorem q_392 : (Cond.code ⟨"MarginCourt", "worthOf", "(II)J"⟩ prog_1_method_48_code 4 (some .long)) ∈ WU := wu_mem (lw_in2 (List.mem_of_getElem? (i := 118) rfl)) rfl
theorem q_393 : (Cond.constantLong "MarginCourt" 261 (100 : Int64)) ∈ WU := wu_mem (lw_in2 (List.mem_of_getElem? (i := 119) rfl)) rfl
theorem q_394 : (Cond.methodLink "MarginCourt" 186 ⟨"MarginCourt", "marginOf", "(I)J"⟩) ∈ WU := wu_mem (lw_in2 (List.mem_of_getElem? (i := 120) rfl)) rfl
theorem q_396 : (Cond.instanceMethod ⟨"MarginCourt", "marginOf", "(I)J"⟩) ∈ WU := wu_mem (lw_in2 (List.mem_of_getElem? (i := 122) rfl)) rfl
theorem q_397 : (Cond.code ⟨"MarginCourt", "marginOf", "(I)J"⟩ prog_1_method_51_code 12 (some .long)) ∈ WU := wu_mem (lw_in2 (List.mem_of_getElem? (i := 123) rfl)) rfl
theorem q_398 : (Cond.methodLink "MarginCourt" 269 ⟨"MarginCourt", "restOf", "(IIZ)J"⟩) ∈ WU := wu_mem (lw_in2 (List.mem_of_getElem? (i := 124) rfl)) rfl
theorem q_400 : (Cond.instanceMethod ⟨"MarginCourt", "restOf", "(IIZ)J"⟩) ∈ WU := wu_mem (lw_in2 (List.mem_of_getElem? (i := 126) rfl)) rfl
theorem q_401 : (Cond.code ⟨"MarginCourt", "restOf", "(IIZ)J"⟩ prog_1_method_52_code 8 (some .long)) ∈ WU := wu_mem (lw_in2 (List.mem_of_getElem? (i := 127) rfl)) rfl
theorem q_402 : (Cond.methodLink "MarginCourt" 273 ⟨"java/lang/Math", "max", "(JJ)J"⟩) ∈ WU := wu_mem (lw_in2 (List.mem_of_getElem? (i := 128) rfl)) rfl
theorem q_403 : (Cond.static ⟨"java/lang/Math", "max", "(JJ)J"⟩) ∈ WU := wu_mem (lw_in2 (List.mem_of_getElem? (i := 129) rfl)) rfl
theorem q_404 : (Cond.code ⟨"java/lang/Math", "max", "(JJ)J"⟩ prog_16_method_66_code 4 (some .long)) ∈ WU := wu_mem (lw_in2 (List.mem_of_getElem? (i := 130) rfl)) rfl
theorem q_405 : (Cond.methodLink "MarginCourt" 90 ⟨"MarginCourt", "receiveFromOutside", "(LMarginCourt$Account;J)V"⟩) ∈ WU := wu_mem (lw_in2 (List.mem_of_getElem? (i := 131) rfl)) rfl
theorem q_406 : (Cond.static ⟨"MarginCourt", "receiveFromOutside", "(LMarginCourt$Account;J)V"⟩) ∈ WU := wu_mem (lw_in2 (List.mem_of_getElem? (i := 132) rfl)) rfl
theorem q_407 : (Cond.code ⟨"MarginCourt", "receiveFromOutside", "(LMarginCourt$Account;J)V"⟩ prog_1_method_53_code 3 none) ∈ WU := wu_mem (lw_in2 (List.mem_of_getElem? (i := 133) rfl)) rfl
theorem q_420 : (Cond.instantiable "MarginCourt$Order" 6) ∈ WU := wu_mem (lw_in2 (List.mem_of_getElem? (i := 146) rfl)) rfl
theorem q_421 : (Cond.methodLinkNest "MarginCourt" 117 ⟨"MarginCourt$Order", "<init>", "(IIIZII)V"⟩ "MarginCourt") ∈ NWL := nwl_mem (lw_in2 (List.mem_of_getElem? (i := 147) rfl)) rfl
theorem q_422 : (Cond.instanceMethod ⟨"MarginCourt$Order", "<init>", "(IIIZII)V"⟩) ∈ WU := wu_mem (lw_in2 (List.mem_of_getElem? (i := 148) rfl)) rfl
theorem q_423 : (Cond.code ⟨"MarginCourt$Order", "<init>", "(IIIZII)V"⟩ prog_4_method_1_code 7 none) ∈ WU := wu_mem (lw_in2 (List.mem_of_getElem? (i := 149) rfl)) rfl
theorem q_424 : (Cond.methodLink "MarginCourt$Order" 1 ⟨"java/lang/Object", "<init>", "()V"⟩) ∈ WU := wu_mem (lw_in2 (List.mem_of_getElem? (i := 150) rfl)) rfl
theorem q_425 : (Cond.fieldLink "MarginCourt$Order" 7 "MarginCourt$Order" "number" "I") ∈ WU := wu_mem (lw_in2 (List.mem_of_getElem? (i := 151) rfl)) rfl
theorem q_426 : (Cond.fieldLinkNest "MarginCourt" 149 "MarginCourt$Order" "number" "I" "MarginCourt") ∈ NWL := nwl_mem (lw_in2 (List.mem_of_getElem? (i := 152) rfl)) rfl
theorem q_427 : (Cond.fieldLink "MarginCourt$Order" 13 "MarginCourt$Order" "member" "I") ∈ WU := wu_mem (lw_in2 (List.mem_of_getElem? (i := 153) rfl)) rfl
theorem q_428 : (Cond.fieldLinkNest "MarginCourt" 220 "MarginCourt$Order" "member" "I" "MarginCourt") ∈ NWL := nwl_mem (lw_in2 (List.mem_of_getElem? (i := 154) rfl)) rfl
theorem q_429 : (Cond.fieldLink "MarginCourt$Order" 16 "MarginCourt$Order" "product" "I") ∈ WU := wu_mem (lw_in2 (List.mem_of_getElem? (i := 155) rfl)) rfl
theorem q_430 : (Cond.fieldLinkNest "MarginCourt" 204 "MarginCourt$Order" "product" "I" "MarginCourt") ∈ NWL := nwl_mem (lw_in2 (List.mem_of_getElem? (i := 156) rfl)) rfl
theorem q_431 : (Cond.fieldLink "MarginCourt$Order" 19 "MarginCourt$Order" "buys" "Z") ∈ WU := wu_mem (lw_in2 (List.mem_of_getElem? (i := 157) rfl)) rfl
theorem q_432 : (Cond.fieldLinkNest "MarginCourt" 207 "MarginCourt$Order" "buys" "Z" "MarginCourt") ∈ NWL := nwl_mem (lw_in2 (List.mem_of_getElem? (i := 158) rfl)) rfl
theorem q_433 : (Cond.fieldLink "MarginCourt$Order" 23 "MarginCourt$Order" "limit" "I") ∈ WU := wu_mem (lw_in2 (List.mem_of_getElem? (i := 159) rfl)) rfl
theorem q_434 : (Cond.fieldLinkNest "MarginCourt" 214 "MarginCourt$Order" "limit" "I" "MarginCourt") ∈ NWL := nwl_mem (lw_in2 (List.mem_of_getElem? (i := 160) rfl)) rfl
theorem q_435 : (Cond.fieldLink "MarginCourt$Order" 26 "MarginCourt$Order" "rest" "I") ∈ WU := wu_mem (lw_in2 (List.mem_of_getElem? (i := 161) rfl)) rfl
theorem q_436 : (Cond.fieldLinkNest "MarginCourt" 135 "MarginCourt$Order" "rest" "I" "MarginCourt") ∈ NWL := nwl_mem (lw_in2 (List.mem_of_getElem? (i := 162) rfl)) rfl
theorem q_450 : (Cond.methodLink "MarginCourt" 120 ⟨"java/util/ArrayList", "add", "(Ljava/lang/Object;)Z"⟩) ∈ WU := wu_mem (lw_in2 (List.mem_of_getElem? (i := 176) rfl)) rfl
theorem q_451 : (Cond.instanceMethod ⟨"java/util/ArrayList", "add", "(Ljava/lang/Object;)Z"⟩) ∈ WU := wu_mem (lw_in2 (List.mem_of_getElem? (i := 177) rfl)) rfl
theorem q_452 : (Cond.selects "java/util/ArrayList" ⟨"java/util/ArrayList", "add", "(Ljava/lang/Object;)Z"⟩ ⟨"java/util/ArrayList", "add", "(Ljava/lang/Object;)Z"⟩) ∈ WU := wu_mem (lw_in2 (List.mem_of_getElem? (i := 178) rfl)) rfl
theorem q_453 : (Cond.code ⟨"java/util/ArrayList", "add", "(Ljava/lang/Object;)Z"⟩ prog_22_method_25_code 2 (some .boolean)) ∈ WU := wu_mem (lw_in2 (List.mem_of_getElem? (i := 179) rfl)) rfl
theorem q_454 : (Cond.methodLink "java/util/ArrayList" 131 ⟨"java/util/ArrayList", "add", "(Ljava/lang/Object;[Ljava/lang/Object;I)V"⟩) ∈ WU := wu_mem (lw_in2 (List.mem_of_getElem? (i := 180) rfl)) rfl
theorem q_456 : (Cond.instanceMethod ⟨"java/util/ArrayList", "add", "(Ljava/lang/Object;[Ljava/lang/Object;I)V"⟩) ∈ WU := wu_mem (lw_in2 (List.mem_of_getElem? (i := 182) rfl)) rfl
theorem q_457 : (Cond.code ⟨"java/util/ArrayList", "add", "(Ljava/lang/Object;[Ljava/lang/Object;I)V"⟩ prog_22_method_24_code 4 none) ∈ WU := wu_mem (lw_in2 (List.mem_of_getElem? (i := 183) rfl)) rfl
theorem q_458 : (Cond.methodLink "java/util/ArrayList" 129 ⟨"java/util/ArrayList", "grow", "()[Ljava/lang/Object;"⟩) ∈ WU := wu_mem (lw_in2 (List.mem_of_getElem? (i := 184) rfl)) rfl
theorem q_460 : (Cond.instanceMethod ⟨"java/util/ArrayList", "grow", "()[Ljava/lang/Object;"⟩) ∈ WU := wu_mem (lw_in2 (List.mem_of_getElem? (i := 186) rfl)) rfl
theorem q_461 : (Cond.code ⟨"java/util/ArrayList", "grow", "()[Ljava/lang/Object;"⟩ prog_22_method_7_code 1 (some (.array (.object "java/lang/Object")))) ∈ WU := wu_mem (lw_in2 (List.mem_of_getElem? (i := 187) rfl)) rfl
theorem q_462 : (Cond.methodLink "java/util/ArrayList" 69 ⟨"java/util/ArrayList", "grow", "(I)[Ljava/lang/Object;"⟩) ∈ WU := wu_mem (lw_in2 (List.mem_of_getElem? (i := 188) rfl)) rfl
theorem q_464 : (Cond.instanceMethod ⟨"java/util/ArrayList", "grow", "(I)[Ljava/lang/Object;"⟩) ∈ WU := wu_mem (lw_in2 (List.mem_of_getElem? (i := 190) rfl)) rfl
theorem q_465 : (Cond.code ⟨"java/util/ArrayList", "grow", "(I)[Ljava/lang/Object;"⟩ prog_22_method_6_code 4 (some (.array (.object "java/lang/Object")))) ∈ WU := wu_mem (lw_in2 (List.mem_of_getElem? (i := 191) rfl)) rfl
theorem q_466 : (Cond.methodLink "java/util/ArrayList" 73 ⟨"jdk/internal/util/ArraysSupport", "newLength", "(III)I"⟩) ∈ WU := wu_mem (lw_in2 (List.mem_of_getElem? (i := 192) rfl)) rfl
theorem q_467 : (Cond.static ⟨"jdk/internal/util/ArraysSupport", "newLength", "(III)I"⟩) ∈ WU := wu_mem (lw_in2 (List.mem_of_getElem? (i := 193) rfl)) rfl
theorem q_468 : (Cond.code ⟨"jdk/internal/util/ArraysSupport", "newLength", "(III)I"⟩ prog_30_method_27_code 4 (some .int)) ∈ WU := wu_mem (lw_in2 (List.mem_of_getElem? (i := 194) rfl)) rfl
theorem q_469 : (Cond.methodLink "jdk/internal/util/ArraysSupport" 194 ⟨"java/lang/Math", "max", "(II)I"⟩) ∈ WU := wu_mem (lw_in2 (List.mem_of_getElem? (i := 195) rfl)) rfl
theorem q_470 : (Cond.constant "jdk/internal/util/ArraysSupport" 200 (2147483639 : Int32)) ∈ WU := wu_mem (lw_in2 (List.mem_of_getElem? (i := 196) rfl)) rfl
theorem q_474 : (Cond.methodLink "java/util/ArrayList" 66 ⟨"java/util/Arrays", "copyOf", "([Ljava/lang/Object;I)[Ljava/lang/Object;"⟩) ∈ WU := wu_mem (lw_in2 (List.mem_of_getElem? (i := 200) rfl)) rfl
theorem q_475 : (Cond.static ⟨"java/util/Arrays", "copyOf", "([Ljava/lang/Object;I)[Ljava/lang/Object;"⟩) ∈ WU := wu_mem (lw_in2 (List.mem_of_getElem? (i := 201) rfl)) rfl
theorem q_476 : (Cond.code ⟨"java/util/Arrays", "copyOf", "([Ljava/lang/Object;I)[Ljava/lang/Object;"⟩ prog_23_method_119_code 2 (some (.array (.object "java/lang/Object")))) ∈ WU := wu_mem (lw_in2 (List.mem_of_getElem? (i := 202) rfl)) rfl
theorem q_477 : (Cond.methodLink "java/util/Arrays" 86 ⟨"java/lang/Object", "getClass", "()Ljava/lang/Class;"⟩) ∈ WU := wu_mem (lw_in2 (List.mem_of_getElem? (i := 203) rfl)) rfl
theorem q_478 : (Cond.instanceMethod ⟨"java/lang/Object", "getClass", "()Ljava/lang/Class;"⟩) ∈ WU := wu_mem (lw_in2 (List.mem_of_getElem? (i := 204) rfl)) rfl
theorem q_491 : (Cond.native ⟨"java/lang/Object", "getClass", "()Ljava/lang/Class;"⟩) ∈ WU := wu_mem (lw_in2 (List.mem_of_getElem? (i := 217) rfl)) rfl
theorem q_492 : (Cond.methodLink "java/util/Arrays" 300 ⟨"java/util/Arrays", "copyOf", "([Ljava/lang/Object;ILjava/lang/Class;)[Ljava/lang/Object;"⟩) ∈ WU := wu_mem (lw_in2 (List.mem_of_getElem? (i := 218) rfl)) rfl
theorem q_493 : (Cond.static ⟨"java/util/Arrays", "copyOf", "([Ljava/lang/Object;ILjava/lang/Class;)[Ljava/lang/Object;"⟩) ∈ WU := wu_mem (lw_in2 (List.mem_of_getElem? (i := 219) rfl)) rfl
theorem q_494 : (Cond.code ⟨"java/util/Arrays", "copyOf", "([Ljava/lang/Object;ILjava/lang/Class;)[Ljava/lang/Object;"⟩ prog_23_method_120_code 4 (some (.array (.object "java/lang/Object")))) ∈ WU := wu_mem (lw_in2 (List.mem_of_getElem? (i := 220) rfl)) rfl
theorem q_495 : (Cond.classLink "java/util/Arrays" 110 "[Ljava/lang/Object;") ∈ WU := wu_mem (lw_in2 (List.mem_of_getElem? (i := 221) rfl)) rfl
theorem q_496 : (Cond.arrayOver (.object "java/lang/Object")) ∈ NWL := nwl_mem (lw_in2 (List.mem_of_getElem? (i := 222) rfl)) rfl
theorem q_497 : (Cond.classLink "java/util/Arrays" 2 "java/lang/Object") ∈ WU := wu_mem (lw_in2 (List.mem_of_getElem? (i := 223) rfl)) rfl
theorem q_498 : (Cond.methodLink "java/util/Arrays" 304 ⟨"java/lang/Math", "min", "(II)I"⟩) ∈ WU := wu_mem (lw_in2 (List.mem_of_getElem? (i := 224) rfl)) rfl
theorem q_499 : (Cond.methodLink "java/util/Arrays" 150 ⟨"java/lang/System", "arraycopy", "(Ljava/lang/Object;ILjava/lang/Object;II)V"⟩) ∈ WU := wu_mem (lw_in2 (List.mem_of_getElem? (i := 225) rfl)) rfl
theorem q_500 : (Cond.static ⟨"java/lang/System", "arraycopy", "(Ljava/lang/Object;ILjava/lang/Object;II)V"⟩) ∈ WU := wu_mem (lw_in2 (List.mem_of_getElem? (i := 226) rfl)) rfl
theorem q_501 : (Cond.native ⟨"java/lang/System", "arraycopy", "(Ljava/lang/Object;ILjava/lang/Object;II)V"⟩) ∈ WU := wu_mem (lw_in2 (List.mem_of_getElem? (i := 227) rfl)) rfl
theorem q_502 : (Cond.methodLink "java/util/ArrayList" 79 ⟨"java/lang/Math", "max", "(II)I"⟩) ∈ WU := wu_mem (lw_in2 (List.mem_of_getElem? (i := 228) rfl)) rfl
theorem q_503 : (Cond.classLink "java/util/ArrayList" 7 "java/lang/Object") ∈ WU := wu_mem (lw_in2 (List.mem_of_getElem? (i := 229) rfl)) rfl
theorem q_504 : (Cond.methodLink "MarginCourt" 124 ⟨"MarginCourt", "match", "(LMarginCourt$Order;)V"⟩) ∈ WU := wu_mem (lw_in2 (List.mem_of_getElem? (i := 230) rfl)) rfl
theorem q_506 : (Cond.instanceMethod ⟨"MarginCourt", "match", "(LMarginCourt$Order;)V"⟩) ∈ WU := wu_mem (lw_in2 (List.mem_of_getElem? (i := 232) rfl)) rfl
theorem q_507 : (Cond.code ⟨"MarginCourt", "match", "(LMarginCourt$Order;)V"⟩ prog_1_method_36_code 5 none) ∈ WU := wu_mem (lw_in2 (List.mem_of_getElem? (i := 233) rfl)) rfl
theorem q_508 : (Cond.methodLink "MarginCourt" 142 ⟨"MarginCourt", "bestResting", "(IZ)LMarginCourt$Order;"⟩) ∈ WU := wu_mem (lw_in2 (List.mem_of_getElem? (i := 234) rfl)) rfl
theorem q_510 : (Cond.instanceMethod ⟨"MarginCourt", "bestResting", "(IZ)LMarginCourt$Order;"⟩) ∈ WU := wu_mem (lw_in2 (List.mem_of_getElem? (i := 236) rfl)) rfl
theorem q_511 : (Cond.code ⟨"MarginCourt", "bestResting", "(IZ)LMarginCourt$Order;"⟩ prog_1_method_34_code 6 (some (.object "MarginCourt$Order"))) ∈ WU := wu_mem (lw_in2 (List.mem_of_getElem? (i := 237) rfl)) rfl
theorem q_512 : (Cond.methodLink "MarginCourt" 210 ⟨"MarginCourt", "isBetter", "(LMarginCourt$Order;LMarginCourt$Order;)Z"⟩) ∈ WU := wu_mem (lw_in2 (List.mem_of_getElem? (i := 238) rfl)) rfl
theorem q_513 : (Cond.static ⟨"MarginCourt", "isBetter", "(LMarginCourt$Order;LMarginCourt$Order;)Z"⟩) ∈ WU := wu_mem (lw_in2 (List.mem_of_getElem? (i := 239) rfl)) rfl
theorem q_514 : (Cond.code ⟨"MarginCourt", "isBetter", "(LMarginCourt$Order;LMarginCourt$Order;)Z"⟩ prog_1_method_35_code 2 (some .boolean)) ∈ WU := wu_mem (lw_in3 (List.mem_of_getElem? (i := 0) rfl)) rfl
theorem q_515 : (Cond.methodLink "MarginCourt" 217 ⟨"MarginCourt", "meet", "(LMarginCourt$Order;LMarginCourt$Order;)Z"⟩) ∈ WU := wu_mem (lw_in3 (List.mem_of_getElem? (i := 1) rfl)) rfl
theorem q_516 : (Cond.static ⟨"MarginCourt", "meet", "(LMarginCourt$Order;LMarginCourt$Order;)Z"⟩) ∈ WU := wu_mem (lw_in3 (List.mem_of_getElem? (i := 2) rfl)) rfl
theorem q_517 : (Cond.code ⟨"MarginCourt", "meet", "(LMarginCourt$Order;LMarginCourt$Order;)Z"⟩ prog_1_method_37_code 2 (some .boolean)) ∈ WU := wu_mem (lw_in3 (List.mem_of_getElem? (i := 3) rfl)) rfl
theorem q_518 : (Cond.methodLink "MarginCourt" 229 ⟨"MarginCourt", "tradeWithResting", "(ILMarginCourt$Order;I)V"⟩) ∈ WU := wu_mem (lw_in3 (List.mem_of_getElem? (i := 4) rfl)) rfl
theorem q_520 : (Cond.instanceMethod ⟨"MarginCourt", "tradeWithResting", "(ILMarginCourt$Order;I)V"⟩) ∈ WU := wu_mem (lw_in3 (List.mem_of_getElem? (i := 6) rfl)) rfl
theorem q_521 : (Cond.code ⟨"MarginCourt", "tradeWithResting", "(ILMarginCourt$Order;I)V"⟩ prog_1_method_38_code 4 none) ∈ WU := wu_mem (lw_in3 (List.mem_of_getElem? (i := 7) rfl)) rfl
theorem q_522 : (Cond.methodLink "MarginCourt" 233 ⟨"MarginCourt", "trade", "(IIIII)V"⟩) ∈ WU := wu_mem (lw_in3 (List.mem_of_getElem? (i := 8) rfl)) rfl
theorem q_524 : (Cond.instanceMethod ⟨"MarginCourt", "trade", "(IIIII)V"⟩) ∈ WU := wu_mem (lw_in3 (List.mem_of_getElem? (i := 10) rfl)) rfl
theorem q_525 : (Cond.code ⟨"MarginCourt", "trade", "(IIIII)V"⟩ prog_1_method_39_code 6 none) ∈ WU := wu_mem (lw_in3 (List.mem_of_getElem? (i := 11) rfl)) rfl
theorem q_526 : (Cond.methodLink "MarginCourt" 237 ⟨"MarginCourt", "book", "(LMarginCourt$Account;III)V"⟩) ∈ WU := wu_mem (lw_in3 (List.mem_of_getElem? (i := 12) rfl)) rfl
theorem q_527 : (Cond.static ⟨"MarginCourt", "book", "(LMarginCourt$Account;III)V"⟩) ∈ WU := wu_mem (lw_in3 (List.mem_of_getElem? (i := 13) rfl)) rfl
theorem q_528 : (Cond.code ⟨"MarginCourt", "book", "(LMarginCourt$Account;III)V"⟩ prog_1_method_40_code 4 none) ∈ WU := wu_mem (lw_in3 (List.mem_of_getElem? (i := 14) rfl)) rfl
theorem q_529 : (Cond.classLink "MarginCourt" 180 "MarginCourt$Trade") ∈ WU := wu_mem (lw_in3 (List.mem_of_getElem? (i := 15) rfl)) rfl
theorem q_530 : (Cond.instantiable "MarginCourt$Trade" 5) ∈ WU := wu_mem (lw_in3 (List.mem_of_getElem? (i := 16) rfl)) rfl
theorem q_531 : (Cond.methodLinkNest "MarginCourt" 241 ⟨"MarginCourt$Trade", "<init>", "(IIIII)V"⟩ "MarginCourt") ∈ NWL := nwl_mem (lw_in3 (List.mem_of_getElem? (i := 17) rfl)) rfl
theorem q_532 : (Cond.instanceMethod ⟨"MarginCourt$Trade", "<init>", "(IIIII)V"⟩) ∈ WU := wu_mem (lw_in3 (List.mem_of_getElem? (i := 18) rfl)) rfl
theorem q_533 : (Cond.code ⟨"MarginCourt$Trade", "<init>", "(IIIII)V"⟩ prog_6_method_1_code 6 none) ∈ WU := wu_mem (lw_in3 (List.mem_of_getElem? (i := 19) rfl)) rfl
theorem q_534 : (Cond.methodLink "MarginCourt$Trade" 1 ⟨"java/lang/Object", "<init>", "()V"⟩) ∈ WU := wu_mem (lw_in3 (List.mem_of_getElem? (i := 20) rfl)) rfl
theorem q_535 : (Cond.fieldLink "MarginCourt$Trade" 7 "MarginCourt$Trade" "buyer" "I") ∈ WU := wu_mem (lw_in3 (List.mem_of_getElem? (i := 21) rfl)) rfl
theorem q_536 : (Cond.fieldLinkNest "MarginCourt" 255 "MarginCourt$Trade" "buyer" "I" "MarginCourt") ∈ NWL := nwl_mem (lw_in3 (List.mem_of_getElem? (i := 22) rfl)) rfl
theorem q_537 : (Cond.fieldLink "MarginCourt$Trade" 13 "MarginCourt$Trade" "seller" "I") ∈ WU := wu_mem (lw_in3 (List.mem_of_getElem? (i := 23) rfl)) rfl
theorem q_538 : (Cond.fieldLinkNest "MarginCourt" 258 "MarginCourt$Trade" "seller" "I" "MarginCourt") ∈ NWL := nwl_mem (lw_in3 (List.mem_of_getElem? (i := 24) rfl)) rfl
theorem q_539 : (Cond.fieldLink "MarginCourt$Trade" 16 "MarginCourt$Trade" "product" "I") ∈ WU := wu_mem (lw_in3 (List.mem_of_getElem? (i := 25) rfl)) rfl
theorem q_540 : (Cond.fieldLinkNest "MarginCourt" 253 "MarginCourt$Trade" "product" "I" "MarginCourt") ∈ NWL := nwl_mem (lw_in3 (List.mem_of_getElem? (i := 26) rfl)) rfl
theorem q_541 : (Cond.fieldLink "MarginCourt$Trade" 19 "MarginCourt$Trade" "quantity" "I") ∈ WU := wu_mem (lw_in3 (List.mem_of_getElem? (i := 27) rfl)) rfl
theorem q_542 : (Cond.fieldLinkNest "MarginCourt" 250 "MarginCourt$Trade" "quantity" "I" "MarginCourt") ∈ NWL := nwl_mem (lw_in3 (List.mem_of_getElem? (i := 28) rfl)) rfl
theorem q_543 : (Cond.fieldLink "MarginCourt$Trade" 22 "MarginCourt$Trade" "price" "I") ∈ WU := wu_mem (lw_in3 (List.mem_of_getElem? (i := 29) rfl)) rfl
theorem q_544 : (Cond.fieldLinkNest "MarginCourt" 254 "MarginCourt$Trade" "price" "I" "MarginCourt") ∈ NWL := nwl_mem (lw_in3 (List.mem_of_getElem? (i := 30) rfl)) rfl
theorem q_564 : (Cond.methodLink "MarginCourt" 138 ⟨"MarginCourt", "cancelOrdersFor", "(I)I"⟩) ∈ WU := wu_mem (lw_in3 (List.mem_of_getElem? (i := 50) rfl)) rfl
theorem q_566 : (Cond.instanceMethod ⟨"MarginCourt", "cancelOrdersFor", "(I)I"⟩) ∈ WU := wu_mem (lw_in3 (List.mem_of_getElem? (i := 52) rfl)) rfl
theorem q_567 : (Cond.code ⟨"MarginCourt", "cancelOrdersFor", "(I)I"⟩ prog_1_method_41_code 5 (some .int)) ∈ WU := wu_mem (lw_in3 (List.mem_of_getElem? (i := 53) rfl)) rfl
theorem q_572 : (Cond.classLink "MarginCourt" 146 "java/util/NoSuchElementException") ∈ WU := wu_mem (lw_in3 (List.mem_of_getElem? (i := 58) rfl)) rfl
theorem q_611 : (Cond.methodLink "MarginCourt" 182 ⟨"MarginCourt", "gainOf", "(ILMarginCourt$Trade;)J"⟩) ∈ WU := wu_mem (lw_in3 (List.mem_of_getElem? (i := 97) rfl)) rfl
theorem q_613 : (Cond.instanceMethod ⟨"MarginCourt", "gainOf", "(ILMarginCourt$Trade;)J"⟩) ∈ WU := wu_mem (lw_in3 (List.mem_of_getElem? (i := 99) rfl)) rfl
theorem q_614 : (Cond.code ⟨"MarginCourt", "gainOf", "(ILMarginCourt$Trade;)J"⟩ prog_1_method_46_code 5 (some .long)) ∈ WU := wu_mem (lw_in3 (List.mem_of_getElem? (i := 100) rfl)) rfl
theorem q_681 : (Cond.methodLink "MarginCourt" 164 ⟨"MarginCourt", "netPositions", "(LMarginCourt$Account;)J"⟩) ∈ WU := wu_mem (lw_in3 (List.mem_of_getElem? (i := 167) rfl)) rfl
theorem q_683 : (Cond.instanceMethod ⟨"MarginCourt", "netPositions", "(LMarginCourt$Account;)J"⟩) ∈ WU := wu_mem (lw_in3 (List.mem_of_getElem? (i := 169) rfl)) rfl
theorem q_684 : (Cond.code ⟨"MarginCourt", "netPositions", "(LMarginCourt$Account;)J"⟩ prog_1_method_54_code 7 (some .long)) ∈ WU := wu_mem (lw_in3 (List.mem_of_getElem? (i := 170) rfl)) rfl
theorem q_698 : (Cond.methodLink "MarginCourt" 155 ⟨"MarginCourt", "countHour", "(I)I"⟩) ∈ WU := wu_mem (lw_in3 (List.mem_of_getElem? (i := 184) rfl)) rfl
theorem q_700 : (Cond.instanceMethod ⟨"MarginCourt", "countHour", "(I)I"⟩) ∈ WU := wu_mem (lw_in3 (List.mem_of_getElem? (i := 186) rfl)) rfl
theorem q_701 : (Cond.code ⟨"MarginCourt", "countHour", "(I)I"⟩ prog_1_method_55_code 3 (some .int)) ∈ WU := wu_mem (lw_in3 (List.mem_of_getElem? (i := 187) rfl)) rfl
theorem q_702 : (Cond.methodLink "MarginCourt" 158 ⟨"MarginCourt", "closeOut", "(I)V"⟩) ∈ WU := wu_mem (lw_in3 (List.mem_of_getElem? (i := 188) rfl)) rfl
theorem q_704 : (Cond.instanceMethod ⟨"MarginCourt", "closeOut", "(I)V"⟩) ∈ WU := wu_mem (lw_in3 (List.mem_of_getElem? (i := 190) rfl)) rfl
theorem q_705 : (Cond.code ⟨"MarginCourt", "closeOut", "(I)V"⟩ prog_1_method_56_code 4 none) ∈ WU := wu_mem (lw_in3 (List.mem_of_getElem? (i := 191) rfl)) rfl
theorem q_706 : (Cond.methodLink "MarginCourt" 276 ⟨"MarginCourt", "cancelOrdersOf", "(I)V"⟩) ∈ WU := wu_mem (lw_in3 (List.mem_of_getElem? (i := 192) rfl)) rfl
theorem q_708 : (Cond.instanceMethod ⟨"MarginCourt", "cancelOrdersOf", "(I)V"⟩) ∈ WU := wu_mem (lw_in3 (List.mem_of_getElem? (i := 194) rfl)) rfl
theorem q_709 : (Cond.code ⟨"MarginCourt", "cancelOrdersOf", "(I)V"⟩ prog_1_method_42_code 4 none) ∈ WU := wu_mem (lw_in3 (List.mem_of_getElem? (i := 195) rfl)) rfl
theorem q_710 : (Cond.methodLink "MarginCourt" 279 ⟨"MarginCourt", "productsByRisk", "(I)[I"⟩) ∈ WU := wu_mem (lw_in3 (List.mem_of_getElem? (i := 196) rfl)) rfl
theorem q_712 : (Cond.instanceMethod ⟨"MarginCourt", "productsByRisk", "(I)[I"⟩) ∈ WU := wu_mem (lw_in3 (List.mem_of_getElem? (i := 198) rfl)) rfl
theorem q_713 : (Cond.code ⟨"MarginCourt", "productsByRisk", "(I)[I"⟩ prog_1_method_57_code 6 (some (.array .int))) ∈ WU := wu_mem (lw_in3 (List.mem_of_getElem? (i := 199) rfl)) rfl
theorem q_714 : (Cond.methodLink "MarginCourt" 287 ⟨"MarginCourt", "goesAhead", "(III)Z"⟩) ∈ WU := wu_mem (lw_in3 (List.mem_of_getElem? (i := 200) rfl)) rfl
theorem q_716 : (Cond.instanceMethod ⟨"MarginCourt", "goesAhead", "(III)Z"⟩) ∈ WU := wu_mem (lw_in3 (List.mem_of_getElem? (i := 202) rfl)) rfl
theorem q_717 : (Cond.code ⟨"MarginCourt", "goesAhead", "(III)Z"⟩ prog_1_method_58_code 8 (some .boolean)) ∈ WU := wu_mem (lw_in3 (List.mem_of_getElem? (i := 203) rfl)) rfl
theorem q_718 : (Cond.methodLink "MarginCourt" 291 ⟨"MarginCourt", "riskOf", "(II)J"⟩) ∈ WU := wu_mem (lw_in3 (List.mem_of_getElem? (i := 204) rfl)) rfl
theorem q_720 : (Cond.instanceMethod ⟨"MarginCourt", "riskOf", "(II)J"⟩) ∈ WU := wu_mem (lw_in3 (List.mem_of_getElem? (i := 206) rfl)) rfl
theorem q_721 : (Cond.code ⟨"MarginCourt", "riskOf", "(II)J"⟩ prog_1_method_59_code 9 (some .long)) ∈ WU := wu_mem (lw_in3 (List.mem_of_getElem? (i := 207) rfl)) rfl
theorem q_722 : (Cond.methodLink "MarginCourt" 283 ⟨"MarginCourt", "closePosition", "(II)V"⟩) ∈ WU := wu_mem (lw_in3 (List.mem_of_getElem? (i := 208) rfl)) rfl
theorem q_724 : (Cond.instanceMethod ⟨"MarginCourt", "closePosition", "(II)V"⟩) ∈ WU := wu_mem (lw_in3 (List.mem_of_getElem? (i := 210) rfl)) rfl
theorem q_725 : (Cond.code ⟨"MarginCourt", "closePosition", "(II)V"⟩ prog_1_method_60_code 6 none) ∈ WU := wu_mem (lw_in3 (List.mem_of_getElem? (i := 211) rfl)) rfl
theorem q_726 : (Cond.methodLink "MarginCourt" 294 ⟨"java/lang/Math", "abs", "(I)I"⟩) ∈ WU := wu_mem (lw_in3 (List.mem_of_getElem? (i := 212) rfl)) rfl
theorem q_727 : (Cond.static ⟨"java/lang/Math", "abs", "(I)I"⟩) ∈ WU := wu_mem (lw_in3 (List.mem_of_getElem? (i := 213) rfl)) rfl
theorem q_728 : (Cond.code ⟨"java/lang/Math", "abs", "(I)I"⟩ prog_16_method_59_code 1 (some .int)) ∈ WU := wu_mem (lw_in3 (List.mem_of_getElem? (i := 214) rfl)) rfl
theorem q_729 : (Cond.methodLink "MarginCourt" 161 ⟨"MarginCourt", "fail", "(I)V"⟩) ∈ WU := wu_mem (lw_in3 (List.mem_of_getElem? (i := 215) rfl)) rfl
theorem q_731 : (Cond.instanceMethod ⟨"MarginCourt", "fail", "(I)V"⟩) ∈ WU := wu_mem (lw_in3 (List.mem_of_getElem? (i := 217) rfl)) rfl
theorem q_732 : (Cond.code ⟨"MarginCourt", "fail", "(I)V"⟩ prog_1_method_61_code 4 none) ∈ WU := wu_mem (lw_in3 (List.mem_of_getElem? (i := 218) rfl)) rfl
theorem q_733 : (Cond.methodLink "MarginCourt" 297 ⟨"MarginCourt", "memberWithMostFree", "()I"⟩) ∈ WU := wu_mem (lw_in3 (List.mem_of_getElem? (i := 219) rfl)) rfl
theorem q_735 : (Cond.instanceMethod ⟨"MarginCourt", "memberWithMostFree", "()I"⟩) ∈ WU := wu_mem (lw_in3 (List.mem_of_getElem? (i := 221) rfl)) rfl
theorem q_736 : (Cond.code ⟨"MarginCourt", "memberWithMostFree", "()I"⟩ prog_1_method_63_code 7 (some .int)) ∈ WU := wu_mem (lw_in3 (List.mem_of_getElem? (i := 222) rfl)) rfl
theorem q_737 : (Cond.methodLink "MarginCourt" 300 ⟨"MarginCourt", "handOver", "(III)V"⟩) ∈ WU := wu_mem (lw_in3 (List.mem_of_getElem? (i := 223) rfl)) rfl
theorem q_739 : (Cond.instanceMethod ⟨"MarginCourt", "handOver", "(III)V"⟩) ∈ WU := wu_mem (lw_in3 (List.mem_of_getElem? (i := 225) rfl)) rfl
theorem q_740 : (Cond.code ⟨"MarginCourt", "handOver", "(III)V"⟩ prog_1_method_62_code 6 none) ∈ WU := wu_mem (lw_in3 (List.mem_of_getElem? (i := 226) rfl)) rfl
theorem q_741 : (Cond.methodLink "MarginCourt" 310 ⟨"MarginCourt", "drop", "(IIII)V"⟩) ∈ WU := wu_mem (lw_in3 (List.mem_of_getElem? (i := 227) rfl)) rfl
theorem q_743 : (Cond.instanceMethod ⟨"MarginCourt", "drop", "(IIII)V"⟩) ∈ WU := wu_mem (lw_in3 (List.mem_of_getElem? (i := 229) rfl)) rfl
theorem q_744 : (Cond.code ⟨"MarginCourt", "drop", "(IIII)V"⟩ prog_1_method_64_code 5 none) ∈ WU := wu_mem (lw_in3 (List.mem_of_getElem? (i := 230) rfl)) rfl
theorem q_745 : (Cond.methodLink "MarginCourt" 303 ⟨"MarginCourt", "sellCollateral", "(I)V"⟩) ∈ WU := wu_mem (lw_in3 (List.mem_of_getElem? (i := 231) rfl)) rfl
theorem q_747 : (Cond.instanceMethod ⟨"MarginCourt", "sellCollateral", "(I)V"⟩) ∈ WU := wu_mem (lw_in3 (List.mem_of_getElem? (i := 233) rfl)) rfl
theorem q_748 : (Cond.code ⟨"MarginCourt", "sellCollateral", "(I)V"⟩ prog_1_method_65_code 4 none) ∈ WU := wu_mem (lw_in3 (List.mem_of_getElem? (i := 234) rfl)) rfl
theorem q_749 : (Cond.methodLink "MarginCourt" 306 ⟨"MarginCourt", "coverLoss", "(LMarginCourt$Account;)V"⟩) ∈ WU := wu_mem (lw_in3 (List.mem_of_getElem? (i := 235) rfl)) rfl
theorem q_751 : (Cond.instanceMethod ⟨"MarginCourt", "coverLoss", "(LMarginCourt$Account;)V"⟩) ∈ WU := wu_mem (lw_in3 (List.mem_of_getElem? (i := 237) rfl)) rfl
theorem q_752 : (Cond.code ⟨"MarginCourt", "coverLoss", "(LMarginCourt$Account;)V"⟩ prog_1_method_66_code 6 none) ∈ WU := wu_mem (lw_in3 (List.mem_of_getElem? (i := 238) rfl)) rfl
theorem q_753 : (Cond.methodLink "MarginCourt" 314 ⟨"MarginCourt", "takeFromShare", "(LMarginCourt$Account;J)J"⟩) ∈ WU := wu_mem (lw_in3 (List.mem_of_getElem? (i := 239) rfl)) rfl
theorem q_754 : (Cond.static ⟨"MarginCourt", "takeFromShare", "(LMarginCourt$Account;J)J"⟩) ∈ WU := wu_mem (lw_in4 (List.mem_of_getElem? (i := 0) rfl)) rfl
theorem q_755 : (Cond.code ⟨"MarginCourt", "takeFromShare", "(LMarginCourt$Account;J)J"⟩ prog_1_method_67_code 5 (some .long)) ∈ WU := wu_mem (lw_in4 (List.mem_of_getElem? (i := 1) rfl)) rfl
theorem q_756 : (Cond.methodLink "MarginCourt" 322 ⟨"java/lang/Math", "min", "(JJ)J"⟩) ∈ WU := wu_mem (lw_in4 (List.mem_of_getElem? (i := 2) rfl)) rfl
theorem q_757 : (Cond.static ⟨"java/lang/Math", "min", "(JJ)J"⟩) ∈ WU := wu_mem (lw_in4 (List.mem_of_getElem? (i := 3) rfl)) rfl
theorem q_758 : (Cond.code ⟨"java/lang/Math", "min", "(JJ)J"⟩ prog_16_method_70_code 4 (some .long)) ∈ WU := wu_mem (lw_in4 (List.mem_of_getElem? (i := 4) rfl)) rfl
theorem q_759 : (Cond.methodLink "MarginCourt" 318 ⟨"MarginCourt", "takeFromOthers", "(J)J"⟩) ∈ WU := wu_mem (lw_in4 (List.mem_of_getElem? (i := 5) rfl)) rfl
theorem q_761 : (Cond.instanceMethod ⟨"MarginCourt", "takeFromOthers", "(J)J"⟩) ∈ WU := wu_mem (lw_in4 (List.mem_of_getElem? (i := 7) rfl)) rfl
theorem q_762 : (Cond.code ⟨"MarginCourt", "takeFromOthers", "(J)J"⟩ prog_1_method_68_code 9 (some .long)) ∈ WU := wu_mem (lw_in4 (List.mem_of_getElem? (i := 8) rfl)) rfl
theorem q_763 : (Cond.methodLink "MarginCourt" 324 ⟨"MarginCourt", "sharesOfOthers", "()J"⟩) ∈ WU := wu_mem (lw_in4 (List.mem_of_getElem? (i := 9) rfl)) rfl
theorem q_765 : (Cond.instanceMethod ⟨"MarginCourt", "sharesOfOthers", "()J"⟩) ∈ WU := wu_mem (lw_in4 (List.mem_of_getElem? (i := 11) rfl)) rfl
theorem q_766 : (Cond.code ⟨"MarginCourt", "sharesOfOthers", "()J"⟩ prog_1_method_69_code 4 (some .long)) ∈ WU := wu_mem (lw_in4 (List.mem_of_getElem? (i := 12) rfl)) rfl
theorem q_767 : (Cond.methodLink "MarginCourt" 328 ⟨"MarginCourt", "partOf", "(JJJ)J"⟩) ∈ WU := wu_mem (lw_in4 (List.mem_of_getElem? (i := 13) rfl)) rfl
theorem q_768 : (Cond.static ⟨"MarginCourt", "partOf", "(JJJ)J"⟩) ∈ WU := wu_mem (lw_in4 (List.mem_of_getElem? (i := 14) rfl)) rfl
theorem q_769 : (Cond.code ⟨"MarginCourt", "partOf", "(JJJ)J"⟩ prog_1_method_70_code 6 (some .long)) ∈ WU := wu_mem (lw_in4 (List.mem_of_getElem? (i := 15) rfl)) rfl
theorem q_783 : (Cond.castable "MarginCourt$Order" "java/lang/Object") ∈ NWL := nwl_mem (lw_in4 (List.mem_of_getElem? (i := 29) rfl)) rfl
theorem q_784 : (Cond.castable "MarginCourt$Trade" "java/lang/Object") ∈ NWL := nwl_mem (lw_in4 (List.mem_of_getElem? (i := 30) rfl)) rfl
theorem q_788 : (Cond.selects "[Ljava/lang/Object;" ⟨"java/lang/Object", "getClass", "()Ljava/lang/Class;"⟩ ⟨"java/lang/Object", "getClass", "()Ljava/lang/Class;"⟩) ∈ WU := wu_mem (lw_in4 (List.mem_of_getElem? (i := 34) rfl)) rfl
theorem q_789 : (Cond.declares ⟨"java/lang/Object", "getClass", "()Ljava/lang/Class;"⟩) ∈ NWL := nwl_mem (lw_in4 (List.mem_of_getElem? (i := 35) rfl)) rfl
theorem iuJx4a65c : ∀ w ∈ u_ws RJx4a65c TJx4a65c 3, w ∈ WU := by
  intro w hw
  obtain ⟨k, hk, rfl⟩ := List.mem_map.mp hw
  have hk := List.mem_range.mp hk
  match k, hk with
  | 0, _ => exact wu_mem (lw_in1 (List.mem_of_getElem? (i := 60) rfl)) rfl
  | 1, _ => exact wu_mem (lw_in1 (List.mem_of_getElem? (i := 56) rfl)) rfl
  | 2, _ => exact wu_mem (lw_in1 (List.mem_of_getElem? (i := 58) rfl)) rfl
  | k + 3, hk => exact absurd hk (by omega)
theorem iuX0 : ∀ w ∈ u_ws RX0 TX0 8, w ∈ WU := by
  intro w hw
  obtain ⟨k, hk, rfl⟩ := List.mem_map.mp hw
  have hk := List.mem_range.mp hk
  match k, hk with
  | 0, _ => exact wu_mem (lw_in1 (List.mem_of_getElem? (i := 80) rfl)) rfl
  | 1, _ => exact wu_mem (lw_in1 (List.mem_of_getElem? (i := 82) rfl)) rfl
  | 2, _ => exact wu_mem (lw_in1 (List.mem_of_getElem? (i := 84) rfl)) rfl
  | 3, _ => exact wu_mem (lw_in1 (List.mem_of_getElem? (i := 86) rfl)) rfl
  | 4, _ => exact wu_mem (lw_in1 (List.mem_of_getElem? (i := 88) rfl)) rfl
  | 5, _ => exact wu_mem (lw_in1 (List.mem_of_getElem? (i := 90) rfl)) rfl
  | 6, _ => exact wu_mem (lw_in1 (List.mem_of_getElem? (i := 92) rfl)) rfl
  | 7, _ => exact wu_mem (lw_in1 (List.mem_of_getElem? (i := 94) rfl)) rfl
  | k + 8, hk => exact absurd hk (by omega)
theorem iuX1 : ∀ w ∈ u_ws RX1 TX1 2, w ∈ WU := by
  intro w hw
  obtain ⟨k, hk, rfl⟩ := List.mem_map.mp hw
  have hk := List.mem_range.mp hk
  match k, hk with
  | 0, _ => exact wu_mem (lw_in1 (List.mem_of_getElem? (i := 125) rfl)) rfl
  | 1, _ => exact wu_mem (lw_in1 (List.mem_of_getElem? (i := 127) rfl)) rfl
  | k + 2, hk => exact absurd hk (by omega)
theorem iuX2 : ∀ w ∈ u_ws RX2 TX2 6, w ∈ WU := by
  intro w hw
  obtain ⟨k, hk, rfl⟩ := List.mem_map.mp hw
  have hk := List.mem_range.mp hk
  match k, hk with
  | 0, _ => exact wu_mem (lw_in2 (List.mem_of_getElem? (i := 163) rfl)) rfl
  | 1, _ => exact wu_mem (lw_in2 (List.mem_of_getElem? (i := 165) rfl)) rfl
  | 2, _ => exact wu_mem (lw_in2 (List.mem_of_getElem? (i := 167) rfl)) rfl
  | 3, _ => exact wu_mem (lw_in2 (List.mem_of_getElem? (i := 169) rfl)) rfl
  | 4, _ => exact wu_mem (lw_in2 (List.mem_of_getElem? (i := 171) rfl)) rfl
  | 5, _ => exact wu_mem (lw_in2 (List.mem_of_getElem? (i := 173) rfl)) rfl
  | k + 6, hk => exact absurd hk (by omega)
theorem iuX3 : ∀ w ∈ u_ws RX3 TX3 3, w ∈ WU := by
  intro w hw
  obtain ⟨k, hk, rfl⟩ := List.mem_map.mp hw
  have hk := List.mem_range.mp hk
  match k, hk with
  | 0, _ => exact wu_mem (lw_in1 (List.mem_of_getElem? (i := 109) rfl)) rfl
  | 1, _ => exact wu_mem (lw_in1 (List.mem_of_getElem? (i := 111) rfl)) rfl
  | 2, _ => exact wu_mem (lw_in1 (List.mem_of_getElem? (i := 113) rfl)) rfl
  | k + 3, hk => exact absurd hk (by omega)
theorem iuX4 : ∀ w ∈ u_ws RX4 TX4 5, w ∈ WU := by
  intro w hw
  obtain ⟨k, hk, rfl⟩ := List.mem_map.mp hw
  have hk := List.mem_range.mp hk
  match k, hk with
  | 0, _ => exact wu_mem (lw_in3 (List.mem_of_getElem? (i := 31) rfl)) rfl
  | 1, _ => exact wu_mem (lw_in3 (List.mem_of_getElem? (i := 33) rfl)) rfl
  | 2, _ => exact wu_mem (lw_in3 (List.mem_of_getElem? (i := 35) rfl)) rfl
  | 3, _ => exact wu_mem (lw_in3 (List.mem_of_getElem? (i := 37) rfl)) rfl
  | 4, _ => exact wu_mem (lw_in3 (List.mem_of_getElem? (i := 39) rfl)) rfl
  | k + 5, hk => exact absurd hk (by omega)
theorem iuX5 : ∀ w ∈ u_ws RX5 TX5 8, w ∈ WU := by
  intro w hw
  obtain ⟨k, hk, rfl⟩ := List.mem_map.mp hw
  have hk := List.mem_range.mp hk
  match k, hk with
  | 0, _ => exact wu_mem (lw_in1 (List.mem_of_getElem? (i := 138) rfl)) rfl
  | 1, _ => exact wu_mem (lw_in1 (List.mem_of_getElem? (i := 140) rfl)) rfl
  | 2, _ => exact wu_mem (lw_in1 (List.mem_of_getElem? (i := 142) rfl)) rfl
  | 3, _ => exact wu_mem (lw_in1 (List.mem_of_getElem? (i := 144) rfl)) rfl
  | 4, _ => exact wu_mem (lw_in1 (List.mem_of_getElem? (i := 146) rfl)) rfl
  | 5, _ => exact wu_mem (lw_in1 (List.mem_of_getElem? (i := 148) rfl)) rfl
  | 6, _ => exact wu_mem (lw_in1 (List.mem_of_getElem? (i := 150) rfl)) rfl
  | 7, _ => exact wu_mem (lw_in1 (List.mem_of_getElem? (i := 152) rfl)) rfl
  | k + 8, hk => exact absurd hk (by omega)
theorem gJ15_105 : GoodIn WU (va_wsS RJ15 105 yJ3_checkIndex_8e157 (WSy yJ3_checkIndex_8e157 cJ3_checkIndex_8e157 3 (some .int))) := gS_of q_272 q_273 q_47 q_274
theorem gJx4a65c_118 : GoodIn WU (va_wsS RJx4a65c 118 yJ15_checkIndex_7cf53 (WSy yJ15_checkIndex_7cf53 cJ15_checkIndex_7cf53 2 (some .int))) := gS_of q_269 q_270 q_46 q_271
theorem gJx4a65c_123 : GoodIn WU (wsV RJx4a65c 123 RJx4a65c yJx4a65c_elementData_915e3 (WSy yJx4a65c_elementData_915e3 cJx4a65c_elementData_915e3 2 (some (.object "java/lang/Object")))) := gV_of q_275 q_276 q_277 q_38 q_278
theorem gX5_101 : GoodIn WU (wsV RX5 101 RX5 yX5_worthOf (WSy yX5_worthOf cX5_worthOf 4 (some .long))) := gV_of q_389 q_391 q_6 q_35 q_392
theorem gX5_117 : GoodIn WU (WSy yX2_init cX2_init 7 none) := gN_of q_423
theorem gX5_124 : GoodIn WU (wsV RX5 124 RX5 yX5_match (WSy yX5_match cX5_match 5 none)) := gV_of q_504 q_506 q_12 q_35 q_507
theorem gX5_128 : GoodIn WU (wsV RX5 128 RX5 yX5_demandOrder (WSy yX5_demandOrder cX5_demandOrder 2 none)) := gV_of q_193 q_195 q_0 q_35 q_196
theorem gX5_138 : GoodIn WU (wsV RX5 138 RX5 yX5_cancelOrdersFor (WSy yX5_cancelOrdersFor cX5_cancelOrdersFor 5 (some .int))) := gV_of q_564 q_566 q_16 q_35 q_567
theorem gX5_142 : GoodIn WU (wsV RX5 142 RX5 yX5_bestResting (WSy yX5_bestResting cX5_bestResting 6 (some (.object "MarginCourt$Order")))) := gV_of q_508 q_510 q_13 q_35 q_511
theorem gX5_155 : GoodIn WU (wsV RX5 155 RX5 yX5_countHour (WSy yX5_countHour cX5_countHour 3 (some .int))) := gV_of q_698 q_700 q_19 q_35 q_701
theorem gX5_158 : GoodIn WU (wsV RX5 158 RX5 yX5_closeOut (WSy yX5_closeOut cX5_closeOut 4 none)) := gV_of q_702 q_704 q_20 q_35 q_705
theorem gX5_161 : GoodIn WU (wsV RX5 161 RX5 yX5_fail (WSy yX5_fail cX5_fail 4 none)) := gV_of q_729 q_731 q_26 q_35 q_732
theorem gX5_164 : GoodIn WU (wsV RX5 164 RX5 yX5_netPositions (WSy yX5_netPositions cX5_netPositions 7 (some .long))) := gV_of q_681 q_683 q_18 q_35 q_684
theorem gX5_174 : GoodIn WU (wsV RX5 174 RX5 yX5_equityOf (WSy yX5_equityOf cX5_equityOf 6 (some .long))) := gV_of q_377 q_379 q_3 q_35 q_380
theorem gX5_182 : GoodIn WU (wsV RX5 182 RX5 yX5_gainOf (WSy yX5_gainOf cX5_gainOf 5 (some .long))) := gV_of q_611 q_613 q_17 q_35 q_614
theorem gX5_186 : GoodIn WU (wsV RX5 186 RX5 yX5_marginOf (WSy yX5_marginOf cX5_marginOf 12 (some .long))) := gV_of q_394 q_396 q_7 q_35 q_397
theorem gX5_189 : GoodIn WU (wsV RX5 189 RX5 yX5_collateralOf (WSy yX5_collateralOf cX5_collateralOf 5 (some .long))) := gV_of q_385 q_387 q_5 q_35 q_388
theorem gX5_210 : GoodIn WU (va_wsS RX5 210 yX5_isBetter (WSy yX5_isBetter cX5_isBetter 2 (some .boolean))) := gS_of q_512 q_513 q_35 q_514
theorem gX5_217 : GoodIn WU (va_wsS RX5 217 yX5_meet (WSy yX5_meet cX5_meet 2 (some .boolean))) := gS_of q_515 q_516 q_35 q_517
theorem gX5_229 : GoodIn WU (wsV RX5 229 RX5 yX5_tradeWithResting (WSy yX5_tradeWithResting cX5_tradeWithResting 4 none)) := gV_of q_518 q_520 q_14 q_35 q_521
theorem gX5_233 : GoodIn WU (wsV RX5 233 RX5 yX5_trade (WSy yX5_trade cX5_trade 6 none)) := gV_of q_522 q_524 q_15 q_35 q_525
theorem gX5_237 : GoodIn WU (va_wsS RX5 237 yX5_book (WSy yX5_book cX5_book 4 none)) := gS_of q_526 q_527 q_35 q_528
theorem gX5_241 : GoodIn WU (WSy yX4_init cX4_init 6 none) := gN_of q_533
theorem gX5_246 : GoodIn WU (wsV RX5 246 RX5 yX5_differenceOf (WSy yX5_differenceOf cX5_differenceOf 3 (some .long))) := gV_of q_381 q_383 q_4 q_35 q_384
theorem gX5_266 : GoodIn WU (va_wsS RX5 266 yX5_dividedUp (WSy yX5_dividedUp cX5_dividedUp 2 (some .int))) := gS_of q_343 q_344 q_35 q_345
theorem gX5_269 : GoodIn WU (wsV RX5 269 RX5 yX5_restOf (WSy yX5_restOf cX5_restOf 8 (some .long))) := gV_of q_398 q_400 q_8 q_35 q_401
theorem gX5_276 : GoodIn WU (wsV RX5 276 RX5 yX5_cancelOrdersOf (WSy yX5_cancelOrdersOf cX5_cancelOrdersOf 4 none)) := gV_of q_706 q_708 q_21 q_35 q_709
theorem gX5_279 : GoodIn WU (wsV RX5 279 RX5 yX5_productsByRisk (WSy yX5_productsByRisk cX5_productsByRisk 6 (some (.array .int)))) := gV_of q_710 q_712 q_22 q_35 q_713
theorem gX5_283 : GoodIn WU (wsV RX5 283 RX5 yX5_closePosition (WSy yX5_closePosition cX5_closePosition 6 none)) := gV_of q_722 q_724 q_25 q_35 q_725
theorem gX5_287 : GoodIn WU (wsV RX5 287 RX5 yX5_goesAhead (WSy yX5_goesAhead cX5_goesAhead 8 (some .boolean))) := gV_of q_714 q_716 q_23 q_35 q_717
theorem gX5_291 : GoodIn WU (wsV RX5 291 RX5 yX5_riskOf (WSy yX5_riskOf cX5_riskOf 9 (some .long))) := gV_of q_718 q_720 q_24 q_35 q_721
theorem gX5_297 : GoodIn WU (wsV RX5 297 RX5 yX5_memberWithMostFree (WSy yX5_memberWithMostFree cX5_memberWithMostFree 7 (some .int))) := gV_of q_733 q_735 q_27 q_35 q_736
theorem gX5_300 : GoodIn WU (wsV RX5 300 RX5 yX5_handOver (WSy yX5_handOver cX5_handOver 6 none)) := gV_of q_737 q_739 q_28 q_35 q_740
theorem gX5_303 : GoodIn WU (wsV RX5 303 RX5 yX5_sellCollateral (WSy yX5_sellCollateral cX5_sellCollateral 4 none)) := gV_of q_745 q_747 q_30 q_35 q_748
theorem gX5_306 : GoodIn WU (wsV RX5 306 RX5 yX5_coverLoss (WSy yX5_coverLoss cX5_coverLoss 6 none)) := gV_of q_749 q_751 q_31 q_35 q_752
theorem gX5_310 : GoodIn WU (wsV RX5 310 RX5 yX5_drop (WSy yX5_drop cX5_drop 5 none)) := gV_of q_741 q_743 q_29 q_35 q_744
theorem gX5_314 : GoodIn WU (va_wsS RX5 314 yX5_takeFromShare (WSy yX5_takeFromShare cX5_takeFromShare 5 (some .long))) := gS_of q_753 q_754 q_35 q_755
theorem gX5_318 : GoodIn WU (wsV RX5 318 RX5 yX5_takeFromOthers (WSy yX5_takeFromOthers cX5_takeFromOthers 9 (some .long))) := gV_of q_759 q_761 q_32 q_35 q_762
theorem gX5_324 : GoodIn WU (wsV RX5 324 RX5 yX5_sharesOfOthers (WSy yX5_sharesOfOthers cX5_sharesOfOthers 4 (some .long))) := gV_of q_763 q_765 q_33 q_35 q_766
theorem gX5_328 : GoodIn WU (va_wsS RX5 328 yX5_partOf (WSy yX5_partOf cX5_partOf 6 (some .long))) := gS_of q_767 q_768 q_35 q_769
theorem gX5_44 : GoodIn WU (va_wsS RX5 44 yX5_demandProduct (WSy yX5_demandProduct cX5_demandProduct 1 none)) := gS_of q_302 q_303 q_35 q_304
theorem gX5_48 : GoodIn WU (va_wsS RX5 48 yX5_demandWithin (WSy yX5_demandWithin cX5_demandWithin 3 none)) := gS_of q_305 q_306 q_35 q_307
theorem gX5_60 : GoodIn WU (va_wsS RX5 60 yX5_demandKind (WSy yX5_demandKind cX5_demandKind 1 none)) := gS_of q_331 q_332 q_35 q_333
theorem gX5_66 : GoodIn WU (va_wsS RX5 66 yX5_haircutBy (WSy yX5_haircutBy cX5_haircutBy 5 (some .int))) := gS_of q_334 q_335 q_35 q_336
theorem gX5_73 : GoodIn WU (va_wsS RX5 73 yX5_demandMember (WSy yX5_demandMember cX5_demandMember 1 none)) := gS_of q_350 q_351 q_35 q_352
theorem gX5_82 : GoodIn WU (va_wsS RX5 82 yX5_demandState (WSy yX5_demandState cX5_demandState 1 none)) := gS_of q_355 q_356 q_35 q_357
theorem gX5_86 : GoodIn WU (wsV RX5 86 RX5 yX5_freeOf (WSy yX5_freeOf cX5_freeOf 2 (some .long))) := gV_of q_373 q_375 q_2 q_35 q_376
theorem gX5_90 : GoodIn WU (va_wsS RX5 90 yX5_receiveFromOutside (WSy yX5_receiveFromOutside cX5_receiveFromOutside 3 none)) := gS_of q_405 q_406 q_35 q_407
