/-! words of the tables, by their places; the fields of the classes; the words of calls -/
theorem q_0 : (Cond.selects "MarginCourt" ⟨"MarginCourt", "countHour", "(I)I"⟩ ⟨"MarginCourt", "countHour", "(I)I"⟩) ∈ WU := wu_mem (lw_in0 (List.mem_of_getElem? (i := 0) rfl)) rfl
theorem q_1 : (Cond.selects "MarginCourt" ⟨"MarginCourt", "freeOf", "(I)J"⟩ ⟨"MarginCourt", "freeOf", "(I)J"⟩) ∈ WU := wu_mem (lw_in0 (List.mem_of_getElem? (i := 1) rfl)) rfl
theorem q_2 : (Cond.selects "MarginCourt" ⟨"MarginCourt", "equityOf", "(I)J"⟩ ⟨"MarginCourt", "equityOf", "(I)J"⟩) ∈ WU := wu_mem (lw_in0 (List.mem_of_getElem? (i := 2) rfl)) rfl
theorem q_3 : (Cond.selects "MarginCourt" ⟨"MarginCourt", "differenceOf", "(LMarginCourt$Account;I)J"⟩ ⟨"MarginCourt", "differenceOf", "(LMarginCourt$Account;I)J"⟩) ∈ WU := wu_mem (lw_in0 (List.mem_of_getElem? (i := 3) rfl)) rfl
theorem q_4 : (Cond.selects "MarginCourt" ⟨"MarginCourt", "collateralOf", "(I)J"⟩ ⟨"MarginCourt", "collateralOf", "(I)J"⟩) ∈ WU := wu_mem (lw_in0 (List.mem_of_getElem? (i := 4) rfl)) rfl
theorem q_5 : (Cond.selects "MarginCourt" ⟨"MarginCourt", "worthOf", "(II)J"⟩ ⟨"MarginCourt", "worthOf", "(II)J"⟩) ∈ WU := wu_mem (lw_in0 (List.mem_of_getElem? (i := 5) rfl)) rfl
theorem q_6 : (Cond.selects "MarginCourt" ⟨"MarginCourt", "marginOf", "(I)J"⟩ ⟨"MarginCourt", "marginOf", "(I)J"⟩) ∈ WU := wu_mem (lw_in0 (List.mem_of_getElem? (i := 6) rfl)) rfl
theorem q_7 : (Cond.selects "MarginCourt" ⟨"MarginCourt", "restOf", "(IIZ)J"⟩ ⟨"MarginCourt", "restOf", "(IIZ)J"⟩) ∈ WU := wu_mem (lw_in0 (List.mem_of_getElem? (i := 7) rfl)) rfl
theorem q_8 : (Cond.selects "MarginCourt" ⟨"MarginCourt", "closeOut", "(I)V"⟩ ⟨"MarginCourt", "closeOut", "(I)V"⟩) ∈ WU := wu_mem (lw_in0 (List.mem_of_getElem? (i := 8) rfl)) rfl
theorem q_9 : (Cond.selects "MarginCourt" ⟨"MarginCourt", "cancelOrdersOf", "(I)V"⟩ ⟨"MarginCourt", "cancelOrdersOf", "(I)V"⟩) ∈ WU := wu_mem (lw_in0 (List.mem_of_getElem? (i := 9) rfl)) rfl
theorem q_10 : (Cond.selects "MarginCourt" ⟨"MarginCourt", "productsByRisk", "(I)[I"⟩ ⟨"MarginCourt", "productsByRisk", "(I)[I"⟩) ∈ WU := wu_mem (lw_in0 (List.mem_of_getElem? (i := 10) rfl)) rfl
theorem q_11 : (Cond.selects "MarginCourt" ⟨"MarginCourt", "goesAhead", "(III)Z"⟩ ⟨"MarginCourt", "goesAhead", "(III)Z"⟩) ∈ WU := wu_mem (lw_in0 (List.mem_of_getElem? (i := 11) rfl)) rfl
theorem q_12 : (Cond.selects "MarginCourt" ⟨"MarginCourt", "riskOf", "(II)J"⟩ ⟨"MarginCourt", "riskOf", "(II)J"⟩) ∈ WU := wu_mem (lw_in0 (List.mem_of_getElem? (i := 12) rfl)) rfl
theorem q_13 : (Cond.selects "MarginCourt" ⟨"MarginCourt", "closePosition", "(II)V"⟩ ⟨"MarginCourt", "closePosition", "(II)V"⟩) ∈ WU := wu_mem (lw_in0 (List.mem_of_getElem? (i := 13) rfl)) rfl
theorem q_14 : (Cond.selects "MarginCourt" ⟨"MarginCourt", "bestResting", "(IZ)LMarginCourt$Order;"⟩ ⟨"MarginCourt", "bestResting", "(IZ)LMarginCourt$Order;"⟩) ∈ WU := wu_mem (lw_in0 (List.mem_of_getElem? (i := 14) rfl)) rfl
theorem q_15 : (Cond.selects "MarginCourt" ⟨"MarginCourt", "tradeWithResting", "(ILMarginCourt$Order;I)V"⟩ ⟨"MarginCourt", "tradeWithResting", "(ILMarginCourt$Order;I)V"⟩) ∈ WU := wu_mem (lw_in0 (List.mem_of_getElem? (i := 15) rfl)) rfl
theorem q_16 : (Cond.selects "MarginCourt" ⟨"MarginCourt", "trade", "(IIIII)V"⟩ ⟨"MarginCourt", "trade", "(IIIII)V"⟩) ∈ WU := wu_mem (lw_in0 (List.mem_of_getElem? (i := 16) rfl)) rfl
theorem q_17 : (Cond.selects "java/util/ArrayList" ⟨"java/util/ArrayList", "add", "(Ljava/lang/Object;[Ljava/lang/Object;I)V"⟩ ⟨"java/util/ArrayList", "add", "(Ljava/lang/Object;[Ljava/lang/Object;I)V"⟩) ∈ WU := wu_mem (lw_in0 (List.mem_of_getElem? (i := 17) rfl)) rfl
theorem q_18 : (Cond.selects "java/util/ArrayList" ⟨"java/util/ArrayList", "grow", "()[Ljava/lang/Object;"⟩ ⟨"java/util/ArrayList", "grow", "()[Ljava/lang/Object;"⟩) ∈ WU := wu_mem (lw_in0 (List.mem_of_getElem? (i := 18) rfl)) rfl
theorem q_19 : (Cond.selects "java/util/ArrayList" ⟨"java/util/ArrayList", "grow", "(I)[Ljava/lang/Object;"⟩ ⟨"java/util/ArrayList", "grow", "(I)[Ljava/lang/Object;"⟩) ∈ WU := wu_mem (lw_in0 (List.mem_of_getElem? (i := 19) rfl)) rfl
theorem q_20 : (Cond.selects "MarginCourt" ⟨"MarginCourt", "fail", "(I)V"⟩ ⟨"MarginCourt", "fail", "(I)V"⟩) ∈ WU := wu_mem (lw_in0 (List.mem_of_getElem? (i := 20) rfl)) rfl
theorem q_21 : (Cond.selects "MarginCourt" ⟨"MarginCourt", "memberWithMostFree", "()I"⟩ ⟨"MarginCourt", "memberWithMostFree", "()I"⟩) ∈ WU := wu_mem (lw_in0 (List.mem_of_getElem? (i := 21) rfl)) rfl
theorem q_22 : (Cond.selects "MarginCourt" ⟨"MarginCourt", "handOver", "(III)V"⟩ ⟨"MarginCourt", "handOver", "(III)V"⟩) ∈ WU := wu_mem (lw_in0 (List.mem_of_getElem? (i := 22) rfl)) rfl
theorem q_23 : (Cond.selects "MarginCourt" ⟨"MarginCourt", "drop", "(IIII)V"⟩ ⟨"MarginCourt", "drop", "(IIII)V"⟩) ∈ WU := wu_mem (lw_in0 (List.mem_of_getElem? (i := 23) rfl)) rfl
theorem q_24 : (Cond.selects "MarginCourt" ⟨"MarginCourt", "sellCollateral", "(I)V"⟩ ⟨"MarginCourt", "sellCollateral", "(I)V"⟩) ∈ WU := wu_mem (lw_in0 (List.mem_of_getElem? (i := 24) rfl)) rfl
theorem q_25 : (Cond.selects "MarginCourt" ⟨"MarginCourt", "netPositions", "(LMarginCourt$Account;)J"⟩ ⟨"MarginCourt", "netPositions", "(LMarginCourt$Account;)J"⟩) ∈ WU := wu_mem (lw_in0 (List.mem_of_getElem? (i := 25) rfl)) rfl
theorem q_26 : (Cond.selects "MarginCourt" ⟨"MarginCourt", "coverLoss", "(LMarginCourt$Account;)V"⟩ ⟨"MarginCourt", "coverLoss", "(LMarginCourt$Account;)V"⟩) ∈ WU := wu_mem (lw_in0 (List.mem_of_getElem? (i := 26) rfl)) rfl
theorem q_27 : (Cond.selects "MarginCourt" ⟨"MarginCourt", "takeFromOthers", "(J)J"⟩ ⟨"MarginCourt", "takeFromOthers", "(J)J"⟩) ∈ WU := wu_mem (lw_in0 (List.mem_of_getElem? (i := 27) rfl)) rfl
theorem q_28 : (Cond.selects "MarginCourt" ⟨"MarginCourt", "sharesOfOthers", "()J"⟩ ⟨"MarginCourt", "sharesOfOthers", "()J"⟩) ∈ WU := wu_mem (lw_in0 (List.mem_of_getElem? (i := 28) rfl)) rfl
theorem q_30 : (Cond.selects "MarginCourt" ⟨"MarginCourt", "match", "(LMarginCourt$Order;)V"⟩ ⟨"MarginCourt", "match", "(LMarginCourt$Order;)V"⟩) ∈ WU := wu_mem (lw_in0 (List.mem_of_getElem? (i := 30) rfl)) rfl
theorem q_31 : (Cond.selects "MarginCourt" ⟨"MarginCourt", "demandOrder", "(I)V"⟩ ⟨"MarginCourt", "demandOrder", "(I)V"⟩) ∈ WU := wu_mem (lw_in0 (List.mem_of_getElem? (i := 31) rfl)) rfl
theorem q_32 : (Cond.selects "MarginCourt" ⟨"MarginCourt", "cancelOrdersFor", "(I)I"⟩ ⟨"MarginCourt", "cancelOrdersFor", "(I)I"⟩) ∈ WU := wu_mem (lw_in0 (List.mem_of_getElem? (i := 32) rfl)) rfl
theorem q_33 : (Cond.selects "MarginCourt" ⟨"MarginCourt", "gainOf", "(ILMarginCourt$Trade;)J"⟩ ⟨"MarginCourt", "gainOf", "(ILMarginCourt$Trade;)J"⟩) ∈ WU := wu_mem (lw_in0 (List.mem_of_getElem? (i := 33) rfl)) rfl
theorem q_34 : (Cond.selects "MarginCourtModel" ⟨"MarginCourtModel", "asks", "(Z)Z"⟩ ⟨"MarginCourtModel", "asks", "(Z)Z"⟩) ∈ WU := wu_mem (lw_in0 (List.mem_of_getElem? (i := 34) rfl)) rfl
theorem q_35 : (Cond.selects "MarginCourtModel" ⟨"MarginCourtModel", "haircutOf", "(I)I"⟩ ⟨"MarginCourtModel", "haircutOf", "(I)I"⟩) ∈ WU := wu_mem (lw_in0 (List.mem_of_getElem? (i := 35) rfl)) rfl
theorem q_36 : (Cond.selects "MarginCourtModel" ⟨"MarginCourtModel", "freeOf", "(I)J"⟩ ⟨"MarginCourtModel", "freeOf", "(I)J"⟩) ∈ WU := wu_mem (lw_in0 (List.mem_of_getElem? (i := 36) rfl)) rfl
theorem q_37 : (Cond.selects "MarginCourtModel" ⟨"MarginCourtModel", "equityOf", "(I)J"⟩ ⟨"MarginCourtModel", "equityOf", "(I)J"⟩) ∈ WU := wu_mem (lw_in0 (List.mem_of_getElem? (i := 37) rfl)) rfl
theorem q_38 : (Cond.selects "MarginCourtModel" ⟨"MarginCourtModel", "worth", "(II)J"⟩ ⟨"MarginCourtModel", "worth", "(II)J"⟩) ∈ WU := wu_mem (lw_in0 (List.mem_of_getElem? (i := 38) rfl)) rfl
theorem q_39 : (Cond.selects "MarginCourtModel" ⟨"MarginCourtModel", "collateralOf", "(I)J"⟩ ⟨"MarginCourtModel", "collateralOf", "(I)J"⟩) ∈ WU := wu_mem (lw_in0 (List.mem_of_getElem? (i := 39) rfl)) rfl
theorem q_40 : (Cond.selects "MarginCourtModel" ⟨"MarginCourtModel", "marginOf", "(I)I"⟩ ⟨"MarginCourtModel", "marginOf", "(I)I"⟩) ∈ WU := wu_mem (lw_in0 (List.mem_of_getElem? (i := 40) rfl)) rfl
theorem q_41 : (Cond.selects "MarginCourtModel" ⟨"MarginCourtModel", "resting", "(IIZ)I"⟩ ⟨"MarginCourtModel", "resting", "(IIZ)I"⟩) ∈ WU := wu_mem (lw_in0 (List.mem_of_getElem? (i := 41) rfl)) rfl
theorem q_42 : (Cond.selects "MarginCourtModel" ⟨"MarginCourtModel", "fails", "(I)I"⟩ ⟨"MarginCourtModel", "fails", "(I)I"⟩) ∈ WU := wu_mem (lw_in0 (List.mem_of_getElem? (i := 42) rfl)) rfl
theorem q_43 : (Cond.selects "MarginCourtModel" ⟨"MarginCourtModel", "matches", "(I)V"⟩ ⟨"MarginCourtModel", "matches", "(I)V"⟩) ∈ WU := wu_mem (lw_in0 (List.mem_of_getElem? (i := 43) rfl)) rfl
theorem q_44 : (Cond.selects "MarginCourtModel" ⟨"MarginCourtModel", "bestOf", "(IZ)I"⟩ ⟨"MarginCourtModel", "bestOf", "(IZ)I"⟩) ∈ WU := wu_mem (lw_in0 (List.mem_of_getElem? (i := 44) rfl)) rfl
theorem q_45 : (Cond.selects "MarginCourtModel" ⟨"MarginCourtModel", "trade", "(IIIII)V"⟩ ⟨"MarginCourtModel", "trade", "(IIIII)V"⟩) ∈ WU := wu_mem (lw_in0 (List.mem_of_getElem? (i := 45) rfl)) rfl
theorem q_46 : (Cond.selects "MarginCourtModel" ⟨"MarginCourtModel", "isOrder", "(I)Z"⟩ ⟨"MarginCourtModel", "isOrder", "(I)Z"⟩) ∈ WU := wu_mem (lw_in0 (List.mem_of_getElem? (i := 46) rfl)) rfl
theorem q_47 : (Cond.selects "MarginCourtModel" ⟨"MarginCourtModel", "closesOut", "(I)Z"⟩ ⟨"MarginCourtModel", "closesOut", "(I)Z"⟩) ∈ WU := wu_mem (lw_in0 (List.mem_of_getElem? (i := 47) rfl)) rfl
theorem q_48 : (Cond.selects "MarginCourtModel" ⟨"MarginCourtModel", "riskOf", "(II)I"⟩ ⟨"MarginCourtModel", "riskOf", "(II)I"⟩) ∈ WU := wu_mem (lw_in0 (List.mem_of_getElem? (i := 48) rfl)) rfl
theorem q_49 : (Cond.selects "MarginCourtModel" ⟨"MarginCourtModel", "nextOpen", "()I"⟩ ⟨"MarginCourtModel", "nextOpen", "()I"⟩) ∈ WU := wu_mem (lw_in0 (List.mem_of_getElem? (i := 49) rfl)) rfl
theorem q_50 : (Cond.selects "MarginCourtModel" ⟨"MarginCourtModel", "closes", "(II)V"⟩ ⟨"MarginCourtModel", "closes", "(II)V"⟩) ∈ WU := wu_mem (lw_in0 (List.mem_of_getElem? (i := 50) rfl)) rfl
theorem q_51 : (Cond.selects "MarginCourtModel" ⟨"MarginCourtModel", "breaks", "(I)V"⟩ ⟨"MarginCourtModel", "breaks", "(I)V"⟩) ∈ WU := wu_mem (lw_in0 (List.mem_of_getElem? (i := 51) rfl)) rfl
theorem q_52 : (Cond.selects "MarginCourtModel" ⟨"MarginCourtModel", "richest", "(I)I"⟩ ⟨"MarginCourtModel", "richest", "(I)I"⟩) ∈ WU := wu_mem (lw_in0 (List.mem_of_getElem? (i := 52) rfl)) rfl
theorem q_53 : (Cond.selects "MarginCourtModel" ⟨"MarginCourtModel", "nets", "(I)J"⟩ ⟨"MarginCourtModel", "nets", "(I)J"⟩) ∈ WU := wu_mem (lw_in0 (List.mem_of_getElem? (i := 53) rfl)) rfl
theorem q_54 : (Cond.selects "MarginCourtModel" ⟨"MarginCourtModel", "covers", "(IJ)V"⟩ ⟨"MarginCourtModel", "covers", "(IJ)V"⟩) ∈ WU := wu_mem (lw_in0 (List.mem_of_getElem? (i := 54) rfl)) rfl
theorem q_56 : (Cond.initialized "MarginCourt") ∈ WU := wu_mem (lw_in1 (List.mem_of_getElem? (i := 1) rfl)) rfl
theorem q_57 : (Cond.initialized "java/util/AbstractCollection") ∈ WU := wu_mem (lw_in1 (List.mem_of_getElem? (i := 2) rfl)) rfl
theorem q_58 : (Cond.initialized "java/util/AbstractList") ∈ WU := wu_mem (lw_in1 (List.mem_of_getElem? (i := 3) rfl)) rfl
theorem q_59 : (Cond.initialized "java/util/ArrayList") ∈ WU := wu_mem (lw_in1 (List.mem_of_getElem? (i := 4) rfl)) rfl
theorem q_63 : (Cond.initialized "MarginCourtModel") ∈ WU := wu_mem (lw_in1 (List.mem_of_getElem? (i := 8) rfl)) rfl
theorem q_67 : (Cond.initialized "java/lang/IllegalArgumentException") ∈ WU := wu_mem (lw_in1 (List.mem_of_getElem? (i := 12) rfl)) rfl
theorem q_68 : (Cond.initialized "java/lang/Math") ∈ WU := wu_mem (lw_in1 (List.mem_of_getElem? (i := 13) rfl)) rfl
theorem q_69 : (Cond.initialized "java/lang/IllegalStateException") ∈ WU := wu_mem (lw_in1 (List.mem_of_getElem? (i := 14) rfl)) rfl
theorem q_70 : (Cond.initialized "java/util/Objects") ∈ WU := wu_mem (lw_in1 (List.mem_of_getElem? (i := 15) rfl)) rfl
theorem q_71 : (Cond.initialized "jdk/internal/util/Preconditions") ∈ WU := wu_mem (lw_in1 (List.mem_of_getElem? (i := 16) rfl)) rfl
theorem q_72 : (Cond.initialized "MarginCourt$Order") ∈ WU := wu_mem (lw_in1 (List.mem_of_getElem? (i := 17) rfl)) rfl
theorem q_73 : (Cond.initialized "jdk/internal/util/ArraysSupport") ∈ WU := wu_mem (lw_in1 (List.mem_of_getElem? (i := 18) rfl)) rfl
theorem q_74 : (Cond.initialized "java/util/Arrays") ∈ WU := wu_mem (lw_in1 (List.mem_of_getElem? (i := 19) rfl)) rfl
theorem q_75 : (Cond.initialized "java/lang/System") ∈ WU := wu_mem (lw_in1 (List.mem_of_getElem? (i := 20) rfl)) rfl
theorem q_76 : (Cond.initialized "MarginCourt$Trade") ∈ WU := wu_mem (lw_in1 (List.mem_of_getElem? (i := 21) rfl)) rfl
theorem q_77 : (Cond.initialized "java/lang/IndexOutOfBoundsException") ∈ WU := wu_mem (lw_in1 (List.mem_of_getElem? (i := 22) rfl)) rfl
theorem q_78 : (Cond.initialized "java/util/NoSuchElementException") ∈ WU := wu_mem (lw_in1 (List.mem_of_getElem? (i := 23) rfl)) rfl
theorem q_85 : (Cond.instanceMethod ⟨"java/lang/Object", "<init>", "()V"⟩) ∈ WU := wu_mem (lw_in1 (List.mem_of_getElem? (i := 30) rfl)) rfl
theorem q_86 : (Cond.code ⟨"java/lang/Object", "<init>", "()V"⟩ object_method_1_code 1 none) ∈ WU := wu_mem (lw_in1 (List.mem_of_getElem? (i := 31) rfl)) rfl
theorem q_98 : (Cond.methodLink "java/util/ArrayList" 1 ⟨"java/util/AbstractList", "<init>", "()V"⟩) ∈ WU := wu_mem (lw_in1 (List.mem_of_getElem? (i := 43) rfl)) rfl
theorem q_99 : (Cond.instanceMethod ⟨"java/util/AbstractList", "<init>", "()V"⟩) ∈ WU := wu_mem (lw_in1 (List.mem_of_getElem? (i := 44) rfl)) rfl
theorem q_100 : (Cond.code ⟨"java/util/AbstractList", "<init>", "()V"⟩ prog_21_method_1_code 1 none) ∈ WU := wu_mem (lw_in1 (List.mem_of_getElem? (i := 45) rfl)) rfl
theorem q_101 : (Cond.methodLink "java/util/AbstractList" 1 ⟨"java/util/AbstractCollection", "<init>", "()V"⟩) ∈ WU := wu_mem (lw_in1 (List.mem_of_getElem? (i := 46) rfl)) rfl
theorem q_102 : (Cond.instanceMethod ⟨"java/util/AbstractCollection", "<init>", "()V"⟩) ∈ WU := wu_mem (lw_in1 (List.mem_of_getElem? (i := 47) rfl)) rfl
theorem q_103 : (Cond.code ⟨"java/util/AbstractCollection", "<init>", "()V"⟩ prog_20_method_1_code 1 none) ∈ WU := wu_mem (lw_in1 (List.mem_of_getElem? (i := 48) rfl)) rfl
theorem q_104 : (Cond.methodLink "java/util/AbstractCollection" 1 ⟨"java/lang/Object", "<init>", "()V"⟩) ∈ WU := wu_mem (lw_in1 (List.mem_of_getElem? (i := 49) rfl)) rfl
theorem q_105 : (Cond.fieldLink "java/util/ArrayList" 39 "java/util/ArrayList" "DEFAULTCAPACITY_EMPTY_ELEMENTDATA" "[Ljava/lang/Object;") ∈ WU := wu_mem (lw_in1 (List.mem_of_getElem? (i := 50) rfl)) rfl
theorem q_107 : (Cond.fieldLink "java/util/ArrayList" 9 "java/util/ArrayList" "elementData" "[Ljava/lang/Object;") ∈ WU := wu_mem (lw_in1 (List.mem_of_getElem? (i := 52) rfl)) rfl
theorem q_108 : (Cond.fieldLink "java/util/ArrayList" 48 "java/util/ArrayList" "size" "I") ∈ WU := wu_mem (lw_in1 (List.mem_of_getElem? (i := 53) rfl)) rfl
theorem q_109 : (Cond.fieldLink "java/util/AbstractList" 7 "java/util/AbstractList" "modCount" "I") ∈ WU := wu_mem (lw_in1 (List.mem_of_getElem? (i := 54) rfl)) rfl
theorem q_110 : (Cond.fieldLink "java/util/ArrayList" 63 "java/util/ArrayList" "modCount" "I") ∈ WU := wu_mem (lw_in1 (List.mem_of_getElem? (i := 55) rfl)) rfl
theorem q_111 : (Cond.sameField "java/util/ArrayList" "java/util/AbstractList" "modCount" "I") ∈ WU := wu_mem (lw_in1 (List.mem_of_getElem? (i := 56) rfl)) rfl
theorem q_123 : (Cond.methodLink "MarginCourt$Account" 3 ⟨"java/lang/Object", "<init>", "()V"⟩) ∈ WU := wu_mem (lw_in1 (List.mem_of_getElem? (i := 68) rfl)) rfl
theorem q_124 : (Cond.fieldLinkNest "MarginCourt" 94 "MarginCourt$Account" "cash" "J" "MarginCourt") ∈ NWL := nwl_mem (lw_in1 (List.mem_of_getElem? (i := 69) rfl)) rfl
theorem q_125 : (Cond.fieldLinkNest "MarginCourt" 105 "MarginCourt$Account" "share" "J" "MarginCourt") ∈ NWL := nwl_mem (lw_in1 (List.mem_of_getElem? (i := 70) rfl)) rfl
theorem q_126 : (Cond.fieldLinkNest "MarginCourt" 177 "MarginCourt$Account" "outside" "J" "MarginCourt") ∈ NWL := nwl_mem (lw_in1 (List.mem_of_getElem? (i := 71) rfl)) rfl
theorem q_127 : (Cond.fieldLinkNest "MarginCourt" 78 "MarginCourt$Account" "failed" "Z" "MarginCourt") ∈ NWL := nwl_mem (lw_in1 (List.mem_of_getElem? (i := 72) rfl)) rfl
theorem q_128 : (Cond.fieldLink "MarginCourt$Account" 9 "MarginCourt$Account" "hoursCalled" "I") ∈ WU := wu_mem (lw_in1 (List.mem_of_getElem? (i := 73) rfl)) rfl
theorem q_129 : (Cond.fieldLinkNest "MarginCourt" 168 "MarginCourt$Account" "hoursCalled" "I" "MarginCourt") ∈ NWL := nwl_mem (lw_in1 (List.mem_of_getElem? (i := 74) rfl)) rfl
theorem q_130 : (Cond.fieldLink "MarginCourt$Account" 15 "MarginCourt$Account" "units" "[I") ∈ WU := wu_mem (lw_in1 (List.mem_of_getElem? (i := 75) rfl)) rfl
theorem q_131 : (Cond.fieldLinkNest "MarginCourt" 98 "MarginCourt$Account" "units" "[I" "MarginCourt") ∈ NWL := nwl_mem (lw_in1 (List.mem_of_getElem? (i := 76) rfl)) rfl
theorem q_132 : (Cond.fieldLink "MarginCourt$Account" 19 "MarginCourt$Account" "positions" "[I") ∈ WU := wu_mem (lw_in1 (List.mem_of_getElem? (i := 77) rfl)) rfl
theorem q_133 : (Cond.fieldLinkNest "MarginCourt" 171 "MarginCourt$Account" "positions" "[I" "MarginCourt") ∈ NWL := nwl_mem (lw_in1 (List.mem_of_getElem? (i := 78) rfl)) rfl
theorem q_134 : (Cond.fieldLink "MarginCourt$Account" 22 "MarginCourt$Account" "paidSums" "[J") ∈ WU := wu_mem (lw_in1 (List.mem_of_getElem? (i := 79) rfl)) rfl
theorem q_135 : (Cond.fieldLinkNest "MarginCourt" 243 "MarginCourt$Account" "paidSums" "[J" "MarginCourt") ∈ NWL := nwl_mem (lw_in1 (List.mem_of_getElem? (i := 80) rfl)) rfl
theorem q_153 : (Cond.arrayClass .long) ∈ WU := wu_mem (lw_in1 (List.mem_of_getElem? (i := 98) rfl)) rfl
theorem q_154 : (Cond.arrayClass .int) ∈ WU := wu_mem (lw_in1 (List.mem_of_getElem? (i := 99) rfl)) rfl
theorem q_159 : (Cond.methodLink "MarginCourt$Product" 3 ⟨"java/lang/Object", "<init>", "()V"⟩) ∈ WU := wu_mem (lw_in1 (List.mem_of_getElem? (i := 104) rfl)) rfl
theorem q_160 : (Cond.fieldLink "MarginCourt$Product" 9 "MarginCourt$Product" "price" "I") ∈ WU := wu_mem (lw_in1 (List.mem_of_getElem? (i := 105) rfl)) rfl
theorem q_161 : (Cond.fieldLinkNest "MarginCourt" 52 "MarginCourt$Product" "price" "I" "MarginCourt") ∈ NWL := nwl_mem (lw_in1 (List.mem_of_getElem? (i := 106) rfl)) rfl
theorem q_162 : (Cond.fieldLinkNest "MarginCourt" 112 "MarginCourt$Product" "halted" "Z" "MarginCourt") ∈ NWL := nwl_mem (lw_in1 (List.mem_of_getElem? (i := 107) rfl)) rfl
theorem q_163 : (Cond.fieldLink "MarginCourt$Product" 15 "MarginCourt$Product" "moves" "[I") ∈ WU := wu_mem (lw_in1 (List.mem_of_getElem? (i := 108) rfl)) rfl
theorem q_164 : (Cond.fieldLinkNest "MarginCourt" 56 "MarginCourt$Product" "moves" "[I" "MarginCourt") ∈ NWL := nwl_mem (lw_in1 (List.mem_of_getElem? (i := 109) rfl)) rfl
theorem q_176 : (Cond.methodLink "MarginCourt$Kind" 3 ⟨"java/lang/Object", "<init>", "()V"⟩) ∈ WU := wu_mem (lw_in1 (List.mem_of_getElem? (i := 121) rfl)) rfl
theorem q_177 : (Cond.fieldLink "MarginCourt$Kind" 9 "MarginCourt$Kind" "lastPrices" "[I") ∈ WU := wu_mem (lw_in1 (List.mem_of_getElem? (i := 122) rfl)) rfl
theorem q_178 : (Cond.fieldLinkNest "MarginCourt" 63 "MarginCourt$Kind" "lastPrices" "[I" "MarginCourt") ∈ NWL := nwl_mem (lw_in1 (List.mem_of_getElem? (i := 123) rfl)) rfl
theorem q_179 : (Cond.fieldLink "MarginCourt$Kind" 15 "MarginCourt$Kind" "haircut" "I") ∈ WU := wu_mem (lw_in1 (List.mem_of_getElem? (i := 124) rfl)) rfl
theorem q_180 : (Cond.fieldLinkNest "MarginCourt" 70 "MarginCourt$Kind" "haircut" "I" "MarginCourt") ∈ NWL := nwl_mem (lw_in1 (List.mem_of_getElem? (i := 125) rfl)) rfl
theorem q_186 : (Cond.fieldLink "MarginCourt" 11 "MarginCourt" "accounts" "[LMarginCourt$Account;") ∈ WU := wu_mem (lw_in1 (List.mem_of_getElem? (i := 131) rfl)) rfl
theorem q_187 : (Cond.fieldLink "MarginCourt" 17 "MarginCourt" "products" "[LMarginCourt$Product;") ∈ WU := wu_mem (lw_in1 (List.mem_of_getElem? (i := 132) rfl)) rfl
theorem q_188 : (Cond.fieldLink "MarginCourt" 23 "MarginCourt" "kinds" "[LMarginCourt$Kind;") ∈ WU := wu_mem (lw_in1 (List.mem_of_getElem? (i := 133) rfl)) rfl
theorem q_189 : (Cond.fieldLink "MarginCourt" 30 "MarginCourt" "orders" "Ljava/util/ArrayList;") ∈ WU := wu_mem (lw_in1 (List.mem_of_getElem? (i := 134) rfl)) rfl
theorem q_190 : (Cond.fieldLink "MarginCourt" 34 "MarginCourt" "log" "Ljava/util/ArrayList;") ∈ WU := wu_mem (lw_in1 (List.mem_of_getElem? (i := 135) rfl)) rfl
theorem q_191 : (Cond.fieldLink "MarginCourt" 37 "MarginCourt" "lossesByMove" "[J") ∈ WU := wu_mem (lw_in1 (List.mem_of_getElem? (i := 136) rfl)) rfl
theorem q_192 : (Cond.fieldLink "MarginCourt" 152 "MarginCourt" "tradeCount" "I") ∈ WU := wu_mem (lw_in1 (List.mem_of_getElem? (i := 137) rfl)) rfl
theorem q_193 : (Cond.fieldLink "MarginCourt" 192 "MarginCourt" "unpaidLoss" "J") ∈ WU := wu_mem (lw_in1 (List.mem_of_getElem? (i := 138) rfl)) rfl
theorem q_219 : (Cond.methodLink "MarginCourt" 155 ⟨"MarginCourt", "countHour", "(I)I"⟩) ∈ WU := wu_mem (lw_in1 (List.mem_of_getElem? (i := 164) rfl)) rfl
theorem q_221 : (Cond.instanceMethod ⟨"MarginCourt", "countHour", "(I)I"⟩) ∈ WU := wu_mem (lw_in1 (List.mem_of_getElem? (i := 166) rfl)) rfl
theorem q_222 : (Cond.code ⟨"MarginCourt", "countHour", "(I)I"⟩ prog_1_method_55_code 3 (some .int)) ∈ WU := wu_mem (lw_in1 (List.mem_of_getElem? (i := 167) rfl)) rfl
theorem q_223 : (Cond.methodLink "MarginCourt" 86 ⟨"MarginCourt", "freeOf", "(I)J"⟩) ∈ WU := wu_mem (lw_in1 (List.mem_of_getElem? (i := 168) rfl)) rfl
theorem q_225 : (Cond.instanceMethod ⟨"MarginCourt", "freeOf", "(I)J"⟩) ∈ WU := wu_mem (lw_in1 (List.mem_of_getElem? (i := 170) rfl)) rfl
theorem q_226 : (Cond.code ⟨"MarginCourt", "freeOf", "(I)J"⟩ prog_1_method_43_code 2 (some .long)) ∈ WU := wu_mem (lw_in1 (List.mem_of_getElem? (i := 171) rfl)) rfl
theorem q_227 : (Cond.methodLink "MarginCourt" 174 ⟨"MarginCourt", "equityOf", "(I)J"⟩) ∈ WU := wu_mem (lw_in1 (List.mem_of_getElem? (i := 172) rfl)) rfl
theorem q_229 : (Cond.instanceMethod ⟨"MarginCourt", "equityOf", "(I)J"⟩) ∈ WU := wu_mem (lw_in1 (List.mem_of_getElem? (i := 174) rfl)) rfl
theorem q_230 : (Cond.code ⟨"MarginCourt", "equityOf", "(I)J"⟩ prog_1_method_44_code 6 (some .long)) ∈ WU := wu_mem (lw_in1 (List.mem_of_getElem? (i := 175) rfl)) rfl
theorem q_231 : (Cond.methodLink "MarginCourt" 246 ⟨"MarginCourt", "differenceOf", "(LMarginCourt$Account;I)J"⟩) ∈ WU := wu_mem (lw_in1 (List.mem_of_getElem? (i := 176) rfl)) rfl
theorem q_233 : (Cond.instanceMethod ⟨"MarginCourt", "differenceOf", "(LMarginCourt$Account;I)J"⟩) ∈ WU := wu_mem (lw_in1 (List.mem_of_getElem? (i := 178) rfl)) rfl
theorem q_234 : (Cond.code ⟨"MarginCourt", "differenceOf", "(LMarginCourt$Account;I)J"⟩ prog_1_method_45_code 3 (some .long)) ∈ WU := wu_mem (lw_in1 (List.mem_of_getElem? (i := 179) rfl)) rfl
theorem q_235 : (Cond.methodLink "MarginCourt" 189 ⟨"MarginCourt", "collateralOf", "(I)J"⟩) ∈ WU := wu_mem (lw_in1 (List.mem_of_getElem? (i := 180) rfl)) rfl
theorem q_237 : (Cond.instanceMethod ⟨"MarginCourt", "collateralOf", "(I)J"⟩) ∈ WU := wu_mem (lw_in1 (List.mem_of_getElem? (i := 182) rfl)) rfl
theorem q_238 : (Cond.code ⟨"MarginCourt", "collateralOf", "(I)J"⟩ prog_1_method_47_code 5 (some .long)) ∈ WU := wu_mem (lw_in1 (List.mem_of_getElem? (i := 183) rfl)) rfl
theorem q_239 : (Cond.methodLink "MarginCourt" 101 ⟨"MarginCourt", "worthOf", "(II)J"⟩) ∈ WU := wu_mem (lw_in1 (List.mem_of_getElem? (i := 184) rfl)) rfl
theorem q_241 : (Cond.instanceMethod ⟨"MarginCourt", "worthOf", "(II)J"⟩) ∈ WU := wu_mem (lw_in1 (List.mem_of_getElem? (i := 186) rfl)) rfl
theorem q_242 : (Cond.code ⟨"MarginCourt", "worthOf", "(II)J"⟩ prog_1_method_48_code 4 (some .long)) ∈ WU := wu_mem (lw_in1 (List.mem_of_getElem? (i := 187) rfl)) rfl
theorem q_243 : (Cond.constantLong "MarginCourt" 261 (100 : Int64)) ∈ WU := wu_mem (lw_in1 (List.mem_of_getElem? (i := 188) rfl)) rfl
theorem q_244 : (Cond.methodLink "MarginCourt" 186 ⟨"MarginCourt", "marginOf", "(I)J"⟩) ∈ WU := wu_mem (lw_in1 (List.mem_of_getElem? (i := 189) rfl)) rfl
theorem q_246 : (Cond.instanceMethod ⟨"MarginCourt", "marginOf", "(I)J"⟩) ∈ WU := wu_mem (lw_in1 (List.mem_of_getElem? (i := 191) rfl)) rfl
theorem q_247 : (Cond.code ⟨"MarginCourt", "marginOf", "(I)J"⟩ prog_1_method_51_code 12 (some .long)) ∈ WU := wu_mem (lw_in1 (List.mem_of_getElem? (i := 192) rfl)) rfl
theorem q_248 : (Cond.methodLink "MarginCourt" 269 ⟨"MarginCourt", "restOf", "(IIZ)J"⟩) ∈ WU := wu_mem (lw_in1 (List.mem_of_getElem? (i := 193) rfl)) rfl
theorem q_250 : (Cond.instanceMethod ⟨"MarginCourt", "restOf", "(IIZ)J"⟩) ∈ WU := wu_mem (lw_in1 (List.mem_of_getElem? (i := 195) rfl)) rfl
theorem q_251 : (Cond.code ⟨"MarginCourt", "restOf", "(IIZ)J"⟩ prog_1_method_52_code 8 (some .long)) ∈ WU := wu_mem (lw_in1 (List.mem_of_getElem? (i := 196) rfl)) rfl
theorem q_252 : (Cond.methodLink "MarginCourt" 108 ⟨"java/util/ArrayList", "size", "()I"⟩) ∈ WU := wu_mem (lw_in1 (List.mem_of_getElem? (i := 197) rfl)) rfl
theorem q_253 : (Cond.instanceMethod ⟨"java/util/ArrayList", "size", "()I"⟩) ∈ WU := wu_mem (lw_in1 (List.mem_of_getElem? (i := 198) rfl)) rfl
theorem q_254 : (Cond.selects "java/util/ArrayList" ⟨"java/util/ArrayList", "size", "()I"⟩ ⟨"java/util/ArrayList", "size", "()I"⟩) ∈ WU := wu_mem (lw_in1 (List.mem_of_getElem? (i := 199) rfl)) rfl
theorem q_255 : (Cond.code ⟨"java/util/ArrayList", "size", "()I"⟩ prog_22_method_8_code 1 (some .int)) ∈ WU := wu_mem (lw_in1 (List.mem_of_getElem? (i := 200) rfl)) rfl
theorem q_256 : (Cond.methodLink "MarginCourt" 131 ⟨"java/util/ArrayList", "get", "(I)Ljava/lang/Object;"⟩) ∈ WU := wu_mem (lw_in1 (List.mem_of_getElem? (i := 201) rfl)) rfl
theorem q_257 : (Cond.instanceMethod ⟨"java/util/ArrayList", "get", "(I)Ljava/lang/Object;"⟩) ∈ WU := wu_mem (lw_in1 (List.mem_of_getElem? (i := 202) rfl)) rfl
theorem q_258 : (Cond.selects "java/util/ArrayList" ⟨"java/util/ArrayList", "get", "(I)Ljava/lang/Object;"⟩ ⟨"java/util/ArrayList", "get", "(I)Ljava/lang/Object;"⟩) ∈ WU := wu_mem (lw_in1 (List.mem_of_getElem? (i := 203) rfl)) rfl
theorem q_259 : (Cond.code ⟨"java/util/ArrayList", "get", "(I)Ljava/lang/Object;"⟩ prog_22_method_20_code 2 (some (.object "java/lang/Object"))) ∈ WU := wu_mem (lw_in1 (List.mem_of_getElem? (i := 204) rfl)) rfl
theorem q_260 : (Cond.methodLink "java/util/ArrayList" 118 ⟨"java/util/Objects", "checkIndex", "(II)I"⟩) ∈ WU := wu_mem (lw_in1 (List.mem_of_getElem? (i := 205) rfl)) rfl
theorem q_261 : (Cond.static ⟨"java/util/Objects", "checkIndex", "(II)I"⟩) ∈ WU := wu_mem (lw_in1 (List.mem_of_getElem? (i := 206) rfl)) rfl
theorem q_262 : (Cond.code ⟨"java/util/Objects", "checkIndex", "(II)I"⟩ prog_27_method_17_code 2 (some .int)) ∈ WU := wu_mem (lw_in1 (List.mem_of_getElem? (i := 207) rfl)) rfl
theorem q_263 : (Cond.methodLink "java/util/Objects" 105 ⟨"jdk/internal/util/Preconditions", "checkIndex", "(IILjava/util/function/BiFunction;)I"⟩) ∈ WU := wu_mem (lw_in1 (List.mem_of_getElem? (i := 208) rfl)) rfl
theorem q_264 : (Cond.static ⟨"jdk/internal/util/Preconditions", "checkIndex", "(IILjava/util/function/BiFunction;)I"⟩) ∈ WU := wu_mem (lw_in1 (List.mem_of_getElem? (i := 209) rfl)) rfl
theorem q_265 : (Cond.code ⟨"jdk/internal/util/Preconditions", "checkIndex", "(IILjava/util/function/BiFunction;)I"⟩ prog_31_method_11_code 3 (some .int)) ∈ WU := wu_mem (lw_in1 (List.mem_of_getElem? (i := 210) rfl)) rfl
theorem q_266 : (Cond.methodLink "java/util/ArrayList" 123 ⟨"java/util/ArrayList", "elementData", "(I)Ljava/lang/Object;"⟩) ∈ WU := wu_mem (lw_in1 (List.mem_of_getElem? (i := 211) rfl)) rfl
theorem q_267 : (Cond.instanceMethod ⟨"java/util/ArrayList", "elementData", "(I)Ljava/lang/Object;"⟩) ∈ WU := wu_mem (lw_in1 (List.mem_of_getElem? (i := 212) rfl)) rfl
theorem q_268 : (Cond.selects "java/util/ArrayList" ⟨"java/util/ArrayList", "elementData", "(I)Ljava/lang/Object;"⟩ ⟨"java/util/ArrayList", "elementData", "(I)Ljava/lang/Object;"⟩) ∈ WU := wu_mem (lw_in1 (List.mem_of_getElem? (i := 213) rfl)) rfl
theorem q_269 : (Cond.code ⟨"java/util/ArrayList", "elementData", "(I)Ljava/lang/Object;"⟩ prog_22_method_18_code 2 (some (.object "java/lang/Object"))) ∈ WU := wu_mem (lw_in1 (List.mem_of_getElem? (i := 214) rfl)) rfl
theorem q_270 : (Cond.classLink "MarginCourt" 115 "MarginCourt$Order") ∈ WU := wu_mem (lw_in1 (List.mem_of_getElem? (i := 215) rfl)) rfl
theorem q_271 : (Cond.methodLink "MarginCourt" 273 ⟨"java/lang/Math", "max", "(JJ)J"⟩) ∈ WU := wu_mem (lw_in1 (List.mem_of_getElem? (i := 216) rfl)) rfl
theorem q_272 : (Cond.static ⟨"java/lang/Math", "max", "(JJ)J"⟩) ∈ WU := wu_mem (lw_in1 (List.mem_of_getElem? (i := 217) rfl)) rfl
theorem q_273 : (Cond.code ⟨"java/lang/Math", "max", "(JJ)J"⟩ prog_16_method_66_code 4 (some .long)) ∈ WU := wu_mem (lw_in1 (List.mem_of_getElem? (i := 218) rfl)) rfl
theorem q_274 : (Cond.methodLink "MarginCourt" 158 ⟨"MarginCourt", "closeOut", "(I)V"⟩) ∈ WU := wu_mem (lw_in1 (List.mem_of_getElem? (i := 219) rfl)) rfl
theorem q_276 : (Cond.instanceMethod ⟨"MarginCourt", "closeOut", "(I)V"⟩) ∈ WU := wu_mem (lw_in1 (List.mem_of_getElem? (i := 221) rfl)) rfl
theorem q_277 : (Cond.code ⟨"MarginCourt", "closeOut", "(I)V"⟩ prog_1_method_56_code 4 none) ∈ WU := wu_mem (lw_in1 (List.mem_of_getElem? (i := 222) rfl)) rfl
theorem q_278 : (Cond.methodLink "MarginCourt" 276 ⟨"MarginCourt", "cancelOrdersOf", "(I)V"⟩) ∈ WU := wu_mem (lw_in1 (List.mem_of_getElem? (i := 223) rfl)) rfl
theorem q_280 : (Cond.instanceMethod ⟨"MarginCourt", "cancelOrdersOf", "(I)V"⟩) ∈ WU := wu_mem (lw_in1 (List.mem_of_getElem? (i := 225) rfl)) rfl
theorem q_281 : (Cond.code ⟨"MarginCourt", "cancelOrdersOf", "(I)V"⟩ prog_1_method_42_code 4 none) ∈ WU := wu_mem (lw_in1 (List.mem_of_getElem? (i := 226) rfl)) rfl
theorem q_282 : (Cond.methodLink "MarginCourt" 279 ⟨"MarginCourt", "productsByRisk", "(I)[I"⟩) ∈ WU := wu_mem (lw_in1 (List.mem_of_getElem? (i := 227) rfl)) rfl
theorem q_284 : (Cond.instanceMethod ⟨"MarginCourt", "productsByRisk", "(I)[I"⟩) ∈ WU := wu_mem (lw_in1 (List.mem_of_getElem? (i := 229) rfl)) rfl
theorem q_285 : (Cond.code ⟨"MarginCourt", "productsByRisk", "(I)[I"⟩ prog_1_method_57_code 6 (some (.array .int))) ∈ WU := wu_mem (lw_in1 (List.mem_of_getElem? (i := 230) rfl)) rfl
theorem q_286 : (Cond.methodLink "MarginCourt" 287 ⟨"MarginCourt", "goesAhead", "(III)Z"⟩) ∈ WU := wu_mem (lw_in1 (List.mem_of_getElem? (i := 231) rfl)) rfl
theorem q_288 : (Cond.instanceMethod ⟨"MarginCourt", "goesAhead", "(III)Z"⟩) ∈ WU := wu_mem (lw_in1 (List.mem_of_getElem? (i := 233) rfl)) rfl
theorem q_289 : (Cond.code ⟨"MarginCourt", "goesAhead", "(III)Z"⟩ prog_1_method_58_code 8 (some .boolean)) ∈ WU := wu_mem (lw_in1 (List.mem_of_getElem? (i := 234) rfl)) rfl
theorem q_290 : (Cond.methodLink "MarginCourt" 291 ⟨"MarginCourt", "riskOf", "(II)J"⟩) ∈ WU := wu_mem (lw_in1 (List.mem_of_getElem? (i := 235) rfl)) rfl
theorem q_292 : (Cond.instanceMethod ⟨"MarginCourt", "riskOf", "(II)J"⟩) ∈ WU := wu_mem (lw_in1 (List.mem_of_getElem? (i := 237) rfl)) rfl
theorem q_293 : (Cond.code ⟨"MarginCourt", "riskOf", "(II)J"⟩ prog_1_method_59_code 9 (some .long)) ∈ WU := wu_mem (lw_in1 (List.mem_of_getElem? (i := 238) rfl)) rfl
theorem q_294 : (Cond.methodLink "MarginCourt" 283 ⟨"MarginCourt", "closePosition", "(II)V"⟩) ∈ WU := wu_mem (lw_in1 (List.mem_of_getElem? (i := 239) rfl)) rfl
theorem q_296 : (Cond.instanceMethod ⟨"MarginCourt", "closePosition", "(II)V"⟩) ∈ WU := wu_mem (lw_in2 (List.mem_of_getElem? (i := 1) rfl)) rfl
theorem q_297 : (Cond.code ⟨"MarginCourt", "closePosition", "(II)V"⟩ prog_1_method_60_code 6 none) ∈ WU := wu_mem (lw_in2 (List.mem_of_getElem? (i := 2) rfl)) rfl
theorem q_298 : (Cond.methodLink "MarginCourt" 142 ⟨"MarginCourt", "bestResting", "(IZ)LMarginCourt$Order;"⟩) ∈ WU := wu_mem (lw_in2 (List.mem_of_getElem? (i := 3) rfl)) rfl
theorem q_300 : (Cond.instanceMethod ⟨"MarginCourt", "bestResting", "(IZ)LMarginCourt$Order;"⟩) ∈ WU := wu_mem (lw_in2 (List.mem_of_getElem? (i := 5) rfl)) rfl
theorem q_301 : (Cond.code ⟨"MarginCourt", "bestResting", "(IZ)LMarginCourt$Order;"⟩ prog_1_method_34_code 6 (some (.object "MarginCourt$Order"))) ∈ WU := wu_mem (lw_in2 (List.mem_of_getElem? (i := 6) rfl)) rfl
theorem q_302 : (Cond.methodLink "MarginCourt" 210 ⟨"MarginCourt", "isBetter", "(LMarginCourt$Order;LMarginCourt$Order;)Z"⟩) ∈ WU := wu_mem (lw_in2 (List.mem_of_getElem? (i := 7) rfl)) rfl
theorem q_303 : (Cond.static ⟨"MarginCourt", "isBetter", "(LMarginCourt$Order;LMarginCourt$Order;)Z"⟩) ∈ WU := wu_mem (lw_in2 (List.mem_of_getElem? (i := 8) rfl)) rfl
theorem q_304 : (Cond.code ⟨"MarginCourt", "isBetter", "(LMarginCourt$Order;LMarginCourt$Order;)Z"⟩ prog_1_method_35_code 2 (some .boolean)) ∈ WU := wu_mem (lw_in2 (List.mem_of_getElem? (i := 9) rfl)) rfl
theorem q_305 : (Cond.methodLink "MarginCourt" 294 ⟨"java/lang/Math", "abs", "(I)I"⟩) ∈ WU := wu_mem (lw_in2 (List.mem_of_getElem? (i := 10) rfl)) rfl
theorem q_306 : (Cond.static ⟨"java/lang/Math", "abs", "(I)I"⟩) ∈ WU := wu_mem (lw_in2 (List.mem_of_getElem? (i := 11) rfl)) rfl
theorem q_307 : (Cond.code ⟨"java/lang/Math", "abs", "(I)I"⟩ prog_16_method_59_code 1 (some .int)) ∈ WU := wu_mem (lw_in2 (List.mem_of_getElem? (i := 12) rfl)) rfl
theorem q_308 : (Cond.methodLink "MarginCourt" 223 ⟨"java/lang/Math", "min", "(II)I"⟩) ∈ WU := wu_mem (lw_in2 (List.mem_of_getElem? (i := 13) rfl)) rfl
theorem q_309 : (Cond.static ⟨"java/lang/Math", "min", "(II)I"⟩) ∈ WU := wu_mem (lw_in2 (List.mem_of_getElem? (i := 14) rfl)) rfl
theorem q_310 : (Cond.code ⟨"java/lang/Math", "min", "(II)I"⟩ prog_16_method_69_code 2 (some .int)) ∈ WU := wu_mem (lw_in2 (List.mem_of_getElem? (i := 15) rfl)) rfl
theorem q_311 : (Cond.methodLink "MarginCourt" 229 ⟨"MarginCourt", "tradeWithResting", "(ILMarginCourt$Order;I)V"⟩) ∈ WU := wu_mem (lw_in2 (List.mem_of_getElem? (i := 16) rfl)) rfl
theorem q_313 : (Cond.instanceMethod ⟨"MarginCourt", "tradeWithResting", "(ILMarginCourt$Order;I)V"⟩) ∈ WU := wu_mem (lw_in2 (List.mem_of_getElem? (i := 18) rfl)) rfl
theorem q_314 : (Cond.code ⟨"MarginCourt", "tradeWithResting", "(ILMarginCourt$Order;I)V"⟩ prog_1_method_38_code 4 none) ∈ WU := wu_mem (lw_in2 (List.mem_of_getElem? (i := 19) rfl)) rfl
theorem q_315 : (Cond.methodLink "MarginCourt" 233 ⟨"MarginCourt", "trade", "(IIIII)V"⟩) ∈ WU := wu_mem (lw_in2 (List.mem_of_getElem? (i := 20) rfl)) rfl
theorem q_317 : (Cond.instanceMethod ⟨"MarginCourt", "trade", "(IIIII)V"⟩) ∈ WU := wu_mem (lw_in2 (List.mem_of_getElem? (i := 22) rfl)) rfl
theorem q_318 : (Cond.code ⟨"MarginCourt", "trade", "(IIIII)V"⟩ prog_1_method_39_code 6 none) ∈ WU := wu_mem (lw_in2 (List.mem_of_getElem? (i := 23) rfl)) rfl
theorem q_319 : (Cond.methodLink "MarginCourt" 237 ⟨"MarginCourt", "book", "(LMarginCourt$Account;III)V"⟩) ∈ WU := wu_mem (lw_in2 (List.mem_of_getElem? (i := 24) rfl)) rfl
theorem q_320 : (Cond.static ⟨"MarginCourt", "book", "(LMarginCourt$Account;III)V"⟩) ∈ WU := wu_mem (lw_in2 (List.mem_of_getElem? (i := 25) rfl)) rfl
theorem q_321 : (Cond.code ⟨"MarginCourt", "book", "(LMarginCourt$Account;III)V"⟩ prog_1_method_40_code 4 none) ∈ WU := wu_mem (lw_in2 (List.mem_of_getElem? (i := 26) rfl)) rfl
theorem q_322 : (Cond.classLink "MarginCourt" 180 "MarginCourt$Trade") ∈ WU := wu_mem (lw_in2 (List.mem_of_getElem? (i := 27) rfl)) rfl
theorem q_323 : (Cond.instantiable "MarginCourt$Trade" 5) ∈ WU := wu_mem (lw_in2 (List.mem_of_getElem? (i := 28) rfl)) rfl
theorem q_324 : (Cond.methodLinkNest "MarginCourt" 241 ⟨"MarginCourt$Trade", "<init>", "(IIIII)V"⟩ "MarginCourt") ∈ NWL := nwl_mem (lw_in2 (List.mem_of_getElem? (i := 29) rfl)) rfl
theorem q_325 : (Cond.instanceMethod ⟨"MarginCourt$Trade", "<init>", "(IIIII)V"⟩) ∈ WU := wu_mem (lw_in2 (List.mem_of_getElem? (i := 30) rfl)) rfl
theorem q_326 : (Cond.code ⟨"MarginCourt$Trade", "<init>", "(IIIII)V"⟩ prog_6_method_1_code 6 none) ∈ WU := wu_mem (lw_in2 (List.mem_of_getElem? (i := 31) rfl)) rfl
theorem q_327 : (Cond.methodLink "MarginCourt$Trade" 1 ⟨"java/lang/Object", "<init>", "()V"⟩) ∈ WU := wu_mem (lw_in2 (List.mem_of_getElem? (i := 32) rfl)) rfl
theorem q_328 : (Cond.fieldLink "MarginCourt$Trade" 7 "MarginCourt$Trade" "buyer" "I") ∈ WU := wu_mem (lw_in2 (List.mem_of_getElem? (i := 33) rfl)) rfl
theorem q_329 : (Cond.fieldLinkNest "MarginCourt" 255 "MarginCourt$Trade" "buyer" "I" "MarginCourt") ∈ NWL := nwl_mem (lw_in2 (List.mem_of_getElem? (i := 34) rfl)) rfl
theorem q_330 : (Cond.fieldLink "MarginCourt$Trade" 13 "MarginCourt$Trade" "seller" "I") ∈ WU := wu_mem (lw_in2 (List.mem_of_getElem? (i := 35) rfl)) rfl
theorem q_331 : (Cond.fieldLinkNest "MarginCourt" 258 "MarginCourt$Trade" "seller" "I" "MarginCourt") ∈ NWL := nwl_mem (lw_in2 (List.mem_of_getElem? (i := 36) rfl)) rfl
theorem q_332 : (Cond.fieldLink "MarginCourt$Trade" 16 "MarginCourt$Trade" "product" "I") ∈ WU := wu_mem (lw_in2 (List.mem_of_getElem? (i := 37) rfl)) rfl
theorem q_333 : (Cond.fieldLinkNest "MarginCourt" 253 "MarginCourt$Trade" "product" "I" "MarginCourt") ∈ NWL := nwl_mem (lw_in2 (List.mem_of_getElem? (i := 38) rfl)) rfl
theorem q_334 : (Cond.fieldLink "MarginCourt$Trade" 19 "MarginCourt$Trade" "quantity" "I") ∈ WU := wu_mem (lw_in2 (List.mem_of_getElem? (i := 39) rfl)) rfl
theorem q_335 : (Cond.fieldLinkNest "MarginCourt" 250 "MarginCourt$Trade" "quantity" "I" "MarginCourt") ∈ NWL := nwl_mem (lw_in2 (List.mem_of_getElem? (i := 40) rfl)) rfl
theorem q_336 : (Cond.fieldLink "MarginCourt$Trade" 22 "MarginCourt$Trade" "price" "I") ∈ WU := wu_mem (lw_in2 (List.mem_of_getElem? (i := 41) rfl)) rfl
theorem q_337 : (Cond.fieldLinkNest "MarginCourt" 254 "MarginCourt$Trade" "price" "I" "MarginCourt") ∈ NWL := nwl_mem (lw_in2 (List.mem_of_getElem? (i := 42) rfl)) rfl
theorem q_349 : (Cond.methodLink "MarginCourt" 120 ⟨"java/util/ArrayList", "add", "(Ljava/lang/Object;)Z"⟩) ∈ WU := wu_mem (lw_in2 (List.mem_of_getElem? (i := 54) rfl)) rfl
theorem q_350 : (Cond.instanceMethod ⟨"java/util/ArrayList", "add", "(Ljava/lang/Object;)Z"⟩) ∈ WU := wu_mem (lw_in2 (List.mem_of_getElem? (i := 55) rfl)) rfl
theorem q_351 : (Cond.selects "java/util/ArrayList" ⟨"java/util/ArrayList", "add", "(Ljava/lang/Object;)Z"⟩ ⟨"java/util/ArrayList", "add", "(Ljava/lang/Object;)Z"⟩) ∈ WU := wu_mem (lw_in2 (List.mem_of_getElem? (i := 56) rfl)) rfl
theorem q_352 : (Cond.code ⟨"java/util/ArrayList", "add", "(Ljava/lang/Object;)Z"⟩ prog_22_method_25_code 2 (some .boolean)) ∈ WU := wu_mem (lw_in2 (List.mem_of_getElem? (i := 57) rfl)) rfl
theorem q_353 : (Cond.methodLink "java/util/ArrayList" 131 ⟨"java/util/ArrayList", "add", "(Ljava/lang/Object;[Ljava/lang/Object;I)V"⟩) ∈ WU := wu_mem (lw_in2 (List.mem_of_getElem? (i := 58) rfl)) rfl
theorem q_355 : (Cond.instanceMethod ⟨"java/util/ArrayList", "add", "(Ljava/lang/Object;[Ljava/lang/Object;I)V"⟩) ∈ WU := wu_mem (lw_in2 (List.mem_of_getElem? (i := 60) rfl)) rfl
theorem q_356 : (Cond.code ⟨"java/util/ArrayList", "add", "(Ljava/lang/Object;[Ljava/lang/Object;I)V"⟩ prog_22_method_24_code 4 none) ∈ WU := wu_mem (lw_in2 (List.mem_of_getElem? (i := 61) rfl)) rfl
theorem q_357 : (Cond.methodLink "java/util/ArrayList" 129 ⟨"java/util/ArrayList", "grow", "()[Ljava/lang/Object;"⟩) ∈ WU := wu_mem (lw_in2 (List.mem_of_getElem? (i := 62) rfl)) rfl
theorem q_359 : (Cond.instanceMethod ⟨"java/util/ArrayList", "grow", "()[Ljava/lang/Object;"⟩) ∈ WU := wu_mem (lw_in2 (List.mem_of_getElem? (i := 64) rfl)) rfl
theorem q_360 : (Cond.code ⟨"java/util/ArrayList", "grow", "()[Ljava/lang/Object;"⟩ prog_22_method_7_code 1 (some (.array (.object "java/lang/Object")))) ∈ WU := wu_mem (lw_in2 (List.mem_of_getElem? (i := 65) rfl)) rfl
theorem q_361 : (Cond.methodLink "java/util/ArrayList" 69 ⟨"java/util/ArrayList", "grow", "(I)[Ljava/lang/Object;"⟩) ∈ WU := wu_mem (lw_in2 (List.mem_of_getElem? (i := 66) rfl)) rfl
theorem q_363 : (Cond.instanceMethod ⟨"java/util/ArrayList", "grow", "(I)[Ljava/lang/Object;"⟩) ∈ WU := wu_mem (lw_in2 (List.mem_of_getElem? (i := 68) rfl)) rfl
theorem q_364 : (Cond.code ⟨"java/util/ArrayList", "grow", "(I)[Ljava/lang/Object;"⟩ prog_22_method_6_code 4 (some (.array (.object "java/lang/Object")))) ∈ WU := wu_mem (lw_in2 (List.mem_of_getElem? (i := 69) rfl)) rfl
theorem q_365 : (Cond.methodLink "java/util/ArrayList" 73 ⟨"jdk/internal/util/ArraysSupport", "newLength", "(III)I"⟩) ∈ WU := wu_mem (lw_in2 (List.mem_of_getElem? (i := 70) rfl)) rfl
theorem q_366 : (Cond.static ⟨"jdk/internal/util/ArraysSupport", "newLength", "(III)I"⟩) ∈ WU := wu_mem (lw_in2 (List.mem_of_getElem? (i := 71) rfl)) rfl
theorem q_367 : (Cond.code ⟨"jdk/internal/util/ArraysSupport", "newLength", "(III)I"⟩ prog_30_method_27_code 4 (some .int)) ∈ WU := wu_mem (lw_in2 (List.mem_of_getElem? (i := 72) rfl)) rfl
theorem q_368 : (Cond.methodLink "jdk/internal/util/ArraysSupport" 194 ⟨"java/lang/Math", "max", "(II)I"⟩) ∈ WU := wu_mem (lw_in2 (List.mem_of_getElem? (i := 73) rfl)) rfl
theorem q_369 : (Cond.static ⟨"java/lang/Math", "max", "(II)I"⟩) ∈ WU := wu_mem (lw_in2 (List.mem_of_getElem? (i := 74) rfl)) rfl
theorem q_370 : (Cond.code ⟨"java/lang/Math", "max", "(II)I"⟩ prog_16_method_65_code 2 (some .int)) ∈ WU := wu_mem (lw_in2 (List.mem_of_getElem? (i := 75) rfl)) rfl
theorem q_371 : (Cond.constant "jdk/internal/util/ArraysSupport" 200 (2147483639 : Int32)) ∈ WU := wu_mem (lw_in2 (List.mem_of_getElem? (i := 76) rfl)) rfl
theorem q_375 : (Cond.methodLink "java/util/ArrayList" 66 ⟨"java/util/Arrays", "copyOf", "([Ljava/lang/Object;I)[Ljava/lang/Object;"⟩) ∈ WU := wu_mem (lw_in2 (List.mem_of_getElem? (i := 80) rfl)) rfl
theorem q_376 : (Cond.static ⟨"java/util/Arrays", "copyOf", "([Ljava/lang/Object;I)[Ljava/lang/Object;"⟩) ∈ WU := wu_mem (lw_in2 (List.mem_of_getElem? (i := 81) rfl)) rfl
theorem q_377 : (Cond.code ⟨"java/util/Arrays", "copyOf", "([Ljava/lang/Object;I)[Ljava/lang/Object;"⟩ prog_23_method_119_code 2 (some (.array (.object "java/lang/Object")))) ∈ WU := wu_mem (lw_in2 (List.mem_of_getElem? (i := 82) rfl)) rfl
theorem q_378 : (Cond.methodLink "java/util/Arrays" 86 ⟨"java/lang/Object", "getClass", "()Ljava/lang/Class;"⟩) ∈ WU := wu_mem (lw_in2 (List.mem_of_getElem? (i := 83) rfl)) rfl
theorem q_379 : (Cond.instanceMethod ⟨"java/lang/Object", "getClass", "()Ljava/lang/Class;"⟩) ∈ WU := wu_mem (lw_in2 (List.mem_of_getElem? (i := 84) rfl)) rfl
theorem q_393 : (Cond.native ⟨"java/lang/Object", "getClass", "()Ljava/lang/Class;"⟩) ∈ WU := wu_mem (lw_in2 (List.mem_of_getElem? (i := 98) rfl)) rfl
theorem q_394 : (Cond.methodLink "java/util/Arrays" 300 ⟨"java/util/Arrays", "copyOf", "([Ljava/lang/Object;ILjava/lang/Class;)[Ljava/lang/Object;"⟩) ∈ WU := wu_mem (lw_in2 (List.mem_of_getElem? (i := 99) rfl)) rfl
theorem q_395 : (Cond.static ⟨"java/util/Arrays", "copyOf", "([Ljava/lang/Object;ILjava/lang/Class;)[Ljava/lang/Object;"⟩) ∈ WU := wu_mem (lw_in2 (List.mem_of_getElem? (i := 100) rfl)) rfl
theorem q_396 : (Cond.code ⟨"java/util/Arrays", "copyOf", "([Ljava/lang/Object;ILjava/lang/Class;)[Ljava/lang/Object;"⟩ prog_23_method_120_code 4 (some (.array (.object "java/lang/Object")))) ∈ WU := wu_mem (lw_in2 (List.mem_of_getElem? (i := 101) rfl)) rfl
theorem q_397 : (Cond.classLink "java/util/Arrays" 110 "[Ljava/lang/Object;") ∈ WU := wu_mem (lw_in2 (List.mem_of_getElem? (i := 102) rfl)) rfl
theorem q_398 : (Cond.arrayOver (.object "java/lang/Object")) ∈ NWL := nwl_mem (lw_in2 (List.mem_of_getElem? (i := 103) rfl)) rfl
theorem q_399 : (Cond.classLink "java/util/Arrays" 2 "java/lang/Object") ∈ WU := wu_mem (lw_in2 (List.mem_of_getElem? (i := 104) rfl)) rfl
theorem q_400 : (Cond.methodLink "java/util/Arrays" 304 ⟨"java/lang/Math", "min", "(II)I"⟩) ∈ WU := wu_mem (lw_in2 (List.mem_of_getElem? (i := 105) rfl)) rfl
theorem q_401 : (Cond.methodLink "java/util/Arrays" 150 ⟨"java/lang/System", "arraycopy", "(Ljava/lang/Object;ILjava/lang/Object;II)V"⟩) ∈ WU := wu_mem (lw_in2 (List.mem_of_getElem? (i := 106) rfl)) rfl
theorem q_402 : (Cond.static ⟨"java/lang/System", "arraycopy", "(Ljava/lang/Object;ILjava/lang/Object;II)V"⟩) ∈ WU := wu_mem (lw_in2 (List.mem_of_getElem? (i := 107) rfl)) rfl
theorem q_403 : (Cond.native ⟨"java/lang/System", "arraycopy", "(Ljava/lang/Object;ILjava/lang/Object;II)V"⟩) ∈ WU := wu_mem (lw_in2 (List.mem_of_getElem? (i := 108) rfl)) rfl
theorem q_404 : (Cond.methodLink "java/util/ArrayList" 79 ⟨"java/lang/Math", "max", "(II)I"⟩) ∈ WU := wu_mem (lw_in2 (List.mem_of_getElem? (i := 109) rfl)) rfl
theorem q_405 : (Cond.classLink "java/util/ArrayList" 7 "java/lang/Object") ∈ WU := wu_mem (lw_in2 (List.mem_of_getElem? (i := 110) rfl)) rfl
theorem q_406 : (Cond.methodLink "MarginCourt" 161 ⟨"MarginCourt", "fail", "(I)V"⟩) ∈ WU := wu_mem (lw_in2 (List.mem_of_getElem? (i := 111) rfl)) rfl
theorem q_408 : (Cond.instanceMethod ⟨"MarginCourt", "fail", "(I)V"⟩) ∈ WU := wu_mem (lw_in2 (List.mem_of_getElem? (i := 113) rfl)) rfl
theorem q_409 : (Cond.code ⟨"MarginCourt", "fail", "(I)V"⟩ prog_1_method_61_code 4 none) ∈ WU := wu_mem (lw_in2 (List.mem_of_getElem? (i := 114) rfl)) rfl
theorem q_410 : (Cond.methodLink "MarginCourt" 297 ⟨"MarginCourt", "memberWithMostFree", "()I"⟩) ∈ WU := wu_mem (lw_in2 (List.mem_of_getElem? (i := 115) rfl)) rfl
theorem q_412 : (Cond.instanceMethod ⟨"MarginCourt", "memberWithMostFree", "()I"⟩) ∈ WU := wu_mem (lw_in2 (List.mem_of_getElem? (i := 117) rfl)) rfl
theorem q_413 : (Cond.code ⟨"MarginCourt", "memberWithMostFree", "()I"⟩ prog_1_method_63_code 7 (some .int)) ∈ WU := wu_mem (lw_in2 (List.mem_of_getElem? (i := 118) rfl)) rfl
theorem q_414 : (Cond.methodLink "MarginCourt" 300 ⟨"MarginCourt", "handOver", "(III)V"⟩) ∈ WU := wu_mem (lw_in2 (List.mem_of_getElem? (i := 119) rfl)) rfl
theorem q_416 : (Cond.instanceMethod ⟨"MarginCourt", "handOver", "(III)V"⟩) ∈ WU := wu_mem (lw_in2 (List.mem_of_getElem? (i := 121) rfl)) rfl
theorem q_417 : (Cond.code ⟨"MarginCourt", "handOver", "(III)V"⟩ prog_1_method_62_code 6 none) ∈ WU := wu_mem (lw_in2 (List.mem_of_getElem? (i := 122) rfl)) rfl
theorem q_418 : (Cond.methodLink "MarginCourt" 310 ⟨"MarginCourt", "drop", "(IIII)V"⟩) ∈ WU := wu_mem (lw_in2 (List.mem_of_getElem? (i := 123) rfl)) rfl
theorem q_420 : (Cond.instanceMethod ⟨"MarginCourt", "drop", "(IIII)V"⟩) ∈ WU := wu_mem (lw_in2 (List.mem_of_getElem? (i := 125) rfl)) rfl
theorem q_421 : (Cond.code ⟨"MarginCourt", "drop", "(IIII)V"⟩ prog_1_method_64_code 5 none) ∈ WU := wu_mem (lw_in2 (List.mem_of_getElem? (i := 126) rfl)) rfl
theorem q_422 : (Cond.methodLink "MarginCourt" 303 ⟨"MarginCourt", "sellCollateral", "(I)V"⟩) ∈ WU := wu_mem (lw_in2 (List.mem_of_getElem? (i := 127) rfl)) rfl
theorem q_424 : (Cond.instanceMethod ⟨"MarginCourt", "sellCollateral", "(I)V"⟩) ∈ WU := wu_mem (lw_in2 (List.mem_of_getElem? (i := 129) rfl)) rfl
theorem q_425 : (Cond.code ⟨"MarginCourt", "sellCollateral", "(I)V"⟩ prog_1_method_65_code 4 none) ∈ WU := wu_mem (lw_in2 (List.mem_of_getElem? (i := 130) rfl)) rfl
theorem q_426 : (Cond.methodLink "MarginCourt" 90 ⟨"MarginCourt", "receiveFromOutside", "(LMarginCourt$Account;J)V"⟩) ∈ WU := wu_mem (lw_in2 (List.mem_of_getElem? (i := 131) rfl)) rfl
theorem q_427 : (Cond.static ⟨"MarginCourt", "receiveFromOutside", "(LMarginCourt$Account;J)V"⟩) ∈ WU := wu_mem (lw_in2 (List.mem_of_getElem? (i := 132) rfl)) rfl
theorem q_428 : (Cond.code ⟨"MarginCourt", "receiveFromOutside", "(LMarginCourt$Account;J)V"⟩ prog_1_method_53_code 3 none) ∈ WU := wu_mem (lw_in2 (List.mem_of_getElem? (i := 133) rfl)) rfl
theorem q_429 : (Cond.methodLink "MarginCourt" 164 ⟨"MarginCourt", "netPositions", "(LMarginCourt$Account;)J"⟩) ∈ WU := wu_mem (lw_in2 (List.mem_of_getElem? (i := 134) rfl)) rfl
theorem q_431 : (Cond.instanceMethod ⟨"MarginCourt", "netPositions", "(LMarginCourt$Account;)J"⟩) ∈ WU := wu_mem (lw_in2 (List.mem_of_getElem? (i := 136) rfl)) rfl
theorem q_432 : (Cond.code ⟨"MarginCourt", "netPositions", "(LMarginCourt$Account;)J"⟩ prog_1_method_54_code 7 (some .long)) ∈ WU := wu_mem (lw_in2 (List.mem_of_getElem? (i := 137) rfl)) rfl
theorem q_433 : (Cond.methodLink "MarginCourt" 306 ⟨"MarginCourt", "coverLoss", "(LMarginCourt$Account;)V"⟩) ∈ WU := wu_mem (lw_in2 (List.mem_of_getElem? (i := 138) rfl)) rfl
theorem q_435 : (Cond.instanceMethod ⟨"MarginCourt", "coverLoss", "(LMarginCourt$Account;)V"⟩) ∈ WU := wu_mem (lw_in2 (List.mem_of_getElem? (i := 140) rfl)) rfl
theorem q_436 : (Cond.code ⟨"MarginCourt", "coverLoss", "(LMarginCourt$Account;)V"⟩ prog_1_method_66_code 6 none) ∈ WU := wu_mem (lw_in2 (List.mem_of_getElem? (i := 141) rfl)) rfl
theorem q_437 : (Cond.methodLink "MarginCourt" 314 ⟨"MarginCourt", "takeFromShare", "(LMarginCourt$Account;J)J"⟩) ∈ WU := wu_mem (lw_in2 (List.mem_of_getElem? (i := 142) rfl)) rfl
theorem q_438 : (Cond.static ⟨"MarginCourt", "takeFromShare", "(LMarginCourt$Account;J)J"⟩) ∈ WU := wu_mem (lw_in2 (List.mem_of_getElem? (i := 143) rfl)) rfl
theorem q_439 : (Cond.code ⟨"MarginCourt", "takeFromShare", "(LMarginCourt$Account;J)J"⟩ prog_1_method_67_code 5 (some .long)) ∈ WU := wu_mem (lw_in2 (List.mem_of_getElem? (i := 144) rfl)) rfl
theorem q_440 : (Cond.methodLink "MarginCourt" 322 ⟨"java/lang/Math", "min", "(JJ)J"⟩) ∈ WU := wu_mem (lw_in2 (List.mem_of_getElem? (i := 145) rfl)) rfl
theorem q_441 : (Cond.static ⟨"java/lang/Math", "min", "(JJ)J"⟩) ∈ WU := wu_mem (lw_in2 (List.mem_of_getElem? (i := 146) rfl)) rfl
theorem q_442 : (Cond.code ⟨"java/lang/Math", "min", "(JJ)J"⟩ prog_16_method_70_code 4 (some .long)) ∈ WU := wu_mem (lw_in2 (List.mem_of_getElem? (i := 147) rfl)) rfl
theorem q_443 : (Cond.methodLink "MarginCourt" 318 ⟨"MarginCourt", "takeFromOthers", "(J)J"⟩) ∈ WU := wu_mem (lw_in2 (List.mem_of_getElem? (i := 148) rfl)) rfl
theorem q_445 : (Cond.instanceMethod ⟨"MarginCourt", "takeFromOthers", "(J)J"⟩) ∈ WU := wu_mem (lw_in2 (List.mem_of_getElem? (i := 150) rfl)) rfl
theorem q_446 : (Cond.code ⟨"MarginCourt", "takeFromOthers", "(J)J"⟩ prog_1_method_68_code 9 (some .long)) ∈ WU := wu_mem (lw_in2 (List.mem_of_getElem? (i := 151) rfl)) rfl
theorem q_447 : (Cond.methodLink "MarginCourt" 324 ⟨"MarginCourt", "sharesOfOthers", "()J"⟩) ∈ WU := wu_mem (lw_in2 (List.mem_of_getElem? (i := 152) rfl)) rfl
theorem q_449 : (Cond.instanceMethod ⟨"MarginCourt", "sharesOfOthers", "()J"⟩) ∈ WU := wu_mem (lw_in2 (List.mem_of_getElem? (i := 154) rfl)) rfl
theorem q_450 : (Cond.code ⟨"MarginCourt", "sharesOfOthers", "()J"⟩ prog_1_method_69_code 4 (some .long)) ∈ WU := wu_mem (lw_in2 (List.mem_of_getElem? (i := 155) rfl)) rfl
theorem q_451 : (Cond.methodLink "MarginCourt" 328 ⟨"MarginCourt", "partOf", "(JJJ)J"⟩) ∈ WU := wu_mem (lw_in2 (List.mem_of_getElem? (i := 156) rfl)) rfl
theorem q_452 : (Cond.static ⟨"MarginCourt", "partOf", "(JJJ)J"⟩) ∈ WU := wu_mem (lw_in2 (List.mem_of_getElem? (i := 157) rfl)) rfl
theorem q_453 : (Cond.code ⟨"MarginCourt", "partOf", "(JJJ)J"⟩ prog_1_method_70_code 6 (some .long)) ∈ WU := wu_mem (lw_in2 (List.mem_of_getElem? (i := 158) rfl)) rfl
theorem q_465 : (Cond.classLink "MarginCourtLaw" 13 "java/lang/IllegalArgumentException") ∈ WU := wu_mem (lw_in2 (List.mem_of_getElem? (i := 170) rfl)) rfl
theorem q_466 : (Cond.methodLink "MarginCourtLaw" 7 ⟨"MarginCourt", "tell", "(II)I"⟩) ∈ WU := wu_mem (lw_in2 (List.mem_of_getElem? (i := 171) rfl)) rfl
theorem q_467 : (Cond.instanceMethod ⟨"MarginCourt", "tell", "(II)I"⟩) ∈ WU := wu_mem (lw_in2 (List.mem_of_getElem? (i := 172) rfl)) rfl
theorem q_468 : (Cond.selects "MarginCourt" ⟨"MarginCourt", "tell", "(II)I"⟩ ⟨"MarginCourt", "tell", "(II)I"⟩) ∈ WU := wu_mem (lw_in2 (List.mem_of_getElem? (i := 173) rfl)) rfl
theorem q_469 : (Cond.code ⟨"MarginCourt", "tell", "(II)I"⟩ prog_1_method_2_code 4 (some .int)) ∈ WU := wu_mem (lw_in2 (List.mem_of_getElem? (i := 174) rfl)) rfl
theorem q_470 : (Cond.methodLink "MarginCourt" 44 ⟨"MarginCourt", "demandProduct", "(I)V"⟩) ∈ WU := wu_mem (lw_in2 (List.mem_of_getElem? (i := 175) rfl)) rfl
theorem q_471 : (Cond.static ⟨"MarginCourt", "demandProduct", "(I)V"⟩) ∈ WU := wu_mem (lw_in2 (List.mem_of_getElem? (i := 176) rfl)) rfl
theorem q_472 : (Cond.code ⟨"MarginCourt", "demandProduct", "(I)V"⟩ prog_1_method_29_code 1 none) ∈ WU := wu_mem (lw_in2 (List.mem_of_getElem? (i := 177) rfl)) rfl
theorem q_473 : (Cond.methodLink "MarginCourt" 48 ⟨"MarginCourt", "demandWithin", "(III)V"⟩) ∈ WU := wu_mem (lw_in2 (List.mem_of_getElem? (i := 178) rfl)) rfl
theorem q_474 : (Cond.static ⟨"MarginCourt", "demandWithin", "(III)V"⟩) ∈ WU := wu_mem (lw_in2 (List.mem_of_getElem? (i := 179) rfl)) rfl
theorem q_475 : (Cond.code ⟨"MarginCourt", "demandWithin", "(III)V"⟩ prog_1_method_31_code 3 none) ∈ WU := wu_mem (lw_in2 (List.mem_of_getElem? (i := 180) rfl)) rfl
theorem q_476 : (Cond.classLink "MarginCourt" 195 "java/lang/IllegalArgumentException") ∈ WU := wu_mem (lw_in2 (List.mem_of_getElem? (i := 181) rfl)) rfl
theorem q_478 : (Cond.castable "java/lang/IllegalArgumentException" "java/lang/IllegalArgumentException") ∈ NWL := nwl_mem (lw_in2 (List.mem_of_getElem? (i := 183) rfl)) rfl
theorem q_543 : (Cond.methodLink "MarginCourtLaw" 15 ⟨"MarginCourt", "setMove", "(III)I"⟩) ∈ WU := wu_mem (lw_in3 (List.mem_of_getElem? (i := 8) rfl)) rfl
theorem q_544 : (Cond.instanceMethod ⟨"MarginCourt", "setMove", "(III)I"⟩) ∈ WU := wu_mem (lw_in3 (List.mem_of_getElem? (i := 9) rfl)) rfl
theorem q_545 : (Cond.selects "MarginCourt" ⟨"MarginCourt", "setMove", "(III)I"⟩ ⟨"MarginCourt", "setMove", "(III)I"⟩) ∈ WU := wu_mem (lw_in3 (List.mem_of_getElem? (i := 10) rfl)) rfl
theorem q_546 : (Cond.code ⟨"MarginCourt", "setMove", "(III)I"⟩ prog_1_method_3_code 5 (some .int)) ∈ WU := wu_mem (lw_in3 (List.mem_of_getElem? (i := 11) rfl)) rfl
theorem q_550 : (Cond.methodLink "MarginCourtLaw" 19 ⟨"MarginCourt", "tellKind", "(II)I"⟩) ∈ WU := wu_mem (lw_in3 (List.mem_of_getElem? (i := 15) rfl)) rfl
theorem q_551 : (Cond.instanceMethod ⟨"MarginCourt", "tellKind", "(II)I"⟩) ∈ WU := wu_mem (lw_in3 (List.mem_of_getElem? (i := 16) rfl)) rfl
theorem q_552 : (Cond.selects "MarginCourt" ⟨"MarginCourt", "tellKind", "(II)I"⟩ ⟨"MarginCourt", "tellKind", "(II)I"⟩) ∈ WU := wu_mem (lw_in3 (List.mem_of_getElem? (i := 17) rfl)) rfl
theorem q_553 : (Cond.code ⟨"MarginCourt", "tellKind", "(II)I"⟩ prog_1_method_4_code 5 (some .int)) ∈ WU := wu_mem (lw_in3 (List.mem_of_getElem? (i := 18) rfl)) rfl
theorem q_554 : (Cond.methodLink "MarginCourt" 60 ⟨"MarginCourt", "demandKind", "(I)V"⟩) ∈ WU := wu_mem (lw_in3 (List.mem_of_getElem? (i := 19) rfl)) rfl
theorem q_555 : (Cond.static ⟨"MarginCourt", "demandKind", "(I)V"⟩) ∈ WU := wu_mem (lw_in3 (List.mem_of_getElem? (i := 20) rfl)) rfl
theorem q_556 : (Cond.code ⟨"MarginCourt", "demandKind", "(I)V"⟩ prog_1_method_30_code 1 none) ∈ WU := wu_mem (lw_in3 (List.mem_of_getElem? (i := 21) rfl)) rfl
theorem q_557 : (Cond.methodLink "MarginCourt" 66 ⟨"MarginCourt", "haircutBy", "([II)I"⟩) ∈ WU := wu_mem (lw_in3 (List.mem_of_getElem? (i := 22) rfl)) rfl
theorem q_558 : (Cond.static ⟨"MarginCourt", "haircutBy", "([II)I"⟩) ∈ WU := wu_mem (lw_in3 (List.mem_of_getElem? (i := 23) rfl)) rfl
theorem q_559 : (Cond.code ⟨"MarginCourt", "haircutBy", "([II)I"⟩ prog_1_method_49_code 5 (some .int)) ∈ WU := wu_mem (lw_in3 (List.mem_of_getElem? (i := 24) rfl)) rfl
theorem q_560 : (Cond.methodLink "MarginCourt" 263 ⟨"java/lang/Math", "max", "(II)I"⟩) ∈ WU := wu_mem (lw_in3 (List.mem_of_getElem? (i := 25) rfl)) rfl
theorem q_561 : (Cond.methodLink "MarginCourt" 266 ⟨"MarginCourt", "dividedUp", "(II)I"⟩) ∈ WU := wu_mem (lw_in3 (List.mem_of_getElem? (i := 26) rfl)) rfl
theorem q_562 : (Cond.static ⟨"MarginCourt", "dividedUp", "(II)I"⟩) ∈ WU := wu_mem (lw_in3 (List.mem_of_getElem? (i := 27) rfl)) rfl
theorem q_563 : (Cond.code ⟨"MarginCourt", "dividedUp", "(II)I"⟩ prog_1_method_50_code 2 (some .int)) ∈ WU := wu_mem (lw_in3 (List.mem_of_getElem? (i := 28) rfl)) rfl
theorem q_567 : (Cond.classLink "MarginCourtLaw" 25 "java/lang/IllegalStateException") ∈ WU := wu_mem (lw_in3 (List.mem_of_getElem? (i := 32) rfl)) rfl
theorem q_568 : (Cond.methodLink "MarginCourtLaw" 22 ⟨"MarginCourt", "pay", "(II)I"⟩) ∈ WU := wu_mem (lw_in3 (List.mem_of_getElem? (i := 33) rfl)) rfl
theorem q_569 : (Cond.instanceMethod ⟨"MarginCourt", "pay", "(II)I"⟩) ∈ WU := wu_mem (lw_in3 (List.mem_of_getElem? (i := 34) rfl)) rfl
theorem q_570 : (Cond.selects "MarginCourt" ⟨"MarginCourt", "pay", "(II)I"⟩ ⟨"MarginCourt", "pay", "(II)I"⟩) ∈ WU := wu_mem (lw_in3 (List.mem_of_getElem? (i := 35) rfl)) rfl
theorem q_571 : (Cond.code ⟨"MarginCourt", "pay", "(II)I"⟩ prog_1_method_5_code 4 (some .int)) ∈ WU := wu_mem (lw_in3 (List.mem_of_getElem? (i := 36) rfl)) rfl
theorem q_572 : (Cond.methodLink "MarginCourt" 73 ⟨"MarginCourt", "demandMember", "(I)V"⟩) ∈ WU := wu_mem (lw_in3 (List.mem_of_getElem? (i := 37) rfl)) rfl
theorem q_573 : (Cond.static ⟨"MarginCourt", "demandMember", "(I)V"⟩) ∈ WU := wu_mem (lw_in3 (List.mem_of_getElem? (i := 38) rfl)) rfl
theorem q_574 : (Cond.code ⟨"MarginCourt", "demandMember", "(I)V"⟩ prog_1_method_28_code 1 none) ∈ WU := wu_mem (lw_in3 (List.mem_of_getElem? (i := 39) rfl)) rfl
theorem q_575 : (Cond.constant "MarginCourt" 76 (-100000 : Int32)) ∈ WU := wu_mem (lw_in3 (List.mem_of_getElem? (i := 40) rfl)) rfl
theorem q_576 : (Cond.constant "MarginCourt" 77 (100000 : Int32)) ∈ WU := wu_mem (lw_in3 (List.mem_of_getElem? (i := 41) rfl)) rfl
theorem q_577 : (Cond.methodLink "MarginCourt" 82 ⟨"MarginCourt", "demandState", "(Z)V"⟩) ∈ WU := wu_mem (lw_in3 (List.mem_of_getElem? (i := 42) rfl)) rfl
theorem q_578 : (Cond.static ⟨"MarginCourt", "demandState", "(Z)V"⟩) ∈ WU := wu_mem (lw_in3 (List.mem_of_getElem? (i := 43) rfl)) rfl
theorem q_579 : (Cond.code ⟨"MarginCourt", "demandState", "(Z)V"⟩ prog_1_method_32_code 1 none) ∈ WU := wu_mem (lw_in3 (List.mem_of_getElem? (i := 44) rfl)) rfl
theorem q_580 : (Cond.classLink "MarginCourt" 198 "java/lang/IllegalStateException") ∈ WU := wu_mem (lw_in3 (List.mem_of_getElem? (i := 45) rfl)) rfl
theorem q_582 : (Cond.castable "java/lang/IllegalStateException" "java/lang/IllegalStateException") ∈ NWL := nwl_mem (lw_in3 (List.mem_of_getElem? (i := 47) rfl)) rfl
theorem q_598 : (Cond.methodLink "MarginCourtLaw" 27 ⟨"MarginCourt", "bring", "(III)I"⟩) ∈ WU := wu_mem (lw_in3 (List.mem_of_getElem? (i := 63) rfl)) rfl
theorem q_599 : (Cond.instanceMethod ⟨"MarginCourt", "bring", "(III)I"⟩) ∈ WU := wu_mem (lw_in3 (List.mem_of_getElem? (i := 64) rfl)) rfl
theorem q_600 : (Cond.selects "MarginCourt" ⟨"MarginCourt", "bring", "(III)I"⟩ ⟨"MarginCourt", "bring", "(III)I"⟩) ∈ WU := wu_mem (lw_in3 (List.mem_of_getElem? (i := 65) rfl)) rfl
theorem q_601 : (Cond.code ⟨"MarginCourt", "bring", "(III)I"⟩ prog_1_method_6_code 7 (some .int)) ∈ WU := wu_mem (lw_in3 (List.mem_of_getElem? (i := 66) rfl)) rfl
theorem q_605 : (Cond.methodLink "MarginCourtLaw" 30 ⟨"MarginCourt", "contribute", "(II)I"⟩) ∈ WU := wu_mem (lw_in3 (List.mem_of_getElem? (i := 70) rfl)) rfl
theorem q_606 : (Cond.instanceMethod ⟨"MarginCourt", "contribute", "(II)I"⟩) ∈ WU := wu_mem (lw_in3 (List.mem_of_getElem? (i := 71) rfl)) rfl
theorem q_607 : (Cond.selects "MarginCourt" ⟨"MarginCourt", "contribute", "(II)I"⟩ ⟨"MarginCourt", "contribute", "(II)I"⟩) ∈ WU := wu_mem (lw_in3 (List.mem_of_getElem? (i := 72) rfl)) rfl
theorem q_608 : (Cond.code ⟨"MarginCourt", "contribute", "(II)I"⟩ prog_1_method_7_code 4 (some .int)) ∈ WU := wu_mem (lw_in3 (List.mem_of_getElem? (i := 73) rfl)) rfl
theorem q_612 : (Cond.methodLink "MarginCourtLaw" 33 ⟨"MarginCourt", "place", "(IIZII)I"⟩) ∈ WU := wu_mem (lw_in3 (List.mem_of_getElem? (i := 77) rfl)) rfl
theorem q_613 : (Cond.instanceMethod ⟨"MarginCourt", "place", "(IIZII)I"⟩) ∈ WU := wu_mem (lw_in3 (List.mem_of_getElem? (i := 78) rfl)) rfl
theorem q_614 : (Cond.selects "MarginCourt" ⟨"MarginCourt", "place", "(IIZII)I"⟩ ⟨"MarginCourt", "place", "(IIZII)I"⟩) ∈ WU := wu_mem (lw_in3 (List.mem_of_getElem? (i := 79) rfl)) rfl
theorem q_615 : (Cond.code ⟨"MarginCourt", "place", "(IIZII)I"⟩ prog_1_method_8_code 8 (some .int)) ∈ WU := wu_mem (lw_in3 (List.mem_of_getElem? (i := 80) rfl)) rfl
theorem q_616 : (Cond.instantiable "MarginCourt$Order" 6) ∈ WU := wu_mem (lw_in3 (List.mem_of_getElem? (i := 81) rfl)) rfl
theorem q_617 : (Cond.methodLinkNest "MarginCourt" 117 ⟨"MarginCourt$Order", "<init>", "(IIIZII)V"⟩ "MarginCourt") ∈ NWL := nwl_mem (lw_in3 (List.mem_of_getElem? (i := 82) rfl)) rfl
theorem q_618 : (Cond.instanceMethod ⟨"MarginCourt$Order", "<init>", "(IIIZII)V"⟩) ∈ WU := wu_mem (lw_in3 (List.mem_of_getElem? (i := 83) rfl)) rfl
theorem q_619 : (Cond.code ⟨"MarginCourt$Order", "<init>", "(IIIZII)V"⟩ prog_4_method_1_code 7 none) ∈ WU := wu_mem (lw_in3 (List.mem_of_getElem? (i := 84) rfl)) rfl
theorem q_620 : (Cond.methodLink "MarginCourt$Order" 1 ⟨"java/lang/Object", "<init>", "()V"⟩) ∈ WU := wu_mem (lw_in3 (List.mem_of_getElem? (i := 85) rfl)) rfl
theorem q_621 : (Cond.fieldLink "MarginCourt$Order" 7 "MarginCourt$Order" "number" "I") ∈ WU := wu_mem (lw_in3 (List.mem_of_getElem? (i := 86) rfl)) rfl
theorem q_622 : (Cond.fieldLinkNest "MarginCourt" 149 "MarginCourt$Order" "number" "I" "MarginCourt") ∈ NWL := nwl_mem (lw_in3 (List.mem_of_getElem? (i := 87) rfl)) rfl
theorem q_623 : (Cond.fieldLink "MarginCourt$Order" 13 "MarginCourt$Order" "member" "I") ∈ WU := wu_mem (lw_in3 (List.mem_of_getElem? (i := 88) rfl)) rfl
theorem q_624 : (Cond.fieldLinkNest "MarginCourt" 220 "MarginCourt$Order" "member" "I" "MarginCourt") ∈ NWL := nwl_mem (lw_in3 (List.mem_of_getElem? (i := 89) rfl)) rfl
theorem q_625 : (Cond.fieldLink "MarginCourt$Order" 16 "MarginCourt$Order" "product" "I") ∈ WU := wu_mem (lw_in3 (List.mem_of_getElem? (i := 90) rfl)) rfl
theorem q_626 : (Cond.fieldLinkNest "MarginCourt" 204 "MarginCourt$Order" "product" "I" "MarginCourt") ∈ NWL := nwl_mem (lw_in3 (List.mem_of_getElem? (i := 91) rfl)) rfl
theorem q_627 : (Cond.fieldLink "MarginCourt$Order" 19 "MarginCourt$Order" "buys" "Z") ∈ WU := wu_mem (lw_in3 (List.mem_of_getElem? (i := 92) rfl)) rfl
theorem q_628 : (Cond.fieldLinkNest "MarginCourt" 207 "MarginCourt$Order" "buys" "Z" "MarginCourt") ∈ NWL := nwl_mem (lw_in3 (List.mem_of_getElem? (i := 93) rfl)) rfl
theorem q_629 : (Cond.fieldLink "MarginCourt$Order" 23 "MarginCourt$Order" "limit" "I") ∈ WU := wu_mem (lw_in3 (List.mem_of_getElem? (i := 94) rfl)) rfl
theorem q_630 : (Cond.fieldLinkNest "MarginCourt" 214 "MarginCourt$Order" "limit" "I" "MarginCourt") ∈ NWL := nwl_mem (lw_in3 (List.mem_of_getElem? (i := 95) rfl)) rfl
theorem q_631 : (Cond.fieldLink "MarginCourt$Order" 26 "MarginCourt$Order" "rest" "I") ∈ WU := wu_mem (lw_in3 (List.mem_of_getElem? (i := 96) rfl)) rfl
theorem q_632 : (Cond.fieldLinkNest "MarginCourt" 135 "MarginCourt$Order" "rest" "I" "MarginCourt") ∈ NWL := nwl_mem (lw_in3 (List.mem_of_getElem? (i := 97) rfl)) rfl
theorem q_646 : (Cond.methodLink "MarginCourt" 124 ⟨"MarginCourt", "match", "(LMarginCourt$Order;)V"⟩) ∈ WU := wu_mem (lw_in3 (List.mem_of_getElem? (i := 111) rfl)) rfl
theorem q_648 : (Cond.instanceMethod ⟨"MarginCourt", "match", "(LMarginCourt$Order;)V"⟩) ∈ WU := wu_mem (lw_in3 (List.mem_of_getElem? (i := 113) rfl)) rfl
theorem q_649 : (Cond.code ⟨"MarginCourt", "match", "(LMarginCourt$Order;)V"⟩ prog_1_method_36_code 5 none) ∈ WU := wu_mem (lw_in3 (List.mem_of_getElem? (i := 114) rfl)) rfl
theorem q_650 : (Cond.methodLink "MarginCourt" 217 ⟨"MarginCourt", "meet", "(LMarginCourt$Order;LMarginCourt$Order;)Z"⟩) ∈ WU := wu_mem (lw_in3 (List.mem_of_getElem? (i := 115) rfl)) rfl
theorem q_651 : (Cond.static ⟨"MarginCourt", "meet", "(LMarginCourt$Order;LMarginCourt$Order;)Z"⟩) ∈ WU := wu_mem (lw_in3 (List.mem_of_getElem? (i := 116) rfl)) rfl
theorem q_652 : (Cond.code ⟨"MarginCourt", "meet", "(LMarginCourt$Order;LMarginCourt$Order;)Z"⟩ prog_1_method_37_code 2 (some .boolean)) ∈ WU := wu_mem (lw_in3 (List.mem_of_getElem? (i := 117) rfl)) rfl
theorem q_656 : (Cond.classLink "MarginCourtLaw" 41 "java/lang/IndexOutOfBoundsException") ∈ WU := wu_mem (lw_in3 (List.mem_of_getElem? (i := 121) rfl)) rfl
theorem q_657 : (Cond.methodLink "MarginCourtLaw" 37 ⟨"MarginCourt", "cancel", "(I)I"⟩) ∈ WU := wu_mem (lw_in3 (List.mem_of_getElem? (i := 122) rfl)) rfl
theorem q_658 : (Cond.instanceMethod ⟨"MarginCourt", "cancel", "(I)I"⟩) ∈ WU := wu_mem (lw_in3 (List.mem_of_getElem? (i := 123) rfl)) rfl
theorem q_659 : (Cond.selects "MarginCourt" ⟨"MarginCourt", "cancel", "(I)I"⟩ ⟨"MarginCourt", "cancel", "(I)I"⟩) ∈ WU := wu_mem (lw_in3 (List.mem_of_getElem? (i := 124) rfl)) rfl
theorem q_660 : (Cond.code ⟨"MarginCourt", "cancel", "(I)I"⟩ prog_1_method_9_code 4 (some .int)) ∈ WU := wu_mem (lw_in3 (List.mem_of_getElem? (i := 125) rfl)) rfl
theorem q_661 : (Cond.methodLink "MarginCourt" 128 ⟨"MarginCourt", "demandOrder", "(I)V"⟩) ∈ WU := wu_mem (lw_in3 (List.mem_of_getElem? (i := 126) rfl)) rfl
theorem q_663 : (Cond.instanceMethod ⟨"MarginCourt", "demandOrder", "(I)V"⟩) ∈ WU := wu_mem (lw_in3 (List.mem_of_getElem? (i := 128) rfl)) rfl
theorem q_664 : (Cond.code ⟨"MarginCourt", "demandOrder", "(I)V"⟩ prog_1_method_33_code 2 none) ∈ WU := wu_mem (lw_in3 (List.mem_of_getElem? (i := 129) rfl)) rfl
theorem q_665 : (Cond.classLink "MarginCourt" 201 "java/lang/IndexOutOfBoundsException") ∈ WU := wu_mem (lw_in3 (List.mem_of_getElem? (i := 130) rfl)) rfl
theorem q_667 : (Cond.castable "java/lang/IndexOutOfBoundsException" "java/lang/IndexOutOfBoundsException") ∈ NWL := nwl_mem (lw_in3 (List.mem_of_getElem? (i := 132) rfl)) rfl
theorem q_683 : (Cond.methodLink "MarginCourtLaw" 43 ⟨"MarginCourt", "halt", "(IZ)I"⟩) ∈ WU := wu_mem (lw_in3 (List.mem_of_getElem? (i := 148) rfl)) rfl
theorem q_684 : (Cond.instanceMethod ⟨"MarginCourt", "halt", "(IZ)I"⟩) ∈ WU := wu_mem (lw_in3 (List.mem_of_getElem? (i := 149) rfl)) rfl
theorem q_685 : (Cond.selects "MarginCourt" ⟨"MarginCourt", "halt", "(IZ)I"⟩ ⟨"MarginCourt", "halt", "(IZ)I"⟩) ∈ WU := wu_mem (lw_in3 (List.mem_of_getElem? (i := 150) rfl)) rfl
theorem q_686 : (Cond.code ⟨"MarginCourt", "halt", "(IZ)I"⟩ prog_1_method_10_code 3 (some .int)) ∈ WU := wu_mem (lw_in3 (List.mem_of_getElem? (i := 151) rfl)) rfl
theorem q_687 : (Cond.methodLink "MarginCourt" 138 ⟨"MarginCourt", "cancelOrdersFor", "(I)I"⟩) ∈ WU := wu_mem (lw_in3 (List.mem_of_getElem? (i := 152) rfl)) rfl
theorem q_689 : (Cond.instanceMethod ⟨"MarginCourt", "cancelOrdersFor", "(I)I"⟩) ∈ WU := wu_mem (lw_in3 (List.mem_of_getElem? (i := 154) rfl)) rfl
theorem q_690 : (Cond.code ⟨"MarginCourt", "cancelOrdersFor", "(I)I"⟩ prog_1_method_41_code 5 (some .int)) ∈ WU := wu_mem (lw_in3 (List.mem_of_getElem? (i := 155) rfl)) rfl
theorem q_694 : (Cond.methodLink "MarginCourtLaw" 47 ⟨"MarginCourt", "left", "(I)I"⟩) ∈ WU := wu_mem (lw_in3 (List.mem_of_getElem? (i := 159) rfl)) rfl
theorem q_695 : (Cond.instanceMethod ⟨"MarginCourt", "left", "(I)I"⟩) ∈ WU := wu_mem (lw_in3 (List.mem_of_getElem? (i := 160) rfl)) rfl
theorem q_696 : (Cond.selects "MarginCourt" ⟨"MarginCourt", "left", "(I)I"⟩ ⟨"MarginCourt", "left", "(I)I"⟩) ∈ WU := wu_mem (lw_in3 (List.mem_of_getElem? (i := 161) rfl)) rfl
theorem q_697 : (Cond.code ⟨"MarginCourt", "left", "(I)I"⟩ prog_1_method_11_code 2 (some .int)) ∈ WU := wu_mem (lw_in3 (List.mem_of_getElem? (i := 162) rfl)) rfl
theorem q_701 : (Cond.classLink "MarginCourtLaw" 53 "java/util/NoSuchElementException") ∈ WU := wu_mem (lw_in3 (List.mem_of_getElem? (i := 166) rfl)) rfl
theorem q_702 : (Cond.methodLink "MarginCourtLaw" 50 ⟨"MarginCourt", "best", "(IZ)I"⟩) ∈ WU := wu_mem (lw_in3 (List.mem_of_getElem? (i := 167) rfl)) rfl
theorem q_703 : (Cond.instanceMethod ⟨"MarginCourt", "best", "(IZ)I"⟩) ∈ WU := wu_mem (lw_in3 (List.mem_of_getElem? (i := 168) rfl)) rfl
theorem q_704 : (Cond.selects "MarginCourt" ⟨"MarginCourt", "best", "(IZ)I"⟩ ⟨"MarginCourt", "best", "(IZ)I"⟩) ∈ WU := wu_mem (lw_in3 (List.mem_of_getElem? (i := 169) rfl)) rfl
theorem q_705 : (Cond.code ⟨"MarginCourt", "best", "(IZ)I"⟩ prog_1_method_12_code 4 (some .int)) ∈ WU := wu_mem (lw_in3 (List.mem_of_getElem? (i := 170) rfl)) rfl
theorem q_706 : (Cond.classLink "MarginCourt" 146 "java/util/NoSuchElementException") ∈ WU := wu_mem (lw_in3 (List.mem_of_getElem? (i := 171) rfl)) rfl
theorem q_708 : (Cond.castable "java/util/NoSuchElementException" "java/util/NoSuchElementException") ∈ NWL := nwl_mem (lw_in3 (List.mem_of_getElem? (i := 173) rfl)) rfl
theorem q_724 : (Cond.methodLink "MarginCourtLaw" 55 ⟨"MarginCourt", "called", "(I)I"⟩) ∈ WU := wu_mem (lw_in3 (List.mem_of_getElem? (i := 189) rfl)) rfl
theorem q_725 : (Cond.instanceMethod ⟨"MarginCourt", "called", "(I)I"⟩) ∈ WU := wu_mem (lw_in3 (List.mem_of_getElem? (i := 190) rfl)) rfl
theorem q_726 : (Cond.selects "MarginCourt" ⟨"MarginCourt", "called", "(I)I"⟩ ⟨"MarginCourt", "called", "(I)I"⟩) ∈ WU := wu_mem (lw_in3 (List.mem_of_getElem? (i := 191) rfl)) rfl
theorem q_727 : (Cond.code ⟨"MarginCourt", "called", "(I)I"⟩ prog_1_method_16_code 2 (some .int)) ∈ WU := wu_mem (lw_in3 (List.mem_of_getElem? (i := 192) rfl)) rfl
theorem q_731 : (Cond.methodLink "MarginCourtLaw" 58 ⟨"MarginCourt", "hasFailed", "(I)Z"⟩) ∈ WU := wu_mem (lw_in3 (List.mem_of_getElem? (i := 196) rfl)) rfl
theorem q_732 : (Cond.instanceMethod ⟨"MarginCourt", "hasFailed", "(I)Z"⟩) ∈ WU := wu_mem (lw_in3 (List.mem_of_getElem? (i := 197) rfl)) rfl
theorem q_733 : (Cond.selects "MarginCourt" ⟨"MarginCourt", "hasFailed", "(I)Z"⟩ ⟨"MarginCourt", "hasFailed", "(I)Z"⟩) ∈ WU := wu_mem (lw_in3 (List.mem_of_getElem? (i := 198) rfl)) rfl
theorem q_734 : (Cond.code ⟨"MarginCourt", "hasFailed", "(I)Z"⟩ prog_1_method_17_code 2 (some .boolean)) ∈ WU := wu_mem (lw_in3 (List.mem_of_getElem? (i := 199) rfl)) rfl
theorem q_738 : (Cond.methodLink "MarginCourtLaw" 62 ⟨"MarginCourt", "position", "(II)I"⟩) ∈ WU := wu_mem (lw_in3 (List.mem_of_getElem? (i := 203) rfl)) rfl
theorem q_739 : (Cond.instanceMethod ⟨"MarginCourt", "position", "(II)I"⟩) ∈ WU := wu_mem (lw_in3 (List.mem_of_getElem? (i := 204) rfl)) rfl
theorem q_740 : (Cond.selects "MarginCourt" ⟨"MarginCourt", "position", "(II)I"⟩ ⟨"MarginCourt", "position", "(II)I"⟩) ∈ WU := wu_mem (lw_in3 (List.mem_of_getElem? (i := 205) rfl)) rfl
theorem q_741 : (Cond.code ⟨"MarginCourt", "position", "(II)I"⟩ prog_1_method_18_code 3 (some .int)) ∈ WU := wu_mem (lw_in3 (List.mem_of_getElem? (i := 206) rfl)) rfl
theorem q_745 : (Cond.methodLink "MarginCourtLaw" 65 ⟨"MarginCourt", "cash", "(I)I"⟩) ∈ WU := wu_mem (lw_in3 (List.mem_of_getElem? (i := 210) rfl)) rfl
theorem q_746 : (Cond.instanceMethod ⟨"MarginCourt", "cash", "(I)I"⟩) ∈ WU := wu_mem (lw_in3 (List.mem_of_getElem? (i := 211) rfl)) rfl
theorem q_747 : (Cond.selects "MarginCourt" ⟨"MarginCourt", "cash", "(I)I"⟩ ⟨"MarginCourt", "cash", "(I)I"⟩) ∈ WU := wu_mem (lw_in3 (List.mem_of_getElem? (i := 212) rfl)) rfl
theorem q_748 : (Cond.code ⟨"MarginCourt", "cash", "(I)I"⟩ prog_1_method_19_code 2 (some .int)) ∈ WU := wu_mem (lw_in3 (List.mem_of_getElem? (i := 213) rfl)) rfl
theorem q_752 : (Cond.methodLink "MarginCourtLaw" 68 ⟨"MarginCourt", "equity", "(I)I"⟩) ∈ WU := wu_mem (lw_in3 (List.mem_of_getElem? (i := 217) rfl)) rfl
theorem q_753 : (Cond.instanceMethod ⟨"MarginCourt", "equity", "(I)I"⟩) ∈ WU := wu_mem (lw_in3 (List.mem_of_getElem? (i := 218) rfl)) rfl
theorem q_754 : (Cond.selects "MarginCourt" ⟨"MarginCourt", "equity", "(I)I"⟩ ⟨"MarginCourt", "equity", "(I)I"⟩) ∈ WU := wu_mem (lw_in3 (List.mem_of_getElem? (i := 219) rfl)) rfl
theorem q_755 : (Cond.code ⟨"MarginCourt", "equity", "(I)I"⟩ prog_1_method_20_code 2 (some .int)) ∈ WU := wu_mem (lw_in3 (List.mem_of_getElem? (i := 220) rfl)) rfl
theorem q_759 : (Cond.methodLink "MarginCourtLaw" 71 ⟨"MarginCourt", "equityByTrades", "(I)I"⟩) ∈ WU := wu_mem (lw_in3 (List.mem_of_getElem? (i := 224) rfl)) rfl
theorem q_760 : (Cond.instanceMethod ⟨"MarginCourt", "equityByTrades", "(I)I"⟩) ∈ WU := wu_mem (lw_in3 (List.mem_of_getElem? (i := 225) rfl)) rfl
theorem q_761 : (Cond.selects "MarginCourt" ⟨"MarginCourt", "equityByTrades", "(I)I"⟩ ⟨"MarginCourt", "equityByTrades", "(I)I"⟩) ∈ WU := wu_mem (lw_in3 (List.mem_of_getElem? (i := 226) rfl)) rfl
theorem q_762 : (Cond.code ⟨"MarginCourt", "equityByTrades", "(I)I"⟩ prog_1_method_21_code 5 (some .int)) ∈ WU := wu_mem (lw_in3 (List.mem_of_getElem? (i := 227) rfl)) rfl
theorem q_763 : (Cond.methodLink "MarginCourt" 182 ⟨"MarginCourt", "gainOf", "(ILMarginCourt$Trade;)J"⟩) ∈ WU := wu_mem (lw_in3 (List.mem_of_getElem? (i := 228) rfl)) rfl
theorem q_765 : (Cond.instanceMethod ⟨"MarginCourt", "gainOf", "(ILMarginCourt$Trade;)J"⟩) ∈ WU := wu_mem (lw_in3 (List.mem_of_getElem? (i := 230) rfl)) rfl
theorem q_766 : (Cond.code ⟨"MarginCourt", "gainOf", "(ILMarginCourt$Trade;)J"⟩ prog_1_method_46_code 5 (some .long)) ∈ WU := wu_mem (lw_in3 (List.mem_of_getElem? (i := 231) rfl)) rfl
theorem q_770 : (Cond.methodLink "MarginCourtLaw" 74 ⟨"MarginCourt", "margin", "(I)I"⟩) ∈ WU := wu_mem (lw_in3 (List.mem_of_getElem? (i := 235) rfl)) rfl
theorem q_771 : (Cond.instanceMethod ⟨"MarginCourt", "margin", "(I)I"⟩) ∈ WU := wu_mem (lw_in3 (List.mem_of_getElem? (i := 236) rfl)) rfl
theorem q_772 : (Cond.selects "MarginCourt" ⟨"MarginCourt", "margin", "(I)I"⟩ ⟨"MarginCourt", "margin", "(I)I"⟩) ∈ WU := wu_mem (lw_in3 (List.mem_of_getElem? (i := 237) rfl)) rfl
theorem q_773 : (Cond.code ⟨"MarginCourt", "margin", "(I)I"⟩ prog_1_method_22_code 2 (some .int)) ∈ WU := wu_mem (lw_in3 (List.mem_of_getElem? (i := 238) rfl)) rfl
theorem q_777 : (Cond.methodLink "MarginCourtLaw" 77 ⟨"MarginCourt", "haircut", "(I)I"⟩) ∈ WU := wu_mem (lw_in4 (List.mem_of_getElem? (i := 2) rfl)) rfl
theorem q_778 : (Cond.instanceMethod ⟨"MarginCourt", "haircut", "(I)I"⟩) ∈ WU := wu_mem (lw_in4 (List.mem_of_getElem? (i := 3) rfl)) rfl
theorem q_779 : (Cond.selects "MarginCourt" ⟨"MarginCourt", "haircut", "(I)I"⟩ ⟨"MarginCourt", "haircut", "(I)I"⟩) ∈ WU := wu_mem (lw_in4 (List.mem_of_getElem? (i := 4) rfl)) rfl
theorem q_780 : (Cond.code ⟨"MarginCourt", "haircut", "(I)I"⟩ prog_1_method_23_code 2 (some .int)) ∈ WU := wu_mem (lw_in4 (List.mem_of_getElem? (i := 5) rfl)) rfl
theorem q_784 : (Cond.methodLink "MarginCourtLaw" 80 ⟨"MarginCourt", "collateral", "(I)I"⟩) ∈ WU := wu_mem (lw_in4 (List.mem_of_getElem? (i := 9) rfl)) rfl
theorem q_785 : (Cond.instanceMethod ⟨"MarginCourt", "collateral", "(I)I"⟩) ∈ WU := wu_mem (lw_in4 (List.mem_of_getElem? (i := 10) rfl)) rfl
theorem q_786 : (Cond.selects "MarginCourt" ⟨"MarginCourt", "collateral", "(I)I"⟩ ⟨"MarginCourt", "collateral", "(I)I"⟩) ∈ WU := wu_mem (lw_in4 (List.mem_of_getElem? (i := 11) rfl)) rfl
theorem q_787 : (Cond.code ⟨"MarginCourt", "collateral", "(I)I"⟩ prog_1_method_24_code 2 (some .int)) ∈ WU := wu_mem (lw_in4 (List.mem_of_getElem? (i := 12) rfl)) rfl
theorem q_791 : (Cond.methodLink "MarginCourtLaw" 83 ⟨"MarginCourt", "free", "(I)I"⟩) ∈ WU := wu_mem (lw_in4 (List.mem_of_getElem? (i := 16) rfl)) rfl
theorem q_792 : (Cond.instanceMethod ⟨"MarginCourt", "free", "(I)I"⟩) ∈ WU := wu_mem (lw_in4 (List.mem_of_getElem? (i := 17) rfl)) rfl
theorem q_793 : (Cond.selects "MarginCourt" ⟨"MarginCourt", "free", "(I)I"⟩ ⟨"MarginCourt", "free", "(I)I"⟩) ∈ WU := wu_mem (lw_in4 (List.mem_of_getElem? (i := 18) rfl)) rfl
theorem q_794 : (Cond.code ⟨"MarginCourt", "free", "(I)I"⟩ prog_1_method_25_code 2 (some .int)) ∈ WU := wu_mem (lw_in4 (List.mem_of_getElem? (i := 19) rfl)) rfl
theorem q_798 : (Cond.methodLink "MarginCourtLaw" 86 ⟨"MarginCourt", "share", "(I)I"⟩) ∈ WU := wu_mem (lw_in4 (List.mem_of_getElem? (i := 23) rfl)) rfl
theorem q_799 : (Cond.instanceMethod ⟨"MarginCourt", "share", "(I)I"⟩) ∈ WU := wu_mem (lw_in4 (List.mem_of_getElem? (i := 24) rfl)) rfl
theorem q_800 : (Cond.selects "MarginCourt" ⟨"MarginCourt", "share", "(I)I"⟩ ⟨"MarginCourt", "share", "(I)I"⟩) ∈ WU := wu_mem (lw_in4 (List.mem_of_getElem? (i := 25) rfl)) rfl
theorem q_801 : (Cond.code ⟨"MarginCourt", "share", "(I)I"⟩ prog_1_method_26_code 2 (some .int)) ∈ WU := wu_mem (lw_in4 (List.mem_of_getElem? (i := 26) rfl)) rfl
theorem q_807 : (Cond.methodLink "MarginCourtModel" 1 ⟨"java/lang/Object", "<init>", "()V"⟩) ∈ WU := wu_mem (lw_in4 (List.mem_of_getElem? (i := 32) rfl)) rfl
theorem q_808 : (Cond.fieldLink "MarginCourtModel" 7 "MarginCourtModel" "price" "[I") ∈ WU := wu_mem (lw_in4 (List.mem_of_getElem? (i := 33) rfl)) rfl
theorem q_809 : (Cond.fieldLink "MarginCourtModel" 13 "MarginCourtModel" "move" "[I") ∈ WU := wu_mem (lw_in4 (List.mem_of_getElem? (i := 34) rfl)) rfl
theorem q_810 : (Cond.fieldLink "MarginCourtModel" 16 "MarginCourtModel" "kindPrice" "[I") ∈ WU := wu_mem (lw_in4 (List.mem_of_getElem? (i := 35) rfl)) rfl
theorem q_811 : (Cond.fieldLink "MarginCourtModel" 19 "MarginCourtModel" "position" "[I") ∈ WU := wu_mem (lw_in4 (List.mem_of_getElem? (i := 36) rfl)) rfl
theorem q_812 : (Cond.fieldLink "MarginCourtModel" 22 "MarginCourtModel" "paid" "[J") ∈ WU := wu_mem (lw_in4 (List.mem_of_getElem? (i := 37) rfl)) rfl
theorem q_813 : (Cond.fieldLink "MarginCourtModel" 26 "MarginCourtModel" "cash" "[J") ∈ WU := wu_mem (lw_in4 (List.mem_of_getElem? (i := 38) rfl)) rfl
theorem q_814 : (Cond.fieldLink "MarginCourtModel" 29 "MarginCourtModel" "units" "[I") ∈ WU := wu_mem (lw_in4 (List.mem_of_getElem? (i := 39) rfl)) rfl
theorem q_815 : (Cond.fieldLink "MarginCourtModel" 32 "MarginCourtModel" "share" "[J") ∈ WU := wu_mem (lw_in4 (List.mem_of_getElem? (i := 40) rfl)) rfl
theorem q_816 : (Cond.fieldLink "MarginCourtModel" 35 "MarginCourtModel" "called" "[I") ∈ WU := wu_mem (lw_in4 (List.mem_of_getElem? (i := 41) rfl)) rfl
theorem q_817 : (Cond.fieldLink "MarginCourtModel" 38 "MarginCourtModel" "hasFailed" "[Z") ∈ WU := wu_mem (lw_in4 (List.mem_of_getElem? (i := 42) rfl)) rfl
theorem q_818 : (Cond.fieldLink "MarginCourtModel" 160 "MarginCourtModel" "unpaid" "J") ∈ WU := wu_mem (lw_in4 (List.mem_of_getElem? (i := 43) rfl)) rfl
theorem q_819 : (Cond.fieldLink "MarginCourtModel" 90 "MarginCourtModel" "placed" "I") ∈ WU := wu_mem (lw_in4 (List.mem_of_getElem? (i := 44) rfl)) rfl
theorem q_820 : (Cond.fieldLink "MarginCourtModel" 42 "MarginCourtModel" "who" "[I") ∈ WU := wu_mem (lw_in4 (List.mem_of_getElem? (i := 45) rfl)) rfl
theorem q_821 : (Cond.fieldLink "MarginCourtModel" 45 "MarginCourtModel" "what" "[I") ∈ WU := wu_mem (lw_in4 (List.mem_of_getElem? (i := 46) rfl)) rfl
theorem q_822 : (Cond.fieldLink "MarginCourtModel" 48 "MarginCourtModel" "isBuy" "[Z") ∈ WU := wu_mem (lw_in4 (List.mem_of_getElem? (i := 47) rfl)) rfl
theorem q_823 : (Cond.fieldLink "MarginCourtModel" 51 "MarginCourtModel" "limit" "[I") ∈ WU := wu_mem (lw_in4 (List.mem_of_getElem? (i := 48) rfl)) rfl
theorem q_824 : (Cond.fieldLink "MarginCourtModel" 54 "MarginCourtModel" "left" "[I") ∈ WU := wu_mem (lw_in4 (List.mem_of_getElem? (i := 49) rfl)) rfl
theorem q_825 : (Cond.fieldLink "MarginCourtModel" 57 "MarginCourtModel" "isHalted" "[Z") ∈ WU := wu_mem (lw_in4 (List.mem_of_getElem? (i := 50) rfl)) rfl
theorem q_826 : (Cond.fieldLink "MarginCourtModel" 120 "MarginCourtModel" "trades" "I") ∈ WU := wu_mem (lw_in4 (List.mem_of_getElem? (i := 51) rfl)) rfl
theorem q_827 : (Cond.fieldLink "MarginCourtModel" 60 "MarginCourtModel" "risk" "[I") ∈ WU := wu_mem (lw_in4 (List.mem_of_getElem? (i := 52) rfl)) rfl
theorem q_828 : (Cond.fieldLink "MarginCourtModel" 63 "MarginCourtModel" "isOpen" "[Z") ∈ WU := wu_mem (lw_in4 (List.mem_of_getElem? (i := 53) rfl)) rfl
theorem q_829 : (Cond.fieldLink "MarginCourtModel" 66 "MarginCourtModel" "thrown" "I") ∈ WU := wu_mem (lw_in4 (List.mem_of_getElem? (i := 54) rfl)) rfl
theorem q_875 : (Cond.arrayClass .boolean) ∈ WU := wu_mem (lw_in4 (List.mem_of_getElem? (i := 100) rfl)) rfl
theorem q_884 : (Cond.methodLink "MarginCourtModel" 70 ⟨"MarginCourtModel", "isProduct", "(I)Z"⟩) ∈ WU := wu_mem (lw_in4 (List.mem_of_getElem? (i := 109) rfl)) rfl
theorem q_885 : (Cond.static ⟨"MarginCourtModel", "isProduct", "(I)Z"⟩) ∈ WU := wu_mem (lw_in4 (List.mem_of_getElem? (i := 110) rfl)) rfl
theorem q_886 : (Cond.code ⟨"MarginCourtModel", "isProduct", "(I)Z"⟩ prog_8_method_7_code 1 (some .boolean)) ∈ WU := wu_mem (lw_in4 (List.mem_of_getElem? (i := 111) rfl)) rfl
theorem q_887 : (Cond.methodLink "MarginCourtModel" 74 ⟨"MarginCourtModel", "in", "(III)Z"⟩) ∈ WU := wu_mem (lw_in4 (List.mem_of_getElem? (i := 112) rfl)) rfl
theorem q_888 : (Cond.static ⟨"MarginCourtModel", "in", "(III)Z"⟩) ∈ WU := wu_mem (lw_in4 (List.mem_of_getElem? (i := 113) rfl)) rfl
theorem q_889 : (Cond.code ⟨"MarginCourtModel", "in", "(III)Z"⟩ prog_8_method_5_code 3 (some .boolean)) ∈ WU := wu_mem (lw_in4 (List.mem_of_getElem? (i := 114) rfl)) rfl
theorem q_890 : (Cond.methodLink "MarginCourtModel" 78 ⟨"MarginCourtModel", "asks", "(Z)Z"⟩) ∈ WU := wu_mem (lw_in4 (List.mem_of_getElem? (i := 115) rfl)) rfl
theorem q_892 : (Cond.instanceMethod ⟨"MarginCourtModel", "asks", "(Z)Z"⟩) ∈ WU := wu_mem (lw_in4 (List.mem_of_getElem? (i := 117) rfl)) rfl
theorem q_893 : (Cond.code ⟨"MarginCourtModel", "asks", "(Z)Z"⟩ prog_8_method_4_code 2 (some .boolean)) ∈ WU := wu_mem (lw_in4 (List.mem_of_getElem? (i := 118) rfl)) rfl
theorem q_902 : (Cond.methodLink "MarginCourtModel" 82 ⟨"MarginCourtModel", "haircutOf", "(I)I"⟩) ∈ WU := wu_mem (lw_in4 (List.mem_of_getElem? (i := 127) rfl)) rfl
theorem q_904 : (Cond.instanceMethod ⟨"MarginCourtModel", "haircutOf", "(I)I"⟩) ∈ WU := wu_mem (lw_in4 (List.mem_of_getElem? (i := 129) rfl)) rfl
theorem q_905 : (Cond.code ⟨"MarginCourtModel", "haircutOf", "(I)I"⟩ prog_8_method_10_code 6 (some .int)) ∈ WU := wu_mem (lw_in4 (List.mem_of_getElem? (i := 130) rfl)) rfl
theorem q_910 : (Cond.methodLink "MarginCourtModel" 109 ⟨"MarginCourtModel", "isMember", "(I)Z"⟩) ∈ WU := wu_mem (lw_in4 (List.mem_of_getElem? (i := 135) rfl)) rfl
theorem q_911 : (Cond.static ⟨"MarginCourtModel", "isMember", "(I)Z"⟩) ∈ WU := wu_mem (lw_in4 (List.mem_of_getElem? (i := 136) rfl)) rfl
theorem q_912 : (Cond.code ⟨"MarginCourtModel", "isMember", "(I)Z"⟩ prog_8_method_6_code 1 (some .boolean)) ∈ WU := wu_mem (lw_in4 (List.mem_of_getElem? (i := 137) rfl)) rfl
theorem q_913 : (Cond.constant "MarginCourtModel" 112 (-100000 : Int32)) ∈ WU := wu_mem (lw_in4 (List.mem_of_getElem? (i := 138) rfl)) rfl
theorem q_914 : (Cond.constant "MarginCourtModel" 113 (100000 : Int32)) ∈ WU := wu_mem (lw_in4 (List.mem_of_getElem? (i := 139) rfl)) rfl
theorem q_915 : (Cond.methodLink "MarginCourtModel" 114 ⟨"MarginCourtModel", "freeOf", "(I)J"⟩) ∈ WU := wu_mem (lw_in4 (List.mem_of_getElem? (i := 140) rfl)) rfl
theorem q_917 : (Cond.instanceMethod ⟨"MarginCourtModel", "freeOf", "(I)J"⟩) ∈ WU := wu_mem (lw_in4 (List.mem_of_getElem? (i := 142) rfl)) rfl
theorem q_918 : (Cond.code ⟨"MarginCourtModel", "freeOf", "(I)J"⟩ prog_8_method_17_code 2 (some .long)) ∈ WU := wu_mem (lw_in4 (List.mem_of_getElem? (i := 143) rfl)) rfl
theorem q_919 : (Cond.methodLink "MarginCourtModel" 99 ⟨"MarginCourtModel", "equityOf", "(I)J"⟩) ∈ WU := wu_mem (lw_in4 (List.mem_of_getElem? (i := 144) rfl)) rfl
theorem q_921 : (Cond.instanceMethod ⟨"MarginCourtModel", "equityOf", "(I)J"⟩) ∈ WU := wu_mem (lw_in4 (List.mem_of_getElem? (i := 146) rfl)) rfl
theorem q_922 : (Cond.code ⟨"MarginCourtModel", "equityOf", "(I)J"⟩ prog_8_method_13_code 5 (some .long)) ∈ WU := wu_mem (lw_in4 (List.mem_of_getElem? (i := 147) rfl)) rfl
theorem q_923 : (Cond.methodLink "MarginCourtModel" 86 ⟨"MarginCourtModel", "worth", "(II)J"⟩) ∈ WU := wu_mem (lw_in4 (List.mem_of_getElem? (i := 148) rfl)) rfl
theorem q_925 : (Cond.instanceMethod ⟨"MarginCourtModel", "worth", "(II)J"⟩) ∈ WU := wu_mem (lw_in4 (List.mem_of_getElem? (i := 150) rfl)) rfl
theorem q_926 : (Cond.code ⟨"MarginCourtModel", "worth", "(II)J"⟩ prog_8_method_12_code 3 (some .long)) ∈ WU := wu_mem (lw_in4 (List.mem_of_getElem? (i := 151) rfl)) rfl
theorem q_927 : (Cond.methodLink "MarginCourtModel" 103 ⟨"MarginCourtModel", "collateralOf", "(I)J"⟩) ∈ WU := wu_mem (lw_in4 (List.mem_of_getElem? (i := 152) rfl)) rfl
theorem q_929 : (Cond.instanceMethod ⟨"MarginCourtModel", "collateralOf", "(I)J"⟩) ∈ WU := wu_mem (lw_in4 (List.mem_of_getElem? (i := 154) rfl)) rfl
theorem q_930 : (Cond.code ⟨"MarginCourtModel", "collateralOf", "(I)J"⟩ prog_8_method_16_code 5 (some .long)) ∈ WU := wu_mem (lw_in4 (List.mem_of_getElem? (i := 155) rfl)) rfl
theorem q_931 : (Cond.constantLong "MarginCourtModel" 97 (100 : Int64)) ∈ WU := wu_mem (lw_in4 (List.mem_of_getElem? (i := 156) rfl)) rfl
theorem q_932 : (Cond.methodLink "MarginCourtModel" 106 ⟨"MarginCourtModel", "marginOf", "(I)I"⟩) ∈ WU := wu_mem (lw_in4 (List.mem_of_getElem? (i := 157) rfl)) rfl
theorem q_934 : (Cond.instanceMethod ⟨"MarginCourtModel", "marginOf", "(I)I"⟩) ∈ WU := wu_mem (lw_in4 (List.mem_of_getElem? (i := 159) rfl)) rfl
theorem q_935 : (Cond.code ⟨"MarginCourtModel", "marginOf", "(I)I"⟩ prog_8_method_15_code 9 (some .int)) ∈ WU := wu_mem (lw_in4 (List.mem_of_getElem? (i := 160) rfl)) rfl
theorem q_936 : (Cond.methodLink "MarginCourtModel" 93 ⟨"MarginCourtModel", "resting", "(IIZ)I"⟩) ∈ WU := wu_mem (lw_in4 (List.mem_of_getElem? (i := 161) rfl)) rfl
theorem q_938 : (Cond.instanceMethod ⟨"MarginCourtModel", "resting", "(IIZ)I"⟩) ∈ WU := wu_mem (lw_in4 (List.mem_of_getElem? (i := 163) rfl)) rfl
theorem q_939 : (Cond.code ⟨"MarginCourtModel", "resting", "(IIZ)I"⟩ prog_8_method_14_code 6 (some .int)) ∈ WU := wu_mem (lw_in4 (List.mem_of_getElem? (i := 164) rfl)) rfl
theorem q_940 : (Cond.methodLink "MarginCourtModel" 117 ⟨"MarginCourtModel", "fails", "(I)I"⟩) ∈ WU := wu_mem (lw_in4 (List.mem_of_getElem? (i := 165) rfl)) rfl
theorem q_942 : (Cond.instanceMethod ⟨"MarginCourtModel", "fails", "(I)I"⟩) ∈ WU := wu_mem (lw_in4 (List.mem_of_getElem? (i := 167) rfl)) rfl
theorem q_943 : (Cond.code ⟨"MarginCourtModel", "fails", "(I)I"⟩ prog_8_method_3_code 2 (some .int)) ∈ WU := wu_mem (lw_in4 (List.mem_of_getElem? (i := 168) rfl)) rfl
theorem q_956 : (Cond.methodLink "MarginCourtModel" 131 ⟨"MarginCourtModel", "matches", "(I)V"⟩) ∈ WU := wu_mem (lw_in4 (List.mem_of_getElem? (i := 181) rfl)) rfl
theorem q_958 : (Cond.instanceMethod ⟨"MarginCourtModel", "matches", "(I)V"⟩) ∈ WU := wu_mem (lw_in4 (List.mem_of_getElem? (i := 183) rfl)) rfl
theorem q_959 : (Cond.code ⟨"MarginCourtModel", "matches", "(I)V"⟩ prog_8_method_23_code 6 none) ∈ WU := wu_mem (lw_in4 (List.mem_of_getElem? (i := 184) rfl)) rfl
theorem q_960 : (Cond.methodLink "MarginCourtModel" 123 ⟨"MarginCourtModel", "bestOf", "(IZ)I"⟩) ∈ WU := wu_mem (lw_in4 (List.mem_of_getElem? (i := 185) rfl)) rfl
theorem q_962 : (Cond.instanceMethod ⟨"MarginCourtModel", "bestOf", "(IZ)I"⟩) ∈ WU := wu_mem (lw_in4 (List.mem_of_getElem? (i := 187) rfl)) rfl
theorem q_963 : (Cond.code ⟨"MarginCourtModel", "bestOf", "(IZ)I"⟩ prog_8_method_21_code 6 (some .int)) ∈ WU := wu_mem (lw_in4 (List.mem_of_getElem? (i := 188) rfl)) rfl
theorem q_964 : (Cond.methodLink "MarginCourtModel" 127 ⟨"MarginCourtModel", "trade", "(IIIII)V"⟩) ∈ WU := wu_mem (lw_in4 (List.mem_of_getElem? (i := 189) rfl)) rfl
theorem q_966 : (Cond.instanceMethod ⟨"MarginCourtModel", "trade", "(IIIII)V"⟩) ∈ WU := wu_mem (lw_in4 (List.mem_of_getElem? (i := 191) rfl)) rfl
theorem q_967 : (Cond.code ⟨"MarginCourtModel", "trade", "(IIIII)V"⟩ prog_8_method_22_code 6 none) ∈ WU := wu_mem (lw_in4 (List.mem_of_getElem? (i := 192) rfl)) rfl
theorem q_972 : (Cond.methodLink "MarginCourtModel" 135 ⟨"MarginCourtModel", "isOrder", "(I)Z"⟩) ∈ WU := wu_mem (lw_in4 (List.mem_of_getElem? (i := 197) rfl)) rfl
theorem q_974 : (Cond.instanceMethod ⟨"MarginCourtModel", "isOrder", "(I)Z"⟩) ∈ WU := wu_mem (lw_in4 (List.mem_of_getElem? (i := 199) rfl)) rfl
theorem q_975 : (Cond.code ⟨"MarginCourtModel", "isOrder", "(I)Z"⟩ prog_8_method_25_code 2 (some .boolean)) ∈ WU := wu_mem (lw_in4 (List.mem_of_getElem? (i := 200) rfl)) rfl
theorem q_996 : (Cond.methodLink "MarginCourtModel" 164 ⟨"MarginCourtModel", "closesOut", "(I)Z"⟩) ∈ WU := wu_mem (lw_in4 (List.mem_of_getElem? (i := 221) rfl)) rfl
theorem q_998 : (Cond.instanceMethod ⟨"MarginCourtModel", "closesOut", "(I)Z"⟩) ∈ WU := wu_mem (lw_in4 (List.mem_of_getElem? (i := 223) rfl)) rfl
theorem q_999 : (Cond.code ⟨"MarginCourtModel", "closesOut", "(I)Z"⟩ prog_8_method_34_code 3 (some .boolean)) ∈ WU := wu_mem (lw_in4 (List.mem_of_getElem? (i := 224) rfl)) rfl
theorem q_1000 : (Cond.methodLink "MarginCourtModel" 138 ⟨"MarginCourtModel", "riskOf", "(II)I"⟩) ∈ WU := wu_mem (lw_in4 (List.mem_of_getElem? (i := 225) rfl)) rfl
theorem q_1002 : (Cond.instanceMethod ⟨"MarginCourtModel", "riskOf", "(II)I"⟩) ∈ WU := wu_mem (lw_in4 (List.mem_of_getElem? (i := 227) rfl)) rfl
theorem q_1003 : (Cond.code ⟨"MarginCourtModel", "riskOf", "(II)I"⟩ prog_8_method_31_code 6 (some .int)) ∈ WU := wu_mem (lw_in4 (List.mem_of_getElem? (i := 228) rfl)) rfl
theorem q_1004 : (Cond.methodLink "MarginCourtModel" 142 ⟨"MarginCourtModel", "nextOpen", "()I"⟩) ∈ WU := wu_mem (lw_in4 (List.mem_of_getElem? (i := 229) rfl)) rfl
theorem q_1006 : (Cond.instanceMethod ⟨"MarginCourtModel", "nextOpen", "()I"⟩) ∈ WU := wu_mem (lw_in4 (List.mem_of_getElem? (i := 231) rfl)) rfl
theorem q_1007 : (Cond.code ⟨"MarginCourtModel", "nextOpen", "()I"⟩ prog_8_method_33_code 3 (some .int)) ∈ WU := wu_mem (lw_in4 (List.mem_of_getElem? (i := 232) rfl)) rfl
theorem q_1008 : (Cond.methodLink "MarginCourtModel" 146 ⟨"MarginCourtModel", "closes", "(II)V"⟩) ∈ WU := wu_mem (lw_in4 (List.mem_of_getElem? (i := 233) rfl)) rfl
theorem q_1010 : (Cond.instanceMethod ⟨"MarginCourtModel", "closes", "(II)V"⟩) ∈ WU := wu_mem (lw_in4 (List.mem_of_getElem? (i := 235) rfl)) rfl
theorem q_1011 : (Cond.code ⟨"MarginCourtModel", "closes", "(II)V"⟩ prog_8_method_32_code 7 none) ∈ WU := wu_mem (lw_in4 (List.mem_of_getElem? (i := 236) rfl)) rfl
theorem q_1012 : (Cond.methodLink "MarginCourtModel" 167 ⟨"MarginCourtModel", "breaks", "(I)V"⟩) ∈ WU := wu_mem (lw_in4 (List.mem_of_getElem? (i := 237) rfl)) rfl
theorem q_1014 : (Cond.instanceMethod ⟨"MarginCourtModel", "breaks", "(I)V"⟩) ∈ WU := wu_mem (lw_in4 (List.mem_of_getElem? (i := 239) rfl)) rfl
theorem q_1015 : (Cond.code ⟨"MarginCourtModel", "breaks", "(I)V"⟩ prog_8_method_36_code 5 none) ∈ WU := wu_mem (lw_in5 (List.mem_of_getElem? (i := 0) rfl)) rfl
theorem q_1016 : (Cond.methodLink "MarginCourtModel" 150 ⟨"MarginCourtModel", "richest", "(I)I"⟩) ∈ WU := wu_mem (lw_in5 (List.mem_of_getElem? (i := 1) rfl)) rfl
theorem q_1018 : (Cond.instanceMethod ⟨"MarginCourtModel", "richest", "(I)I"⟩) ∈ WU := wu_mem (lw_in5 (List.mem_of_getElem? (i := 3) rfl)) rfl
theorem q_1019 : (Cond.code ⟨"MarginCourtModel", "richest", "(I)I"⟩ prog_8_method_35_code 5 (some .int)) ∈ WU := wu_mem (lw_in5 (List.mem_of_getElem? (i := 4) rfl)) rfl
theorem q_1020 : (Cond.methodLink "MarginCourtModel" 153 ⟨"MarginCourtModel", "nets", "(I)J"⟩) ∈ WU := wu_mem (lw_in5 (List.mem_of_getElem? (i := 5) rfl)) rfl
theorem q_1022 : (Cond.instanceMethod ⟨"MarginCourtModel", "nets", "(I)J"⟩) ∈ WU := wu_mem (lw_in5 (List.mem_of_getElem? (i := 7) rfl)) rfl
theorem q_1023 : (Cond.code ⟨"MarginCourtModel", "nets", "(I)J"⟩ prog_8_method_37_code 5 (some .long)) ∈ WU := wu_mem (lw_in5 (List.mem_of_getElem? (i := 8) rfl)) rfl
theorem q_1024 : (Cond.methodLink "MarginCourtModel" 156 ⟨"MarginCourtModel", "covers", "(IJ)V"⟩) ∈ WU := wu_mem (lw_in5 (List.mem_of_getElem? (i := 9) rfl)) rfl
theorem q_1026 : (Cond.instanceMethod ⟨"MarginCourtModel", "covers", "(IJ)V"⟩) ∈ WU := wu_mem (lw_in5 (List.mem_of_getElem? (i := 11) rfl)) rfl
theorem q_1027 : (Cond.code ⟨"MarginCourtModel", "covers", "(IJ)V"⟩ prog_8_method_38_code 16 none) ∈ WU := wu_mem (lw_in5 (List.mem_of_getElem? (i := 12) rfl)) rfl
theorem q_1089 : (Cond.castable "MarginCourt$Order" "java/lang/Object") ∈ NWL := nwl_mem (lw_in5 (List.mem_of_getElem? (i := 74) rfl)) rfl
theorem q_1090 : (Cond.castable "MarginCourt$Trade" "java/lang/Object") ∈ NWL := nwl_mem (lw_in5 (List.mem_of_getElem? (i := 75) rfl)) rfl
theorem q_1095 : (Cond.selects "[Ljava/lang/Object;" ⟨"java/lang/Object", "getClass", "()Ljava/lang/Class;"⟩ ⟨"java/lang/Object", "getClass", "()Ljava/lang/Class;"⟩) ∈ WU := wu_mem (lw_in5 (List.mem_of_getElem? (i := 80) rfl)) rfl
theorem q_1096 : (Cond.declares ⟨"java/lang/Object", "getClass", "()Ljava/lang/Class;"⟩) ∈ NWL := nwl_mem (lw_in5 (List.mem_of_getElem? (i := 81) rfl)) rfl
theorem iuJx4a65c : ∀ w ∈ u_ws RJx4a65c TJx4a65c 3, w ∈ WU := by
  intro w hw
  obtain ⟨k, hk, rfl⟩ := List.mem_map.mp hw
  have hk := List.mem_range.mp hk
  match k, hk with
  | 0, _ => exact wu_mem (lw_in1 (List.mem_of_getElem? (i := 61) rfl)) rfl
  | 1, _ => exact wu_mem (lw_in1 (List.mem_of_getElem? (i := 57) rfl)) rfl
  | 2, _ => exact wu_mem (lw_in1 (List.mem_of_getElem? (i := 59) rfl)) rfl
  | k + 3, hk => exact absurd hk (by omega)
theorem iuX0 : ∀ w ∈ u_ws RX0 TX0 8, w ∈ WU := by
  intro w hw
  obtain ⟨k, hk, rfl⟩ := List.mem_map.mp hw
  have hk := List.mem_range.mp hk
  match k, hk with
  | 0, _ => exact wu_mem (lw_in1 (List.mem_of_getElem? (i := 81) rfl)) rfl
  | 1, _ => exact wu_mem (lw_in1 (List.mem_of_getElem? (i := 83) rfl)) rfl
  | 2, _ => exact wu_mem (lw_in1 (List.mem_of_getElem? (i := 85) rfl)) rfl
  | 3, _ => exact wu_mem (lw_in1 (List.mem_of_getElem? (i := 87) rfl)) rfl
  | 4, _ => exact wu_mem (lw_in1 (List.mem_of_getElem? (i := 89) rfl)) rfl
  | 5, _ => exact wu_mem (lw_in1 (List.mem_of_getElem? (i := 91) rfl)) rfl
  | 6, _ => exact wu_mem (lw_in1 (List.mem_of_getElem? (i := 93) rfl)) rfl
  | 7, _ => exact wu_mem (lw_in1 (List.mem_of_getElem? (i := 95) rfl)) rfl
  | k + 8, hk => exact absurd hk (by omega)
theorem iuX1 : ∀ w ∈ u_ws RX1 TX1 2, w ∈ WU := by
  intro w hw
  obtain ⟨k, hk, rfl⟩ := List.mem_map.mp hw
  have hk := List.mem_range.mp hk
  match k, hk with
  | 0, _ => exact wu_mem (lw_in1 (List.mem_of_getElem? (i := 126) rfl)) rfl
  | 1, _ => exact wu_mem (lw_in1 (List.mem_of_getElem? (i := 128) rfl)) rfl
  | k + 2, hk => exact absurd hk (by omega)
theorem iuX2 : ∀ w ∈ u_ws RX2 TX2 6, w ∈ WU := by
  intro w hw
  obtain ⟨k, hk, rfl⟩ := List.mem_map.mp hw
  have hk := List.mem_range.mp hk
  match k, hk with
  | 0, _ => exact wu_mem (lw_in3 (List.mem_of_getElem? (i := 98) rfl)) rfl
  | 1, _ => exact wu_mem (lw_in3 (List.mem_of_getElem? (i := 100) rfl)) rfl
  | 2, _ => exact wu_mem (lw_in3 (List.mem_of_getElem? (i := 102) rfl)) rfl
  | 3, _ => exact wu_mem (lw_in3 (List.mem_of_getElem? (i := 104) rfl)) rfl
  | 4, _ => exact wu_mem (lw_in3 (List.mem_of_getElem? (i := 106) rfl)) rfl
  | 5, _ => exact wu_mem (lw_in3 (List.mem_of_getElem? (i := 108) rfl)) rfl
  | k + 6, hk => exact absurd hk (by omega)
theorem iuX3 : ∀ w ∈ u_ws RX3 TX3 3, w ∈ WU := by
  intro w hw
  obtain ⟨k, hk, rfl⟩ := List.mem_map.mp hw
  have hk := List.mem_range.mp hk
  match k, hk with
  | 0, _ => exact wu_mem (lw_in1 (List.mem_of_getElem? (i := 110) rfl)) rfl
  | 1, _ => exact wu_mem (lw_in1 (List.mem_of_getElem? (i := 112) rfl)) rfl
  | 2, _ => exact wu_mem (lw_in1 (List.mem_of_getElem? (i := 114) rfl)) rfl
  | k + 3, hk => exact absurd hk (by omega)
theorem iuX4 : ∀ w ∈ u_ws RX4 TX4 5, w ∈ WU := by
  intro w hw
  obtain ⟨k, hk, rfl⟩ := List.mem_map.mp hw
  have hk := List.mem_range.mp hk
  match k, hk with
  | 0, _ => exact wu_mem (lw_in2 (List.mem_of_getElem? (i := 43) rfl)) rfl
  | 1, _ => exact wu_mem (lw_in2 (List.mem_of_getElem? (i := 45) rfl)) rfl
  | 2, _ => exact wu_mem (lw_in2 (List.mem_of_getElem? (i := 47) rfl)) rfl
  | 3, _ => exact wu_mem (lw_in2 (List.mem_of_getElem? (i := 49) rfl)) rfl
  | 4, _ => exact wu_mem (lw_in2 (List.mem_of_getElem? (i := 51) rfl)) rfl
  | k + 5, hk => exact absurd hk (by omega)
theorem iuX5 : ∀ w ∈ u_ws RX5 TX5 8, w ∈ WU := by
  intro w hw
  obtain ⟨k, hk, rfl⟩ := List.mem_map.mp hw
  have hk := List.mem_range.mp hk
  match k, hk with
  | 0, _ => exact wu_mem (lw_in1 (List.mem_of_getElem? (i := 139) rfl)) rfl
  | 1, _ => exact wu_mem (lw_in1 (List.mem_of_getElem? (i := 141) rfl)) rfl
  | 2, _ => exact wu_mem (lw_in1 (List.mem_of_getElem? (i := 143) rfl)) rfl
  | 3, _ => exact wu_mem (lw_in1 (List.mem_of_getElem? (i := 145) rfl)) rfl
  | 4, _ => exact wu_mem (lw_in1 (List.mem_of_getElem? (i := 147) rfl)) rfl
  | 5, _ => exact wu_mem (lw_in1 (List.mem_of_getElem? (i := 149) rfl)) rfl
  | 6, _ => exact wu_mem (lw_in1 (List.mem_of_getElem? (i := 151) rfl)) rfl
  | 7, _ => exact wu_mem (lw_in1 (List.mem_of_getElem? (i := 153) rfl)) rfl
  | k + 8, hk => exact absurd hk (by omega)
theorem iuX6 : ∀ w ∈ u_ws RX6 TX6 22, w ∈ WU := by
  intro w hw
  obtain ⟨k, hk, rfl⟩ := List.mem_map.mp hw
  have hk := List.mem_range.mp hk
  match k, hk with
  | 0, _ => exact wu_mem (lw_in4 (List.mem_of_getElem? (i := 55) rfl)) rfl
  | 1, _ => exact wu_mem (lw_in4 (List.mem_of_getElem? (i := 57) rfl)) rfl
  | 2, _ => exact wu_mem (lw_in4 (List.mem_of_getElem? (i := 59) rfl)) rfl
  | 3, _ => exact wu_mem (lw_in4 (List.mem_of_getElem? (i := 61) rfl)) rfl
  | 4, _ => exact wu_mem (lw_in4 (List.mem_of_getElem? (i := 63) rfl)) rfl
  | 5, _ => exact wu_mem (lw_in4 (List.mem_of_getElem? (i := 65) rfl)) rfl
  | 6, _ => exact wu_mem (lw_in4 (List.mem_of_getElem? (i := 67) rfl)) rfl
  | 7, _ => exact wu_mem (lw_in4 (List.mem_of_getElem? (i := 69) rfl)) rfl
  | 8, _ => exact wu_mem (lw_in4 (List.mem_of_getElem? (i := 71) rfl)) rfl
  | 9, _ => exact wu_mem (lw_in4 (List.mem_of_getElem? (i := 73) rfl)) rfl
  | 10, _ => exact wu_mem (lw_in4 (List.mem_of_getElem? (i := 75) rfl)) rfl
  | 11, _ => exact wu_mem (lw_in4 (List.mem_of_getElem? (i := 77) rfl)) rfl
  | 12, _ => exact wu_mem (lw_in4 (List.mem_of_getElem? (i := 79) rfl)) rfl
  | 13, _ => exact wu_mem (lw_in4 (List.mem_of_getElem? (i := 81) rfl)) rfl
  | 14, _ => exact wu_mem (lw_in4 (List.mem_of_getElem? (i := 83) rfl)) rfl
  | 15, _ => exact wu_mem (lw_in4 (List.mem_of_getElem? (i := 85) rfl)) rfl
  | 16, _ => exact wu_mem (lw_in4 (List.mem_of_getElem? (i := 87) rfl)) rfl
  | 17, _ => exact wu_mem (lw_in4 (List.mem_of_getElem? (i := 89) rfl)) rfl
  | 18, _ => exact wu_mem (lw_in4 (List.mem_of_getElem? (i := 91) rfl)) rfl
  | 19, _ => exact wu_mem (lw_in4 (List.mem_of_getElem? (i := 93) rfl)) rfl
  | 20, _ => exact wu_mem (lw_in4 (List.mem_of_getElem? (i := 95) rfl)) rfl
  | 21, _ => exact wu_mem (lw_in4 (List.mem_of_getElem? (i := 97) rfl)) rfl
  | k + 22, hk => exact absurd hk (by omega)
theorem gJ15_105 : GoodIn WU (va_wsS RJ15 105 yJ3_checkIndex_8e157 (WSy yJ3_checkIndex_8e157 cJ3_checkIndex_8e157 3 (some .int))) := gS_of q_263 q_264 q_71 q_265
theorem gJx4a65c_118 : GoodIn WU (va_wsS RJx4a65c 118 yJ15_checkIndex_7cf53 (WSy yJ15_checkIndex_7cf53 cJ15_checkIndex_7cf53 2 (some .int))) := gS_of q_260 q_261 q_70 q_262
theorem gJx4a65c_123 : GoodIn WU (wsV RJx4a65c 123 RJx4a65c yJx4a65c_elementData_915e3 (WSy yJx4a65c_elementData_915e3 cJx4a65c_elementData_915e3 2 (some (.object "java/lang/Object")))) := gV_of q_266 q_267 q_268 q_59 q_269
theorem gL_15 : GoodIn WU (wsV RL 15 RX5 yX5_setMove (WSy yX5_setMove cX5_setMove 5 (some .int))) := gV_of q_543 q_544 q_545 q_56 q_546
theorem gL_19 : GoodIn WU (wsV RL 19 RX5 yX5_tellKind (WSy yX5_tellKind cX5_tellKind 5 (some .int))) := gV_of q_550 q_551 q_552 q_56 q_553
theorem gL_22 : GoodIn WU (wsV RL 22 RX5 yX5_pay (WSy yX5_pay cX5_pay 4 (some .int))) := gV_of q_568 q_569 q_570 q_56 q_571
theorem gL_27 : GoodIn WU (wsV RL 27 RX5 yX5_bring (WSy yX5_bring cX5_bring 7 (some .int))) := gV_of q_598 q_599 q_600 q_56 q_601
theorem gL_30 : GoodIn WU (wsV RL 30 RX5 yX5_contribute (WSy yX5_contribute cX5_contribute 4 (some .int))) := gV_of q_605 q_606 q_607 q_56 q_608
theorem gL_33 : GoodIn WU (wsV RL 33 RX5 yX5_place (WSy yX5_place cX5_place 8 (some .int))) := gV_of q_612 q_613 q_614 q_56 q_615
theorem gL_37 : GoodIn WU (wsV RL 37 RX5 yX5_cancel (WSy yX5_cancel cX5_cancel 4 (some .int))) := gV_of q_657 q_658 q_659 q_56 q_660
theorem gL_43 : GoodIn WU (wsV RL 43 RX5 yX5_halt (WSy yX5_halt cX5_halt 3 (some .int))) := gV_of q_683 q_684 q_685 q_56 q_686
theorem gL_47 : GoodIn WU (wsV RL 47 RX5 yX5_left (WSy yX5_left cX5_left 2 (some .int))) := gV_of q_694 q_695 q_696 q_56 q_697
theorem gL_50 : GoodIn WU (wsV RL 50 RX5 yX5_best (WSy yX5_best cX5_best 4 (some .int))) := gV_of q_702 q_703 q_704 q_56 q_705
theorem gL_55 : GoodIn WU (wsV RL 55 RX5 yX5_called (WSy yX5_called cX5_called 2 (some .int))) := gV_of q_724 q_725 q_726 q_56 q_727
theorem gL_58 : GoodIn WU (wsV RL 58 RX5 yX5_hasFailed (WSy yX5_hasFailed cX5_hasFailed 2 (some .boolean))) := gV_of q_731 q_732 q_733 q_56 q_734
theorem gL_62 : GoodIn WU (wsV RL 62 RX5 yX5_position (WSy yX5_position cX5_position 3 (some .int))) := gV_of q_738 q_739 q_740 q_56 q_741
theorem gL_65 : GoodIn WU (wsV RL 65 RX5 yX5_cash (WSy yX5_cash cX5_cash 2 (some .int))) := gV_of q_745 q_746 q_747 q_56 q_748
theorem gL_68 : GoodIn WU (wsV RL 68 RX5 yX5_equity (WSy yX5_equity cX5_equity 2 (some .int))) := gV_of q_752 q_753 q_754 q_56 q_755
theorem gL_7 : GoodIn WU (wsV RL 7 RX5 yX5_tell (WSy yX5_tell cX5_tell 4 (some .int))) := gV_of q_466 q_467 q_468 q_56 q_469
theorem gL_71 : GoodIn WU (wsV RL 71 RX5 yX5_equityByTrades (WSy yX5_equityByTrades cX5_equityByTrades 5 (some .int))) := gV_of q_759 q_760 q_761 q_56 q_762
theorem gL_74 : GoodIn WU (wsV RL 74 RX5 yX5_margin (WSy yX5_margin cX5_margin 2 (some .int))) := gV_of q_770 q_771 q_772 q_56 q_773
theorem gL_77 : GoodIn WU (wsV RL 77 RX5 yX5_haircut (WSy yX5_haircut cX5_haircut 2 (some .int))) := gV_of q_777 q_778 q_779 q_56 q_780
theorem gL_80 : GoodIn WU (wsV RL 80 RX5 yX5_collateral (WSy yX5_collateral cX5_collateral 2 (some .int))) := gV_of q_784 q_785 q_786 q_56 q_787
theorem gL_83 : GoodIn WU (wsV RL 83 RX5 yX5_free (WSy yX5_free cX5_free 2 (some .int))) := gV_of q_791 q_792 q_793 q_56 q_794
theorem gL_86 : GoodIn WU (wsV RL 86 RX5 yX5_share (WSy yX5_share cX5_share 2 (some .int))) := gV_of q_798 q_799 q_800 q_56 q_801
theorem gX5_101 : GoodIn WU (wsV RX5 101 RX5 yX5_worthOf (WSy yX5_worthOf cX5_worthOf 4 (some .long))) := gV_of q_239 q_241 q_5 q_56 q_242
theorem gX5_117 : GoodIn WU (WSy yX2_init cX2_init 7 none) := gN_of q_619
theorem gX5_124 : GoodIn WU (wsV RX5 124 RX5 yX5_match (WSy yX5_match cX5_match 5 none)) := gV_of q_646 q_648 q_30 q_56 q_649
theorem gX5_128 : GoodIn WU (wsV RX5 128 RX5 yX5_demandOrder (WSy yX5_demandOrder cX5_demandOrder 2 none)) := gV_of q_661 q_663 q_31 q_56 q_664
theorem gX5_138 : GoodIn WU (wsV RX5 138 RX5 yX5_cancelOrdersFor (WSy yX5_cancelOrdersFor cX5_cancelOrdersFor 5 (some .int))) := gV_of q_687 q_689 q_32 q_56 q_690
theorem gX5_142 : GoodIn WU (wsV RX5 142 RX5 yX5_bestResting (WSy yX5_bestResting cX5_bestResting 6 (some (.object "MarginCourt$Order")))) := gV_of q_298 q_300 q_14 q_56 q_301
theorem gX5_155 : GoodIn WU (wsV RX5 155 RX5 yX5_countHour (WSy yX5_countHour cX5_countHour 3 (some .int))) := gV_of q_219 q_221 q_0 q_56 q_222
theorem gX5_158 : GoodIn WU (wsV RX5 158 RX5 yX5_closeOut (WSy yX5_closeOut cX5_closeOut 4 none)) := gV_of q_274 q_276 q_8 q_56 q_277
theorem gX5_161 : GoodIn WU (wsV RX5 161 RX5 yX5_fail (WSy yX5_fail cX5_fail 4 none)) := gV_of q_406 q_408 q_20 q_56 q_409
theorem gX5_164 : GoodIn WU (wsV RX5 164 RX5 yX5_netPositions (WSy yX5_netPositions cX5_netPositions 7 (some .long))) := gV_of q_429 q_431 q_25 q_56 q_432
theorem gX5_174 : GoodIn WU (wsV RX5 174 RX5 yX5_equityOf (WSy yX5_equityOf cX5_equityOf 6 (some .long))) := gV_of q_227 q_229 q_2 q_56 q_230
theorem gX5_182 : GoodIn WU (wsV RX5 182 RX5 yX5_gainOf (WSy yX5_gainOf cX5_gainOf 5 (some .long))) := gV_of q_763 q_765 q_33 q_56 q_766
theorem gX5_186 : GoodIn WU (wsV RX5 186 RX5 yX5_marginOf (WSy yX5_marginOf cX5_marginOf 12 (some .long))) := gV_of q_244 q_246 q_6 q_56 q_247
theorem gX5_189 : GoodIn WU (wsV RX5 189 RX5 yX5_collateralOf (WSy yX5_collateralOf cX5_collateralOf 5 (some .long))) := gV_of q_235 q_237 q_4 q_56 q_238
theorem gX5_210 : GoodIn WU (va_wsS RX5 210 yX5_isBetter (WSy yX5_isBetter cX5_isBetter 2 (some .boolean))) := gS_of q_302 q_303 q_56 q_304
theorem gX5_217 : GoodIn WU (va_wsS RX5 217 yX5_meet (WSy yX5_meet cX5_meet 2 (some .boolean))) := gS_of q_650 q_651 q_56 q_652
theorem gX5_229 : GoodIn WU (wsV RX5 229 RX5 yX5_tradeWithResting (WSy yX5_tradeWithResting cX5_tradeWithResting 4 none)) := gV_of q_311 q_313 q_15 q_56 q_314
theorem gX5_233 : GoodIn WU (wsV RX5 233 RX5 yX5_trade (WSy yX5_trade cX5_trade 6 none)) := gV_of q_315 q_317 q_16 q_56 q_318
theorem gX5_237 : GoodIn WU (va_wsS RX5 237 yX5_book (WSy yX5_book cX5_book 4 none)) := gS_of q_319 q_320 q_56 q_321
theorem gX5_241 : GoodIn WU (WSy yX4_init cX4_init 6 none) := gN_of q_326
theorem gX5_246 : GoodIn WU (wsV RX5 246 RX5 yX5_differenceOf (WSy yX5_differenceOf cX5_differenceOf 3 (some .long))) := gV_of q_231 q_233 q_3 q_56 q_234
theorem gX5_266 : GoodIn WU (va_wsS RX5 266 yX5_dividedUp (WSy yX5_dividedUp cX5_dividedUp 2 (some .int))) := gS_of q_561 q_562 q_56 q_563
theorem gX5_269 : GoodIn WU (wsV RX5 269 RX5 yX5_restOf (WSy yX5_restOf cX5_restOf 8 (some .long))) := gV_of q_248 q_250 q_7 q_56 q_251
theorem gX5_276 : GoodIn WU (wsV RX5 276 RX5 yX5_cancelOrdersOf (WSy yX5_cancelOrdersOf cX5_cancelOrdersOf 4 none)) := gV_of q_278 q_280 q_9 q_56 q_281
theorem gX5_279 : GoodIn WU (wsV RX5 279 RX5 yX5_productsByRisk (WSy yX5_productsByRisk cX5_productsByRisk 6 (some (.array .int)))) := gV_of q_282 q_284 q_10 q_56 q_285
theorem gX5_283 : GoodIn WU (wsV RX5 283 RX5 yX5_closePosition (WSy yX5_closePosition cX5_closePosition 6 none)) := gV_of q_294 q_296 q_13 q_56 q_297
theorem gX5_287 : GoodIn WU (wsV RX5 287 RX5 yX5_goesAhead (WSy yX5_goesAhead cX5_goesAhead 8 (some .boolean))) := gV_of q_286 q_288 q_11 q_56 q_289
theorem gX5_291 : GoodIn WU (wsV RX5 291 RX5 yX5_riskOf (WSy yX5_riskOf cX5_riskOf 9 (some .long))) := gV_of q_290 q_292 q_12 q_56 q_293
theorem gX5_297 : GoodIn WU (wsV RX5 297 RX5 yX5_memberWithMostFree (WSy yX5_memberWithMostFree cX5_memberWithMostFree 7 (some .int))) := gV_of q_410 q_412 q_21 q_56 q_413
theorem gX5_300 : GoodIn WU (wsV RX5 300 RX5 yX5_handOver (WSy yX5_handOver cX5_handOver 6 none)) := gV_of q_414 q_416 q_22 q_56 q_417
theorem gX5_303 : GoodIn WU (wsV RX5 303 RX5 yX5_sellCollateral (WSy yX5_sellCollateral cX5_sellCollateral 4 none)) := gV_of q_422 q_424 q_24 q_56 q_425
theorem gX5_306 : GoodIn WU (wsV RX5 306 RX5 yX5_coverLoss (WSy yX5_coverLoss cX5_coverLoss 6 none)) := gV_of q_433 q_435 q_26 q_56 q_436
theorem gX5_310 : GoodIn WU (wsV RX5 310 RX5 yX5_drop (WSy yX5_drop cX5_drop 5 none)) := gV_of q_418 q_420 q_23 q_56 q_421
theorem gX5_314 : GoodIn WU (va_wsS RX5 314 yX5_takeFromShare (WSy yX5_takeFromShare cX5_takeFromShare 5 (some .long))) := gS_of q_437 q_438 q_56 q_439
theorem gX5_318 : GoodIn WU (wsV RX5 318 RX5 yX5_takeFromOthers (WSy yX5_takeFromOthers cX5_takeFromOthers 9 (some .long))) := gV_of q_443 q_445 q_27 q_56 q_446
theorem gX5_324 : GoodIn WU (wsV RX5 324 RX5 yX5_sharesOfOthers (WSy yX5_sharesOfOthers cX5_sharesOfOthers 4 (some .long))) := gV_of q_447 q_449 q_28 q_56 q_450
theorem gX5_328 : GoodIn WU (va_wsS RX5 328 yX5_partOf (WSy yX5_partOf cX5_partOf 6 (some .long))) := gS_of q_451 q_452 q_56 q_453
theorem gX5_44 : GoodIn WU (va_wsS RX5 44 yX5_demandProduct (WSy yX5_demandProduct cX5_demandProduct 1 none)) := gS_of q_470 q_471 q_56 q_472
theorem gX5_48 : GoodIn WU (va_wsS RX5 48 yX5_demandWithin (WSy yX5_demandWithin cX5_demandWithin 3 none)) := gS_of q_473 q_474 q_56 q_475
theorem gX5_60 : GoodIn WU (va_wsS RX5 60 yX5_demandKind (WSy yX5_demandKind cX5_demandKind 1 none)) := gS_of q_554 q_555 q_56 q_556
theorem gX5_66 : GoodIn WU (va_wsS RX5 66 yX5_haircutBy (WSy yX5_haircutBy cX5_haircutBy 5 (some .int))) := gS_of q_557 q_558 q_56 q_559
theorem gX5_73 : GoodIn WU (va_wsS RX5 73 yX5_demandMember (WSy yX5_demandMember cX5_demandMember 1 none)) := gS_of q_572 q_573 q_56 q_574
theorem gX5_82 : GoodIn WU (va_wsS RX5 82 yX5_demandState (WSy yX5_demandState cX5_demandState 1 none)) := gS_of q_577 q_578 q_56 q_579
theorem gX5_86 : GoodIn WU (wsV RX5 86 RX5 yX5_freeOf (WSy yX5_freeOf cX5_freeOf 2 (some .long))) := gV_of q_223 q_225 q_1 q_56 q_226
theorem gX5_90 : GoodIn WU (va_wsS RX5 90 yX5_receiveFromOutside (WSy yX5_receiveFromOutside cX5_receiveFromOutside 3 none)) := gS_of q_426 q_427 q_56 q_428
theorem gX6_103 : GoodIn WU (wsV RX6 103 RX6 yX6_collateralOf (WSy yX6_collateralOf cX6_collateralOf 5 (some .long))) := gV_of q_927 q_929 q_39 q_63 q_930
theorem gX6_106 : GoodIn WU (wsV RX6 106 RX6 yX6_marginOf (WSy yX6_marginOf cX6_marginOf 9 (some .int))) := gV_of q_932 q_934 q_40 q_63 q_935
theorem gX6_109 : GoodIn WU (va_wsS RX6 109 yX6_isMember (WSy yX6_isMember cX6_isMember 1 (some .boolean))) := gS_of q_910 q_911 q_63 q_912
theorem gX6_114 : GoodIn WU (wsV RX6 114 RX6 yX6_freeOf (WSy yX6_freeOf cX6_freeOf 2 (some .long))) := gV_of q_915 q_917 q_36 q_63 q_918
theorem gX6_117 : GoodIn WU (wsV RX6 117 RX6 yX6_fails (WSy yX6_fails cX6_fails 2 (some .int))) := gV_of q_940 q_942 q_42 q_63 q_943
theorem gX6_123 : GoodIn WU (wsV RX6 123 RX6 yX6_bestOf (WSy yX6_bestOf cX6_bestOf 6 (some .int))) := gV_of q_960 q_962 q_44 q_63 q_963
theorem gX6_127 : GoodIn WU (wsV RX6 127 RX6 yX6_trade (WSy yX6_trade cX6_trade 6 none)) := gV_of q_964 q_966 q_45 q_63 q_967
theorem gX6_131 : GoodIn WU (wsV RX6 131 RX6 yX6_matches (WSy yX6_matches cX6_matches 6 none)) := gV_of q_956 q_958 q_43 q_63 q_959
theorem gX6_135 : GoodIn WU (wsV RX6 135 RX6 yX6_isOrder (WSy yX6_isOrder cX6_isOrder 2 (some .boolean))) := gV_of q_972 q_974 q_46 q_63 q_975
theorem gX6_138 : GoodIn WU (wsV RX6 138 RX6 yX6_riskOf (WSy yX6_riskOf cX6_riskOf 6 (some .int))) := gV_of q_1000 q_1002 q_48 q_63 q_1003
theorem gX6_142 : GoodIn WU (wsV RX6 142 RX6 yX6_nextOpen (WSy yX6_nextOpen cX6_nextOpen 3 (some .int))) := gV_of q_1004 q_1006 q_49 q_63 q_1007
theorem gX6_146 : GoodIn WU (wsV RX6 146 RX6 yX6_closes (WSy yX6_closes cX6_closes 7 none)) := gV_of q_1008 q_1010 q_50 q_63 q_1011
theorem gX6_150 : GoodIn WU (wsV RX6 150 RX6 yX6_richest (WSy yX6_richest cX6_richest 5 (some .int))) := gV_of q_1016 q_1018 q_52 q_63 q_1019
theorem gX6_153 : GoodIn WU (wsV RX6 153 RX6 yX6_nets (WSy yX6_nets cX6_nets 5 (some .long))) := gV_of q_1020 q_1022 q_53 q_63 q_1023
theorem gX6_156 : GoodIn WU (wsV RX6 156 RX6 yX6_covers (WSy yX6_covers cX6_covers 16 none)) := gV_of q_1024 q_1026 q_54 q_63 q_1027
theorem gX6_164 : GoodIn WU (wsV RX6 164 RX6 yX6_closesOut (WSy yX6_closesOut cX6_closesOut 3 (some .boolean))) := gV_of q_996 q_998 q_47 q_63 q_999
theorem gX6_167 : GoodIn WU (wsV RX6 167 RX6 yX6_breaks (WSy yX6_breaks cX6_breaks 5 none)) := gV_of q_1012 q_1014 q_51 q_63 q_1015
theorem gX6_70 : GoodIn WU (va_wsS RX6 70 yX6_isProduct (WSy yX6_isProduct cX6_isProduct 1 (some .boolean))) := gS_of q_884 q_885 q_63 q_886
theorem gX6_74 : GoodIn WU (va_wsS RX6 74 yX6_in (WSy yX6_in cX6_in 3 (some .boolean))) := gS_of q_887 q_888 q_63 q_889
theorem gX6_78 : GoodIn WU (wsV RX6 78 RX6 yX6_asks (WSy yX6_asks cX6_asks 2 (some .boolean))) := gV_of q_890 q_892 q_34 q_63 q_893
theorem gX6_82 : GoodIn WU (wsV RX6 82 RX6 yX6_haircutOf (WSy yX6_haircutOf cX6_haircutOf 6 (some .int))) := gV_of q_902 q_904 q_35 q_63 q_905
theorem gX6_86 : GoodIn WU (wsV RX6 86 RX6 yX6_worth (WSy yX6_worth cX6_worth 3 (some .long))) := gV_of q_923 q_925 q_38 q_63 q_926
theorem gX6_93 : GoodIn WU (wsV RX6 93 RX6 yX6_resting (WSy yX6_resting cX6_resting 6 (some .int))) := gV_of q_936 q_938 q_41 q_63 q_939
theorem gX6_99 : GoodIn WU (wsV RX6 99 RX6 yX6_equityOf (WSy yX6_equityOf cX6_equityOf 5 (some .long))) := gV_of q_919 q_921 q_37 q_63 q_922
