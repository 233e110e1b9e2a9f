theorem dX0_init_0 : decode cX0_init 0 = .ok (.aload_n 0, 1) := by decide +kernel
theorem dX0_init_1 : decode cX0_init 1 = .ok (.invokespecial 3, 3) := by decide +kernel
theorem dX0_init_4 : decode cX0_init 4 = .ok (.aload_n 0, 1) := by decide +kernel
theorem dX0_init_5 : decode cX0_init 5 = .ok (.iconst (-1), 1) := by decide +kernel
theorem dX0_init_6 : decode cX0_init 6 = .ok (.putfield 9, 3) := by decide +kernel
theorem dX0_init_9 : decode cX0_init 9 = .ok (.aload_n 0, 1) := by decide +kernel
theorem dX0_init_10 : decode cX0_init 10 = .ok (.iconst 2, 1) := by decide +kernel
theorem dX0_init_11 : decode cX0_init 11 = .ok (.newarray .int, 2) := by decide +kernel
theorem dX0_init_13 : decode cX0_init 13 = .ok (.putfield 15, 3) := by decide +kernel
theorem dX0_init_16 : decode cX0_init 16 = .ok (.aload_n 0, 1) := by decide +kernel
theorem dX0_init_17 : decode cX0_init 17 = .ok (.iconst 3, 1) := by decide +kernel
theorem dX0_init_18 : decode cX0_init 18 = .ok (.newarray .int, 2) := by decide +kernel
theorem dX0_init_20 : decode cX0_init 20 = .ok (.putfield 19, 3) := by decide +kernel
theorem dX0_init_23 : decode cX0_init 23 = .ok (.aload_n 0, 1) := by decide +kernel
theorem dX0_init_24 : decode cX0_init 24 = .ok (.iconst 3, 1) := by decide +kernel
theorem dX0_init_25 : decode cX0_init 25 = .ok (.newarray .long, 2) := by decide +kernel
theorem dX0_init_27 : decode cX0_init 27 = .ok (.putfield 22, 3) := by decide +kernel
theorem dX0_init_30 : decode cX0_init 30 = .ok (.return_, 1) := by decide +kernel
theorem dX1_init_0 : decode cX1_init 0 = .ok (.aload_n 0, 1) := by decide +kernel
theorem dX1_init_1 : decode cX1_init 1 = .ok (.invokespecial 3, 3) := by decide +kernel
theorem dX1_init_4 : decode cX1_init 4 = .ok (.aload_n 0, 1) := by decide +kernel
theorem dX1_init_5 : decode cX1_init 5 = .ok (.iconst 4, 1) := by decide +kernel
theorem dX1_init_6 : decode cX1_init 6 = .ok (.newarray .int, 2) := by decide +kernel
theorem dX1_init_8 : decode cX1_init 8 = .ok (.putfield 9, 3) := by decide +kernel
theorem dX1_init_11 : decode cX1_init 11 = .ok (.aload_n 0, 1) := by decide +kernel
theorem dX1_init_12 : decode cX1_init 12 = .ok (.bipush 10, 2) := by decide +kernel
theorem dX1_init_14 : decode cX1_init 14 = .ok (.putfield 15, 3) := by decide +kernel
theorem dX1_init_17 : decode cX1_init 17 = .ok (.iconst 0, 1) := by decide +kernel
theorem dX1_init_18 : decode cX1_init 18 = .ok (.istore_n 1, 1) := by decide +kernel
theorem dX1_init_19 : decode cX1_init 19 = .ok (.iload_n 1, 1) := by decide +kernel
theorem dX1_init_20 : decode cX1_init 20 = .ok (.iconst 4, 1) := by decide +kernel
theorem dX1_init_21 : decode cX1_init 21 = .ok (.if_icmp .ge 17, 3) := by decide +kernel
theorem dX1_init_24 : decode cX1_init 24 = .ok (.aload_n 0, 1) := by decide +kernel
theorem dX1_init_25 : decode cX1_init 25 = .ok (.getfield 9, 3) := by decide +kernel
theorem dX1_init_28 : decode cX1_init 28 = .ok (.iload_n 1, 1) := by decide +kernel
theorem dX1_init_29 : decode cX1_init 29 = .ok (.bipush 100, 2) := by decide +kernel
theorem dX1_init_31 : decode cX1_init 31 = .ok (.iastore, 1) := by decide +kernel
theorem dX1_init_32 : decode cX1_init 32 = .ok (.iinc 1 1, 3) := by decide +kernel
theorem dX1_init_35 : decode cX1_init 35 = .ok (.goto (-16), 3) := by decide +kernel
theorem dX1_init_38 : decode cX1_init 38 = .ok (.return_, 1) := by decide +kernel
theorem dX2_init_0 : decode cX2_init 0 = .ok (.aload_n 0, 1) := by decide +kernel
theorem dX2_init_1 : decode cX2_init 1 = .ok (.invokespecial 1, 3) := by decide +kernel
theorem dX2_init_4 : decode cX2_init 4 = .ok (.aload_n 0, 1) := by decide +kernel
theorem dX2_init_5 : decode cX2_init 5 = .ok (.iload_n 1, 1) := by decide +kernel
theorem dX2_init_6 : decode cX2_init 6 = .ok (.putfield 7, 3) := by decide +kernel
theorem dX2_init_9 : decode cX2_init 9 = .ok (.aload_n 0, 1) := by decide +kernel
theorem dX2_init_10 : decode cX2_init 10 = .ok (.iload_n 2, 1) := by decide +kernel
theorem dX2_init_11 : decode cX2_init 11 = .ok (.putfield 13, 3) := by decide +kernel
theorem dX2_init_14 : decode cX2_init 14 = .ok (.aload_n 0, 1) := by decide +kernel
theorem dX2_init_15 : decode cX2_init 15 = .ok (.iload_n 3, 1) := by decide +kernel
theorem dX2_init_16 : decode cX2_init 16 = .ok (.putfield 16, 3) := by decide +kernel
theorem dX2_init_19 : decode cX2_init 19 = .ok (.aload_n 0, 1) := by decide +kernel
theorem dX2_init_20 : decode cX2_init 20 = .ok (.iload 4, 2) := by decide +kernel
theorem dX2_init_22 : decode cX2_init 22 = .ok (.putfield 19, 3) := by decide +kernel
theorem dX2_init_25 : decode cX2_init 25 = .ok (.aload_n 0, 1) := by decide +kernel
theorem dX2_init_26 : decode cX2_init 26 = .ok (.iload 5, 2) := by decide +kernel
theorem dX2_init_28 : decode cX2_init 28 = .ok (.putfield 23, 3) := by decide +kernel
theorem dX2_init_31 : decode cX2_init 31 = .ok (.aload_n 0, 1) := by decide +kernel
theorem dX2_init_32 : decode cX2_init 32 = .ok (.iload 6, 2) := by decide +kernel
theorem dX2_init_34 : decode cX2_init 34 = .ok (.putfield 26, 3) := by decide +kernel
theorem dX2_init_37 : decode cX2_init 37 = .ok (.return_, 1) := by decide +kernel
theorem dX3_init_0 : decode cX3_init 0 = .ok (.aload_n 0, 1) := by decide +kernel
theorem dX3_init_1 : decode cX3_init 1 = .ok (.invokespecial 3, 3) := by decide +kernel
theorem dX3_init_4 : decode cX3_init 4 = .ok (.aload_n 0, 1) := by decide +kernel
theorem dX3_init_5 : decode cX3_init 5 = .ok (.bipush 100, 2) := by decide +kernel
theorem dX3_init_7 : decode cX3_init 7 = .ok (.putfield 9, 3) := by decide +kernel
theorem dX3_init_10 : decode cX3_init 10 = .ok (.aload_n 0, 1) := by decide +kernel
theorem dX3_init_11 : decode cX3_init 11 = .ok (.iconst 4, 1) := by decide +kernel
theorem dX3_init_12 : decode cX3_init 12 = .ok (.newarray .int, 2) := by decide +kernel
theorem dX3_init_14 : decode cX3_init 14 = .ok (.putfield 15, 3) := by decide +kernel
theorem dX3_init_17 : decode cX3_init 17 = .ok (.return_, 1) := by decide +kernel
theorem dX4_init_0 : decode cX4_init 0 = .ok (.aload_n 0, 1) := by decide +kernel
theorem dX4_init_1 : decode cX4_init 1 = .ok (.invokespecial 1, 3) := by decide +kernel
theorem dX4_init_4 : decode cX4_init 4 = .ok (.aload_n 0, 1) := by decide +kernel
theorem dX4_init_5 : decode cX4_init 5 = .ok (.iload_n 1, 1) := by decide +kernel
theorem dX4_init_6 : decode cX4_init 6 = .ok (.putfield 7, 3) := by decide +kernel
theorem dX4_init_9 : decode cX4_init 9 = .ok (.aload_n 0, 1) := by decide +kernel
theorem dX4_init_10 : decode cX4_init 10 = .ok (.iload_n 2, 1) := by decide +kernel
theorem dX4_init_11 : decode cX4_init 11 = .ok (.putfield 13, 3) := by decide +kernel
theorem dX4_init_14 : decode cX4_init 14 = .ok (.aload_n 0, 1) := by decide +kernel
theorem dX4_init_15 : decode cX4_init 15 = .ok (.iload_n 3, 1) := by decide +kernel
theorem dX4_init_16 : decode cX4_init 16 = .ok (.putfield 16, 3) := by decide +kernel
theorem dX4_init_19 : decode cX4_init 19 = .ok (.aload_n 0, 1) := by decide +kernel
theorem dX4_init_20 : decode cX4_init 20 = .ok (.iload 4, 2) := by decide +kernel
theorem dX4_init_22 : decode cX4_init 22 = .ok (.putfield 19, 3) := by decide +kernel
theorem dX4_init_25 : decode cX4_init 25 = .ok (.aload_n 0, 1) := by decide +kernel
theorem dX4_init_26 : decode cX4_init 26 = .ok (.iload 5, 2) := by decide +kernel
theorem dX4_init_28 : decode cX4_init 28 = .ok (.putfield 22, 3) := by decide +kernel
theorem dX4_init_31 : decode cX4_init 31 = .ok (.return_, 1) := by decide +kernel
theorem dX5_init_0 : decode cX5_init 0 = .ok (.aload_n 0, 1) := by decide +kernel
theorem dX5_init_1 : decode cX5_init 1 = .ok (.invokespecial 1, 3) := by decide +kernel
theorem dX5_init_4 : decode cX5_init 4 = .ok (.aload_n 0, 1) := by decide +kernel
theorem dX5_init_5 : decode cX5_init 5 = .ok (.iconst 5, 1) := by decide +kernel
theorem dX5_init_6 : decode cX5_init 6 = .ok (.anewarray 9, 3) := by decide +kernel
theorem dX5_init_9 : decode cX5_init 9 = .ok (.putfield 11, 3) := by decide +kernel
theorem dX5_init_12 : decode cX5_init 12 = .ok (.aload_n 0, 1) := by decide +kernel
theorem dX5_init_13 : decode cX5_init 13 = .ok (.iconst 3, 1) := by decide +kernel
theorem dX5_init_14 : decode cX5_init 14 = .ok (.anewarray 15, 3) := by decide +kernel
theorem dX5_init_17 : decode cX5_init 17 = .ok (.putfield 17, 3) := by decide +kernel
theorem dX5_init_20 : decode cX5_init 20 = .ok (.aload_n 0, 1) := by decide +kernel
theorem dX5_init_21 : decode cX5_init 21 = .ok (.iconst 2, 1) := by decide +kernel
theorem dX5_init_22 : decode cX5_init 22 = .ok (.anewarray 21, 3) := by decide +kernel
theorem dX5_init_25 : decode cX5_init 25 = .ok (.putfield 23, 3) := by decide +kernel
theorem dX5_init_28 : decode cX5_init 28 = .ok (.aload_n 0, 1) := by decide +kernel
theorem dX5_init_29 : decode cX5_init 29 = .ok (.new 27, 3) := by decide +kernel
theorem dX5_init_32 : decode cX5_init 32 = .ok (.dup, 1) := by decide +kernel
theorem dX5_init_33 : decode cX5_init 33 = .ok (.invokespecial 29, 3) := by decide +kernel
theorem dX5_init_36 : decode cX5_init 36 = .ok (.putfield 30, 3) := by decide +kernel
theorem dX5_init_39 : decode cX5_init 39 = .ok (.aload_n 0, 1) := by decide +kernel
theorem dX5_init_40 : decode cX5_init 40 = .ok (.new 27, 3) := by decide +kernel
theorem dX5_init_43 : decode cX5_init 43 = .ok (.dup, 1) := by decide +kernel
theorem dX5_init_44 : decode cX5_init 44 = .ok (.invokespecial 29, 3) := by decide +kernel
theorem dX5_init_47 : decode cX5_init 47 = .ok (.putfield 34, 3) := by decide +kernel
theorem dX5_init_50 : decode cX5_init 50 = .ok (.aload_n 0, 1) := by decide +kernel
theorem dX5_init_51 : decode cX5_init 51 = .ok (.iconst 4, 1) := by decide +kernel
theorem dX5_init_52 : decode cX5_init 52 = .ok (.newarray .long, 2) := by decide +kernel
theorem dX5_init_54 : decode cX5_init 54 = .ok (.putfield 37, 3) := by decide +kernel
theorem dX5_init_57 : decode cX5_init 57 = .ok (.iconst 0, 1) := by decide +kernel
theorem dX5_init_58 : decode cX5_init 58 = .ok (.istore_n 1, 1) := by decide +kernel
theorem dX5_init_59 : decode cX5_init 59 = .ok (.iload_n 1, 1) := by decide +kernel
theorem dX5_init_60 : decode cX5_init 60 = .ok (.iconst 5, 1) := by decide +kernel
theorem dX5_init_61 : decode cX5_init 61 = .ok (.if_icmp .ge 22, 3) := by decide +kernel
theorem dX5_init_64 : decode cX5_init 64 = .ok (.aload_n 0, 1) := by decide +kernel
theorem dX5_init_65 : decode cX5_init 65 = .ok (.getfield 11, 3) := by decide +kernel
theorem dX5_init_68 : decode cX5_init 68 = .ok (.iload_n 1, 1) := by decide +kernel
theorem dX5_init_69 : decode cX5_init 69 = .ok (.new 9, 3) := by decide +kernel
theorem dX5_init_72 : decode cX5_init 72 = .ok (.dup, 1) := by decide +kernel
theorem dX5_init_73 : decode cX5_init 73 = .ok (.invokespecial 41, 3) := by decide +kernel
theorem dX5_init_76 : decode cX5_init 76 = .ok (.aastore, 1) := by decide +kernel
theorem dX5_init_77 : decode cX5_init 77 = .ok (.iinc 1 1, 3) := by decide +kernel
theorem dX5_init_80 : decode cX5_init 80 = .ok (.goto (-21), 3) := by decide +kernel
theorem dX5_init_83 : decode cX5_init 83 = .ok (.iconst 0, 1) := by decide +kernel
theorem dX5_init_84 : decode cX5_init 84 = .ok (.istore_n 1, 1) := by decide +kernel
theorem dX5_init_85 : decode cX5_init 85 = .ok (.iload_n 1, 1) := by decide +kernel
theorem dX5_init_86 : decode cX5_init 86 = .ok (.iconst 3, 1) := by decide +kernel
theorem dX5_init_87 : decode cX5_init 87 = .ok (.if_icmp .ge 22, 3) := by decide +kernel
theorem dX5_init_90 : decode cX5_init 90 = .ok (.aload_n 0, 1) := by decide +kernel
theorem dX5_init_91 : decode cX5_init 91 = .ok (.getfield 17, 3) := by decide +kernel
theorem dX5_init_94 : decode cX5_init 94 = .ok (.iload_n 1, 1) := by decide +kernel
theorem dX5_init_95 : decode cX5_init 95 = .ok (.new 15, 3) := by decide +kernel
theorem dX5_init_98 : decode cX5_init 98 = .ok (.dup, 1) := by decide +kernel
theorem dX5_init_99 : decode cX5_init 99 = .ok (.invokespecial 42, 3) := by decide +kernel
theorem dX5_init_102 : decode cX5_init 102 = .ok (.aastore, 1) := by decide +kernel
theorem dX5_init_103 : decode cX5_init 103 = .ok (.iinc 1 1, 3) := by decide +kernel
theorem dX5_init_106 : decode cX5_init 106 = .ok (.goto (-21), 3) := by decide +kernel
theorem dX5_init_109 : decode cX5_init 109 = .ok (.iconst 0, 1) := by decide +kernel
theorem dX5_init_110 : decode cX5_init 110 = .ok (.istore_n 1, 1) := by decide +kernel
theorem dX5_init_111 : decode cX5_init 111 = .ok (.iload_n 1, 1) := by decide +kernel
theorem dX5_init_112 : decode cX5_init 112 = .ok (.iconst 2, 1) := by decide +kernel
theorem dX5_init_113 : decode cX5_init 113 = .ok (.if_icmp .ge 22, 3) := by decide +kernel
theorem dX5_init_116 : decode cX5_init 116 = .ok (.aload_n 0, 1) := by decide +kernel
theorem dX5_init_117 : decode cX5_init 117 = .ok (.getfield 23, 3) := by decide +kernel
theorem dX5_init_120 : decode cX5_init 120 = .ok (.iload_n 1, 1) := by decide +kernel
theorem dX5_init_121 : decode cX5_init 121 = .ok (.new 21, 3) := by decide +kernel
theorem dX5_init_124 : decode cX5_init 124 = .ok (.dup, 1) := by decide +kernel
theorem dX5_init_125 : decode cX5_init 125 = .ok (.invokespecial 43, 3) := by decide +kernel
theorem dX5_init_128 : decode cX5_init 128 = .ok (.aastore, 1) := by decide +kernel
theorem dX5_init_129 : decode cX5_init 129 = .ok (.iinc 1 1, 3) := by decide +kernel
theorem dX5_init_132 : decode cX5_init 132 = .ok (.goto (-21), 3) := by decide +kernel
theorem dX5_init_135 : decode cX5_init 135 = .ok (.return_, 1) := by decide +kernel
theorem dX5_tell_0 : decode cX5_tell 0 = .ok (.iload_n 1, 1) := by decide +kernel
theorem dX5_tell_1 : decode cX5_tell 1 = .ok (.invokestatic 44, 3) := by decide +kernel
theorem dX5_tell_4 : decode cX5_tell 4 = .ok (.iload_n 2, 1) := by decide +kernel
theorem dX5_tell_5 : decode cX5_tell 5 = .ok (.iconst 1, 1) := by decide +kernel
theorem dX5_tell_6 : decode cX5_tell 6 = .ok (.sipush 9999, 3) := by decide +kernel
theorem dX5_tell_9 : decode cX5_tell 9 = .ok (.invokestatic 48, 3) := by decide +kernel
theorem dX5_tell_12 : decode cX5_tell 12 = .ok (.aload_n 0, 1) := by decide +kernel
theorem dX5_tell_13 : decode cX5_tell 13 = .ok (.getfield 17, 3) := by decide +kernel
theorem dX5_tell_16 : decode cX5_tell 16 = .ok (.iload_n 1, 1) := by decide +kernel
theorem dX5_tell_17 : decode cX5_tell 17 = .ok (.aaload, 1) := by decide +kernel
theorem dX5_tell_18 : decode cX5_tell 18 = .ok (.getfield 52, 3) := by decide +kernel
theorem dX5_tell_21 : decode cX5_tell 21 = .ok (.istore_n 3, 1) := by decide +kernel
theorem dX5_tell_22 : decode cX5_tell 22 = .ok (.aload_n 0, 1) := by decide +kernel
theorem dX5_tell_23 : decode cX5_tell 23 = .ok (.getfield 17, 3) := by decide +kernel
theorem dX5_tell_26 : decode cX5_tell 26 = .ok (.iload_n 1, 1) := by decide +kernel
theorem dX5_tell_27 : decode cX5_tell 27 = .ok (.aaload, 1) := by decide +kernel
theorem dX5_tell_28 : decode cX5_tell 28 = .ok (.iload_n 2, 1) := by decide +kernel
theorem dX5_tell_29 : decode cX5_tell 29 = .ok (.putfield 52, 3) := by decide +kernel
theorem dX5_tell_32 : decode cX5_tell 32 = .ok (.iload_n 3, 1) := by decide +kernel
theorem dX5_tell_33 : decode cX5_tell 33 = .ok (.ireturn, 1) := by decide +kernel
theorem dX5_setMove_0 : decode cX5_setMove 0 = .ok (.iload_n 1, 1) := by decide +kernel
theorem dX5_setMove_1 : decode cX5_setMove 1 = .ok (.iconst 0, 1) := by decide +kernel
theorem dX5_setMove_2 : decode cX5_setMove 2 = .ok (.iconst 3, 1) := by decide +kernel
theorem dX5_setMove_3 : decode cX5_setMove 3 = .ok (.invokestatic 48, 3) := by decide +kernel
theorem dX5_setMove_6 : decode cX5_setMove 6 = .ok (.iload_n 2, 1) := by decide +kernel
theorem dX5_setMove_7 : decode cX5_setMove 7 = .ok (.invokestatic 44, 3) := by decide +kernel
theorem dX5_setMove_10 : decode cX5_setMove 10 = .ok (.iload_n 3, 1) := by decide +kernel
theorem dX5_setMove_11 : decode cX5_setMove 11 = .ok (.sipush (-500), 3) := by decide +kernel
theorem dX5_setMove_14 : decode cX5_setMove 14 = .ok (.sipush 500, 3) := by decide +kernel
theorem dX5_setMove_17 : decode cX5_setMove 17 = .ok (.invokestatic 48, 3) := by decide +kernel
theorem dX5_setMove_20 : decode cX5_setMove 20 = .ok (.aload_n 0, 1) := by decide +kernel
theorem dX5_setMove_21 : decode cX5_setMove 21 = .ok (.getfield 17, 3) := by decide +kernel
theorem dX5_setMove_24 : decode cX5_setMove 24 = .ok (.iload_n 2, 1) := by decide +kernel
theorem dX5_setMove_25 : decode cX5_setMove 25 = .ok (.aaload, 1) := by decide +kernel
theorem dX5_setMove_26 : decode cX5_setMove 26 = .ok (.getfield 56, 3) := by decide +kernel
theorem dX5_setMove_29 : decode cX5_setMove 29 = .ok (.iload_n 1, 1) := by decide +kernel
theorem dX5_setMove_30 : decode cX5_setMove 30 = .ok (.iaload, 1) := by decide +kernel
theorem dX5_setMove_31 : decode cX5_setMove 31 = .ok (.istore 4, 2) := by decide +kernel
theorem dX5_setMove_33 : decode cX5_setMove 33 = .ok (.aload_n 0, 1) := by decide +kernel
theorem dX5_setMove_34 : decode cX5_setMove 34 = .ok (.getfield 17, 3) := by decide +kernel
theorem dX5_setMove_37 : decode cX5_setMove 37 = .ok (.iload_n 2, 1) := by decide +kernel
theorem dX5_setMove_38 : decode cX5_setMove 38 = .ok (.aaload, 1) := by decide +kernel
theorem dX5_setMove_39 : decode cX5_setMove 39 = .ok (.getfield 56, 3) := by decide +kernel
theorem dX5_setMove_42 : decode cX5_setMove 42 = .ok (.iload_n 1, 1) := by decide +kernel
theorem dX5_setMove_43 : decode cX5_setMove 43 = .ok (.iload_n 3, 1) := by decide +kernel
theorem dX5_setMove_44 : decode cX5_setMove 44 = .ok (.iastore, 1) := by decide +kernel
theorem dX5_setMove_45 : decode cX5_setMove 45 = .ok (.iload 4, 2) := by decide +kernel
theorem dX5_setMove_47 : decode cX5_setMove 47 = .ok (.ireturn, 1) := by decide +kernel
theorem dX5_tellKind_0 : decode cX5_tellKind 0 = .ok (.iload_n 1, 1) := by decide +kernel
theorem dX5_tellKind_1 : decode cX5_tellKind 1 = .ok (.invokestatic 60, 3) := by decide +kernel
theorem dX5_tellKind_4 : decode cX5_tellKind 4 = .ok (.iload_n 2, 1) := by decide +kernel
theorem dX5_tellKind_5 : decode cX5_tellKind 5 = .ok (.iconst 1, 1) := by decide +kernel
theorem dX5_tellKind_6 : decode cX5_tellKind 6 = .ok (.sipush 9999, 3) := by decide +kernel
theorem dX5_tellKind_9 : decode cX5_tellKind 9 = .ok (.invokestatic 48, 3) := by decide +kernel
theorem dX5_tellKind_12 : decode cX5_tellKind 12 = .ok (.aload_n 0, 1) := by decide +kernel
theorem dX5_tellKind_13 : decode cX5_tellKind 13 = .ok (.getfield 23, 3) := by decide +kernel
theorem dX5_tellKind_16 : decode cX5_tellKind 16 = .ok (.iload_n 1, 1) := by decide +kernel
theorem dX5_tellKind_17 : decode cX5_tellKind 17 = .ok (.aaload, 1) := by decide +kernel
theorem dX5_tellKind_18 : decode cX5_tellKind 18 = .ok (.getfield 63, 3) := by decide +kernel
theorem dX5_tellKind_21 : decode cX5_tellKind 21 = .ok (.astore_n 3, 1) := by decide +kernel
theorem dX5_tellKind_22 : decode cX5_tellKind 22 = .ok (.iconst 1, 1) := by decide +kernel
theorem dX5_tellKind_23 : decode cX5_tellKind 23 = .ok (.istore 4, 2) := by decide +kernel
theorem dX5_tellKind_25 : decode cX5_tellKind 25 = .ok (.iload 4, 2) := by decide +kernel
theorem dX5_tellKind_27 : decode cX5_tellKind 27 = .ok (.iconst 4, 1) := by decide +kernel
theorem dX5_tellKind_28 : decode cX5_tellKind 28 = .ok (.if_icmp .ge 19, 3) := by decide +kernel
theorem dX5_tellKind_31 : decode cX5_tellKind 31 = .ok (.aload_n 3, 1) := by decide +kernel
theorem dX5_tellKind_32 : decode cX5_tellKind 32 = .ok (.iload 4, 2) := by decide +kernel
theorem dX5_tellKind_34 : decode cX5_tellKind 34 = .ok (.iconst 1, 1) := by decide +kernel
theorem dX5_tellKind_35 : decode cX5_tellKind 35 = .ok (.isub, 1) := by decide +kernel
theorem dX5_tellKind_36 : decode cX5_tellKind 36 = .ok (.aload_n 3, 1) := by decide +kernel
theorem dX5_tellKind_37 : decode cX5_tellKind 37 = .ok (.iload 4, 2) := by decide +kernel
theorem dX5_tellKind_39 : decode cX5_tellKind 39 = .ok (.iaload, 1) := by decide +kernel
theorem dX5_tellKind_40 : decode cX5_tellKind 40 = .ok (.iastore, 1) := by decide +kernel
theorem dX5_tellKind_41 : decode cX5_tellKind 41 = .ok (.iinc 4 1, 3) := by decide +kernel
theorem dX5_tellKind_44 : decode cX5_tellKind 44 = .ok (.goto (-19), 3) := by decide +kernel
theorem dX5_tellKind_47 : decode cX5_tellKind 47 = .ok (.aload_n 3, 1) := by decide +kernel
theorem dX5_tellKind_48 : decode cX5_tellKind 48 = .ok (.iconst 3, 1) := by decide +kernel
theorem dX5_tellKind_49 : decode cX5_tellKind 49 = .ok (.iload_n 2, 1) := by decide +kernel
theorem dX5_tellKind_50 : decode cX5_tellKind 50 = .ok (.iastore, 1) := by decide +kernel
theorem dX5_tellKind_51 : decode cX5_tellKind 51 = .ok (.aload_n 0, 1) := by decide +kernel
theorem dX5_tellKind_52 : decode cX5_tellKind 52 = .ok (.getfield 23, 3) := by decide +kernel
theorem dX5_tellKind_55 : decode cX5_tellKind 55 = .ok (.iload_n 1, 1) := by decide +kernel
theorem dX5_tellKind_56 : decode cX5_tellKind 56 = .ok (.aaload, 1) := by decide +kernel
theorem dX5_tellKind_57 : decode cX5_tellKind 57 = .ok (.aload_n 3, 1) := by decide +kernel
theorem dX5_tellKind_58 : decode cX5_tellKind 58 = .ok (.iload_n 2, 1) := by decide +kernel
theorem dX5_tellKind_59 : decode cX5_tellKind 59 = .ok (.invokestatic 66, 3) := by decide +kernel
theorem dX5_tellKind_62 : decode cX5_tellKind 62 = .ok (.putfield 70, 3) := by decide +kernel
theorem dX5_tellKind_65 : decode cX5_tellKind 65 = .ok (.aload_n 0, 1) := by decide +kernel
theorem dX5_tellKind_66 : decode cX5_tellKind 66 = .ok (.getfield 23, 3) := by decide +kernel
theorem dX5_tellKind_69 : decode cX5_tellKind 69 = .ok (.iload_n 1, 1) := by decide +kernel
theorem dX5_tellKind_70 : decode cX5_tellKind 70 = .ok (.aaload, 1) := by decide +kernel
theorem dX5_tellKind_71 : decode cX5_tellKind 71 = .ok (.getfield 70, 3) := by decide +kernel
theorem dX5_tellKind_74 : decode cX5_tellKind 74 = .ok (.ireturn, 1) := by decide +kernel
theorem dX5_pay_0 : decode cX5_pay 0 = .ok (.iload_n 1, 1) := by decide +kernel
theorem dX5_pay_1 : decode cX5_pay 1 = .ok (.invokestatic 73, 3) := by decide +kernel
theorem dX5_pay_4 : decode cX5_pay 4 = .ok (.iload_n 2, 1) := by decide +kernel
theorem dX5_pay_5 : decode cX5_pay 5 = .ok (.ldc 76, 2) := by decide +kernel
theorem dX5_pay_7 : decode cX5_pay 7 = .ok (.ldc 77, 2) := by decide +kernel
theorem dX5_pay_9 : decode cX5_pay 9 = .ok (.invokestatic 48, 3) := by decide +kernel
theorem dX5_pay_12 : decode cX5_pay 12 = .ok (.aload_n 0, 1) := by decide +kernel
theorem dX5_pay_13 : decode cX5_pay 13 = .ok (.getfield 11, 3) := by decide +kernel
theorem dX5_pay_16 : decode cX5_pay 16 = .ok (.iload_n 1, 1) := by decide +kernel
theorem dX5_pay_17 : decode cX5_pay 17 = .ok (.aaload, 1) := by decide +kernel
theorem dX5_pay_18 : decode cX5_pay 18 = .ok (.astore_n 3, 1) := by decide +kernel
theorem dX5_pay_19 : decode cX5_pay 19 = .ok (.aload_n 3, 1) := by decide +kernel
theorem dX5_pay_20 : decode cX5_pay 20 = .ok (.getfield 78, 3) := by decide +kernel
theorem dX5_pay_23 : decode cX5_pay 23 = .ok (.ifCond .ne 7, 3) := by decide +kernel
theorem dX5_pay_26 : decode cX5_pay 26 = .ok (.iconst 1, 1) := by decide +kernel
theorem dX5_pay_27 : decode cX5_pay 27 = .ok (.goto 4, 3) := by decide +kernel
theorem dX5_pay_30 : decode cX5_pay 30 = .ok (.iconst 0, 1) := by decide +kernel
theorem dX5_pay_31 : decode cX5_pay 31 = .ok (.invokestatic 82, 3) := by decide +kernel
theorem dX5_pay_34 : decode cX5_pay 34 = .ok (.iload_n 2, 1) := by decide +kernel
theorem dX5_pay_35 : decode cX5_pay 35 = .ok (.ifCond .ge 16, 3) := by decide +kernel
theorem dX5_pay_38 : decode cX5_pay 38 = .ok (.aload_n 0, 1) := by decide +kernel
theorem dX5_pay_39 : decode cX5_pay 39 = .ok (.iload_n 1, 1) := by decide +kernel
theorem dX5_pay_40 : decode cX5_pay 40 = .ok (.invokevirtual 86, 3) := by decide +kernel
theorem dX5_pay_43 : decode cX5_pay 43 = .ok (.iload_n 2, 1) := by decide +kernel
theorem dX5_pay_44 : decode cX5_pay 44 = .ok (.i2l, 1) := by decide +kernel
theorem dX5_pay_45 : decode cX5_pay 45 = .ok (.ladd, 1) := by decide +kernel
theorem dX5_pay_46 : decode cX5_pay 46 = .ok (.lconst 0, 1) := by decide +kernel
theorem dX5_pay_47 : decode cX5_pay 47 = .ok (.lcmp, 1) := by decide +kernel
theorem dX5_pay_48 : decode cX5_pay 48 = .ok (.ifCond .lt 7, 3) := by decide +kernel
theorem dX5_pay_51 : decode cX5_pay 51 = .ok (.iconst 1, 1) := by decide +kernel
theorem dX5_pay_52 : decode cX5_pay 52 = .ok (.goto 4, 3) := by decide +kernel
theorem dX5_pay_55 : decode cX5_pay 55 = .ok (.iconst 0, 1) := by decide +kernel
theorem dX5_pay_56 : decode cX5_pay 56 = .ok (.invokestatic 82, 3) := by decide +kernel
theorem dX5_pay_59 : decode cX5_pay 59 = .ok (.aload_n 3, 1) := by decide +kernel
theorem dX5_pay_60 : decode cX5_pay 60 = .ok (.iload_n 2, 1) := by decide +kernel
theorem dX5_pay_61 : decode cX5_pay 61 = .ok (.i2l, 1) := by decide +kernel
theorem dX5_pay_62 : decode cX5_pay 62 = .ok (.invokestatic 90, 3) := by decide +kernel
theorem dX5_pay_65 : decode cX5_pay 65 = .ok (.aload_n 3, 1) := by decide +kernel
theorem dX5_pay_66 : decode cX5_pay 66 = .ok (.getfield 94, 3) := by decide +kernel
theorem dX5_pay_69 : decode cX5_pay 69 = .ok (.l2i, 1) := by decide +kernel
theorem dX5_pay_70 : decode cX5_pay 70 = .ok (.ireturn, 1) := by decide +kernel
theorem dX5_bring_0 : decode cX5_bring 0 = .ok (.iload_n 1, 1) := by decide +kernel
theorem dX5_bring_1 : decode cX5_bring 1 = .ok (.invokestatic 73, 3) := by decide +kernel
theorem dX5_bring_4 : decode cX5_bring 4 = .ok (.iload_n 2, 1) := by decide +kernel
theorem dX5_bring_5 : decode cX5_bring 5 = .ok (.invokestatic 60, 3) := by decide +kernel
theorem dX5_bring_8 : decode cX5_bring 8 = .ok (.iload_n 3, 1) := by decide +kernel
theorem dX5_bring_9 : decode cX5_bring 9 = .ok (.sipush (-1000), 3) := by decide +kernel
theorem dX5_bring_12 : decode cX5_bring 12 = .ok (.sipush 1000, 3) := by decide +kernel
theorem dX5_bring_15 : decode cX5_bring 15 = .ok (.invokestatic 48, 3) := by decide +kernel
theorem dX5_bring_18 : decode cX5_bring 18 = .ok (.aload_n 0, 1) := by decide +kernel
theorem dX5_bring_19 : decode cX5_bring 19 = .ok (.getfield 11, 3) := by decide +kernel
theorem dX5_bring_22 : decode cX5_bring 22 = .ok (.iload_n 1, 1) := by decide +kernel
theorem dX5_bring_23 : decode cX5_bring 23 = .ok (.aaload, 1) := by decide +kernel
theorem dX5_bring_24 : decode cX5_bring 24 = .ok (.astore 4, 2) := by decide +kernel
theorem dX5_bring_26 : decode cX5_bring 26 = .ok (.aload 4, 2) := by decide +kernel
theorem dX5_bring_28 : decode cX5_bring 28 = .ok (.getfield 98, 3) := by decide +kernel
theorem dX5_bring_31 : decode cX5_bring 31 = .ok (.iload_n 2, 1) := by decide +kernel
theorem dX5_bring_32 : decode cX5_bring 32 = .ok (.iaload, 1) := by decide +kernel
theorem dX5_bring_33 : decode cX5_bring 33 = .ok (.istore 5, 2) := by decide +kernel
theorem dX5_bring_35 : decode cX5_bring 35 = .ok (.iload 5, 2) := by decide +kernel
theorem dX5_bring_37 : decode cX5_bring 37 = .ok (.iload_n 3, 1) := by decide +kernel
theorem dX5_bring_38 : decode cX5_bring 38 = .ok (.iadd, 1) := by decide +kernel
theorem dX5_bring_39 : decode cX5_bring 39 = .ok (.istore 6, 2) := by decide +kernel
theorem dX5_bring_41 : decode cX5_bring 41 = .ok (.aload 4, 2) := by decide +kernel
theorem dX5_bring_43 : decode cX5_bring 43 = .ok (.getfield 78, 3) := by decide +kernel
theorem dX5_bring_46 : decode cX5_bring 46 = .ok (.ifCond .ne 20, 3) := by decide +kernel
theorem dX5_bring_49 : decode cX5_bring 49 = .ok (.iload 6, 2) := by decide +kernel
theorem dX5_bring_51 : decode cX5_bring 51 = .ok (.ifCond .lt 15, 3) := by decide +kernel
theorem dX5_bring_54 : decode cX5_bring 54 = .ok (.iload 6, 2) := by decide +kernel
theorem dX5_bring_56 : decode cX5_bring 56 = .ok (.sipush 1000, 3) := by decide +kernel
theorem dX5_bring_59 : decode cX5_bring 59 = .ok (.if_icmp .gt 7, 3) := by decide +kernel
theorem dX5_bring_62 : decode cX5_bring 62 = .ok (.iconst 1, 1) := by decide +kernel
theorem dX5_bring_63 : decode cX5_bring 63 = .ok (.goto 4, 3) := by decide +kernel
theorem dX5_bring_66 : decode cX5_bring 66 = .ok (.iconst 0, 1) := by decide +kernel
theorem dX5_bring_67 : decode cX5_bring 67 = .ok (.invokestatic 82, 3) := by decide +kernel
theorem dX5_bring_70 : decode cX5_bring 70 = .ok (.iload_n 3, 1) := by decide +kernel
theorem dX5_bring_71 : decode cX5_bring 71 = .ok (.ifCond .ge 29, 3) := by decide +kernel
theorem dX5_bring_74 : decode cX5_bring 74 = .ok (.aload_n 0, 1) := by decide +kernel
theorem dX5_bring_75 : decode cX5_bring 75 = .ok (.iload_n 1, 1) := by decide +kernel
theorem dX5_bring_76 : decode cX5_bring 76 = .ok (.invokevirtual 86, 3) := by decide +kernel
theorem dX5_bring_79 : decode cX5_bring 79 = .ok (.aload_n 0, 1) := by decide +kernel
theorem dX5_bring_80 : decode cX5_bring 80 = .ok (.iload_n 2, 1) := by decide +kernel
theorem dX5_bring_81 : decode cX5_bring 81 = .ok (.iload 5, 2) := by decide +kernel
theorem dX5_bring_83 : decode cX5_bring 83 = .ok (.invokevirtual 101, 3) := by decide +kernel
theorem dX5_bring_86 : decode cX5_bring 86 = .ok (.lsub, 1) := by decide +kernel
theorem dX5_bring_87 : decode cX5_bring 87 = .ok (.aload_n 0, 1) := by decide +kernel
theorem dX5_bring_88 : decode cX5_bring 88 = .ok (.iload_n 2, 1) := by decide +kernel
theorem dX5_bring_89 : decode cX5_bring 89 = .ok (.iload 6, 2) := by decide +kernel
theorem dX5_bring_91 : decode cX5_bring 91 = .ok (.invokevirtual 101, 3) := by decide +kernel
theorem dX5_bring_94 : decode cX5_bring 94 = .ok (.ladd, 1) := by decide +kernel
theorem dX5_bring_95 : decode cX5_bring 95 = .ok (.lconst 0, 1) := by decide +kernel
theorem dX5_bring_96 : decode cX5_bring 96 = .ok (.lcmp, 1) := by decide +kernel
theorem dX5_bring_97 : decode cX5_bring 97 = .ok (.ifCond .lt 7, 3) := by decide +kernel
theorem dX5_bring_100 : decode cX5_bring 100 = .ok (.iconst 1, 1) := by decide +kernel
theorem dX5_bring_101 : decode cX5_bring 101 = .ok (.goto 4, 3) := by decide +kernel
theorem dX5_bring_104 : decode cX5_bring 104 = .ok (.iconst 0, 1) := by decide +kernel
theorem dX5_bring_105 : decode cX5_bring 105 = .ok (.invokestatic 82, 3) := by decide +kernel
theorem dX5_bring_108 : decode cX5_bring 108 = .ok (.aload 4, 2) := by decide +kernel
theorem dX5_bring_110 : decode cX5_bring 110 = .ok (.getfield 98, 3) := by decide +kernel
theorem dX5_bring_113 : decode cX5_bring 113 = .ok (.iload_n 2, 1) := by decide +kernel
theorem dX5_bring_114 : decode cX5_bring 114 = .ok (.iload 6, 2) := by decide +kernel
theorem dX5_bring_116 : decode cX5_bring 116 = .ok (.iastore, 1) := by decide +kernel
theorem dX5_bring_117 : decode cX5_bring 117 = .ok (.iload 6, 2) := by decide +kernel
theorem dX5_bring_119 : decode cX5_bring 119 = .ok (.ireturn, 1) := by decide +kernel
theorem dX5_contribute_0 : decode cX5_contribute 0 = .ok (.iload_n 1, 1) := by decide +kernel
theorem dX5_contribute_1 : decode cX5_contribute 1 = .ok (.invokestatic 73, 3) := by decide +kernel
theorem dX5_contribute_4 : decode cX5_contribute 4 = .ok (.iload_n 2, 1) := by decide +kernel
theorem dX5_contribute_5 : decode cX5_contribute 5 = .ok (.iconst 1, 1) := by decide +kernel
theorem dX5_contribute_6 : decode cX5_contribute 6 = .ok (.ldc 77, 2) := by decide +kernel
theorem dX5_contribute_8 : decode cX5_contribute 8 = .ok (.invokestatic 48, 3) := by decide +kernel
theorem dX5_contribute_11 : decode cX5_contribute 11 = .ok (.aload_n 0, 1) := by decide +kernel
theorem dX5_contribute_12 : decode cX5_contribute 12 = .ok (.getfield 11, 3) := by decide +kernel
theorem dX5_contribute_15 : decode cX5_contribute 15 = .ok (.iload_n 1, 1) := by decide +kernel
theorem dX5_contribute_16 : decode cX5_contribute 16 = .ok (.aaload, 1) := by decide +kernel
theorem dX5_contribute_17 : decode cX5_contribute 17 = .ok (.astore_n 3, 1) := by decide +kernel
theorem dX5_contribute_18 : decode cX5_contribute 18 = .ok (.aload_n 3, 1) := by decide +kernel
theorem dX5_contribute_19 : decode cX5_contribute 19 = .ok (.getfield 78, 3) := by decide +kernel
theorem dX5_contribute_22 : decode cX5_contribute 22 = .ok (.ifCond .ne 7, 3) := by decide +kernel
theorem dX5_contribute_25 : decode cX5_contribute 25 = .ok (.iconst 1, 1) := by decide +kernel
theorem dX5_contribute_26 : decode cX5_contribute 26 = .ok (.goto 4, 3) := by decide +kernel
theorem dX5_contribute_29 : decode cX5_contribute 29 = .ok (.iconst 0, 1) := by decide +kernel
theorem dX5_contribute_30 : decode cX5_contribute 30 = .ok (.invokestatic 82, 3) := by decide +kernel
theorem dX5_contribute_33 : decode cX5_contribute 33 = .ok (.aload_n 3, 1) := by decide +kernel
theorem dX5_contribute_34 : decode cX5_contribute 34 = .ok (.dup, 1) := by decide +kernel
theorem dX5_contribute_35 : decode cX5_contribute 35 = .ok (.getfield 105, 3) := by decide +kernel
theorem dX5_contribute_38 : decode cX5_contribute 38 = .ok (.iload_n 2, 1) := by decide +kernel
theorem dX5_contribute_39 : decode cX5_contribute 39 = .ok (.i2l, 1) := by decide +kernel
theorem dX5_contribute_40 : decode cX5_contribute 40 = .ok (.ladd, 1) := by decide +kernel
theorem dX5_contribute_41 : decode cX5_contribute 41 = .ok (.putfield 105, 3) := by decide +kernel
theorem dX5_contribute_44 : decode cX5_contribute 44 = .ok (.aload_n 3, 1) := by decide +kernel
theorem dX5_contribute_45 : decode cX5_contribute 45 = .ok (.getfield 105, 3) := by decide +kernel
theorem dX5_contribute_48 : decode cX5_contribute 48 = .ok (.l2i, 1) := by decide +kernel
theorem dX5_contribute_49 : decode cX5_contribute 49 = .ok (.ireturn, 1) := by decide +kernel
theorem dX5_place_0 : decode cX5_place 0 = .ok (.iload_n 1, 1) := by decide +kernel
theorem dX5_place_1 : decode cX5_place 1 = .ok (.invokestatic 73, 3) := by decide +kernel
theorem dX5_place_4 : decode cX5_place 4 = .ok (.iload_n 2, 1) := by decide +kernel
theorem dX5_place_5 : decode cX5_place 5 = .ok (.invokestatic 44, 3) := by decide +kernel
theorem dX5_place_8 : decode cX5_place 8 = .ok (.iload 4, 2) := by decide +kernel
theorem dX5_place_10 : decode cX5_place 10 = .ok (.iconst 1, 1) := by decide +kernel
theorem dX5_place_11 : decode cX5_place 11 = .ok (.sipush 9999, 3) := by decide +kernel
theorem dX5_place_14 : decode cX5_place 14 = .ok (.invokestatic 48, 3) := by decide +kernel
theorem dX5_place_17 : decode cX5_place 17 = .ok (.iload 5, 2) := by decide +kernel
theorem dX5_place_19 : decode cX5_place 19 = .ok (.iconst 1, 1) := by decide +kernel
theorem dX5_place_20 : decode cX5_place 20 = .ok (.bipush 100, 2) := by decide +kernel
theorem dX5_place_22 : decode cX5_place 22 = .ok (.invokestatic 48, 3) := by decide +kernel
theorem dX5_place_25 : decode cX5_place 25 = .ok (.aload_n 0, 1) := by decide +kernel
theorem dX5_place_26 : decode cX5_place 26 = .ok (.getfield 30, 3) := by decide +kernel
theorem dX5_place_29 : decode cX5_place 29 = .ok (.invokevirtual 108, 3) := by decide +kernel
theorem dX5_place_32 : decode cX5_place 32 = .ok (.istore 6, 2) := by decide +kernel
theorem dX5_place_34 : decode cX5_place 34 = .ok (.aload_n 0, 1) := by decide +kernel
theorem dX5_place_35 : decode cX5_place 35 = .ok (.getfield 11, 3) := by decide +kernel
theorem dX5_place_38 : decode cX5_place 38 = .ok (.iload_n 1, 1) := by decide +kernel
theorem dX5_place_39 : decode cX5_place 39 = .ok (.aaload, 1) := by decide +kernel
theorem dX5_place_40 : decode cX5_place 40 = .ok (.getfield 78, 3) := by decide +kernel
theorem dX5_place_43 : decode cX5_place 43 = .ok (.ifCond .ne 26, 3) := by decide +kernel
theorem dX5_place_46 : decode cX5_place 46 = .ok (.aload_n 0, 1) := by decide +kernel
theorem dX5_place_47 : decode cX5_place 47 = .ok (.getfield 17, 3) := by decide +kernel
theorem dX5_place_50 : decode cX5_place 50 = .ok (.iload_n 2, 1) := by decide +kernel
theorem dX5_place_51 : decode cX5_place 51 = .ok (.aaload, 1) := by decide +kernel
theorem dX5_place_52 : decode cX5_place 52 = .ok (.getfield 112, 3) := by decide +kernel
theorem dX5_place_55 : decode cX5_place 55 = .ok (.ifCond .ne 14, 3) := by decide +kernel
theorem dX5_place_58 : decode cX5_place 58 = .ok (.iload 6, 2) := by decide +kernel
theorem dX5_place_60 : decode cX5_place 60 = .ok (.bipush 100, 2) := by decide +kernel
theorem dX5_place_62 : decode cX5_place 62 = .ok (.if_icmp .ge 7, 3) := by decide +kernel
theorem dX5_place_65 : decode cX5_place 65 = .ok (.iconst 1, 1) := by decide +kernel
theorem dX5_place_66 : decode cX5_place 66 = .ok (.goto 4, 3) := by decide +kernel
theorem dX5_place_69 : decode cX5_place 69 = .ok (.iconst 0, 1) := by decide +kernel
theorem dX5_place_70 : decode cX5_place 70 = .ok (.invokestatic 82, 3) := by decide +kernel
theorem dX5_place_73 : decode cX5_place 73 = .ok (.new 115, 3) := by decide +kernel
theorem dX5_place_76 : decode cX5_place 76 = .ok (.dup, 1) := by decide +kernel
theorem dX5_place_77 : decode cX5_place 77 = .ok (.iload 6, 2) := by decide +kernel
theorem dX5_place_79 : decode cX5_place 79 = .ok (.iload_n 1, 1) := by decide +kernel
theorem dX5_place_80 : decode cX5_place 80 = .ok (.iload_n 2, 1) := by decide +kernel
theorem dX5_place_81 : decode cX5_place 81 = .ok (.iload_n 3, 1) := by decide +kernel
theorem dX5_place_82 : decode cX5_place 82 = .ok (.iload 4, 2) := by decide +kernel
theorem dX5_place_84 : decode cX5_place 84 = .ok (.iload 5, 2) := by decide +kernel
theorem dX5_place_86 : decode cX5_place 86 = .ok (.invokespecial 117, 3) := by decide +kernel
theorem dX5_place_89 : decode cX5_place 89 = .ok (.astore 7, 2) := by decide +kernel
theorem dX5_place_91 : decode cX5_place 91 = .ok (.aload_n 0, 1) := by decide +kernel
theorem dX5_place_92 : decode cX5_place 92 = .ok (.getfield 30, 3) := by decide +kernel
theorem dX5_place_95 : decode cX5_place 95 = .ok (.aload 7, 2) := by decide +kernel
theorem dX5_place_97 : decode cX5_place 97 = .ok (.invokevirtual 120, 3) := by decide +kernel
theorem dX5_place_100 : decode cX5_place 100 = .ok (.pop, 1) := by decide +kernel
theorem dX5_place_101 : decode cX5_place 101 = .ok (.aload_n 0, 1) := by decide +kernel
theorem dX5_place_102 : decode cX5_place 102 = .ok (.aload 7, 2) := by decide +kernel
theorem dX5_place_104 : decode cX5_place 104 = .ok (.invokevirtual 124, 3) := by decide +kernel
theorem dX5_place_107 : decode cX5_place 107 = .ok (.iload 6, 2) := by decide +kernel
theorem dX5_place_109 : decode cX5_place 109 = .ok (.ireturn, 1) := by decide +kernel
theorem dX5_cancel_0 : decode cX5_cancel 0 = .ok (.aload_n 0, 1) := by decide +kernel
theorem dX5_cancel_1 : decode cX5_cancel 1 = .ok (.iload_n 1, 1) := by decide +kernel
theorem dX5_cancel_2 : decode cX5_cancel 2 = .ok (.invokevirtual 128, 3) := by decide +kernel
theorem dX5_cancel_5 : decode cX5_cancel 5 = .ok (.aload_n 0, 1) := by decide +kernel
theorem dX5_cancel_6 : decode cX5_cancel 6 = .ok (.getfield 30, 3) := by decide +kernel
theorem dX5_cancel_9 : decode cX5_cancel 9 = .ok (.iload_n 1, 1) := by decide +kernel
theorem dX5_cancel_10 : decode cX5_cancel 10 = .ok (.invokevirtual 131, 3) := by decide +kernel
theorem dX5_cancel_13 : decode cX5_cancel 13 = .ok (.checkcast 115, 3) := by decide +kernel
theorem dX5_cancel_16 : decode cX5_cancel 16 = .ok (.astore_n 2, 1) := by decide +kernel
theorem dX5_cancel_17 : decode cX5_cancel 17 = .ok (.aload_n 2, 1) := by decide +kernel
theorem dX5_cancel_18 : decode cX5_cancel 18 = .ok (.getfield 135, 3) := by decide +kernel
theorem dX5_cancel_21 : decode cX5_cancel 21 = .ok (.ifCond .le 7, 3) := by decide +kernel
theorem dX5_cancel_24 : decode cX5_cancel 24 = .ok (.iconst 1, 1) := by decide +kernel
theorem dX5_cancel_25 : decode cX5_cancel 25 = .ok (.goto 4, 3) := by decide +kernel
theorem dX5_cancel_28 : decode cX5_cancel 28 = .ok (.iconst 0, 1) := by decide +kernel
theorem dX5_cancel_29 : decode cX5_cancel 29 = .ok (.invokestatic 82, 3) := by decide +kernel
theorem dX5_cancel_32 : decode cX5_cancel 32 = .ok (.aload_n 2, 1) := by decide +kernel
theorem dX5_cancel_33 : decode cX5_cancel 33 = .ok (.getfield 135, 3) := by decide +kernel
theorem dX5_cancel_36 : decode cX5_cancel 36 = .ok (.istore_n 3, 1) := by decide +kernel
theorem dX5_cancel_37 : decode cX5_cancel 37 = .ok (.aload_n 2, 1) := by decide +kernel
theorem dX5_cancel_38 : decode cX5_cancel 38 = .ok (.iconst 0, 1) := by decide +kernel
theorem dX5_cancel_39 : decode cX5_cancel 39 = .ok (.putfield 135, 3) := by decide +kernel
theorem dX5_cancel_42 : decode cX5_cancel 42 = .ok (.iload_n 3, 1) := by decide +kernel
theorem dX5_cancel_43 : decode cX5_cancel 43 = .ok (.ireturn, 1) := by decide +kernel
theorem dX5_halt_0 : decode cX5_halt 0 = .ok (.iload_n 1, 1) := by decide +kernel
theorem dX5_halt_1 : decode cX5_halt 1 = .ok (.invokestatic 44, 3) := by decide +kernel
theorem dX5_halt_4 : decode cX5_halt 4 = .ok (.aload_n 0, 1) := by decide +kernel
theorem dX5_halt_5 : decode cX5_halt 5 = .ok (.getfield 17, 3) := by decide +kernel
theorem dX5_halt_8 : decode cX5_halt 8 = .ok (.iload_n 1, 1) := by decide +kernel
theorem dX5_halt_9 : decode cX5_halt 9 = .ok (.aaload, 1) := by decide +kernel
theorem dX5_halt_10 : decode cX5_halt 10 = .ok (.iload_n 2, 1) := by decide +kernel
theorem dX5_halt_11 : decode cX5_halt 11 = .ok (.putfield 112, 3) := by decide +kernel
theorem dX5_halt_14 : decode cX5_halt 14 = .ok (.iload_n 2, 1) := by decide +kernel
theorem dX5_halt_15 : decode cX5_halt 15 = .ok (.ifCond .eq 11, 3) := by decide +kernel
theorem dX5_halt_18 : decode cX5_halt 18 = .ok (.aload_n 0, 1) := by decide +kernel
theorem dX5_halt_19 : decode cX5_halt 19 = .ok (.iload_n 1, 1) := by decide +kernel
theorem dX5_halt_20 : decode cX5_halt 20 = .ok (.invokevirtual 138, 3) := by decide +kernel
theorem dX5_halt_23 : decode cX5_halt 23 = .ok (.goto 4, 3) := by decide +kernel
theorem dX5_halt_26 : decode cX5_halt 26 = .ok (.iconst 0, 1) := by decide +kernel
theorem dX5_halt_27 : decode cX5_halt 27 = .ok (.ireturn, 1) := by decide +kernel
theorem dX5_left_0 : decode cX5_left 0 = .ok (.aload_n 0, 1) := by decide +kernel
theorem dX5_left_1 : decode cX5_left 1 = .ok (.iload_n 1, 1) := by decide +kernel
theorem dX5_left_2 : decode cX5_left 2 = .ok (.invokevirtual 128, 3) := by decide +kernel
theorem dX5_left_5 : decode cX5_left 5 = .ok (.aload_n 0, 1) := by decide +kernel
theorem dX5_left_6 : decode cX5_left 6 = .ok (.getfield 30, 3) := by decide +kernel
theorem dX5_left_9 : decode cX5_left 9 = .ok (.iload_n 1, 1) := by decide +kernel
theorem dX5_left_10 : decode cX5_left 10 = .ok (.invokevirtual 131, 3) := by decide +kernel
theorem dX5_left_13 : decode cX5_left 13 = .ok (.checkcast 115, 3) := by decide +kernel
theorem dX5_left_16 : decode cX5_left 16 = .ok (.getfield 135, 3) := by decide +kernel
theorem dX5_left_19 : decode cX5_left 19 = .ok (.ireturn, 1) := by decide +kernel
theorem dX5_best_0 : decode cX5_best 0 = .ok (.iload_n 1, 1) := by decide +kernel
theorem dX5_best_1 : decode cX5_best 1 = .ok (.invokestatic 44, 3) := by decide +kernel
theorem dX5_best_4 : decode cX5_best 4 = .ok (.aload_n 0, 1) := by decide +kernel
theorem dX5_best_5 : decode cX5_best 5 = .ok (.iload_n 1, 1) := by decide +kernel
theorem dX5_best_6 : decode cX5_best 6 = .ok (.iload_n 2, 1) := by decide +kernel
theorem dX5_best_7 : decode cX5_best 7 = .ok (.invokevirtual 142, 3) := by decide +kernel
theorem dX5_best_10 : decode cX5_best 10 = .ok (.astore_n 3, 1) := by decide +kernel
theorem dX5_best_11 : decode cX5_best 11 = .ok (.aload_n 3, 1) := by decide +kernel
theorem dX5_best_12 : decode cX5_best 12 = .ok (.ifnonnull 11, 3) := by decide +kernel
theorem dX5_best_15 : decode cX5_best 15 = .ok (.new 146, 3) := by decide +kernel
theorem dX5_best_18 : decode cX5_best 18 = .ok (.dup, 1) := by decide +kernel
theorem dX5_best_19 : decode cX5_best 19 = .ok (.invokespecial 148, 3) := by decide +kernel
theorem dX5_best_22 : decode cX5_best 22 = .ok (.athrow, 1) := by decide +kernel
theorem dX5_best_23 : decode cX5_best 23 = .ok (.aload_n 3, 1) := by decide +kernel
theorem dX5_best_24 : decode cX5_best 24 = .ok (.getfield 149, 3) := by decide +kernel
theorem dX5_best_27 : decode cX5_best 27 = .ok (.ireturn, 1) := by decide +kernel
theorem dX5_trades_0 : decode cX5_trades 0 = .ok (.aload_n 0, 1) := by decide +kernel
theorem dX5_trades_1 : decode cX5_trades 1 = .ok (.getfield 152, 3) := by decide +kernel
theorem dX5_trades_4 : decode cX5_trades 4 = .ok (.ireturn, 1) := by decide +kernel
theorem dX5_hour_0 : decode cX5_hour 0 = .ok (.iconst 0, 1) := by decide +kernel
theorem dX5_hour_1 : decode cX5_hour 1 = .ok (.istore_n 1, 1) := by decide +kernel
theorem dX5_hour_2 : decode cX5_hour 2 = .ok (.iconst 0, 1) := by decide +kernel
theorem dX5_hour_3 : decode cX5_hour 3 = .ok (.istore_n 2, 1) := by decide +kernel
theorem dX5_hour_4 : decode cX5_hour 4 = .ok (.iload_n 2, 1) := by decide +kernel
theorem dX5_hour_5 : decode cX5_hour 5 = .ok (.iconst 5, 1) := by decide +kernel
theorem dX5_hour_6 : decode cX5_hour 6 = .ok (.if_icmp .ge 53, 3) := by decide +kernel
theorem dX5_hour_9 : decode cX5_hour 9 = .ok (.aload_n 0, 1) := by decide +kernel
theorem dX5_hour_10 : decode cX5_hour 10 = .ok (.getfield 11, 3) := by decide +kernel
theorem dX5_hour_13 : decode cX5_hour 13 = .ok (.iload_n 2, 1) := by decide +kernel
theorem dX5_hour_14 : decode cX5_hour 14 = .ok (.aaload, 1) := by decide +kernel
theorem dX5_hour_15 : decode cX5_hour 15 = .ok (.getfield 78, 3) := by decide +kernel
theorem dX5_hour_18 : decode cX5_hour 18 = .ok (.ifCond .ne 35, 3) := by decide +kernel
theorem dX5_hour_21 : decode cX5_hour 21 = .ok (.aload_n 0, 1) := by decide +kernel
theorem dX5_hour_22 : decode cX5_hour 22 = .ok (.iload_n 2, 1) := by decide +kernel
theorem dX5_hour_23 : decode cX5_hour 23 = .ok (.invokevirtual 155, 3) := by decide +kernel
theorem dX5_hour_26 : decode cX5_hour 26 = .ok (.iconst 2, 1) := by decide +kernel
theorem dX5_hour_27 : decode cX5_hour 27 = .ok (.if_icmp .lt 26, 3) := by decide +kernel
theorem dX5_hour_30 : decode cX5_hour 30 = .ok (.aload_n 0, 1) := by decide +kernel
theorem dX5_hour_31 : decode cX5_hour 31 = .ok (.iload_n 2, 1) := by decide +kernel
theorem dX5_hour_32 : decode cX5_hour 32 = .ok (.invokevirtual 158, 3) := by decide +kernel
theorem dX5_hour_35 : decode cX5_hour 35 = .ok (.aload_n 0, 1) := by decide +kernel
theorem dX5_hour_36 : decode cX5_hour 36 = .ok (.iload_n 2, 1) := by decide +kernel
theorem dX5_hour_37 : decode cX5_hour 37 = .ok (.invokevirtual 86, 3) := by decide +kernel
theorem dX5_hour_40 : decode cX5_hour 40 = .ok (.lconst 0, 1) := by decide +kernel
theorem dX5_hour_41 : decode cX5_hour 41 = .ok (.lcmp, 1) := by decide +kernel
theorem dX5_hour_42 : decode cX5_hour 42 = .ok (.ifCond .ge 11, 3) := by decide +kernel
theorem dX5_hour_45 : decode cX5_hour 45 = .ok (.aload_n 0, 1) := by decide +kernel
theorem dX5_hour_46 : decode cX5_hour 46 = .ok (.iload_n 2, 1) := by decide +kernel
theorem dX5_hour_47 : decode cX5_hour 47 = .ok (.invokevirtual 161, 3) := by decide +kernel
theorem dX5_hour_50 : decode cX5_hour 50 = .ok (.iinc 1 1, 3) := by decide +kernel
theorem dX5_hour_53 : decode cX5_hour 53 = .ok (.iinc 2 1, 3) := by decide +kernel
theorem dX5_hour_56 : decode cX5_hour 56 = .ok (.goto (-52), 3) := by decide +kernel
theorem dX5_hour_59 : decode cX5_hour 59 = .ok (.iload_n 1, 1) := by decide +kernel
theorem dX5_hour_60 : decode cX5_hour 60 = .ok (.ireturn, 1) := by decide +kernel
theorem dX5_evening_0 : decode cX5_evening 0 = .ok (.lconst 0, 1) := by decide +kernel
theorem dX5_evening_1 : decode cX5_evening 1 = .ok (.lstore_n 1, 1) := by decide +kernel
theorem dX5_evening_2 : decode cX5_evening 2 = .ok (.iconst 0, 1) := by decide +kernel
theorem dX5_evening_3 : decode cX5_evening 3 = .ok (.istore_n 3, 1) := by decide +kernel
theorem dX5_evening_4 : decode cX5_evening 4 = .ok (.iload_n 3, 1) := by decide +kernel
theorem dX5_evening_5 : decode cX5_evening 5 = .ok (.iconst 5, 1) := by decide +kernel
theorem dX5_evening_6 : decode cX5_evening 6 = .ok (.if_icmp .ge 22, 3) := by decide +kernel
theorem dX5_evening_9 : decode cX5_evening 9 = .ok (.lload_n 1, 1) := by decide +kernel
theorem dX5_evening_10 : decode cX5_evening 10 = .ok (.aload_n 0, 1) := by decide +kernel
theorem dX5_evening_11 : decode cX5_evening 11 = .ok (.aload_n 0, 1) := by decide +kernel
theorem dX5_evening_12 : decode cX5_evening 12 = .ok (.getfield 11, 3) := by decide +kernel
theorem dX5_evening_15 : decode cX5_evening 15 = .ok (.iload_n 3, 1) := by decide +kernel
theorem dX5_evening_16 : decode cX5_evening 16 = .ok (.aaload, 1) := by decide +kernel
theorem dX5_evening_17 : decode cX5_evening 17 = .ok (.invokevirtual 164, 3) := by decide +kernel
theorem dX5_evening_20 : decode cX5_evening 20 = .ok (.ladd, 1) := by decide +kernel
theorem dX5_evening_21 : decode cX5_evening 21 = .ok (.lstore_n 1, 1) := by decide +kernel
theorem dX5_evening_22 : decode cX5_evening 22 = .ok (.iinc 3 1, 3) := by decide +kernel
theorem dX5_evening_25 : decode cX5_evening 25 = .ok (.goto (-21), 3) := by decide +kernel
theorem dX5_evening_28 : decode cX5_evening 28 = .ok (.lload_n 1, 1) := by decide +kernel
theorem dX5_evening_29 : decode cX5_evening 29 = .ok (.l2i, 1) := by decide +kernel
theorem dX5_evening_30 : decode cX5_evening 30 = .ok (.ireturn, 1) := by decide +kernel
theorem dX5_called_0 : decode cX5_called 0 = .ok (.iload_n 1, 1) := by decide +kernel
theorem dX5_called_1 : decode cX5_called 1 = .ok (.invokestatic 73, 3) := by decide +kernel
theorem dX5_called_4 : decode cX5_called 4 = .ok (.aload_n 0, 1) := by decide +kernel
theorem dX5_called_5 : decode cX5_called 5 = .ok (.getfield 11, 3) := by decide +kernel
theorem dX5_called_8 : decode cX5_called 8 = .ok (.iload_n 1, 1) := by decide +kernel
theorem dX5_called_9 : decode cX5_called 9 = .ok (.aaload, 1) := by decide +kernel
theorem dX5_called_10 : decode cX5_called 10 = .ok (.getfield 168, 3) := by decide +kernel
theorem dX5_called_13 : decode cX5_called 13 = .ok (.ireturn, 1) := by decide +kernel
theorem dX5_hasFailed_0 : decode cX5_hasFailed 0 = .ok (.iload_n 1, 1) := by decide +kernel
theorem dX5_hasFailed_1 : decode cX5_hasFailed 1 = .ok (.invokestatic 73, 3) := by decide +kernel
theorem dX5_hasFailed_4 : decode cX5_hasFailed 4 = .ok (.aload_n 0, 1) := by decide +kernel
theorem dX5_hasFailed_5 : decode cX5_hasFailed 5 = .ok (.getfield 11, 3) := by decide +kernel
theorem dX5_hasFailed_8 : decode cX5_hasFailed 8 = .ok (.iload_n 1, 1) := by decide +kernel
theorem dX5_hasFailed_9 : decode cX5_hasFailed 9 = .ok (.aaload, 1) := by decide +kernel
theorem dX5_hasFailed_10 : decode cX5_hasFailed 10 = .ok (.getfield 78, 3) := by decide +kernel
theorem dX5_hasFailed_13 : decode cX5_hasFailed 13 = .ok (.ireturn, 1) := by decide +kernel
theorem dX5_position_0 : decode cX5_position 0 = .ok (.iload_n 1, 1) := by decide +kernel
theorem dX5_position_1 : decode cX5_position 1 = .ok (.invokestatic 73, 3) := by decide +kernel
theorem dX5_position_4 : decode cX5_position 4 = .ok (.iload_n 2, 1) := by decide +kernel
theorem dX5_position_5 : decode cX5_position 5 = .ok (.invokestatic 44, 3) := by decide +kernel
theorem dX5_position_8 : decode cX5_position 8 = .ok (.aload_n 0, 1) := by decide +kernel
theorem dX5_position_9 : decode cX5_position 9 = .ok (.getfield 11, 3) := by decide +kernel
theorem dX5_position_12 : decode cX5_position 12 = .ok (.iload_n 1, 1) := by decide +kernel
theorem dX5_position_13 : decode cX5_position 13 = .ok (.aaload, 1) := by decide +kernel
theorem dX5_position_14 : decode cX5_position 14 = .ok (.getfield 171, 3) := by decide +kernel
theorem dX5_position_17 : decode cX5_position 17 = .ok (.iload_n 2, 1) := by decide +kernel
theorem dX5_position_18 : decode cX5_position 18 = .ok (.iaload, 1) := by decide +kernel
theorem dX5_position_19 : decode cX5_position 19 = .ok (.ireturn, 1) := by decide +kernel
theorem dX5_cash_0 : decode cX5_cash 0 = .ok (.iload_n 1, 1) := by decide +kernel
theorem dX5_cash_1 : decode cX5_cash 1 = .ok (.invokestatic 73, 3) := by decide +kernel
theorem dX5_cash_4 : decode cX5_cash 4 = .ok (.aload_n 0, 1) := by decide +kernel
theorem dX5_cash_5 : decode cX5_cash 5 = .ok (.getfield 11, 3) := by decide +kernel
theorem dX5_cash_8 : decode cX5_cash 8 = .ok (.iload_n 1, 1) := by decide +kernel
theorem dX5_cash_9 : decode cX5_cash 9 = .ok (.aaload, 1) := by decide +kernel
theorem dX5_cash_10 : decode cX5_cash 10 = .ok (.getfield 94, 3) := by decide +kernel
theorem dX5_cash_13 : decode cX5_cash 13 = .ok (.l2i, 1) := by decide +kernel
theorem dX5_cash_14 : decode cX5_cash 14 = .ok (.ireturn, 1) := by decide +kernel
theorem dX5_equity_0 : decode cX5_equity 0 = .ok (.iload_n 1, 1) := by decide +kernel
theorem dX5_equity_1 : decode cX5_equity 1 = .ok (.invokestatic 73, 3) := by decide +kernel
theorem dX5_equity_4 : decode cX5_equity 4 = .ok (.aload_n 0, 1) := by decide +kernel
theorem dX5_equity_5 : decode cX5_equity 5 = .ok (.iload_n 1, 1) := by decide +kernel
theorem dX5_equity_6 : decode cX5_equity 6 = .ok (.invokevirtual 174, 3) := by decide +kernel
theorem dX5_equity_9 : decode cX5_equity 9 = .ok (.l2i, 1) := by decide +kernel
theorem dX5_equity_10 : decode cX5_equity 10 = .ok (.ireturn, 1) := by decide +kernel
theorem dX5_equityByTrades_0 : decode cX5_equityByTrades 0 = .ok (.iload_n 1, 1) := by decide +kernel
theorem dX5_equityByTrades_1 : decode cX5_equityByTrades 1 = .ok (.invokestatic 73, 3) := by decide +kernel
theorem dX5_equityByTrades_4 : decode cX5_equityByTrades 4 = .ok (.aload_n 0, 1) := by decide +kernel
theorem dX5_equityByTrades_5 : decode cX5_equityByTrades 5 = .ok (.getfield 11, 3) := by decide +kernel
theorem dX5_equityByTrades_8 : decode cX5_equityByTrades 8 = .ok (.iload_n 1, 1) := by decide +kernel
theorem dX5_equityByTrades_9 : decode cX5_equityByTrades 9 = .ok (.aaload, 1) := by decide +kernel
theorem dX5_equityByTrades_10 : decode cX5_equityByTrades 10 = .ok (.getfield 177, 3) := by decide +kernel
theorem dX5_equityByTrades_13 : decode cX5_equityByTrades 13 = .ok (.lstore_n 2, 1) := by decide +kernel
theorem dX5_equityByTrades_14 : decode cX5_equityByTrades 14 = .ok (.iconst 0, 1) := by decide +kernel
theorem dX5_equityByTrades_15 : decode cX5_equityByTrades 15 = .ok (.istore 4, 2) := by decide +kernel
theorem dX5_equityByTrades_17 : decode cX5_equityByTrades 17 = .ok (.iload 4, 2) := by decide +kernel
theorem dX5_equityByTrades_19 : decode cX5_equityByTrades 19 = .ok (.aload_n 0, 1) := by decide +kernel
theorem dX5_equityByTrades_20 : decode cX5_equityByTrades 20 = .ok (.getfield 34, 3) := by decide +kernel
theorem dX5_equityByTrades_23 : decode cX5_equityByTrades 23 = .ok (.invokevirtual 108, 3) := by decide +kernel
theorem dX5_equityByTrades_26 : decode cX5_equityByTrades 26 = .ok (.if_icmp .ge 29, 3) := by decide +kernel
theorem dX5_equityByTrades_29 : decode cX5_equityByTrades 29 = .ok (.lload_n 2, 1) := by decide +kernel
theorem dX5_equityByTrades_30 : decode cX5_equityByTrades 30 = .ok (.aload_n 0, 1) := by decide +kernel
theorem dX5_equityByTrades_31 : decode cX5_equityByTrades 31 = .ok (.iload_n 1, 1) := by decide +kernel
theorem dX5_equityByTrades_32 : decode cX5_equityByTrades 32 = .ok (.aload_n 0, 1) := by decide +kernel
theorem dX5_equityByTrades_33 : decode cX5_equityByTrades 33 = .ok (.getfield 34, 3) := by decide +kernel
theorem dX5_equityByTrades_36 : decode cX5_equityByTrades 36 = .ok (.iload 4, 2) := by decide +kernel
theorem dX5_equityByTrades_38 : decode cX5_equityByTrades 38 = .ok (.invokevirtual 131, 3) := by decide +kernel
theorem dX5_equityByTrades_41 : decode cX5_equityByTrades 41 = .ok (.checkcast 180, 3) := by decide +kernel
theorem dX5_equityByTrades_44 : decode cX5_equityByTrades 44 = .ok (.invokevirtual 182, 3) := by decide +kernel
theorem dX5_equityByTrades_47 : decode cX5_equityByTrades 47 = .ok (.ladd, 1) := by decide +kernel
theorem dX5_equityByTrades_48 : decode cX5_equityByTrades 48 = .ok (.lstore_n 2, 1) := by decide +kernel
theorem dX5_equityByTrades_49 : decode cX5_equityByTrades 49 = .ok (.iinc 4 1, 3) := by decide +kernel
theorem dX5_equityByTrades_52 : decode cX5_equityByTrades 52 = .ok (.goto (-35), 3) := by decide +kernel
theorem dX5_equityByTrades_55 : decode cX5_equityByTrades 55 = .ok (.lload_n 2, 1) := by decide +kernel
theorem dX5_equityByTrades_56 : decode cX5_equityByTrades 56 = .ok (.l2i, 1) := by decide +kernel
theorem dX5_equityByTrades_57 : decode cX5_equityByTrades 57 = .ok (.ireturn, 1) := by decide +kernel
theorem dX5_margin_0 : decode cX5_margin 0 = .ok (.iload_n 1, 1) := by decide +kernel
theorem dX5_margin_1 : decode cX5_margin 1 = .ok (.invokestatic 73, 3) := by decide +kernel
theorem dX5_margin_4 : decode cX5_margin 4 = .ok (.aload_n 0, 1) := by decide +kernel
theorem dX5_margin_5 : decode cX5_margin 5 = .ok (.iload_n 1, 1) := by decide +kernel
theorem dX5_margin_6 : decode cX5_margin 6 = .ok (.invokevirtual 186, 3) := by decide +kernel
theorem dX5_margin_9 : decode cX5_margin 9 = .ok (.l2i, 1) := by decide +kernel
theorem dX5_margin_10 : decode cX5_margin 10 = .ok (.ireturn, 1) := by decide +kernel
theorem dX5_haircut_0 : decode cX5_haircut 0 = .ok (.iload_n 1, 1) := by decide +kernel
theorem dX5_haircut_1 : decode cX5_haircut 1 = .ok (.invokestatic 60, 3) := by decide +kernel
theorem dX5_haircut_4 : decode cX5_haircut 4 = .ok (.aload_n 0, 1) := by decide +kernel
theorem dX5_haircut_5 : decode cX5_haircut 5 = .ok (.getfield 23, 3) := by decide +kernel
theorem dX5_haircut_8 : decode cX5_haircut 8 = .ok (.iload_n 1, 1) := by decide +kernel
theorem dX5_haircut_9 : decode cX5_haircut 9 = .ok (.aaload, 1) := by decide +kernel
theorem dX5_haircut_10 : decode cX5_haircut 10 = .ok (.getfield 70, 3) := by decide +kernel
theorem dX5_haircut_13 : decode cX5_haircut 13 = .ok (.ireturn, 1) := by decide +kernel
theorem dX5_collateral_0 : decode cX5_collateral 0 = .ok (.iload_n 1, 1) := by decide +kernel
theorem dX5_collateral_1 : decode cX5_collateral 1 = .ok (.invokestatic 73, 3) := by decide +kernel
theorem dX5_collateral_4 : decode cX5_collateral 4 = .ok (.aload_n 0, 1) := by decide +kernel
theorem dX5_collateral_5 : decode cX5_collateral 5 = .ok (.iload_n 1, 1) := by decide +kernel
theorem dX5_collateral_6 : decode cX5_collateral 6 = .ok (.invokevirtual 189, 3) := by decide +kernel
theorem dX5_collateral_9 : decode cX5_collateral 9 = .ok (.l2i, 1) := by decide +kernel
theorem dX5_collateral_10 : decode cX5_collateral 10 = .ok (.ireturn, 1) := by decide +kernel
theorem dX5_free_0 : decode cX5_free 0 = .ok (.iload_n 1, 1) := by decide +kernel
theorem dX5_free_1 : decode cX5_free 1 = .ok (.invokestatic 73, 3) := by decide +kernel
theorem dX5_free_4 : decode cX5_free 4 = .ok (.aload_n 0, 1) := by decide +kernel
theorem dX5_free_5 : decode cX5_free 5 = .ok (.iload_n 1, 1) := by decide +kernel
theorem dX5_free_6 : decode cX5_free 6 = .ok (.invokevirtual 86, 3) := by decide +kernel
theorem dX5_free_9 : decode cX5_free 9 = .ok (.l2i, 1) := by decide +kernel
theorem dX5_free_10 : decode cX5_free 10 = .ok (.ireturn, 1) := by decide +kernel
theorem dX5_share_0 : decode cX5_share 0 = .ok (.iload_n 1, 1) := by decide +kernel
theorem dX5_share_1 : decode cX5_share 1 = .ok (.invokestatic 73, 3) := by decide +kernel
theorem dX5_share_4 : decode cX5_share 4 = .ok (.aload_n 0, 1) := by decide +kernel
theorem dX5_share_5 : decode cX5_share 5 = .ok (.getfield 11, 3) := by decide +kernel
theorem dX5_share_8 : decode cX5_share 8 = .ok (.iload_n 1, 1) := by decide +kernel
theorem dX5_share_9 : decode cX5_share 9 = .ok (.aaload, 1) := by decide +kernel
theorem dX5_share_10 : decode cX5_share 10 = .ok (.getfield 105, 3) := by decide +kernel
theorem dX5_share_13 : decode cX5_share 13 = .ok (.l2i, 1) := by decide +kernel
theorem dX5_share_14 : decode cX5_share 14 = .ok (.ireturn, 1) := by decide +kernel
theorem dX5_unpaid_0 : decode cX5_unpaid 0 = .ok (.aload_n 0, 1) := by decide +kernel
theorem dX5_unpaid_1 : decode cX5_unpaid 1 = .ok (.getfield 192, 3) := by decide +kernel
theorem dX5_unpaid_4 : decode cX5_unpaid 4 = .ok (.l2i, 1) := by decide +kernel
theorem dX5_unpaid_5 : decode cX5_unpaid 5 = .ok (.ireturn, 1) := by decide +kernel
theorem dX5_demandMember_0 : decode cX5_demandMember 0 = .ok (.iload_n 0, 1) := by decide +kernel
theorem dX5_demandMember_1 : decode cX5_demandMember 1 = .ok (.iconst 0, 1) := by decide +kernel
theorem dX5_demandMember_2 : decode cX5_demandMember 2 = .ok (.iconst 4, 1) := by decide +kernel
theorem dX5_demandMember_3 : decode cX5_demandMember 3 = .ok (.invokestatic 48, 3) := by decide +kernel
theorem dX5_demandMember_6 : decode cX5_demandMember 6 = .ok (.return_, 1) := by decide +kernel
theorem dX5_demandProduct_0 : decode cX5_demandProduct 0 = .ok (.iload_n 0, 1) := by decide +kernel
theorem dX5_demandProduct_1 : decode cX5_demandProduct 1 = .ok (.iconst 0, 1) := by decide +kernel
theorem dX5_demandProduct_2 : decode cX5_demandProduct 2 = .ok (.iconst 2, 1) := by decide +kernel
theorem dX5_demandProduct_3 : decode cX5_demandProduct 3 = .ok (.invokestatic 48, 3) := by decide +kernel
theorem dX5_demandProduct_6 : decode cX5_demandProduct 6 = .ok (.return_, 1) := by decide +kernel
theorem dX5_demandKind_0 : decode cX5_demandKind 0 = .ok (.iload_n 0, 1) := by decide +kernel
theorem dX5_demandKind_1 : decode cX5_demandKind 1 = .ok (.iconst 0, 1) := by decide +kernel
theorem dX5_demandKind_2 : decode cX5_demandKind 2 = .ok (.iconst 1, 1) := by decide +kernel
theorem dX5_demandKind_3 : decode cX5_demandKind 3 = .ok (.invokestatic 48, 3) := by decide +kernel
theorem dX5_demandKind_6 : decode cX5_demandKind 6 = .ok (.return_, 1) := by decide +kernel
theorem dX5_demandWithin_0 : decode cX5_demandWithin 0 = .ok (.iload_n 0, 1) := by decide +kernel
theorem dX5_demandWithin_1 : decode cX5_demandWithin 1 = .ok (.iload_n 1, 1) := by decide +kernel
theorem dX5_demandWithin_2 : decode cX5_demandWithin 2 = .ok (.if_icmp .lt 8, 3) := by decide +kernel
theorem dX5_demandWithin_5 : decode cX5_demandWithin 5 = .ok (.iload_n 0, 1) := by decide +kernel
theorem dX5_demandWithin_6 : decode cX5_demandWithin 6 = .ok (.iload_n 2, 1) := by decide +kernel
theorem dX5_demandWithin_7 : decode cX5_demandWithin 7 = .ok (.if_icmp .le 11, 3) := by decide +kernel
theorem dX5_demandWithin_10 : decode cX5_demandWithin 10 = .ok (.new 195, 3) := by decide +kernel
theorem dX5_demandWithin_13 : decode cX5_demandWithin 13 = .ok (.dup, 1) := by decide +kernel
theorem dX5_demandWithin_14 : decode cX5_demandWithin 14 = .ok (.invokespecial 197, 3) := by decide +kernel
theorem dX5_demandWithin_17 : decode cX5_demandWithin 17 = .ok (.athrow, 1) := by decide +kernel
theorem dX5_demandWithin_18 : decode cX5_demandWithin 18 = .ok (.return_, 1) := by decide +kernel
theorem dX5_demandState_0 : decode cX5_demandState 0 = .ok (.iload_n 0, 1) := by decide +kernel
theorem dX5_demandState_1 : decode cX5_demandState 1 = .ok (.ifCond .ne 11, 3) := by decide +kernel
theorem dX5_demandState_4 : decode cX5_demandState 4 = .ok (.new 198, 3) := by decide +kernel
theorem dX5_demandState_7 : decode cX5_demandState 7 = .ok (.dup, 1) := by decide +kernel
theorem dX5_demandState_8 : decode cX5_demandState 8 = .ok (.invokespecial 200, 3) := by decide +kernel
theorem dX5_demandState_11 : decode cX5_demandState 11 = .ok (.athrow, 1) := by decide +kernel
theorem dX5_demandState_12 : decode cX5_demandState 12 = .ok (.return_, 1) := by decide +kernel
theorem dX5_demandOrder_0 : decode cX5_demandOrder 0 = .ok (.iload_n 1, 1) := by decide +kernel
theorem dX5_demandOrder_1 : decode cX5_demandOrder 1 = .ok (.ifCond .lt 14, 3) := by decide +kernel
theorem dX5_demandOrder_4 : decode cX5_demandOrder 4 = .ok (.iload_n 1, 1) := by decide +kernel
theorem dX5_demandOrder_5 : decode cX5_demandOrder 5 = .ok (.aload_n 0, 1) := by decide +kernel
theorem dX5_demandOrder_6 : decode cX5_demandOrder 6 = .ok (.getfield 30, 3) := by decide +kernel
theorem dX5_demandOrder_9 : decode cX5_demandOrder 9 = .ok (.invokevirtual 108, 3) := by decide +kernel
theorem dX5_demandOrder_12 : decode cX5_demandOrder 12 = .ok (.if_icmp .lt 11, 3) := by decide +kernel
theorem dX5_demandOrder_15 : decode cX5_demandOrder 15 = .ok (.new 201, 3) := by decide +kernel
theorem dX5_demandOrder_18 : decode cX5_demandOrder 18 = .ok (.dup, 1) := by decide +kernel
theorem dX5_demandOrder_19 : decode cX5_demandOrder 19 = .ok (.invokespecial 203, 3) := by decide +kernel
theorem dX5_demandOrder_22 : decode cX5_demandOrder 22 = .ok (.athrow, 1) := by decide +kernel
theorem dX5_demandOrder_23 : decode cX5_demandOrder 23 = .ok (.return_, 1) := by decide +kernel
theorem dX5_bestResting_0 : decode cX5_bestResting 0 = .ok (.aconst_null, 1) := by decide +kernel
theorem dX5_bestResting_1 : decode cX5_bestResting 1 = .ok (.astore_n 3, 1) := by decide +kernel
theorem dX5_bestResting_2 : decode cX5_bestResting 2 = .ok (.iconst 0, 1) := by decide +kernel
theorem dX5_bestResting_3 : decode cX5_bestResting 3 = .ok (.istore 4, 2) := by decide +kernel
theorem dX5_bestResting_5 : decode cX5_bestResting 5 = .ok (.iload 4, 2) := by decide +kernel
theorem dX5_bestResting_7 : decode cX5_bestResting 7 = .ok (.aload_n 0, 1) := by decide +kernel
theorem dX5_bestResting_8 : decode cX5_bestResting 8 = .ok (.getfield 30, 3) := by decide +kernel
theorem dX5_bestResting_11 : decode cX5_bestResting 11 = .ok (.invokevirtual 108, 3) := by decide +kernel
theorem dX5_bestResting_14 : decode cX5_bestResting 14 = .ok (.if_icmp .ge 65, 3) := by decide +kernel
theorem dX5_bestResting_17 : decode cX5_bestResting 17 = .ok (.aload_n 0, 1) := by decide +kernel
theorem dX5_bestResting_18 : decode cX5_bestResting 18 = .ok (.getfield 30, 3) := by decide +kernel
theorem dX5_bestResting_21 : decode cX5_bestResting 21 = .ok (.iload 4, 2) := by decide +kernel
theorem dX5_bestResting_23 : decode cX5_bestResting 23 = .ok (.invokevirtual 131, 3) := by decide +kernel
theorem dX5_bestResting_26 : decode cX5_bestResting 26 = .ok (.checkcast 115, 3) := by decide +kernel
theorem dX5_bestResting_29 : decode cX5_bestResting 29 = .ok (.astore 5, 2) := by decide +kernel
theorem dX5_bestResting_31 : decode cX5_bestResting 31 = .ok (.aload 5, 2) := by decide +kernel
theorem dX5_bestResting_33 : decode cX5_bestResting 33 = .ok (.getfield 135, 3) := by decide +kernel
theorem dX5_bestResting_36 : decode cX5_bestResting 36 = .ok (.ifCond .le 37, 3) := by decide +kernel
theorem dX5_bestResting_39 : decode cX5_bestResting 39 = .ok (.aload 5, 2) := by decide +kernel
theorem dX5_bestResting_41 : decode cX5_bestResting 41 = .ok (.getfield 204, 3) := by decide +kernel
theorem dX5_bestResting_44 : decode cX5_bestResting 44 = .ok (.iload_n 1, 1) := by decide +kernel
theorem dX5_bestResting_45 : decode cX5_bestResting 45 = .ok (.if_icmp .ne 28, 3) := by decide +kernel
theorem dX5_bestResting_48 : decode cX5_bestResting 48 = .ok (.aload 5, 2) := by decide +kernel
theorem dX5_bestResting_50 : decode cX5_bestResting 50 = .ok (.getfield 207, 3) := by decide +kernel
theorem dX5_bestResting_53 : decode cX5_bestResting 53 = .ok (.iload_n 2, 1) := by decide +kernel
theorem dX5_bestResting_54 : decode cX5_bestResting 54 = .ok (.if_icmp .ne 19, 3) := by decide +kernel
theorem dX5_bestResting_57 : decode cX5_bestResting 57 = .ok (.aload_n 3, 1) := by decide +kernel
theorem dX5_bestResting_58 : decode cX5_bestResting 58 = .ok (.ifnull 12, 3) := by decide +kernel
theorem dX5_bestResting_61 : decode cX5_bestResting 61 = .ok (.aload 5, 2) := by decide +kernel
theorem dX5_bestResting_63 : decode cX5_bestResting 63 = .ok (.aload_n 3, 1) := by decide +kernel
theorem dX5_bestResting_64 : decode cX5_bestResting 64 = .ok (.invokestatic 210, 3) := by decide +kernel
theorem dX5_bestResting_67 : decode cX5_bestResting 67 = .ok (.ifCond .eq 6, 3) := by decide +kernel
theorem dX5_bestResting_70 : decode cX5_bestResting 70 = .ok (.aload 5, 2) := by decide +kernel
theorem dX5_bestResting_72 : decode cX5_bestResting 72 = .ok (.astore_n 3, 1) := by decide +kernel
theorem dX5_bestResting_73 : decode cX5_bestResting 73 = .ok (.iinc 4 1, 3) := by decide +kernel
theorem dX5_bestResting_76 : decode cX5_bestResting 76 = .ok (.goto (-71), 3) := by decide +kernel
theorem dX5_bestResting_79 : decode cX5_bestResting 79 = .ok (.aload_n 3, 1) := by decide +kernel
theorem dX5_bestResting_80 : decode cX5_bestResting 80 = .ok (.areturn, 1) := by decide +kernel
theorem dX5_isBetter_0 : decode cX5_isBetter 0 = .ok (.aload_n 0, 1) := by decide +kernel
theorem dX5_isBetter_1 : decode cX5_isBetter 1 = .ok (.getfield 207, 3) := by decide +kernel
theorem dX5_isBetter_4 : decode cX5_isBetter 4 = .ok (.ifCond .eq 22, 3) := by decide +kernel
theorem dX5_isBetter_7 : decode cX5_isBetter 7 = .ok (.aload_n 0, 1) := by decide +kernel
theorem dX5_isBetter_8 : decode cX5_isBetter 8 = .ok (.getfield 214, 3) := by decide +kernel
theorem dX5_isBetter_11 : decode cX5_isBetter 11 = .ok (.aload_n 1, 1) := by decide +kernel
theorem dX5_isBetter_12 : decode cX5_isBetter 12 = .ok (.getfield 214, 3) := by decide +kernel
theorem dX5_isBetter_15 : decode cX5_isBetter 15 = .ok (.if_icmp .le 7, 3) := by decide +kernel
theorem dX5_isBetter_18 : decode cX5_isBetter 18 = .ok (.iconst 1, 1) := by decide +kernel
theorem dX5_isBetter_19 : decode cX5_isBetter 19 = .ok (.goto 23, 3) := by decide +kernel
theorem dX5_isBetter_22 : decode cX5_isBetter 22 = .ok (.iconst 0, 1) := by decide +kernel
theorem dX5_isBetter_23 : decode cX5_isBetter 23 = .ok (.goto 19, 3) := by decide +kernel
theorem dX5_isBetter_26 : decode cX5_isBetter 26 = .ok (.aload_n 0, 1) := by decide +kernel
theorem dX5_isBetter_27 : decode cX5_isBetter 27 = .ok (.getfield 214, 3) := by decide +kernel
theorem dX5_isBetter_30 : decode cX5_isBetter 30 = .ok (.aload_n 1, 1) := by decide +kernel
theorem dX5_isBetter_31 : decode cX5_isBetter 31 = .ok (.getfield 214, 3) := by decide +kernel
theorem dX5_isBetter_34 : decode cX5_isBetter 34 = .ok (.if_icmp .ge 7, 3) := by decide +kernel
theorem dX5_isBetter_37 : decode cX5_isBetter 37 = .ok (.iconst 1, 1) := by decide +kernel
theorem dX5_isBetter_38 : decode cX5_isBetter 38 = .ok (.goto 4, 3) := by decide +kernel
theorem dX5_isBetter_41 : decode cX5_isBetter 41 = .ok (.iconst 0, 1) := by decide +kernel
theorem dX5_isBetter_42 : decode cX5_isBetter 42 = .ok (.ireturn, 1) := by decide +kernel
theorem dX5_match_0 : decode cX5_match 0 = .ok (.iconst 0, 1) := by decide +kernel
theorem dX5_match_1 : decode cX5_match 1 = .ok (.istore_n 2, 1) := by decide +kernel
theorem dX5_match_2 : decode cX5_match 2 = .ok (.iload_n 2, 1) := by decide +kernel
theorem dX5_match_3 : decode cX5_match 3 = .ok (.bipush 100, 2) := by decide +kernel
theorem dX5_match_5 : decode cX5_match 5 = .ok (.if_icmp .ge 104, 3) := by decide +kernel
theorem dX5_match_8 : decode cX5_match 8 = .ok (.aload_n 1, 1) := by decide +kernel
theorem dX5_match_9 : decode cX5_match 9 = .ok (.getfield 135, 3) := by decide +kernel
theorem dX5_match_12 : decode cX5_match 12 = .ok (.ifCond .le 97, 3) := by decide +kernel
theorem dX5_match_15 : decode cX5_match 15 = .ok (.aload_n 0, 1) := by decide +kernel
theorem dX5_match_16 : decode cX5_match 16 = .ok (.aload_n 1, 1) := by decide +kernel
theorem dX5_match_17 : decode cX5_match 17 = .ok (.getfield 204, 3) := by decide +kernel
theorem dX5_match_20 : decode cX5_match 20 = .ok (.aload_n 1, 1) := by decide +kernel
theorem dX5_match_21 : decode cX5_match 21 = .ok (.getfield 207, 3) := by decide +kernel
theorem dX5_match_24 : decode cX5_match 24 = .ok (.ifCond .ne 7, 3) := by decide +kernel
theorem dX5_match_27 : decode cX5_match 27 = .ok (.iconst 1, 1) := by decide +kernel
theorem dX5_match_28 : decode cX5_match 28 = .ok (.goto 4, 3) := by decide +kernel
theorem dX5_match_31 : decode cX5_match 31 = .ok (.iconst 0, 1) := by decide +kernel
theorem dX5_match_32 : decode cX5_match 32 = .ok (.invokevirtual 142, 3) := by decide +kernel
theorem dX5_match_35 : decode cX5_match 35 = .ok (.astore_n 3, 1) := by decide +kernel
theorem dX5_match_36 : decode cX5_match 36 = .ok (.aload_n 3, 1) := by decide +kernel
theorem dX5_match_37 : decode cX5_match 37 = .ok (.ifnull 11, 3) := by decide +kernel
theorem dX5_match_40 : decode cX5_match 40 = .ok (.aload_n 1, 1) := by decide +kernel
theorem dX5_match_41 : decode cX5_match 41 = .ok (.aload_n 3, 1) := by decide +kernel
theorem dX5_match_42 : decode cX5_match 42 = .ok (.invokestatic 217, 3) := by decide +kernel
theorem dX5_match_45 : decode cX5_match 45 = .ok (.ifCond .ne 4, 3) := by decide +kernel
theorem dX5_match_48 : decode cX5_match 48 = .ok (.return_, 1) := by decide +kernel
theorem dX5_match_49 : decode cX5_match 49 = .ok (.aload_n 3, 1) := by decide +kernel
theorem dX5_match_50 : decode cX5_match 50 = .ok (.getfield 220, 3) := by decide +kernel
theorem dX5_match_53 : decode cX5_match 53 = .ok (.aload_n 1, 1) := by decide +kernel
theorem dX5_match_54 : decode cX5_match 54 = .ok (.getfield 220, 3) := by decide +kernel
theorem dX5_match_57 : decode cX5_match 57 = .ok (.if_icmp .ne 11, 3) := by decide +kernel
theorem dX5_match_60 : decode cX5_match 60 = .ok (.aload_n 3, 1) := by decide +kernel
theorem dX5_match_61 : decode cX5_match 61 = .ok (.iconst 0, 1) := by decide +kernel
theorem dX5_match_62 : decode cX5_match 62 = .ok (.putfield 135, 3) := by decide +kernel
theorem dX5_match_65 : decode cX5_match 65 = .ok (.goto 38, 3) := by decide +kernel
theorem dX5_match_68 : decode cX5_match 68 = .ok (.aload_n 1, 1) := by decide +kernel
theorem dX5_match_69 : decode cX5_match 69 = .ok (.getfield 135, 3) := by decide +kernel
theorem dX5_match_72 : decode cX5_match 72 = .ok (.aload_n 3, 1) := by decide +kernel
theorem dX5_match_73 : decode cX5_match 73 = .ok (.getfield 135, 3) := by decide +kernel
theorem dX5_match_76 : decode cX5_match 76 = .ok (.invokestatic 223, 3) := by decide +kernel
theorem dX5_match_79 : decode cX5_match 79 = .ok (.istore 4, 2) := by decide +kernel
theorem dX5_match_81 : decode cX5_match 81 = .ok (.aload_n 1, 1) := by decide +kernel
theorem dX5_match_82 : decode cX5_match 82 = .ok (.dup, 1) := by decide +kernel
theorem dX5_match_83 : decode cX5_match 83 = .ok (.getfield 135, 3) := by decide +kernel
theorem dX5_match_86 : decode cX5_match 86 = .ok (.iload 4, 2) := by decide +kernel
theorem dX5_match_88 : decode cX5_match 88 = .ok (.isub, 1) := by decide +kernel
theorem dX5_match_89 : decode cX5_match 89 = .ok (.putfield 135, 3) := by decide +kernel
theorem dX5_match_92 : decode cX5_match 92 = .ok (.aload_n 0, 1) := by decide +kernel
theorem dX5_match_93 : decode cX5_match 93 = .ok (.aload_n 1, 1) := by decide +kernel
theorem dX5_match_94 : decode cX5_match 94 = .ok (.getfield 220, 3) := by decide +kernel
theorem dX5_match_97 : decode cX5_match 97 = .ok (.aload_n 3, 1) := by decide +kernel
theorem dX5_match_98 : decode cX5_match 98 = .ok (.iload 4, 2) := by decide +kernel
theorem dX5_match_100 : decode cX5_match 100 = .ok (.invokevirtual 229, 3) := by decide +kernel
theorem dX5_match_103 : decode cX5_match 103 = .ok (.iinc 2 1, 3) := by decide +kernel
theorem dX5_match_106 : decode cX5_match 106 = .ok (.goto (-104), 3) := by decide +kernel
theorem dX5_match_109 : decode cX5_match 109 = .ok (.return_, 1) := by decide +kernel
theorem dX5_meet_0 : decode cX5_meet 0 = .ok (.aload_n 0, 1) := by decide +kernel
theorem dX5_meet_1 : decode cX5_meet 1 = .ok (.getfield 207, 3) := by decide +kernel
theorem dX5_meet_4 : decode cX5_meet 4 = .ok (.ifCond .eq 22, 3) := by decide +kernel
theorem dX5_meet_7 : decode cX5_meet 7 = .ok (.aload_n 0, 1) := by decide +kernel
theorem dX5_meet_8 : decode cX5_meet 8 = .ok (.getfield 214, 3) := by decide +kernel
theorem dX5_meet_11 : decode cX5_meet 11 = .ok (.aload_n 1, 1) := by decide +kernel
theorem dX5_meet_12 : decode cX5_meet 12 = .ok (.getfield 214, 3) := by decide +kernel
theorem dX5_meet_15 : decode cX5_meet 15 = .ok (.if_icmp .lt 7, 3) := by decide +kernel
theorem dX5_meet_18 : decode cX5_meet 18 = .ok (.iconst 1, 1) := by decide +kernel
theorem dX5_meet_19 : decode cX5_meet 19 = .ok (.goto 23, 3) := by decide +kernel
theorem dX5_meet_22 : decode cX5_meet 22 = .ok (.iconst 0, 1) := by decide +kernel
theorem dX5_meet_23 : decode cX5_meet 23 = .ok (.goto 19, 3) := by decide +kernel
theorem dX5_meet_26 : decode cX5_meet 26 = .ok (.aload_n 0, 1) := by decide +kernel
theorem dX5_meet_27 : decode cX5_meet 27 = .ok (.getfield 214, 3) := by decide +kernel
theorem dX5_meet_30 : decode cX5_meet 30 = .ok (.aload_n 1, 1) := by decide +kernel
theorem dX5_meet_31 : decode cX5_meet 31 = .ok (.getfield 214, 3) := by decide +kernel
theorem dX5_meet_34 : decode cX5_meet 34 = .ok (.if_icmp .gt 7, 3) := by decide +kernel
theorem dX5_meet_37 : decode cX5_meet 37 = .ok (.iconst 1, 1) := by decide +kernel
theorem dX5_meet_38 : decode cX5_meet 38 = .ok (.goto 4, 3) := by decide +kernel
theorem dX5_meet_41 : decode cX5_meet 41 = .ok (.iconst 0, 1) := by decide +kernel
theorem dX5_meet_42 : decode cX5_meet 42 = .ok (.ireturn, 1) := by decide +kernel
theorem dX5_tradeWithResting_0 : decode cX5_tradeWithResting 0 = .ok (.aload_n 2, 1) := by decide +kernel
theorem dX5_tradeWithResting_1 : decode cX5_tradeWithResting 1 = .ok (.dup, 1) := by decide +kernel
theorem dX5_tradeWithResting_2 : decode cX5_tradeWithResting 2 = .ok (.getfield 135, 3) := by decide +kernel
theorem dX5_tradeWithResting_5 : decode cX5_tradeWithResting 5 = .ok (.iload_n 3, 1) := by decide +kernel
theorem dX5_tradeWithResting_6 : decode cX5_tradeWithResting 6 = .ok (.isub, 1) := by decide +kernel
theorem dX5_tradeWithResting_7 : decode cX5_tradeWithResting 7 = .ok (.putfield 135, 3) := by decide +kernel
theorem dX5_tradeWithResting_10 : decode cX5_tradeWithResting 10 = .ok (.aload_n 2, 1) := by decide +kernel
theorem dX5_tradeWithResting_11 : decode cX5_tradeWithResting 11 = .ok (.getfield 207, 3) := by decide +kernel
theorem dX5_tradeWithResting_14 : decode cX5_tradeWithResting 14 = .ok (.ifCond .eq 24, 3) := by decide +kernel
theorem dX5_tradeWithResting_17 : decode cX5_tradeWithResting 17 = .ok (.aload_n 0, 1) := by decide +kernel
theorem dX5_tradeWithResting_18 : decode cX5_tradeWithResting 18 = .ok (.aload_n 2, 1) := by decide +kernel
theorem dX5_tradeWithResting_19 : decode cX5_tradeWithResting 19 = .ok (.getfield 220, 3) := by decide +kernel
theorem dX5_tradeWithResting_22 : decode cX5_tradeWithResting 22 = .ok (.iload_n 1, 1) := by decide +kernel
theorem dX5_tradeWithResting_23 : decode cX5_tradeWithResting 23 = .ok (.aload_n 2, 1) := by decide +kernel
theorem dX5_tradeWithResting_24 : decode cX5_tradeWithResting 24 = .ok (.getfield 204, 3) := by decide +kernel
theorem dX5_tradeWithResting_27 : decode cX5_tradeWithResting 27 = .ok (.iload_n 3, 1) := by decide +kernel
theorem dX5_tradeWithResting_28 : decode cX5_tradeWithResting 28 = .ok (.aload_n 2, 1) := by decide +kernel
theorem dX5_tradeWithResting_29 : decode cX5_tradeWithResting 29 = .ok (.getfield 214, 3) := by decide +kernel
theorem dX5_tradeWithResting_32 : decode cX5_tradeWithResting 32 = .ok (.invokevirtual 233, 3) := by decide +kernel
theorem dX5_tradeWithResting_35 : decode cX5_tradeWithResting 35 = .ok (.goto 21, 3) := by decide +kernel
theorem dX5_tradeWithResting_38 : decode cX5_tradeWithResting 38 = .ok (.aload_n 0, 1) := by decide +kernel
theorem dX5_tradeWithResting_39 : decode cX5_tradeWithResting 39 = .ok (.iload_n 1, 1) := by decide +kernel
theorem dX5_tradeWithResting_40 : decode cX5_tradeWithResting 40 = .ok (.aload_n 2, 1) := by decide +kernel
theorem dX5_tradeWithResting_41 : decode cX5_tradeWithResting 41 = .ok (.getfield 220, 3) := by decide +kernel
theorem dX5_tradeWithResting_44 : decode cX5_tradeWithResting 44 = .ok (.aload_n 2, 1) := by decide +kernel
theorem dX5_tradeWithResting_45 : decode cX5_tradeWithResting 45 = .ok (.getfield 204, 3) := by decide +kernel
theorem dX5_tradeWithResting_48 : decode cX5_tradeWithResting 48 = .ok (.iload_n 3, 1) := by decide +kernel
theorem dX5_tradeWithResting_49 : decode cX5_tradeWithResting 49 = .ok (.aload_n 2, 1) := by decide +kernel
theorem dX5_tradeWithResting_50 : decode cX5_tradeWithResting 50 = .ok (.getfield 214, 3) := by decide +kernel
theorem dX5_tradeWithResting_53 : decode cX5_tradeWithResting 53 = .ok (.invokevirtual 233, 3) := by decide +kernel
theorem dX5_tradeWithResting_56 : decode cX5_tradeWithResting 56 = .ok (.return_, 1) := by decide +kernel
theorem dX5_trade_0 : decode cX5_trade 0 = .ok (.aload_n 0, 1) := by decide +kernel
theorem dX5_trade_1 : decode cX5_trade 1 = .ok (.getfield 11, 3) := by decide +kernel
theorem dX5_trade_4 : decode cX5_trade 4 = .ok (.iload_n 1, 1) := by decide +kernel
theorem dX5_trade_5 : decode cX5_trade 5 = .ok (.aaload, 1) := by decide +kernel
theorem dX5_trade_6 : decode cX5_trade 6 = .ok (.iload_n 3, 1) := by decide +kernel
theorem dX5_trade_7 : decode cX5_trade 7 = .ok (.iload 4, 2) := by decide +kernel
theorem dX5_trade_9 : decode cX5_trade 9 = .ok (.iload 5, 2) := by decide +kernel
theorem dX5_trade_11 : decode cX5_trade 11 = .ok (.invokestatic 237, 3) := by decide +kernel
theorem dX5_trade_14 : decode cX5_trade 14 = .ok (.aload_n 0, 1) := by decide +kernel
theorem dX5_trade_15 : decode cX5_trade 15 = .ok (.getfield 11, 3) := by decide +kernel
theorem dX5_trade_18 : decode cX5_trade 18 = .ok (.iload_n 2, 1) := by decide +kernel
theorem dX5_trade_19 : decode cX5_trade 19 = .ok (.aaload, 1) := by decide +kernel
theorem dX5_trade_20 : decode cX5_trade 20 = .ok (.iload_n 3, 1) := by decide +kernel
theorem dX5_trade_21 : decode cX5_trade 21 = .ok (.iload 4, 2) := by decide +kernel
theorem dX5_trade_23 : decode cX5_trade 23 = .ok (.ineg, 1) := by decide +kernel
theorem dX5_trade_24 : decode cX5_trade 24 = .ok (.iload 5, 2) := by decide +kernel
theorem dX5_trade_26 : decode cX5_trade 26 = .ok (.invokestatic 237, 3) := by decide +kernel
theorem dX5_trade_29 : decode cX5_trade 29 = .ok (.aload_n 0, 1) := by decide +kernel
theorem dX5_trade_30 : decode cX5_trade 30 = .ok (.getfield 34, 3) := by decide +kernel
theorem dX5_trade_33 : decode cX5_trade 33 = .ok (.new 180, 3) := by decide +kernel
theorem dX5_trade_36 : decode cX5_trade 36 = .ok (.dup, 1) := by decide +kernel
theorem dX5_trade_37 : decode cX5_trade 37 = .ok (.iload_n 1, 1) := by decide +kernel
theorem dX5_trade_38 : decode cX5_trade 38 = .ok (.iload_n 2, 1) := by decide +kernel
theorem dX5_trade_39 : decode cX5_trade 39 = .ok (.iload_n 3, 1) := by decide +kernel
theorem dX5_trade_40 : decode cX5_trade 40 = .ok (.iload 4, 2) := by decide +kernel
theorem dX5_trade_42 : decode cX5_trade 42 = .ok (.iload 5, 2) := by decide +kernel
theorem dX5_trade_44 : decode cX5_trade 44 = .ok (.invokespecial 241, 3) := by decide +kernel
theorem dX5_trade_47 : decode cX5_trade 47 = .ok (.invokevirtual 120, 3) := by decide +kernel
theorem dX5_trade_50 : decode cX5_trade 50 = .ok (.pop, 1) := by decide +kernel
theorem dX5_trade_51 : decode cX5_trade 51 = .ok (.aload_n 0, 1) := by decide +kernel
theorem dX5_trade_52 : decode cX5_trade 52 = .ok (.dup, 1) := by decide +kernel
theorem dX5_trade_53 : decode cX5_trade 53 = .ok (.getfield 152, 3) := by decide +kernel
theorem dX5_trade_56 : decode cX5_trade 56 = .ok (.iconst 1, 1) := by decide +kernel
theorem dX5_trade_57 : decode cX5_trade 57 = .ok (.iadd, 1) := by decide +kernel
theorem dX5_trade_58 : decode cX5_trade 58 = .ok (.putfield 152, 3) := by decide +kernel
theorem dX5_trade_61 : decode cX5_trade 61 = .ok (.return_, 1) := by decide +kernel
theorem dX5_book_0 : decode cX5_book 0 = .ok (.aload_n 0, 1) := by decide +kernel
theorem dX5_book_1 : decode cX5_book 1 = .ok (.getfield 171, 3) := by decide +kernel
theorem dX5_book_4 : decode cX5_book 4 = .ok (.iload_n 1, 1) := by decide +kernel
theorem dX5_book_5 : decode cX5_book 5 = .ok (.dup2, 1) := by decide +kernel
theorem dX5_book_6 : decode cX5_book 6 = .ok (.iaload, 1) := by decide +kernel
theorem dX5_book_7 : decode cX5_book 7 = .ok (.iload_n 2, 1) := by decide +kernel
theorem dX5_book_8 : decode cX5_book 8 = .ok (.iadd, 1) := by decide +kernel
theorem dX5_book_9 : decode cX5_book 9 = .ok (.iastore, 1) := by decide +kernel
theorem dX5_book_10 : decode cX5_book 10 = .ok (.aload_n 0, 1) := by decide +kernel
theorem dX5_book_11 : decode cX5_book 11 = .ok (.getfield 243, 3) := by decide +kernel
theorem dX5_book_14 : decode cX5_book 14 = .ok (.iload_n 1, 1) := by decide +kernel
theorem dX5_book_15 : decode cX5_book 15 = .ok (.dup2, 1) := by decide +kernel
theorem dX5_book_16 : decode cX5_book 16 = .ok (.laload, 1) := by decide +kernel
theorem dX5_book_17 : decode cX5_book 17 = .ok (.iload_n 2, 1) := by decide +kernel
theorem dX5_book_18 : decode cX5_book 18 = .ok (.i2l, 1) := by decide +kernel
theorem dX5_book_19 : decode cX5_book 19 = .ok (.iload_n 3, 1) := by decide +kernel
theorem dX5_book_20 : decode cX5_book 20 = .ok (.i2l, 1) := by decide +kernel
theorem dX5_book_21 : decode cX5_book 21 = .ok (.lmul, 1) := by decide +kernel
theorem dX5_book_22 : decode cX5_book 22 = .ok (.ladd, 1) := by decide +kernel
theorem dX5_book_23 : decode cX5_book 23 = .ok (.lastore, 1) := by decide +kernel
theorem dX5_book_24 : decode cX5_book 24 = .ok (.return_, 1) := by decide +kernel
theorem dX5_cancelOrdersFor_0 : decode cX5_cancelOrdersFor 0 = .ok (.iconst 0, 1) := by decide +kernel
theorem dX5_cancelOrdersFor_1 : decode cX5_cancelOrdersFor 1 = .ok (.istore_n 2, 1) := by decide +kernel
theorem dX5_cancelOrdersFor_2 : decode cX5_cancelOrdersFor 2 = .ok (.iconst 0, 1) := by decide +kernel
theorem dX5_cancelOrdersFor_3 : decode cX5_cancelOrdersFor 3 = .ok (.istore_n 3, 1) := by decide +kernel
theorem dX5_cancelOrdersFor_4 : decode cX5_cancelOrdersFor 4 = .ok (.iload_n 3, 1) := by decide +kernel
theorem dX5_cancelOrdersFor_5 : decode cX5_cancelOrdersFor 5 = .ok (.aload_n 0, 1) := by decide +kernel
theorem dX5_cancelOrdersFor_6 : decode cX5_cancelOrdersFor 6 = .ok (.getfield 30, 3) := by decide +kernel
theorem dX5_cancelOrdersFor_9 : decode cX5_cancelOrdersFor 9 = .ok (.invokevirtual 108, 3) := by decide +kernel
theorem dX5_cancelOrdersFor_12 : decode cX5_cancelOrdersFor 12 = .ok (.if_icmp .ge 48, 3) := by decide +kernel
theorem dX5_cancelOrdersFor_15 : decode cX5_cancelOrdersFor 15 = .ok (.aload_n 0, 1) := by decide +kernel
theorem dX5_cancelOrdersFor_16 : decode cX5_cancelOrdersFor 16 = .ok (.getfield 30, 3) := by decide +kernel
theorem dX5_cancelOrdersFor_19 : decode cX5_cancelOrdersFor 19 = .ok (.iload_n 3, 1) := by decide +kernel
theorem dX5_cancelOrdersFor_20 : decode cX5_cancelOrdersFor 20 = .ok (.invokevirtual 131, 3) := by decide +kernel
theorem dX5_cancelOrdersFor_23 : decode cX5_cancelOrdersFor 23 = .ok (.checkcast 115, 3) := by decide +kernel
theorem dX5_cancelOrdersFor_26 : decode cX5_cancelOrdersFor 26 = .ok (.astore 4, 2) := by decide +kernel
theorem dX5_cancelOrdersFor_28 : decode cX5_cancelOrdersFor 28 = .ok (.aload 4, 2) := by decide +kernel
theorem dX5_cancelOrdersFor_30 : decode cX5_cancelOrdersFor 30 = .ok (.getfield 135, 3) := by decide +kernel
theorem dX5_cancelOrdersFor_33 : decode cX5_cancelOrdersFor 33 = .ok (.ifCond .le 21, 3) := by decide +kernel
theorem dX5_cancelOrdersFor_36 : decode cX5_cancelOrdersFor 36 = .ok (.aload 4, 2) := by decide +kernel
theorem dX5_cancelOrdersFor_38 : decode cX5_cancelOrdersFor 38 = .ok (.getfield 204, 3) := by decide +kernel
theorem dX5_cancelOrdersFor_41 : decode cX5_cancelOrdersFor 41 = .ok (.iload_n 1, 1) := by decide +kernel
theorem dX5_cancelOrdersFor_42 : decode cX5_cancelOrdersFor 42 = .ok (.if_icmp .ne 12, 3) := by decide +kernel
theorem dX5_cancelOrdersFor_45 : decode cX5_cancelOrdersFor 45 = .ok (.aload 4, 2) := by decide +kernel
theorem dX5_cancelOrdersFor_47 : decode cX5_cancelOrdersFor 47 = .ok (.iconst 0, 1) := by decide +kernel
theorem dX5_cancelOrdersFor_48 : decode cX5_cancelOrdersFor 48 = .ok (.putfield 135, 3) := by decide +kernel
theorem dX5_cancelOrdersFor_51 : decode cX5_cancelOrdersFor 51 = .ok (.iinc 2 1, 3) := by decide +kernel
theorem dX5_cancelOrdersFor_54 : decode cX5_cancelOrdersFor 54 = .ok (.iinc 3 1, 3) := by decide +kernel
theorem dX5_cancelOrdersFor_57 : decode cX5_cancelOrdersFor 57 = .ok (.goto (-53), 3) := by decide +kernel
theorem dX5_cancelOrdersFor_60 : decode cX5_cancelOrdersFor 60 = .ok (.iload_n 2, 1) := by decide +kernel
theorem dX5_cancelOrdersFor_61 : decode cX5_cancelOrdersFor 61 = .ok (.ireturn, 1) := by decide +kernel
theorem dX5_cancelOrdersOf_0 : decode cX5_cancelOrdersOf 0 = .ok (.iconst 0, 1) := by decide +kernel
theorem dX5_cancelOrdersOf_1 : decode cX5_cancelOrdersOf 1 = .ok (.istore_n 2, 1) := by decide +kernel
theorem dX5_cancelOrdersOf_2 : decode cX5_cancelOrdersOf 2 = .ok (.iload_n 2, 1) := by decide +kernel
theorem dX5_cancelOrdersOf_3 : decode cX5_cancelOrdersOf 3 = .ok (.aload_n 0, 1) := by decide +kernel
theorem dX5_cancelOrdersOf_4 : decode cX5_cancelOrdersOf 4 = .ok (.getfield 30, 3) := by decide +kernel
theorem dX5_cancelOrdersOf_7 : decode cX5_cancelOrdersOf 7 = .ok (.invokevirtual 108, 3) := by decide +kernel
theorem dX5_cancelOrdersOf_10 : decode cX5_cancelOrdersOf 10 = .ok (.if_icmp .ge 34, 3) := by decide +kernel
theorem dX5_cancelOrdersOf_13 : decode cX5_cancelOrdersOf 13 = .ok (.aload_n 0, 1) := by decide +kernel
theorem dX5_cancelOrdersOf_14 : decode cX5_cancelOrdersOf 14 = .ok (.getfield 30, 3) := by decide +kernel
theorem dX5_cancelOrdersOf_17 : decode cX5_cancelOrdersOf 17 = .ok (.iload_n 2, 1) := by decide +kernel
theorem dX5_cancelOrdersOf_18 : decode cX5_cancelOrdersOf 18 = .ok (.invokevirtual 131, 3) := by decide +kernel
theorem dX5_cancelOrdersOf_21 : decode cX5_cancelOrdersOf 21 = .ok (.checkcast 115, 3) := by decide +kernel
theorem dX5_cancelOrdersOf_24 : decode cX5_cancelOrdersOf 24 = .ok (.astore_n 3, 1) := by decide +kernel
theorem dX5_cancelOrdersOf_25 : decode cX5_cancelOrdersOf 25 = .ok (.aload_n 3, 1) := by decide +kernel
theorem dX5_cancelOrdersOf_26 : decode cX5_cancelOrdersOf 26 = .ok (.getfield 220, 3) := by decide +kernel
theorem dX5_cancelOrdersOf_29 : decode cX5_cancelOrdersOf 29 = .ok (.iload_n 1, 1) := by decide +kernel
theorem dX5_cancelOrdersOf_30 : decode cX5_cancelOrdersOf 30 = .ok (.if_icmp .ne 8, 3) := by decide +kernel
theorem dX5_cancelOrdersOf_33 : decode cX5_cancelOrdersOf 33 = .ok (.aload_n 3, 1) := by decide +kernel
theorem dX5_cancelOrdersOf_34 : decode cX5_cancelOrdersOf 34 = .ok (.iconst 0, 1) := by decide +kernel
theorem dX5_cancelOrdersOf_35 : decode cX5_cancelOrdersOf 35 = .ok (.putfield 135, 3) := by decide +kernel
theorem dX5_cancelOrdersOf_38 : decode cX5_cancelOrdersOf 38 = .ok (.iinc 2 1, 3) := by decide +kernel
theorem dX5_cancelOrdersOf_41 : decode cX5_cancelOrdersOf 41 = .ok (.goto (-39), 3) := by decide +kernel
theorem dX5_cancelOrdersOf_44 : decode cX5_cancelOrdersOf 44 = .ok (.return_, 1) := by decide +kernel
theorem dX5_freeOf_0 : decode cX5_freeOf 0 = .ok (.aload_n 0, 1) := by decide +kernel
theorem dX5_freeOf_1 : decode cX5_freeOf 1 = .ok (.iload_n 1, 1) := by decide +kernel
theorem dX5_freeOf_2 : decode cX5_freeOf 2 = .ok (.invokevirtual 174, 3) := by decide +kernel
theorem dX5_freeOf_5 : decode cX5_freeOf 5 = .ok (.aload_n 0, 1) := by decide +kernel
theorem dX5_freeOf_6 : decode cX5_freeOf 6 = .ok (.iload_n 1, 1) := by decide +kernel
theorem dX5_freeOf_7 : decode cX5_freeOf 7 = .ok (.invokevirtual 189, 3) := by decide +kernel
theorem dX5_freeOf_10 : decode cX5_freeOf 10 = .ok (.ladd, 1) := by decide +kernel
theorem dX5_freeOf_11 : decode cX5_freeOf 11 = .ok (.aload_n 0, 1) := by decide +kernel
theorem dX5_freeOf_12 : decode cX5_freeOf 12 = .ok (.iload_n 1, 1) := by decide +kernel
theorem dX5_freeOf_13 : decode cX5_freeOf 13 = .ok (.invokevirtual 186, 3) := by decide +kernel
theorem dX5_freeOf_16 : decode cX5_freeOf 16 = .ok (.lsub, 1) := by decide +kernel
theorem dX5_freeOf_17 : decode cX5_freeOf 17 = .ok (.lreturn, 1) := by decide +kernel
theorem dX5_equityOf_0 : decode cX5_equityOf 0 = .ok (.aload_n 0, 1) := by decide +kernel
theorem dX5_equityOf_1 : decode cX5_equityOf 1 = .ok (.getfield 11, 3) := by decide +kernel
theorem dX5_equityOf_4 : decode cX5_equityOf 4 = .ok (.iload_n 1, 1) := by decide +kernel
theorem dX5_equityOf_5 : decode cX5_equityOf 5 = .ok (.aaload, 1) := by decide +kernel
theorem dX5_equityOf_6 : decode cX5_equityOf 6 = .ok (.astore_n 2, 1) := by decide +kernel
theorem dX5_equityOf_7 : decode cX5_equityOf 7 = .ok (.aload_n 2, 1) := by decide +kernel
theorem dX5_equityOf_8 : decode cX5_equityOf 8 = .ok (.getfield 94, 3) := by decide +kernel
theorem dX5_equityOf_11 : decode cX5_equityOf 11 = .ok (.lstore_n 3, 1) := by decide +kernel
theorem dX5_equityOf_12 : decode cX5_equityOf 12 = .ok (.iconst 0, 1) := by decide +kernel
theorem dX5_equityOf_13 : decode cX5_equityOf 13 = .ok (.istore 5, 2) := by decide +kernel
theorem dX5_equityOf_15 : decode cX5_equityOf 15 = .ok (.iload 5, 2) := by decide +kernel
theorem dX5_equityOf_17 : decode cX5_equityOf 17 = .ok (.iconst 3, 1) := by decide +kernel
theorem dX5_equityOf_18 : decode cX5_equityOf 18 = .ok (.if_icmp .ge 19, 3) := by decide +kernel
theorem dX5_equityOf_21 : decode cX5_equityOf 21 = .ok (.lload_n 3, 1) := by decide +kernel
theorem dX5_equityOf_22 : decode cX5_equityOf 22 = .ok (.aload_n 0, 1) := by decide +kernel
theorem dX5_equityOf_23 : decode cX5_equityOf 23 = .ok (.aload_n 2, 1) := by decide +kernel
theorem dX5_equityOf_24 : decode cX5_equityOf 24 = .ok (.iload 5, 2) := by decide +kernel
theorem dX5_equityOf_26 : decode cX5_equityOf 26 = .ok (.invokevirtual 246, 3) := by decide +kernel
theorem dX5_equityOf_29 : decode cX5_equityOf 29 = .ok (.ladd, 1) := by decide +kernel
theorem dX5_equityOf_30 : decode cX5_equityOf 30 = .ok (.lstore_n 3, 1) := by decide +kernel
theorem dX5_equityOf_31 : decode cX5_equityOf 31 = .ok (.iinc 5 1, 3) := by decide +kernel
theorem dX5_equityOf_34 : decode cX5_equityOf 34 = .ok (.goto (-19), 3) := by decide +kernel
theorem dX5_equityOf_37 : decode cX5_equityOf 37 = .ok (.lload_n 3, 1) := by decide +kernel
theorem dX5_equityOf_38 : decode cX5_equityOf 38 = .ok (.lreturn, 1) := by decide +kernel
theorem dX5_differenceOf_0 : decode cX5_differenceOf 0 = .ok (.aload_n 1, 1) := by decide +kernel
theorem dX5_differenceOf_1 : decode cX5_differenceOf 1 = .ok (.getfield 171, 3) := by decide +kernel
theorem dX5_differenceOf_4 : decode cX5_differenceOf 4 = .ok (.iload_n 2, 1) := by decide +kernel
theorem dX5_differenceOf_5 : decode cX5_differenceOf 5 = .ok (.iaload, 1) := by decide +kernel
theorem dX5_differenceOf_6 : decode cX5_differenceOf 6 = .ok (.i2l, 1) := by decide +kernel
theorem dX5_differenceOf_7 : decode cX5_differenceOf 7 = .ok (.aload_n 0, 1) := by decide +kernel
theorem dX5_differenceOf_8 : decode cX5_differenceOf 8 = .ok (.getfield 17, 3) := by decide +kernel
theorem dX5_differenceOf_11 : decode cX5_differenceOf 11 = .ok (.iload_n 2, 1) := by decide +kernel
theorem dX5_differenceOf_12 : decode cX5_differenceOf 12 = .ok (.aaload, 1) := by decide +kernel
theorem dX5_differenceOf_13 : decode cX5_differenceOf 13 = .ok (.getfield 52, 3) := by decide +kernel
theorem dX5_differenceOf_16 : decode cX5_differenceOf 16 = .ok (.i2l, 1) := by decide +kernel
theorem dX5_differenceOf_17 : decode cX5_differenceOf 17 = .ok (.lmul, 1) := by decide +kernel
theorem dX5_differenceOf_18 : decode cX5_differenceOf 18 = .ok (.aload_n 1, 1) := by decide +kernel
theorem dX5_differenceOf_19 : decode cX5_differenceOf 19 = .ok (.getfield 243, 3) := by decide +kernel
theorem dX5_differenceOf_22 : decode cX5_differenceOf 22 = .ok (.iload_n 2, 1) := by decide +kernel
theorem dX5_differenceOf_23 : decode cX5_differenceOf 23 = .ok (.laload, 1) := by decide +kernel
theorem dX5_differenceOf_24 : decode cX5_differenceOf 24 = .ok (.lsub, 1) := by decide +kernel
theorem dX5_differenceOf_25 : decode cX5_differenceOf 25 = .ok (.lreturn, 1) := by decide +kernel
theorem dX5_gainOf_0 : decode cX5_gainOf 0 = .ok (.aload_n 2, 1) := by decide +kernel
theorem dX5_gainOf_1 : decode cX5_gainOf 1 = .ok (.getfield 250, 3) := by decide +kernel
theorem dX5_gainOf_4 : decode cX5_gainOf 4 = .ok (.i2l, 1) := by decide +kernel
theorem dX5_gainOf_5 : decode cX5_gainOf 5 = .ok (.aload_n 0, 1) := by decide +kernel
theorem dX5_gainOf_6 : decode cX5_gainOf 6 = .ok (.getfield 17, 3) := by decide +kernel
theorem dX5_gainOf_9 : decode cX5_gainOf 9 = .ok (.aload_n 2, 1) := by decide +kernel
theorem dX5_gainOf_10 : decode cX5_gainOf 10 = .ok (.getfield 253, 3) := by decide +kernel
theorem dX5_gainOf_13 : decode cX5_gainOf 13 = .ok (.aaload, 1) := by decide +kernel
theorem dX5_gainOf_14 : decode cX5_gainOf 14 = .ok (.getfield 52, 3) := by decide +kernel
theorem dX5_gainOf_17 : decode cX5_gainOf 17 = .ok (.aload_n 2, 1) := by decide +kernel
theorem dX5_gainOf_18 : decode cX5_gainOf 18 = .ok (.getfield 254, 3) := by decide +kernel
theorem dX5_gainOf_21 : decode cX5_gainOf 21 = .ok (.isub, 1) := by decide +kernel
theorem dX5_gainOf_22 : decode cX5_gainOf 22 = .ok (.i2l, 1) := by decide +kernel
theorem dX5_gainOf_23 : decode cX5_gainOf 23 = .ok (.lmul, 1) := by decide +kernel
theorem dX5_gainOf_24 : decode cX5_gainOf 24 = .ok (.lstore_n 3, 1) := by decide +kernel
theorem dX5_gainOf_25 : decode cX5_gainOf 25 = .ok (.aload_n 2, 1) := by decide +kernel
theorem dX5_gainOf_26 : decode cX5_gainOf 26 = .ok (.getfield 255, 3) := by decide +kernel
theorem dX5_gainOf_29 : decode cX5_gainOf 29 = .ok (.iload_n 1, 1) := by decide +kernel
theorem dX5_gainOf_30 : decode cX5_gainOf 30 = .ok (.if_icmp .ne 5, 3) := by decide +kernel
theorem dX5_gainOf_33 : decode cX5_gainOf 33 = .ok (.lload_n 3, 1) := by decide +kernel
theorem dX5_gainOf_34 : decode cX5_gainOf 34 = .ok (.lreturn, 1) := by decide +kernel
theorem dX5_gainOf_35 : decode cX5_gainOf 35 = .ok (.aload_n 2, 1) := by decide +kernel
theorem dX5_gainOf_36 : decode cX5_gainOf 36 = .ok (.getfield 258, 3) := by decide +kernel
theorem dX5_gainOf_39 : decode cX5_gainOf 39 = .ok (.iload_n 1, 1) := by decide +kernel
theorem dX5_gainOf_40 : decode cX5_gainOf 40 = .ok (.if_icmp .ne 8, 3) := by decide +kernel
theorem dX5_gainOf_43 : decode cX5_gainOf 43 = .ok (.lload_n 3, 1) := by decide +kernel
theorem dX5_gainOf_44 : decode cX5_gainOf 44 = .ok (.lneg, 1) := by decide +kernel
theorem dX5_gainOf_45 : decode cX5_gainOf 45 = .ok (.goto 4, 3) := by decide +kernel
theorem dX5_gainOf_48 : decode cX5_gainOf 48 = .ok (.lconst 0, 1) := by decide +kernel
theorem dX5_gainOf_49 : decode cX5_gainOf 49 = .ok (.lreturn, 1) := by decide +kernel
theorem dX5_collateralOf_0 : decode cX5_collateralOf 0 = .ok (.lconst 0, 1) := by decide +kernel
theorem dX5_collateralOf_1 : decode cX5_collateralOf 1 = .ok (.lstore_n 2, 1) := by decide +kernel
theorem dX5_collateralOf_2 : decode cX5_collateralOf 2 = .ok (.iconst 0, 1) := by decide +kernel
theorem dX5_collateralOf_3 : decode cX5_collateralOf 3 = .ok (.istore 4, 2) := by decide +kernel
theorem dX5_collateralOf_5 : decode cX5_collateralOf 5 = .ok (.iload 4, 2) := by decide +kernel
theorem dX5_collateralOf_7 : decode cX5_collateralOf 7 = .ok (.iconst 2, 1) := by decide +kernel
theorem dX5_collateralOf_8 : decode cX5_collateralOf 8 = .ok (.if_icmp .ge 30, 3) := by decide +kernel
theorem dX5_collateralOf_11 : decode cX5_collateralOf 11 = .ok (.lload_n 2, 1) := by decide +kernel
theorem dX5_collateralOf_12 : decode cX5_collateralOf 12 = .ok (.aload_n 0, 1) := by decide +kernel
theorem dX5_collateralOf_13 : decode cX5_collateralOf 13 = .ok (.iload 4, 2) := by decide +kernel
theorem dX5_collateralOf_15 : decode cX5_collateralOf 15 = .ok (.aload_n 0, 1) := by decide +kernel
theorem dX5_collateralOf_16 : decode cX5_collateralOf 16 = .ok (.getfield 11, 3) := by decide +kernel
theorem dX5_collateralOf_19 : decode cX5_collateralOf 19 = .ok (.iload_n 1, 1) := by decide +kernel
theorem dX5_collateralOf_20 : decode cX5_collateralOf 20 = .ok (.aaload, 1) := by decide +kernel
theorem dX5_collateralOf_21 : decode cX5_collateralOf 21 = .ok (.getfield 98, 3) := by decide +kernel
theorem dX5_collateralOf_24 : decode cX5_collateralOf 24 = .ok (.iload 4, 2) := by decide +kernel
theorem dX5_collateralOf_26 : decode cX5_collateralOf 26 = .ok (.iaload, 1) := by decide +kernel
theorem dX5_collateralOf_27 : decode cX5_collateralOf 27 = .ok (.invokevirtual 101, 3) := by decide +kernel
theorem dX5_collateralOf_30 : decode cX5_collateralOf 30 = .ok (.ladd, 1) := by decide +kernel
theorem dX5_collateralOf_31 : decode cX5_collateralOf 31 = .ok (.lstore_n 2, 1) := by decide +kernel
theorem dX5_collateralOf_32 : decode cX5_collateralOf 32 = .ok (.iinc 4 1, 3) := by decide +kernel
theorem dX5_collateralOf_35 : decode cX5_collateralOf 35 = .ok (.goto (-30), 3) := by decide +kernel
theorem dX5_collateralOf_38 : decode cX5_collateralOf 38 = .ok (.lload_n 2, 1) := by decide +kernel
theorem dX5_collateralOf_39 : decode cX5_collateralOf 39 = .ok (.lreturn, 1) := by decide +kernel
theorem dX5_worthOf_0 : decode cX5_worthOf 0 = .ok (.aload_n 0, 1) := by decide +kernel
theorem dX5_worthOf_1 : decode cX5_worthOf 1 = .ok (.getfield 23, 3) := by decide +kernel
theorem dX5_worthOf_4 : decode cX5_worthOf 4 = .ok (.iload_n 1, 1) := by decide +kernel
theorem dX5_worthOf_5 : decode cX5_worthOf 5 = .ok (.aaload, 1) := by decide +kernel
theorem dX5_worthOf_6 : decode cX5_worthOf 6 = .ok (.getfield 63, 3) := by decide +kernel
theorem dX5_worthOf_9 : decode cX5_worthOf 9 = .ok (.iconst 3, 1) := by decide +kernel
theorem dX5_worthOf_10 : decode cX5_worthOf 10 = .ok (.iaload, 1) := by decide +kernel
theorem dX5_worthOf_11 : decode cX5_worthOf 11 = .ok (.istore_n 3, 1) := by decide +kernel
theorem dX5_worthOf_12 : decode cX5_worthOf 12 = .ok (.iload_n 2, 1) := by decide +kernel
theorem dX5_worthOf_13 : decode cX5_worthOf 13 = .ok (.i2l, 1) := by decide +kernel
theorem dX5_worthOf_14 : decode cX5_worthOf 14 = .ok (.iload_n 3, 1) := by decide +kernel
theorem dX5_worthOf_15 : decode cX5_worthOf 15 = .ok (.i2l, 1) := by decide +kernel
theorem dX5_worthOf_16 : decode cX5_worthOf 16 = .ok (.lmul, 1) := by decide +kernel
theorem dX5_worthOf_17 : decode cX5_worthOf 17 = .ok (.bipush 100, 2) := by decide +kernel
theorem dX5_worthOf_19 : decode cX5_worthOf 19 = .ok (.aload_n 0, 1) := by decide +kernel
theorem dX5_worthOf_20 : decode cX5_worthOf 20 = .ok (.getfield 23, 3) := by decide +kernel
theorem dX5_worthOf_23 : decode cX5_worthOf 23 = .ok (.iload_n 1, 1) := by decide +kernel
theorem dX5_worthOf_24 : decode cX5_worthOf 24 = .ok (.aaload, 1) := by decide +kernel
theorem dX5_worthOf_25 : decode cX5_worthOf 25 = .ok (.getfield 70, 3) := by decide +kernel
theorem dX5_worthOf_28 : decode cX5_worthOf 28 = .ok (.isub, 1) := by decide +kernel
theorem dX5_worthOf_29 : decode cX5_worthOf 29 = .ok (.i2l, 1) := by decide +kernel
theorem dX5_worthOf_30 : decode cX5_worthOf 30 = .ok (.lmul, 1) := by decide +kernel
theorem dX5_worthOf_31 : decode cX5_worthOf 31 = .ok (.ldc2_w 261, 3) := by decide +kernel
theorem dX5_worthOf_34 : decode cX5_worthOf 34 = .ok (.ldiv, 1) := by decide +kernel
theorem dX5_worthOf_35 : decode cX5_worthOf 35 = .ok (.lreturn, 1) := by decide +kernel
theorem dX5_haircutBy_0 : decode cX5_haircutBy 0 = .ok (.iload_n 1, 1) := by decide +kernel
theorem dX5_haircutBy_1 : decode cX5_haircutBy 1 = .ok (.istore_n 2, 1) := by decide +kernel
theorem dX5_haircutBy_2 : decode cX5_haircutBy 2 = .ok (.iload_n 1, 1) := by decide +kernel
theorem dX5_haircutBy_3 : decode cX5_haircutBy 3 = .ok (.istore_n 3, 1) := by decide +kernel
theorem dX5_haircutBy_4 : decode cX5_haircutBy 4 = .ok (.iconst 0, 1) := by decide +kernel
theorem dX5_haircutBy_5 : decode cX5_haircutBy 5 = .ok (.istore 4, 2) := by decide +kernel
theorem dX5_haircutBy_7 : decode cX5_haircutBy 7 = .ok (.iload 4, 2) := by decide +kernel
theorem dX5_haircutBy_9 : decode cX5_haircutBy 9 = .ok (.aload_n 0, 1) := by decide +kernel
theorem dX5_haircutBy_10 : decode cX5_haircutBy 10 = .ok (.arraylength, 1) := by decide +kernel
theorem dX5_haircutBy_11 : decode cX5_haircutBy 11 = .ok (.if_icmp .ge 27, 3) := by decide +kernel
theorem dX5_haircutBy_14 : decode cX5_haircutBy 14 = .ok (.iload_n 2, 1) := by decide +kernel
theorem dX5_haircutBy_15 : decode cX5_haircutBy 15 = .ok (.aload_n 0, 1) := by decide +kernel
theorem dX5_haircutBy_16 : decode cX5_haircutBy 16 = .ok (.iload 4, 2) := by decide +kernel
theorem dX5_haircutBy_18 : decode cX5_haircutBy 18 = .ok (.iaload, 1) := by decide +kernel
theorem dX5_haircutBy_19 : decode cX5_haircutBy 19 = .ok (.invokestatic 263, 3) := by decide +kernel
theorem dX5_haircutBy_22 : decode cX5_haircutBy 22 = .ok (.istore_n 2, 1) := by decide +kernel
theorem dX5_haircutBy_23 : decode cX5_haircutBy 23 = .ok (.iload_n 3, 1) := by decide +kernel
theorem dX5_haircutBy_24 : decode cX5_haircutBy 24 = .ok (.aload_n 0, 1) := by decide +kernel
theorem dX5_haircutBy_25 : decode cX5_haircutBy 25 = .ok (.iload 4, 2) := by decide +kernel
theorem dX5_haircutBy_27 : decode cX5_haircutBy 27 = .ok (.iaload, 1) := by decide +kernel
theorem dX5_haircutBy_28 : decode cX5_haircutBy 28 = .ok (.invokestatic 223, 3) := by decide +kernel
theorem dX5_haircutBy_31 : decode cX5_haircutBy 31 = .ok (.istore_n 3, 1) := by decide +kernel
theorem dX5_haircutBy_32 : decode cX5_haircutBy 32 = .ok (.iinc 4 1, 3) := by decide +kernel
theorem dX5_haircutBy_35 : decode cX5_haircutBy 35 = .ok (.goto (-28), 3) := by decide +kernel
theorem dX5_haircutBy_38 : decode cX5_haircutBy 38 = .ok (.bipush 90, 2) := by decide +kernel
theorem dX5_haircutBy_40 : decode cX5_haircutBy 40 = .ok (.bipush 10, 2) := by decide +kernel
theorem dX5_haircutBy_42 : decode cX5_haircutBy 42 = .ok (.iload_n 2, 1) := by decide +kernel
theorem dX5_haircutBy_43 : decode cX5_haircutBy 43 = .ok (.iload_n 3, 1) := by decide +kernel
theorem dX5_haircutBy_44 : decode cX5_haircutBy 44 = .ok (.isub, 1) := by decide +kernel
theorem dX5_haircutBy_45 : decode cX5_haircutBy 45 = .ok (.bipush 100, 2) := by decide +kernel
theorem dX5_haircutBy_47 : decode cX5_haircutBy 47 = .ok (.imul, 1) := by decide +kernel
theorem dX5_haircutBy_48 : decode cX5_haircutBy 48 = .ok (.iload_n 1, 1) := by decide +kernel
theorem dX5_haircutBy_49 : decode cX5_haircutBy 49 = .ok (.invokestatic 266, 3) := by decide +kernel
theorem dX5_haircutBy_52 : decode cX5_haircutBy 52 = .ok (.iadd, 1) := by decide +kernel
theorem dX5_haircutBy_53 : decode cX5_haircutBy 53 = .ok (.invokestatic 223, 3) := by decide +kernel
theorem dX5_haircutBy_56 : decode cX5_haircutBy 56 = .ok (.ireturn, 1) := by decide +kernel
theorem dX5_dividedUp_0 : decode cX5_dividedUp 0 = .ok (.iload_n 1, 1) := by decide +kernel
theorem dX5_dividedUp_1 : decode cX5_dividedUp 1 = .ok (.iconst 1, 1) := by decide +kernel
theorem dX5_dividedUp_2 : decode cX5_dividedUp 2 = .ok (.if_icmp .ge 7, 3) := by decide +kernel
theorem dX5_dividedUp_5 : decode cX5_dividedUp 5 = .ok (.iconst 0, 1) := by decide +kernel
theorem dX5_dividedUp_6 : decode cX5_dividedUp 6 = .ok (.goto 10, 3) := by decide +kernel
theorem dX5_dividedUp_9 : decode cX5_dividedUp 9 = .ok (.iload_n 0, 1) := by decide +kernel
theorem dX5_dividedUp_10 : decode cX5_dividedUp 10 = .ok (.iload_n 1, 1) := by decide +kernel
theorem dX5_dividedUp_11 : decode cX5_dividedUp 11 = .ok (.iadd, 1) := by decide +kernel
theorem dX5_dividedUp_12 : decode cX5_dividedUp 12 = .ok (.iconst 1, 1) := by decide +kernel
theorem dX5_dividedUp_13 : decode cX5_dividedUp 13 = .ok (.isub, 1) := by decide +kernel
theorem dX5_dividedUp_14 : decode cX5_dividedUp 14 = .ok (.iload_n 1, 1) := by decide +kernel
theorem dX5_dividedUp_15 : decode cX5_dividedUp 15 = .ok (.idiv, 1) := by decide +kernel
theorem dX5_dividedUp_16 : decode cX5_dividedUp 16 = .ok (.ireturn, 1) := by decide +kernel
theorem dX5_marginOf_0 : decode cX5_marginOf 0 = .ok (.iconst 0, 1) := by decide +kernel
theorem dX5_marginOf_1 : decode cX5_marginOf 1 = .ok (.istore_n 2, 1) := by decide +kernel
theorem dX5_marginOf_2 : decode cX5_marginOf 2 = .ok (.iload_n 2, 1) := by decide +kernel
theorem dX5_marginOf_3 : decode cX5_marginOf 3 = .ok (.iconst 4, 1) := by decide +kernel
theorem dX5_marginOf_4 : decode cX5_marginOf 4 = .ok (.if_icmp .ge 16, 3) := by decide +kernel
theorem dX5_marginOf_7 : decode cX5_marginOf 7 = .ok (.aload_n 0, 1) := by decide +kernel
theorem dX5_marginOf_8 : decode cX5_marginOf 8 = .ok (.getfield 37, 3) := by decide +kernel
theorem dX5_marginOf_11 : decode cX5_marginOf 11 = .ok (.iload_n 2, 1) := by decide +kernel
theorem dX5_marginOf_12 : decode cX5_marginOf 12 = .ok (.lconst 0, 1) := by decide +kernel
theorem dX5_marginOf_13 : decode cX5_marginOf 13 = .ok (.lastore, 1) := by decide +kernel
theorem dX5_marginOf_14 : decode cX5_marginOf 14 = .ok (.iinc 2 1, 3) := by decide +kernel
theorem dX5_marginOf_17 : decode cX5_marginOf 17 = .ok (.goto (-15), 3) := by decide +kernel
theorem dX5_marginOf_20 : decode cX5_marginOf 20 = .ok (.iconst 0, 1) := by decide +kernel
theorem dX5_marginOf_21 : decode cX5_marginOf 21 = .ok (.istore_n 2, 1) := by decide +kernel
theorem dX5_marginOf_22 : decode cX5_marginOf 22 = .ok (.iload_n 2, 1) := by decide +kernel
theorem dX5_marginOf_23 : decode cX5_marginOf 23 = .ok (.iconst 3, 1) := by decide +kernel
theorem dX5_marginOf_24 : decode cX5_marginOf 24 = .ok (.if_icmp .ge 99, 3) := by decide +kernel
theorem dX5_marginOf_27 : decode cX5_marginOf 27 = .ok (.aload_n 0, 1) := by decide +kernel
theorem dX5_marginOf_28 : decode cX5_marginOf 28 = .ok (.getfield 11, 3) := by decide +kernel
theorem dX5_marginOf_31 : decode cX5_marginOf 31 = .ok (.iload_n 1, 1) := by decide +kernel
theorem dX5_marginOf_32 : decode cX5_marginOf 32 = .ok (.aaload, 1) := by decide +kernel
theorem dX5_marginOf_33 : decode cX5_marginOf 33 = .ok (.getfield 171, 3) := by decide +kernel
theorem dX5_marginOf_36 : decode cX5_marginOf 36 = .ok (.iload_n 2, 1) := by decide +kernel
theorem dX5_marginOf_37 : decode cX5_marginOf 37 = .ok (.iaload, 1) := by decide +kernel
theorem dX5_marginOf_38 : decode cX5_marginOf 38 = .ok (.i2l, 1) := by decide +kernel
theorem dX5_marginOf_39 : decode cX5_marginOf 39 = .ok (.lstore_n 3, 1) := by decide +kernel
theorem dX5_marginOf_40 : decode cX5_marginOf 40 = .ok (.lload_n 3, 1) := by decide +kernel
theorem dX5_marginOf_41 : decode cX5_marginOf 41 = .ok (.aload_n 0, 1) := by decide +kernel
theorem dX5_marginOf_42 : decode cX5_marginOf 42 = .ok (.iload_n 1, 1) := by decide +kernel
theorem dX5_marginOf_43 : decode cX5_marginOf 43 = .ok (.iload_n 2, 1) := by decide +kernel
theorem dX5_marginOf_44 : decode cX5_marginOf 44 = .ok (.iconst 1, 1) := by decide +kernel
theorem dX5_marginOf_45 : decode cX5_marginOf 45 = .ok (.invokevirtual 269, 3) := by decide +kernel
theorem dX5_marginOf_48 : decode cX5_marginOf 48 = .ok (.ladd, 1) := by decide +kernel
theorem dX5_marginOf_49 : decode cX5_marginOf 49 = .ok (.lstore 5, 2) := by decide +kernel
theorem dX5_marginOf_51 : decode cX5_marginOf 51 = .ok (.lload_n 3, 1) := by decide +kernel
theorem dX5_marginOf_52 : decode cX5_marginOf 52 = .ok (.aload_n 0, 1) := by decide +kernel
theorem dX5_marginOf_53 : decode cX5_marginOf 53 = .ok (.iload_n 1, 1) := by decide +kernel
theorem dX5_marginOf_54 : decode cX5_marginOf 54 = .ok (.iload_n 2, 1) := by decide +kernel
theorem dX5_marginOf_55 : decode cX5_marginOf 55 = .ok (.iconst 0, 1) := by decide +kernel
theorem dX5_marginOf_56 : decode cX5_marginOf 56 = .ok (.invokevirtual 269, 3) := by decide +kernel
theorem dX5_marginOf_59 : decode cX5_marginOf 59 = .ok (.lsub, 1) := by decide +kernel
theorem dX5_marginOf_60 : decode cX5_marginOf 60 = .ok (.lstore 7, 2) := by decide +kernel
theorem dX5_marginOf_62 : decode cX5_marginOf 62 = .ok (.iconst 0, 1) := by decide +kernel
theorem dX5_marginOf_63 : decode cX5_marginOf 63 = .ok (.istore 9, 2) := by decide +kernel
theorem dX5_marginOf_65 : decode cX5_marginOf 65 = .ok (.iload 9, 2) := by decide +kernel
theorem dX5_marginOf_67 : decode cX5_marginOf 67 = .ok (.iconst 4, 1) := by decide +kernel
theorem dX5_marginOf_68 : decode cX5_marginOf 68 = .ok (.if_icmp .ge 49, 3) := by decide +kernel
theorem dX5_marginOf_71 : decode cX5_marginOf 71 = .ok (.aload_n 0, 1) := by decide +kernel
theorem dX5_marginOf_72 : decode cX5_marginOf 72 = .ok (.getfield 17, 3) := by decide +kernel
theorem dX5_marginOf_75 : decode cX5_marginOf 75 = .ok (.iload_n 2, 1) := by decide +kernel
theorem dX5_marginOf_76 : decode cX5_marginOf 76 = .ok (.aaload, 1) := by decide +kernel
theorem dX5_marginOf_77 : decode cX5_marginOf 77 = .ok (.getfield 56, 3) := by decide +kernel
theorem dX5_marginOf_80 : decode cX5_marginOf 80 = .ok (.iload 9, 2) := by decide +kernel
theorem dX5_marginOf_82 : decode cX5_marginOf 82 = .ok (.iaload, 1) := by decide +kernel
theorem dX5_marginOf_83 : decode cX5_marginOf 83 = .ok (.i2l, 1) := by decide +kernel
theorem dX5_marginOf_84 : decode cX5_marginOf 84 = .ok (.lstore 10, 2) := by decide +kernel
theorem dX5_marginOf_86 : decode cX5_marginOf 86 = .ok (.aload_n 0, 1) := by decide +kernel
theorem dX5_marginOf_87 : decode cX5_marginOf 87 = .ok (.getfield 37, 3) := by decide +kernel
theorem dX5_marginOf_90 : decode cX5_marginOf 90 = .ok (.iload 9, 2) := by decide +kernel
theorem dX5_marginOf_92 : decode cX5_marginOf 92 = .ok (.dup2, 1) := by decide +kernel
theorem dX5_marginOf_93 : decode cX5_marginOf 93 = .ok (.laload, 1) := by decide +kernel
theorem dX5_marginOf_94 : decode cX5_marginOf 94 = .ok (.lload 5, 2) := by decide +kernel
theorem dX5_marginOf_96 : decode cX5_marginOf 96 = .ok (.lneg, 1) := by decide +kernel
theorem dX5_marginOf_97 : decode cX5_marginOf 97 = .ok (.lload 10, 2) := by decide +kernel
theorem dX5_marginOf_99 : decode cX5_marginOf 99 = .ok (.lmul, 1) := by decide +kernel
theorem dX5_marginOf_100 : decode cX5_marginOf 100 = .ok (.lload 7, 2) := by decide +kernel
theorem dX5_marginOf_102 : decode cX5_marginOf 102 = .ok (.lneg, 1) := by decide +kernel
theorem dX5_marginOf_103 : decode cX5_marginOf 103 = .ok (.lload 10, 2) := by decide +kernel
theorem dX5_marginOf_105 : decode cX5_marginOf 105 = .ok (.lmul, 1) := by decide +kernel
theorem dX5_marginOf_106 : decode cX5_marginOf 106 = .ok (.invokestatic 273, 3) := by decide +kernel
theorem dX5_marginOf_109 : decode cX5_marginOf 109 = .ok (.ladd, 1) := by decide +kernel
theorem dX5_marginOf_110 : decode cX5_marginOf 110 = .ok (.lastore, 1) := by decide +kernel
theorem dX5_marginOf_111 : decode cX5_marginOf 111 = .ok (.iinc 9 1, 3) := by decide +kernel
theorem dX5_marginOf_114 : decode cX5_marginOf 114 = .ok (.goto (-49), 3) := by decide +kernel
theorem dX5_marginOf_117 : decode cX5_marginOf 117 = .ok (.iinc 2 1, 3) := by decide +kernel
theorem dX5_marginOf_120 : decode cX5_marginOf 120 = .ok (.goto (-98), 3) := by decide +kernel
theorem dX5_marginOf_123 : decode cX5_marginOf 123 = .ok (.lconst 0, 1) := by decide +kernel
theorem dX5_marginOf_124 : decode cX5_marginOf 124 = .ok (.lstore_n 2, 1) := by decide +kernel
theorem dX5_marginOf_125 : decode cX5_marginOf 125 = .ok (.iconst 0, 1) := by decide +kernel
theorem dX5_marginOf_126 : decode cX5_marginOf 126 = .ok (.istore 4, 2) := by decide +kernel
theorem dX5_marginOf_128 : decode cX5_marginOf 128 = .ok (.iload 4, 2) := by decide +kernel
theorem dX5_marginOf_130 : decode cX5_marginOf 130 = .ok (.iconst 4, 1) := by decide +kernel
theorem dX5_marginOf_131 : decode cX5_marginOf 131 = .ok (.if_icmp .ge 21, 3) := by decide +kernel
theorem dX5_marginOf_134 : decode cX5_marginOf 134 = .ok (.lload_n 2, 1) := by decide +kernel
theorem dX5_marginOf_135 : decode cX5_marginOf 135 = .ok (.aload_n 0, 1) := by decide +kernel
theorem dX5_marginOf_136 : decode cX5_marginOf 136 = .ok (.getfield 37, 3) := by decide +kernel
theorem dX5_marginOf_139 : decode cX5_marginOf 139 = .ok (.iload 4, 2) := by decide +kernel
theorem dX5_marginOf_141 : decode cX5_marginOf 141 = .ok (.laload, 1) := by decide +kernel
theorem dX5_marginOf_142 : decode cX5_marginOf 142 = .ok (.invokestatic 273, 3) := by decide +kernel
theorem dX5_marginOf_145 : decode cX5_marginOf 145 = .ok (.lstore_n 2, 1) := by decide +kernel
theorem dX5_marginOf_146 : decode cX5_marginOf 146 = .ok (.iinc 4 1, 3) := by decide +kernel
theorem dX5_marginOf_149 : decode cX5_marginOf 149 = .ok (.goto (-21), 3) := by decide +kernel
theorem dX5_marginOf_152 : decode cX5_marginOf 152 = .ok (.lload_n 2, 1) := by decide +kernel
theorem dX5_marginOf_153 : decode cX5_marginOf 153 = .ok (.lreturn, 1) := by decide +kernel
theorem dX5_restOf_0 : decode cX5_restOf 0 = .ok (.lconst 0, 1) := by decide +kernel
theorem dX5_restOf_1 : decode cX5_restOf 1 = .ok (.lstore 4, 2) := by decide +kernel
theorem dX5_restOf_3 : decode cX5_restOf 3 = .ok (.iconst 0, 1) := by decide +kernel
theorem dX5_restOf_4 : decode cX5_restOf 4 = .ok (.istore 6, 2) := by decide +kernel
theorem dX5_restOf_6 : decode cX5_restOf 6 = .ok (.iload 6, 2) := by decide +kernel
theorem dX5_restOf_8 : decode cX5_restOf 8 = .ok (.aload_n 0, 1) := by decide +kernel
theorem dX5_restOf_9 : decode cX5_restOf 9 = .ok (.getfield 30, 3) := by decide +kernel
theorem dX5_restOf_12 : decode cX5_restOf 12 = .ok (.invokevirtual 108, 3) := by decide +kernel
theorem dX5_restOf_15 : decode cX5_restOf 15 = .ok (.if_icmp .ge 61, 3) := by decide +kernel
theorem dX5_restOf_18 : decode cX5_restOf 18 = .ok (.aload_n 0, 1) := by decide +kernel
theorem dX5_restOf_19 : decode cX5_restOf 19 = .ok (.getfield 30, 3) := by decide +kernel
theorem dX5_restOf_22 : decode cX5_restOf 22 = .ok (.iload 6, 2) := by decide +kernel
theorem dX5_restOf_24 : decode cX5_restOf 24 = .ok (.invokevirtual 131, 3) := by decide +kernel
theorem dX5_restOf_27 : decode cX5_restOf 27 = .ok (.checkcast 115, 3) := by decide +kernel
theorem dX5_restOf_30 : decode cX5_restOf 30 = .ok (.astore 7, 2) := by decide +kernel
theorem dX5_restOf_32 : decode cX5_restOf 32 = .ok (.aload 7, 2) := by decide +kernel
theorem dX5_restOf_34 : decode cX5_restOf 34 = .ok (.getfield 220, 3) := by decide +kernel
theorem dX5_restOf_37 : decode cX5_restOf 37 = .ok (.iload_n 1, 1) := by decide +kernel
theorem dX5_restOf_38 : decode cX5_restOf 38 = .ok (.if_icmp .ne 32, 3) := by decide +kernel
theorem dX5_restOf_41 : decode cX5_restOf 41 = .ok (.aload 7, 2) := by decide +kernel
theorem dX5_restOf_43 : decode cX5_restOf 43 = .ok (.getfield 204, 3) := by decide +kernel
theorem dX5_restOf_46 : decode cX5_restOf 46 = .ok (.iload_n 2, 1) := by decide +kernel
theorem dX5_restOf_47 : decode cX5_restOf 47 = .ok (.if_icmp .ne 23, 3) := by decide +kernel
theorem dX5_restOf_50 : decode cX5_restOf 50 = .ok (.aload 7, 2) := by decide +kernel
theorem dX5_restOf_52 : decode cX5_restOf 52 = .ok (.getfield 207, 3) := by decide +kernel
theorem dX5_restOf_55 : decode cX5_restOf 55 = .ok (.iload_n 3, 1) := by decide +kernel
theorem dX5_restOf_56 : decode cX5_restOf 56 = .ok (.if_icmp .ne 14, 3) := by decide +kernel
theorem dX5_restOf_59 : decode cX5_restOf 59 = .ok (.lload 4, 2) := by decide +kernel
theorem dX5_restOf_61 : decode cX5_restOf 61 = .ok (.aload 7, 2) := by decide +kernel
theorem dX5_restOf_63 : decode cX5_restOf 63 = .ok (.getfield 135, 3) := by decide +kernel
theorem dX5_restOf_66 : decode cX5_restOf 66 = .ok (.i2l, 1) := by decide +kernel
theorem dX5_restOf_67 : decode cX5_restOf 67 = .ok (.ladd, 1) := by decide +kernel
theorem dX5_restOf_68 : decode cX5_restOf 68 = .ok (.lstore 4, 2) := by decide +kernel
theorem dX5_restOf_70 : decode cX5_restOf 70 = .ok (.iinc 6 1, 3) := by decide +kernel
theorem dX5_restOf_73 : decode cX5_restOf 73 = .ok (.goto (-67), 3) := by decide +kernel
theorem dX5_restOf_76 : decode cX5_restOf 76 = .ok (.lload 4, 2) := by decide +kernel
theorem dX5_restOf_78 : decode cX5_restOf 78 = .ok (.lreturn, 1) := by decide +kernel
theorem dX5_receiveFromOutside_0 : decode cX5_receiveFromOutside 0 = .ok (.aload_n 0, 1) := by decide +kernel
theorem dX5_receiveFromOutside_1 : decode cX5_receiveFromOutside 1 = .ok (.dup, 1) := by decide +kernel
theorem dX5_receiveFromOutside_2 : decode cX5_receiveFromOutside 2 = .ok (.getfield 94, 3) := by decide +kernel
theorem dX5_receiveFromOutside_5 : decode cX5_receiveFromOutside 5 = .ok (.lload_n 1, 1) := by decide +kernel
theorem dX5_receiveFromOutside_6 : decode cX5_receiveFromOutside 6 = .ok (.ladd, 1) := by decide +kernel
theorem dX5_receiveFromOutside_7 : decode cX5_receiveFromOutside 7 = .ok (.putfield 94, 3) := by decide +kernel
theorem dX5_receiveFromOutside_10 : decode cX5_receiveFromOutside 10 = .ok (.aload_n 0, 1) := by decide +kernel
theorem dX5_receiveFromOutside_11 : decode cX5_receiveFromOutside 11 = .ok (.dup, 1) := by decide +kernel
theorem dX5_receiveFromOutside_12 : decode cX5_receiveFromOutside 12 = .ok (.getfield 177, 3) := by decide +kernel
theorem dX5_receiveFromOutside_15 : decode cX5_receiveFromOutside 15 = .ok (.lload_n 1, 1) := by decide +kernel
theorem dX5_receiveFromOutside_16 : decode cX5_receiveFromOutside 16 = .ok (.ladd, 1) := by decide +kernel
theorem dX5_receiveFromOutside_17 : decode cX5_receiveFromOutside 17 = .ok (.putfield 177, 3) := by decide +kernel
theorem dX5_receiveFromOutside_20 : decode cX5_receiveFromOutside 20 = .ok (.return_, 1) := by decide +kernel
theorem dX5_netPositions_0 : decode cX5_netPositions 0 = .ok (.lconst 0, 1) := by decide +kernel
theorem dX5_netPositions_1 : decode cX5_netPositions 1 = .ok (.lstore_n 2, 1) := by decide +kernel
theorem dX5_netPositions_2 : decode cX5_netPositions 2 = .ok (.iconst 0, 1) := by decide +kernel
theorem dX5_netPositions_3 : decode cX5_netPositions 3 = .ok (.istore 4, 2) := by decide +kernel
theorem dX5_netPositions_5 : decode cX5_netPositions 5 = .ok (.iload 4, 2) := by decide +kernel
theorem dX5_netPositions_7 : decode cX5_netPositions 7 = .ok (.iconst 3, 1) := by decide +kernel
theorem dX5_netPositions_8 : decode cX5_netPositions 8 = .ok (.if_icmp .ge 35, 3) := by decide +kernel
theorem dX5_netPositions_11 : decode cX5_netPositions 11 = .ok (.aload_n 0, 1) := by decide +kernel
theorem dX5_netPositions_12 : decode cX5_netPositions 12 = .ok (.aload_n 1, 1) := by decide +kernel
theorem dX5_netPositions_13 : decode cX5_netPositions 13 = .ok (.iload 4, 2) := by decide +kernel
theorem dX5_netPositions_15 : decode cX5_netPositions 15 = .ok (.invokevirtual 246, 3) := by decide +kernel
theorem dX5_netPositions_18 : decode cX5_netPositions 18 = .ok (.lstore 5, 2) := by decide +kernel
theorem dX5_netPositions_20 : decode cX5_netPositions 20 = .ok (.lload_n 2, 1) := by decide +kernel
theorem dX5_netPositions_21 : decode cX5_netPositions 21 = .ok (.lload 5, 2) := by decide +kernel
theorem dX5_netPositions_23 : decode cX5_netPositions 23 = .ok (.ladd, 1) := by decide +kernel
theorem dX5_netPositions_24 : decode cX5_netPositions 24 = .ok (.lstore_n 2, 1) := by decide +kernel
theorem dX5_netPositions_25 : decode cX5_netPositions 25 = .ok (.aload_n 1, 1) := by decide +kernel
theorem dX5_netPositions_26 : decode cX5_netPositions 26 = .ok (.getfield 243, 3) := by decide +kernel
theorem dX5_netPositions_29 : decode cX5_netPositions 29 = .ok (.iload 4, 2) := by decide +kernel
theorem dX5_netPositions_31 : decode cX5_netPositions 31 = .ok (.dup2, 1) := by decide +kernel
theorem dX5_netPositions_32 : decode cX5_netPositions 32 = .ok (.laload, 1) := by decide +kernel
theorem dX5_netPositions_33 : decode cX5_netPositions 33 = .ok (.lload 5, 2) := by decide +kernel
theorem dX5_netPositions_35 : decode cX5_netPositions 35 = .ok (.ladd, 1) := by decide +kernel
theorem dX5_netPositions_36 : decode cX5_netPositions 36 = .ok (.lastore, 1) := by decide +kernel
theorem dX5_netPositions_37 : decode cX5_netPositions 37 = .ok (.iinc 4 1, 3) := by decide +kernel
theorem dX5_netPositions_40 : decode cX5_netPositions 40 = .ok (.goto (-35), 3) := by decide +kernel
theorem dX5_netPositions_43 : decode cX5_netPositions 43 = .ok (.aload_n 1, 1) := by decide +kernel
theorem dX5_netPositions_44 : decode cX5_netPositions 44 = .ok (.dup, 1) := by decide +kernel
theorem dX5_netPositions_45 : decode cX5_netPositions 45 = .ok (.getfield 94, 3) := by decide +kernel
theorem dX5_netPositions_48 : decode cX5_netPositions 48 = .ok (.lload_n 2, 1) := by decide +kernel
theorem dX5_netPositions_49 : decode cX5_netPositions 49 = .ok (.ladd, 1) := by decide +kernel
theorem dX5_netPositions_50 : decode cX5_netPositions 50 = .ok (.putfield 94, 3) := by decide +kernel
theorem dX5_netPositions_53 : decode cX5_netPositions 53 = .ok (.lload_n 2, 1) := by decide +kernel
theorem dX5_netPositions_54 : decode cX5_netPositions 54 = .ok (.lreturn, 1) := by decide +kernel
theorem dX5_countHour_0 : decode cX5_countHour 0 = .ok (.aload_n 0, 1) := by decide +kernel
theorem dX5_countHour_1 : decode cX5_countHour 1 = .ok (.getfield 11, 3) := by decide +kernel
theorem dX5_countHour_4 : decode cX5_countHour 4 = .ok (.iload_n 1, 1) := by decide +kernel
theorem dX5_countHour_5 : decode cX5_countHour 5 = .ok (.aaload, 1) := by decide +kernel
theorem dX5_countHour_6 : decode cX5_countHour 6 = .ok (.astore_n 2, 1) := by decide +kernel
theorem dX5_countHour_7 : decode cX5_countHour 7 = .ok (.aload_n 0, 1) := by decide +kernel
theorem dX5_countHour_8 : decode cX5_countHour 8 = .ok (.iload_n 1, 1) := by decide +kernel
theorem dX5_countHour_9 : decode cX5_countHour 9 = .ok (.invokevirtual 86, 3) := by decide +kernel
theorem dX5_countHour_12 : decode cX5_countHour 12 = .ok (.lconst 0, 1) := by decide +kernel
theorem dX5_countHour_13 : decode cX5_countHour 13 = .ok (.lcmp, 1) := by decide +kernel
theorem dX5_countHour_14 : decode cX5_countHour 14 = .ok (.ifCond .lt 11, 3) := by decide +kernel
theorem dX5_countHour_17 : decode cX5_countHour 17 = .ok (.aload_n 2, 1) := by decide +kernel
theorem dX5_countHour_18 : decode cX5_countHour 18 = .ok (.iconst (-1), 1) := by decide +kernel
theorem dX5_countHour_19 : decode cX5_countHour 19 = .ok (.putfield 168, 3) := by decide +kernel
theorem dX5_countHour_22 : decode cX5_countHour 22 = .ok (.goto 13, 3) := by decide +kernel
theorem dX5_countHour_25 : decode cX5_countHour 25 = .ok (.aload_n 2, 1) := by decide +kernel
theorem dX5_countHour_26 : decode cX5_countHour 26 = .ok (.dup, 1) := by decide +kernel
theorem dX5_countHour_27 : decode cX5_countHour 27 = .ok (.getfield 168, 3) := by decide +kernel
theorem dX5_countHour_30 : decode cX5_countHour 30 = .ok (.iconst 1, 1) := by decide +kernel
theorem dX5_countHour_31 : decode cX5_countHour 31 = .ok (.iadd, 1) := by decide +kernel
theorem dX5_countHour_32 : decode cX5_countHour 32 = .ok (.putfield 168, 3) := by decide +kernel
theorem dX5_countHour_35 : decode cX5_countHour 35 = .ok (.aload_n 2, 1) := by decide +kernel
theorem dX5_countHour_36 : decode cX5_countHour 36 = .ok (.getfield 168, 3) := by decide +kernel
theorem dX5_countHour_39 : decode cX5_countHour 39 = .ok (.ireturn, 1) := by decide +kernel
theorem dX5_closeOut_0 : decode cX5_closeOut 0 = .ok (.aload_n 0, 1) := by decide +kernel
theorem dX5_closeOut_1 : decode cX5_closeOut 1 = .ok (.getfield 11, 3) := by decide +kernel
theorem dX5_closeOut_4 : decode cX5_closeOut 4 = .ok (.iload_n 1, 1) := by decide +kernel
theorem dX5_closeOut_5 : decode cX5_closeOut 5 = .ok (.aaload, 1) := by decide +kernel
theorem dX5_closeOut_6 : decode cX5_closeOut 6 = .ok (.iconst (-1), 1) := by decide +kernel
theorem dX5_closeOut_7 : decode cX5_closeOut 7 = .ok (.putfield 168, 3) := by decide +kernel
theorem dX5_closeOut_10 : decode cX5_closeOut 10 = .ok (.aload_n 0, 1) := by decide +kernel
theorem dX5_closeOut_11 : decode cX5_closeOut 11 = .ok (.iload_n 1, 1) := by decide +kernel
theorem dX5_closeOut_12 : decode cX5_closeOut 12 = .ok (.invokevirtual 276, 3) := by decide +kernel
theorem dX5_closeOut_15 : decode cX5_closeOut 15 = .ok (.aload_n 0, 1) := by decide +kernel
theorem dX5_closeOut_16 : decode cX5_closeOut 16 = .ok (.iload_n 1, 1) := by decide +kernel
theorem dX5_closeOut_17 : decode cX5_closeOut 17 = .ok (.invokevirtual 279, 3) := by decide +kernel
theorem dX5_closeOut_20 : decode cX5_closeOut 20 = .ok (.astore_n 2, 1) := by decide +kernel
theorem dX5_closeOut_21 : decode cX5_closeOut 21 = .ok (.iconst 0, 1) := by decide +kernel
theorem dX5_closeOut_22 : decode cX5_closeOut 22 = .ok (.istore_n 3, 1) := by decide +kernel
theorem dX5_closeOut_23 : decode cX5_closeOut 23 = .ok (.iload_n 3, 1) := by decide +kernel
theorem dX5_closeOut_24 : decode cX5_closeOut 24 = .ok (.aload_n 2, 1) := by decide +kernel
theorem dX5_closeOut_25 : decode cX5_closeOut 25 = .ok (.arraylength, 1) := by decide +kernel
theorem dX5_closeOut_26 : decode cX5_closeOut 26 = .ok (.if_icmp .ge 27, 3) := by decide +kernel
theorem dX5_closeOut_29 : decode cX5_closeOut 29 = .ok (.aload_n 0, 1) := by decide +kernel
theorem dX5_closeOut_30 : decode cX5_closeOut 30 = .ok (.iload_n 1, 1) := by decide +kernel
theorem dX5_closeOut_31 : decode cX5_closeOut 31 = .ok (.invokevirtual 86, 3) := by decide +kernel
theorem dX5_closeOut_34 : decode cX5_closeOut 34 = .ok (.lconst 0, 1) := by decide +kernel
theorem dX5_closeOut_35 : decode cX5_closeOut 35 = .ok (.lcmp, 1) := by decide +kernel
theorem dX5_closeOut_36 : decode cX5_closeOut 36 = .ok (.ifCond .ge 17, 3) := by decide +kernel
theorem dX5_closeOut_39 : decode cX5_closeOut 39 = .ok (.aload_n 0, 1) := by decide +kernel
theorem dX5_closeOut_40 : decode cX5_closeOut 40 = .ok (.iload_n 1, 1) := by decide +kernel
theorem dX5_closeOut_41 : decode cX5_closeOut 41 = .ok (.aload_n 2, 1) := by decide +kernel
theorem dX5_closeOut_42 : decode cX5_closeOut 42 = .ok (.iload_n 3, 1) := by decide +kernel
theorem dX5_closeOut_43 : decode cX5_closeOut 43 = .ok (.iaload, 1) := by decide +kernel
theorem dX5_closeOut_44 : decode cX5_closeOut 44 = .ok (.invokevirtual 283, 3) := by decide +kernel
theorem dX5_closeOut_47 : decode cX5_closeOut 47 = .ok (.iinc 3 1, 3) := by decide +kernel
theorem dX5_closeOut_50 : decode cX5_closeOut 50 = .ok (.goto (-27), 3) := by decide +kernel
theorem dX5_closeOut_53 : decode cX5_closeOut 53 = .ok (.return_, 1) := by decide +kernel
theorem dX5_productsByRisk_0 : decode cX5_productsByRisk 0 = .ok (.iconst 3, 1) := by decide +kernel
theorem dX5_productsByRisk_1 : decode cX5_productsByRisk 1 = .ok (.newarray .int, 2) := by decide +kernel
theorem dX5_productsByRisk_3 : decode cX5_productsByRisk 3 = .ok (.astore_n 2, 1) := by decide +kernel
theorem dX5_productsByRisk_4 : decode cX5_productsByRisk 4 = .ok (.iconst 0, 1) := by decide +kernel
theorem dX5_productsByRisk_5 : decode cX5_productsByRisk 5 = .ok (.istore_n 3, 1) := by decide +kernel
theorem dX5_productsByRisk_6 : decode cX5_productsByRisk 6 = .ok (.iload_n 3, 1) := by decide +kernel
theorem dX5_productsByRisk_7 : decode cX5_productsByRisk 7 = .ok (.iconst 3, 1) := by decide +kernel
theorem dX5_productsByRisk_8 : decode cX5_productsByRisk 8 = .ok (.if_icmp .ge 59, 3) := by decide +kernel
theorem dX5_productsByRisk_11 : decode cX5_productsByRisk 11 = .ok (.iconst 0, 1) := by decide +kernel
theorem dX5_productsByRisk_12 : decode cX5_productsByRisk 12 = .ok (.istore 4, 2) := by decide +kernel
theorem dX5_productsByRisk_14 : decode cX5_productsByRisk 14 = .ok (.iconst 0, 1) := by decide +kernel
theorem dX5_productsByRisk_15 : decode cX5_productsByRisk 15 = .ok (.istore 5, 2) := by decide +kernel
theorem dX5_productsByRisk_17 : decode cX5_productsByRisk 17 = .ok (.iload 5, 2) := by decide +kernel
theorem dX5_productsByRisk_19 : decode cX5_productsByRisk 19 = .ok (.iconst 3, 1) := by decide +kernel
theorem dX5_productsByRisk_20 : decode cX5_productsByRisk 20 = .ok (.if_icmp .ge 30, 3) := by decide +kernel
theorem dX5_productsByRisk_23 : decode cX5_productsByRisk 23 = .ok (.iload 4, 2) := by decide +kernel
theorem dX5_productsByRisk_25 : decode cX5_productsByRisk 25 = .ok (.aload_n 0, 1) := by decide +kernel
theorem dX5_productsByRisk_26 : decode cX5_productsByRisk 26 = .ok (.iload_n 1, 1) := by decide +kernel
theorem dX5_productsByRisk_27 : decode cX5_productsByRisk 27 = .ok (.iload 5, 2) := by decide +kernel
theorem dX5_productsByRisk_29 : decode cX5_productsByRisk 29 = .ok (.iload_n 3, 1) := by decide +kernel
theorem dX5_productsByRisk_30 : decode cX5_productsByRisk 30 = .ok (.invokevirtual 287, 3) := by decide +kernel
theorem dX5_productsByRisk_33 : decode cX5_productsByRisk 33 = .ok (.ifCond .eq 7, 3) := by decide +kernel
theorem dX5_productsByRisk_36 : decode cX5_productsByRisk 36 = .ok (.iconst 1, 1) := by decide +kernel
theorem dX5_productsByRisk_37 : decode cX5_productsByRisk 37 = .ok (.goto 4, 3) := by decide +kernel
theorem dX5_productsByRisk_40 : decode cX5_productsByRisk 40 = .ok (.iconst 0, 1) := by decide +kernel
theorem dX5_productsByRisk_41 : decode cX5_productsByRisk 41 = .ok (.iadd, 1) := by decide +kernel
theorem dX5_productsByRisk_42 : decode cX5_productsByRisk 42 = .ok (.istore 4, 2) := by decide +kernel
theorem dX5_productsByRisk_44 : decode cX5_productsByRisk 44 = .ok (.iinc 5 1, 3) := by decide +kernel
theorem dX5_productsByRisk_47 : decode cX5_productsByRisk 47 = .ok (.goto (-30), 3) := by decide +kernel
theorem dX5_productsByRisk_50 : decode cX5_productsByRisk 50 = .ok (.iload 4, 2) := by decide +kernel
theorem dX5_productsByRisk_52 : decode cX5_productsByRisk 52 = .ok (.iconst 3, 1) := by decide +kernel
theorem dX5_productsByRisk_53 : decode cX5_productsByRisk 53 = .ok (.if_icmp .ge 8, 3) := by decide +kernel
theorem dX5_productsByRisk_56 : decode cX5_productsByRisk 56 = .ok (.aload_n 2, 1) := by decide +kernel
theorem dX5_productsByRisk_57 : decode cX5_productsByRisk 57 = .ok (.iload 4, 2) := by decide +kernel
theorem dX5_productsByRisk_59 : decode cX5_productsByRisk 59 = .ok (.iload_n 3, 1) := by decide +kernel
theorem dX5_productsByRisk_60 : decode cX5_productsByRisk 60 = .ok (.iastore, 1) := by decide +kernel
theorem dX5_productsByRisk_61 : decode cX5_productsByRisk 61 = .ok (.iinc 3 1, 3) := by decide +kernel
theorem dX5_productsByRisk_64 : decode cX5_productsByRisk 64 = .ok (.goto (-58), 3) := by decide +kernel
theorem dX5_productsByRisk_67 : decode cX5_productsByRisk 67 = .ok (.aload_n 2, 1) := by decide +kernel
theorem dX5_productsByRisk_68 : decode cX5_productsByRisk 68 = .ok (.areturn, 1) := by decide +kernel
theorem dX5_goesAhead_0 : decode cX5_goesAhead 0 = .ok (.aload_n 0, 1) := by decide +kernel
theorem dX5_goesAhead_1 : decode cX5_goesAhead 1 = .ok (.iload_n 1, 1) := by decide +kernel
theorem dX5_goesAhead_2 : decode cX5_goesAhead 2 = .ok (.iload_n 2, 1) := by decide +kernel
theorem dX5_goesAhead_3 : decode cX5_goesAhead 3 = .ok (.invokevirtual 291, 3) := by decide +kernel
theorem dX5_goesAhead_6 : decode cX5_goesAhead 6 = .ok (.lstore 4, 2) := by decide +kernel
theorem dX5_goesAhead_8 : decode cX5_goesAhead 8 = .ok (.aload_n 0, 1) := by decide +kernel
theorem dX5_goesAhead_9 : decode cX5_goesAhead 9 = .ok (.iload_n 1, 1) := by decide +kernel
theorem dX5_goesAhead_10 : decode cX5_goesAhead 10 = .ok (.iload_n 3, 1) := by decide +kernel
theorem dX5_goesAhead_11 : decode cX5_goesAhead 11 = .ok (.invokevirtual 291, 3) := by decide +kernel
theorem dX5_goesAhead_14 : decode cX5_goesAhead 14 = .ok (.lstore 6, 2) := by decide +kernel
theorem dX5_goesAhead_16 : decode cX5_goesAhead 16 = .ok (.lload 4, 2) := by decide +kernel
theorem dX5_goesAhead_18 : decode cX5_goesAhead 18 = .ok (.lload 6, 2) := by decide +kernel
theorem dX5_goesAhead_20 : decode cX5_goesAhead 20 = .ok (.lcmp, 1) := by decide +kernel
theorem dX5_goesAhead_21 : decode cX5_goesAhead 21 = .ok (.ifCond .gt 16, 3) := by decide +kernel
theorem dX5_goesAhead_24 : decode cX5_goesAhead 24 = .ok (.lload 4, 2) := by decide +kernel
theorem dX5_goesAhead_26 : decode cX5_goesAhead 26 = .ok (.lload 6, 2) := by decide +kernel
theorem dX5_goesAhead_28 : decode cX5_goesAhead 28 = .ok (.lcmp, 1) := by decide +kernel
theorem dX5_goesAhead_29 : decode cX5_goesAhead 29 = .ok (.ifCond .ne 12, 3) := by decide +kernel
theorem dX5_goesAhead_32 : decode cX5_goesAhead 32 = .ok (.iload_n 2, 1) := by decide +kernel
theorem dX5_goesAhead_33 : decode cX5_goesAhead 33 = .ok (.iload_n 3, 1) := by decide +kernel
theorem dX5_goesAhead_34 : decode cX5_goesAhead 34 = .ok (.if_icmp .ge 7, 3) := by decide +kernel
theorem dX5_goesAhead_37 : decode cX5_goesAhead 37 = .ok (.iconst 1, 1) := by decide +kernel
theorem dX5_goesAhead_38 : decode cX5_goesAhead 38 = .ok (.goto 4, 3) := by decide +kernel
theorem dX5_goesAhead_41 : decode cX5_goesAhead 41 = .ok (.iconst 0, 1) := by decide +kernel
theorem dX5_goesAhead_42 : decode cX5_goesAhead 42 = .ok (.ireturn, 1) := by decide +kernel
theorem dX5_riskOf_0 : decode cX5_riskOf 0 = .ok (.aload_n 0, 1) := by decide +kernel
theorem dX5_riskOf_1 : decode cX5_riskOf 1 = .ok (.getfield 11, 3) := by decide +kernel
theorem dX5_riskOf_4 : decode cX5_riskOf 4 = .ok (.iload_n 1, 1) := by decide +kernel
theorem dX5_riskOf_5 : decode cX5_riskOf 5 = .ok (.aaload, 1) := by decide +kernel
theorem dX5_riskOf_6 : decode cX5_riskOf 6 = .ok (.getfield 171, 3) := by decide +kernel
theorem dX5_riskOf_9 : decode cX5_riskOf 9 = .ok (.iload_n 2, 1) := by decide +kernel
theorem dX5_riskOf_10 : decode cX5_riskOf 10 = .ok (.iaload, 1) := by decide +kernel
theorem dX5_riskOf_11 : decode cX5_riskOf 11 = .ok (.i2l, 1) := by decide +kernel
theorem dX5_riskOf_12 : decode cX5_riskOf 12 = .ok (.lstore_n 3, 1) := by decide +kernel
theorem dX5_riskOf_13 : decode cX5_riskOf 13 = .ok (.aload_n 0, 1) := by decide +kernel
theorem dX5_riskOf_14 : decode cX5_riskOf 14 = .ok (.getfield 17, 3) := by decide +kernel
theorem dX5_riskOf_17 : decode cX5_riskOf 17 = .ok (.iload_n 2, 1) := by decide +kernel
theorem dX5_riskOf_18 : decode cX5_riskOf 18 = .ok (.aaload, 1) := by decide +kernel
theorem dX5_riskOf_19 : decode cX5_riskOf 19 = .ok (.getfield 56, 3) := by decide +kernel
theorem dX5_riskOf_22 : decode cX5_riskOf 22 = .ok (.astore 5, 2) := by decide +kernel
theorem dX5_riskOf_24 : decode cX5_riskOf 24 = .ok (.lload_n 3, 1) := by decide +kernel
theorem dX5_riskOf_25 : decode cX5_riskOf 25 = .ok (.lneg, 1) := by decide +kernel
theorem dX5_riskOf_26 : decode cX5_riskOf 26 = .ok (.aload 5, 2) := by decide +kernel
theorem dX5_riskOf_28 : decode cX5_riskOf 28 = .ok (.iconst 0, 1) := by decide +kernel
theorem dX5_riskOf_29 : decode cX5_riskOf 29 = .ok (.iaload, 1) := by decide +kernel
theorem dX5_riskOf_30 : decode cX5_riskOf 30 = .ok (.i2l, 1) := by decide +kernel
theorem dX5_riskOf_31 : decode cX5_riskOf 31 = .ok (.lmul, 1) := by decide +kernel
theorem dX5_riskOf_32 : decode cX5_riskOf 32 = .ok (.lstore 6, 2) := by decide +kernel
theorem dX5_riskOf_34 : decode cX5_riskOf 34 = .ok (.iconst 1, 1) := by decide +kernel
theorem dX5_riskOf_35 : decode cX5_riskOf 35 = .ok (.istore 8, 2) := by decide +kernel
theorem dX5_riskOf_37 : decode cX5_riskOf 37 = .ok (.iload 8, 2) := by decide +kernel
theorem dX5_riskOf_39 : decode cX5_riskOf 39 = .ok (.iconst 4, 1) := by decide +kernel
theorem dX5_riskOf_40 : decode cX5_riskOf 40 = .ok (.if_icmp .ge 25, 3) := by decide +kernel
theorem dX5_riskOf_43 : decode cX5_riskOf 43 = .ok (.lload 6, 2) := by decide +kernel
theorem dX5_riskOf_45 : decode cX5_riskOf 45 = .ok (.lload_n 3, 1) := by decide +kernel
theorem dX5_riskOf_46 : decode cX5_riskOf 46 = .ok (.lneg, 1) := by decide +kernel
theorem dX5_riskOf_47 : decode cX5_riskOf 47 = .ok (.aload 5, 2) := by decide +kernel
theorem dX5_riskOf_49 : decode cX5_riskOf 49 = .ok (.iload 8, 2) := by decide +kernel
theorem dX5_riskOf_51 : decode cX5_riskOf 51 = .ok (.iaload, 1) := by decide +kernel
theorem dX5_riskOf_52 : decode cX5_riskOf 52 = .ok (.i2l, 1) := by decide +kernel
theorem dX5_riskOf_53 : decode cX5_riskOf 53 = .ok (.lmul, 1) := by decide +kernel
theorem dX5_riskOf_54 : decode cX5_riskOf 54 = .ok (.invokestatic 273, 3) := by decide +kernel
theorem dX5_riskOf_57 : decode cX5_riskOf 57 = .ok (.lstore 6, 2) := by decide +kernel
theorem dX5_riskOf_59 : decode cX5_riskOf 59 = .ok (.iinc 8 1, 3) := by decide +kernel
theorem dX5_riskOf_62 : decode cX5_riskOf 62 = .ok (.goto (-25), 3) := by decide +kernel
theorem dX5_riskOf_65 : decode cX5_riskOf 65 = .ok (.lload 6, 2) := by decide +kernel
theorem dX5_riskOf_67 : decode cX5_riskOf 67 = .ok (.lreturn, 1) := by decide +kernel
theorem dX5_closePosition_0 : decode cX5_closePosition 0 = .ok (.aload_n 0, 1) := by decide +kernel
theorem dX5_closePosition_1 : decode cX5_closePosition 1 = .ok (.getfield 11, 3) := by decide +kernel
theorem dX5_closePosition_4 : decode cX5_closePosition 4 = .ok (.iload_n 1, 1) := by decide +kernel
theorem dX5_closePosition_5 : decode cX5_closePosition 5 = .ok (.aaload, 1) := by decide +kernel
theorem dX5_closePosition_6 : decode cX5_closePosition 6 = .ok (.getfield 171, 3) := by decide +kernel
theorem dX5_closePosition_9 : decode cX5_closePosition 9 = .ok (.astore_n 3, 1) := by decide +kernel
theorem dX5_closePosition_10 : decode cX5_closePosition 10 = .ok (.iconst 0, 1) := by decide +kernel
theorem dX5_closePosition_11 : decode cX5_closePosition 11 = .ok (.istore 4, 2) := by decide +kernel
theorem dX5_closePosition_13 : decode cX5_closePosition 13 = .ok (.iload 4, 2) := by decide +kernel
theorem dX5_closePosition_15 : decode cX5_closePosition 15 = .ok (.bipush 100, 2) := by decide +kernel
theorem dX5_closePosition_17 : decode cX5_closePosition 17 = .ok (.if_icmp .ge 60, 3) := by decide +kernel
theorem dX5_closePosition_20 : decode cX5_closePosition 20 = .ok (.aload_n 3, 1) := by decide +kernel
theorem dX5_closePosition_21 : decode cX5_closePosition 21 = .ok (.iload_n 2, 1) := by decide +kernel
theorem dX5_closePosition_22 : decode cX5_closePosition 22 = .ok (.iaload, 1) := by decide +kernel
theorem dX5_closePosition_23 : decode cX5_closePosition 23 = .ok (.ifCond .eq 54, 3) := by decide +kernel
theorem dX5_closePosition_26 : decode cX5_closePosition 26 = .ok (.aload_n 0, 1) := by decide +kernel
theorem dX5_closePosition_27 : decode cX5_closePosition 27 = .ok (.iload_n 2, 1) := by decide +kernel
theorem dX5_closePosition_28 : decode cX5_closePosition 28 = .ok (.aload_n 3, 1) := by decide +kernel
theorem dX5_closePosition_29 : decode cX5_closePosition 29 = .ok (.iload_n 2, 1) := by decide +kernel
theorem dX5_closePosition_30 : decode cX5_closePosition 30 = .ok (.iaload, 1) := by decide +kernel
theorem dX5_closePosition_31 : decode cX5_closePosition 31 = .ok (.ifCond .le 7, 3) := by decide +kernel
theorem dX5_closePosition_34 : decode cX5_closePosition 34 = .ok (.iconst 1, 1) := by decide +kernel
theorem dX5_closePosition_35 : decode cX5_closePosition 35 = .ok (.goto 4, 3) := by decide +kernel
theorem dX5_closePosition_38 : decode cX5_closePosition 38 = .ok (.iconst 0, 1) := by decide +kernel
theorem dX5_closePosition_39 : decode cX5_closePosition 39 = .ok (.invokevirtual 142, 3) := by decide +kernel
theorem dX5_closePosition_42 : decode cX5_closePosition 42 = .ok (.astore 5, 2) := by decide +kernel
theorem dX5_closePosition_44 : decode cX5_closePosition 44 = .ok (.aload 5, 2) := by decide +kernel
theorem dX5_closePosition_46 : decode cX5_closePosition 46 = .ok (.ifnonnull 4, 3) := by decide +kernel
theorem dX5_closePosition_49 : decode cX5_closePosition 49 = .ok (.return_, 1) := by decide +kernel
theorem dX5_closePosition_50 : decode cX5_closePosition 50 = .ok (.aload_n 0, 1) := by decide +kernel
theorem dX5_closePosition_51 : decode cX5_closePosition 51 = .ok (.iload_n 1, 1) := by decide +kernel
theorem dX5_closePosition_52 : decode cX5_closePosition 52 = .ok (.aload 5, 2) := by decide +kernel
theorem dX5_closePosition_54 : decode cX5_closePosition 54 = .ok (.aload 5, 2) := by decide +kernel
theorem dX5_closePosition_56 : decode cX5_closePosition 56 = .ok (.getfield 135, 3) := by decide +kernel
theorem dX5_closePosition_59 : decode cX5_closePosition 59 = .ok (.aload_n 3, 1) := by decide +kernel
theorem dX5_closePosition_60 : decode cX5_closePosition 60 = .ok (.iload_n 2, 1) := by decide +kernel
theorem dX5_closePosition_61 : decode cX5_closePosition 61 = .ok (.iaload, 1) := by decide +kernel
theorem dX5_closePosition_62 : decode cX5_closePosition 62 = .ok (.invokestatic 294, 3) := by decide +kernel
theorem dX5_closePosition_65 : decode cX5_closePosition 65 = .ok (.invokestatic 223, 3) := by decide +kernel
theorem dX5_closePosition_68 : decode cX5_closePosition 68 = .ok (.invokevirtual 229, 3) := by decide +kernel
theorem dX5_closePosition_71 : decode cX5_closePosition 71 = .ok (.iinc 4 1, 3) := by decide +kernel
theorem dX5_closePosition_74 : decode cX5_closePosition 74 = .ok (.goto (-61), 3) := by decide +kernel
theorem dX5_closePosition_77 : decode cX5_closePosition 77 = .ok (.return_, 1) := by decide +kernel
theorem dX5_fail_0 : decode cX5_fail 0 = .ok (.aload_n 0, 1) := by decide +kernel
theorem dX5_fail_1 : decode cX5_fail 1 = .ok (.getfield 11, 3) := by decide +kernel
theorem dX5_fail_4 : decode cX5_fail 4 = .ok (.iload_n 1, 1) := by decide +kernel
theorem dX5_fail_5 : decode cX5_fail 5 = .ok (.aaload, 1) := by decide +kernel
theorem dX5_fail_6 : decode cX5_fail 6 = .ok (.astore_n 2, 1) := by decide +kernel
theorem dX5_fail_7 : decode cX5_fail 7 = .ok (.aload_n 2, 1) := by decide +kernel
theorem dX5_fail_8 : decode cX5_fail 8 = .ok (.iconst 1, 1) := by decide +kernel
theorem dX5_fail_9 : decode cX5_fail 9 = .ok (.putfield 78, 3) := by decide +kernel
theorem dX5_fail_12 : decode cX5_fail 12 = .ok (.iconst 0, 1) := by decide +kernel
theorem dX5_fail_13 : decode cX5_fail 13 = .ok (.istore_n 3, 1) := by decide +kernel
theorem dX5_fail_14 : decode cX5_fail 14 = .ok (.iload_n 3, 1) := by decide +kernel
theorem dX5_fail_15 : decode cX5_fail 15 = .ok (.iconst 3, 1) := by decide +kernel
theorem dX5_fail_16 : decode cX5_fail 16 = .ok (.if_icmp .ge 28, 3) := by decide +kernel
theorem dX5_fail_19 : decode cX5_fail 19 = .ok (.aload_n 2, 1) := by decide +kernel
theorem dX5_fail_20 : decode cX5_fail 20 = .ok (.getfield 171, 3) := by decide +kernel
theorem dX5_fail_23 : decode cX5_fail 23 = .ok (.iload_n 3, 1) := by decide +kernel
theorem dX5_fail_24 : decode cX5_fail 24 = .ok (.iaload, 1) := by decide +kernel
theorem dX5_fail_25 : decode cX5_fail 25 = .ok (.ifCond .eq 13, 3) := by decide +kernel
theorem dX5_fail_28 : decode cX5_fail 28 = .ok (.aload_n 0, 1) := by decide +kernel
theorem dX5_fail_29 : decode cX5_fail 29 = .ok (.iload_n 1, 1) := by decide +kernel
theorem dX5_fail_30 : decode cX5_fail 30 = .ok (.aload_n 0, 1) := by decide +kernel
theorem dX5_fail_31 : decode cX5_fail 31 = .ok (.invokevirtual 297, 3) := by decide +kernel
theorem dX5_fail_34 : decode cX5_fail 34 = .ok (.iload_n 3, 1) := by decide +kernel
theorem dX5_fail_35 : decode cX5_fail 35 = .ok (.invokevirtual 300, 3) := by decide +kernel
theorem dX5_fail_38 : decode cX5_fail 38 = .ok (.iinc 3 1, 3) := by decide +kernel
theorem dX5_fail_41 : decode cX5_fail 41 = .ok (.goto (-27), 3) := by decide +kernel
theorem dX5_fail_44 : decode cX5_fail 44 = .ok (.aload_n 0, 1) := by decide +kernel
theorem dX5_fail_45 : decode cX5_fail 45 = .ok (.iload_n 1, 1) := by decide +kernel
theorem dX5_fail_46 : decode cX5_fail 46 = .ok (.invokevirtual 303, 3) := by decide +kernel
theorem dX5_fail_49 : decode cX5_fail 49 = .ok (.aload_n 0, 1) := by decide +kernel
theorem dX5_fail_50 : decode cX5_fail 50 = .ok (.aload_n 2, 1) := by decide +kernel
theorem dX5_fail_51 : decode cX5_fail 51 = .ok (.invokevirtual 164, 3) := by decide +kernel
theorem dX5_fail_54 : decode cX5_fail 54 = .ok (.pop2, 1) := by decide +kernel
theorem dX5_fail_55 : decode cX5_fail 55 = .ok (.aload_n 2, 1) := by decide +kernel
theorem dX5_fail_56 : decode cX5_fail 56 = .ok (.getfield 94, 3) := by decide +kernel
theorem dX5_fail_59 : decode cX5_fail 59 = .ok (.lconst 0, 1) := by decide +kernel
theorem dX5_fail_60 : decode cX5_fail 60 = .ok (.lcmp, 1) := by decide +kernel
theorem dX5_fail_61 : decode cX5_fail 61 = .ok (.ifCond .ge 8, 3) := by decide +kernel
theorem dX5_fail_64 : decode cX5_fail 64 = .ok (.aload_n 0, 1) := by decide +kernel
theorem dX5_fail_65 : decode cX5_fail 65 = .ok (.aload_n 2, 1) := by decide +kernel
theorem dX5_fail_66 : decode cX5_fail 66 = .ok (.invokevirtual 306, 3) := by decide +kernel
theorem dX5_fail_69 : decode cX5_fail 69 = .ok (.return_, 1) := by decide +kernel
theorem dX5_handOver_0 : decode cX5_handOver 0 = .ok (.aload_n 0, 1) := by decide +kernel
theorem dX5_handOver_1 : decode cX5_handOver 1 = .ok (.getfield 11, 3) := by decide +kernel
theorem dX5_handOver_4 : decode cX5_handOver 4 = .ok (.iload_n 1, 1) := by decide +kernel
theorem dX5_handOver_5 : decode cX5_handOver 5 = .ok (.aaload, 1) := by decide +kernel
theorem dX5_handOver_6 : decode cX5_handOver 6 = .ok (.getfield 171, 3) := by decide +kernel
theorem dX5_handOver_9 : decode cX5_handOver 9 = .ok (.iload_n 3, 1) := by decide +kernel
theorem dX5_handOver_10 : decode cX5_handOver 10 = .ok (.iaload, 1) := by decide +kernel
theorem dX5_handOver_11 : decode cX5_handOver 11 = .ok (.istore 4, 2) := by decide +kernel
theorem dX5_handOver_13 : decode cX5_handOver 13 = .ok (.aload_n 0, 1) := by decide +kernel
theorem dX5_handOver_14 : decode cX5_handOver 14 = .ok (.getfield 17, 3) := by decide +kernel
theorem dX5_handOver_17 : decode cX5_handOver 17 = .ok (.iload_n 3, 1) := by decide +kernel
theorem dX5_handOver_18 : decode cX5_handOver 18 = .ok (.aaload, 1) := by decide +kernel
theorem dX5_handOver_19 : decode cX5_handOver 19 = .ok (.getfield 52, 3) := by decide +kernel
theorem dX5_handOver_22 : decode cX5_handOver 22 = .ok (.istore 5, 2) := by decide +kernel
theorem dX5_handOver_24 : decode cX5_handOver 24 = .ok (.iload_n 2, 1) := by decide +kernel
theorem dX5_handOver_25 : decode cX5_handOver 25 = .ok (.iconst (-1), 1) := by decide +kernel
theorem dX5_handOver_26 : decode cX5_handOver 26 = .ok (.if_icmp .ne 16, 3) := by decide +kernel
theorem dX5_handOver_29 : decode cX5_handOver 29 = .ok (.aload_n 0, 1) := by decide +kernel
theorem dX5_handOver_30 : decode cX5_handOver 30 = .ok (.iload_n 1, 1) := by decide +kernel
theorem dX5_handOver_31 : decode cX5_handOver 31 = .ok (.iload_n 3, 1) := by decide +kernel
theorem dX5_handOver_32 : decode cX5_handOver 32 = .ok (.iload 4, 2) := by decide +kernel
theorem dX5_handOver_34 : decode cX5_handOver 34 = .ok (.iload 5, 2) := by decide +kernel
theorem dX5_handOver_36 : decode cX5_handOver 36 = .ok (.invokevirtual 310, 3) := by decide +kernel
theorem dX5_handOver_39 : decode cX5_handOver 39 = .ok (.goto 34, 3) := by decide +kernel
theorem dX5_handOver_42 : decode cX5_handOver 42 = .ok (.iload 4, 2) := by decide +kernel
theorem dX5_handOver_44 : decode cX5_handOver 44 = .ok (.ifCond .le 17, 3) := by decide +kernel
theorem dX5_handOver_47 : decode cX5_handOver 47 = .ok (.aload_n 0, 1) := by decide +kernel
theorem dX5_handOver_48 : decode cX5_handOver 48 = .ok (.iload_n 2, 1) := by decide +kernel
theorem dX5_handOver_49 : decode cX5_handOver 49 = .ok (.iload_n 1, 1) := by decide +kernel
theorem dX5_handOver_50 : decode cX5_handOver 50 = .ok (.iload_n 3, 1) := by decide +kernel
theorem dX5_handOver_51 : decode cX5_handOver 51 = .ok (.iload 4, 2) := by decide +kernel
theorem dX5_handOver_53 : decode cX5_handOver 53 = .ok (.iload 5, 2) := by decide +kernel
theorem dX5_handOver_55 : decode cX5_handOver 55 = .ok (.invokevirtual 233, 3) := by decide +kernel
theorem dX5_handOver_58 : decode cX5_handOver 58 = .ok (.goto 15, 3) := by decide +kernel
theorem dX5_handOver_61 : decode cX5_handOver 61 = .ok (.aload_n 0, 1) := by decide +kernel
theorem dX5_handOver_62 : decode cX5_handOver 62 = .ok (.iload_n 1, 1) := by decide +kernel
theorem dX5_handOver_63 : decode cX5_handOver 63 = .ok (.iload_n 2, 1) := by decide +kernel
theorem dX5_handOver_64 : decode cX5_handOver 64 = .ok (.iload_n 3, 1) := by decide +kernel
theorem dX5_handOver_65 : decode cX5_handOver 65 = .ok (.iload 4, 2) := by decide +kernel
theorem dX5_handOver_67 : decode cX5_handOver 67 = .ok (.ineg, 1) := by decide +kernel
theorem dX5_handOver_68 : decode cX5_handOver 68 = .ok (.iload 5, 2) := by decide +kernel
theorem dX5_handOver_70 : decode cX5_handOver 70 = .ok (.invokevirtual 233, 3) := by decide +kernel
theorem dX5_handOver_73 : decode cX5_handOver 73 = .ok (.return_, 1) := by decide +kernel
theorem dX5_memberWithMostFree_0 : decode cX5_memberWithMostFree 0 = .ok (.iconst (-1), 1) := by decide +kernel
theorem dX5_memberWithMostFree_1 : decode cX5_memberWithMostFree 1 = .ok (.istore_n 1, 1) := by decide +kernel
theorem dX5_memberWithMostFree_2 : decode cX5_memberWithMostFree 2 = .ok (.lconst 0, 1) := by decide +kernel
theorem dX5_memberWithMostFree_3 : decode cX5_memberWithMostFree 3 = .ok (.lstore_n 2, 1) := by decide +kernel
theorem dX5_memberWithMostFree_4 : decode cX5_memberWithMostFree 4 = .ok (.iconst 0, 1) := by decide +kernel
theorem dX5_memberWithMostFree_5 : decode cX5_memberWithMostFree 5 = .ok (.istore 4, 2) := by decide +kernel
theorem dX5_memberWithMostFree_7 : decode cX5_memberWithMostFree 7 = .ok (.iload 4, 2) := by decide +kernel
theorem dX5_memberWithMostFree_9 : decode cX5_memberWithMostFree 9 = .ok (.iconst 5, 1) := by decide +kernel
theorem dX5_memberWithMostFree_10 : decode cX5_memberWithMostFree 10 = .ok (.if_icmp .ge 48, 3) := by decide +kernel
theorem dX5_memberWithMostFree_13 : decode cX5_memberWithMostFree 13 = .ok (.aload_n 0, 1) := by decide +kernel
theorem dX5_memberWithMostFree_14 : decode cX5_memberWithMostFree 14 = .ok (.getfield 11, 3) := by decide +kernel
theorem dX5_memberWithMostFree_17 : decode cX5_memberWithMostFree 17 = .ok (.iload 4, 2) := by decide +kernel
theorem dX5_memberWithMostFree_19 : decode cX5_memberWithMostFree 19 = .ok (.aaload, 1) := by decide +kernel
theorem dX5_memberWithMostFree_20 : decode cX5_memberWithMostFree 20 = .ok (.getfield 78, 3) := by decide +kernel
theorem dX5_memberWithMostFree_23 : decode cX5_memberWithMostFree 23 = .ok (.ifCond .ne 29, 3) := by decide +kernel
theorem dX5_memberWithMostFree_26 : decode cX5_memberWithMostFree 26 = .ok (.aload_n 0, 1) := by decide +kernel
theorem dX5_memberWithMostFree_27 : decode cX5_memberWithMostFree 27 = .ok (.iload 4, 2) := by decide +kernel
theorem dX5_memberWithMostFree_29 : decode cX5_memberWithMostFree 29 = .ok (.invokevirtual 86, 3) := by decide +kernel
theorem dX5_memberWithMostFree_32 : decode cX5_memberWithMostFree 32 = .ok (.lstore 5, 2) := by decide +kernel
theorem dX5_memberWithMostFree_34 : decode cX5_memberWithMostFree 34 = .ok (.iload_n 1, 1) := by decide +kernel
theorem dX5_memberWithMostFree_35 : decode cX5_memberWithMostFree 35 = .ok (.iconst (-1), 1) := by decide +kernel
theorem dX5_memberWithMostFree_36 : decode cX5_memberWithMostFree 36 = .ok (.if_icmp .eq 10, 3) := by decide +kernel
theorem dX5_memberWithMostFree_39 : decode cX5_memberWithMostFree 39 = .ok (.lload 5, 2) := by decide +kernel
theorem dX5_memberWithMostFree_41 : decode cX5_memberWithMostFree 41 = .ok (.lload_n 2, 1) := by decide +kernel
theorem dX5_memberWithMostFree_42 : decode cX5_memberWithMostFree 42 = .ok (.lcmp, 1) := by decide +kernel
theorem dX5_memberWithMostFree_43 : decode cX5_memberWithMostFree 43 = .ok (.ifCond .le 9, 3) := by decide +kernel
theorem dX5_memberWithMostFree_46 : decode cX5_memberWithMostFree 46 = .ok (.iload 4, 2) := by decide +kernel
theorem dX5_memberWithMostFree_48 : decode cX5_memberWithMostFree 48 = .ok (.istore_n 1, 1) := by decide +kernel
theorem dX5_memberWithMostFree_49 : decode cX5_memberWithMostFree 49 = .ok (.lload 5, 2) := by decide +kernel
theorem dX5_memberWithMostFree_51 : decode cX5_memberWithMostFree 51 = .ok (.lstore_n 2, 1) := by decide +kernel
theorem dX5_memberWithMostFree_52 : decode cX5_memberWithMostFree 52 = .ok (.iinc 4 1, 3) := by decide +kernel
theorem dX5_memberWithMostFree_55 : decode cX5_memberWithMostFree 55 = .ok (.goto (-48), 3) := by decide +kernel
theorem dX5_memberWithMostFree_58 : decode cX5_memberWithMostFree 58 = .ok (.iload_n 1, 1) := by decide +kernel
theorem dX5_memberWithMostFree_59 : decode cX5_memberWithMostFree 59 = .ok (.ireturn, 1) := by decide +kernel
theorem dX5_drop_0 : decode cX5_drop 0 = .ok (.aload_n 0, 1) := by decide +kernel
theorem dX5_drop_1 : decode cX5_drop 1 = .ok (.getfield 11, 3) := by decide +kernel
theorem dX5_drop_4 : decode cX5_drop 4 = .ok (.iload_n 1, 1) := by decide +kernel
theorem dX5_drop_5 : decode cX5_drop 5 = .ok (.aaload, 1) := by decide +kernel
theorem dX5_drop_6 : decode cX5_drop 6 = .ok (.iload_n 2, 1) := by decide +kernel
theorem dX5_drop_7 : decode cX5_drop 7 = .ok (.iload_n 3, 1) := by decide +kernel
theorem dX5_drop_8 : decode cX5_drop 8 = .ok (.ineg, 1) := by decide +kernel
theorem dX5_drop_9 : decode cX5_drop 9 = .ok (.iload 4, 2) := by decide +kernel
theorem dX5_drop_11 : decode cX5_drop 11 = .ok (.invokestatic 237, 3) := by decide +kernel
theorem dX5_drop_14 : decode cX5_drop 14 = .ok (.aload_n 0, 1) := by decide +kernel
theorem dX5_drop_15 : decode cX5_drop 15 = .ok (.getfield 34, 3) := by decide +kernel
theorem dX5_drop_18 : decode cX5_drop 18 = .ok (.new 180, 3) := by decide +kernel
theorem dX5_drop_21 : decode cX5_drop 21 = .ok (.dup, 1) := by decide +kernel
theorem dX5_drop_22 : decode cX5_drop 22 = .ok (.iconst (-1), 1) := by decide +kernel
theorem dX5_drop_23 : decode cX5_drop 23 = .ok (.iload_n 1, 1) := by decide +kernel
theorem dX5_drop_24 : decode cX5_drop 24 = .ok (.iload_n 2, 1) := by decide +kernel
theorem dX5_drop_25 : decode cX5_drop 25 = .ok (.iload_n 3, 1) := by decide +kernel
theorem dX5_drop_26 : decode cX5_drop 26 = .ok (.iload 4, 2) := by decide +kernel
theorem dX5_drop_28 : decode cX5_drop 28 = .ok (.invokespecial 241, 3) := by decide +kernel
theorem dX5_drop_31 : decode cX5_drop 31 = .ok (.invokevirtual 120, 3) := by decide +kernel
theorem dX5_drop_34 : decode cX5_drop 34 = .ok (.pop, 1) := by decide +kernel
theorem dX5_drop_35 : decode cX5_drop 35 = .ok (.return_, 1) := by decide +kernel
theorem dX5_sellCollateral_0 : decode cX5_sellCollateral 0 = .ok (.aload_n 0, 1) := by decide +kernel
theorem dX5_sellCollateral_1 : decode cX5_sellCollateral 1 = .ok (.getfield 11, 3) := by decide +kernel
theorem dX5_sellCollateral_4 : decode cX5_sellCollateral 4 = .ok (.iload_n 1, 1) := by decide +kernel
theorem dX5_sellCollateral_5 : decode cX5_sellCollateral 5 = .ok (.aaload, 1) := by decide +kernel
theorem dX5_sellCollateral_6 : decode cX5_sellCollateral 6 = .ok (.astore_n 2, 1) := by decide +kernel
theorem dX5_sellCollateral_7 : decode cX5_sellCollateral 7 = .ok (.aload_n 2, 1) := by decide +kernel
theorem dX5_sellCollateral_8 : decode cX5_sellCollateral 8 = .ok (.aload_n 0, 1) := by decide +kernel
theorem dX5_sellCollateral_9 : decode cX5_sellCollateral 9 = .ok (.iload_n 1, 1) := by decide +kernel
theorem dX5_sellCollateral_10 : decode cX5_sellCollateral 10 = .ok (.invokevirtual 189, 3) := by decide +kernel
theorem dX5_sellCollateral_13 : decode cX5_sellCollateral 13 = .ok (.invokestatic 90, 3) := by decide +kernel
theorem dX5_sellCollateral_16 : decode cX5_sellCollateral 16 = .ok (.iconst 0, 1) := by decide +kernel
theorem dX5_sellCollateral_17 : decode cX5_sellCollateral 17 = .ok (.istore_n 3, 1) := by decide +kernel
theorem dX5_sellCollateral_18 : decode cX5_sellCollateral 18 = .ok (.iload_n 3, 1) := by decide +kernel
theorem dX5_sellCollateral_19 : decode cX5_sellCollateral 19 = .ok (.iconst 2, 1) := by decide +kernel
theorem dX5_sellCollateral_20 : decode cX5_sellCollateral 20 = .ok (.if_icmp .ge 16, 3) := by decide +kernel
theorem dX5_sellCollateral_23 : decode cX5_sellCollateral 23 = .ok (.aload_n 2, 1) := by decide +kernel
theorem dX5_sellCollateral_24 : decode cX5_sellCollateral 24 = .ok (.getfield 98, 3) := by decide +kernel
theorem dX5_sellCollateral_27 : decode cX5_sellCollateral 27 = .ok (.iload_n 3, 1) := by decide +kernel
theorem dX5_sellCollateral_28 : decode cX5_sellCollateral 28 = .ok (.iconst 0, 1) := by decide +kernel
theorem dX5_sellCollateral_29 : decode cX5_sellCollateral 29 = .ok (.iastore, 1) := by decide +kernel
theorem dX5_sellCollateral_30 : decode cX5_sellCollateral 30 = .ok (.iinc 3 1, 3) := by decide +kernel
theorem dX5_sellCollateral_33 : decode cX5_sellCollateral 33 = .ok (.goto (-15), 3) := by decide +kernel
theorem dX5_sellCollateral_36 : decode cX5_sellCollateral 36 = .ok (.return_, 1) := by decide +kernel
theorem dX5_coverLoss_0 : decode cX5_coverLoss 0 = .ok (.aload_n 1, 1) := by decide +kernel
theorem dX5_coverLoss_1 : decode cX5_coverLoss 1 = .ok (.getfield 94, 3) := by decide +kernel
theorem dX5_coverLoss_4 : decode cX5_coverLoss 4 = .ok (.lneg, 1) := by decide +kernel
theorem dX5_coverLoss_5 : decode cX5_coverLoss 5 = .ok (.lstore_n 2, 1) := by decide +kernel
theorem dX5_coverLoss_6 : decode cX5_coverLoss 6 = .ok (.aload_n 1, 1) := by decide +kernel
theorem dX5_coverLoss_7 : decode cX5_coverLoss 7 = .ok (.lload_n 2, 1) := by decide +kernel
theorem dX5_coverLoss_8 : decode cX5_coverLoss 8 = .ok (.invokestatic 90, 3) := by decide +kernel
theorem dX5_coverLoss_11 : decode cX5_coverLoss 11 = .ok (.lload_n 2, 1) := by decide +kernel
theorem dX5_coverLoss_12 : decode cX5_coverLoss 12 = .ok (.aload_n 1, 1) := by decide +kernel
theorem dX5_coverLoss_13 : decode cX5_coverLoss 13 = .ok (.lload_n 2, 1) := by decide +kernel
theorem dX5_coverLoss_14 : decode cX5_coverLoss 14 = .ok (.invokestatic 314, 3) := by decide +kernel
theorem dX5_coverLoss_17 : decode cX5_coverLoss 17 = .ok (.lsub, 1) := by decide +kernel
theorem dX5_coverLoss_18 : decode cX5_coverLoss 18 = .ok (.lstore 4, 2) := by decide +kernel
theorem dX5_coverLoss_20 : decode cX5_coverLoss 20 = .ok (.aload_n 0, 1) := by decide +kernel
theorem dX5_coverLoss_21 : decode cX5_coverLoss 21 = .ok (.dup, 1) := by decide +kernel
theorem dX5_coverLoss_22 : decode cX5_coverLoss 22 = .ok (.getfield 192, 3) := by decide +kernel
theorem dX5_coverLoss_25 : decode cX5_coverLoss 25 = .ok (.lload 4, 2) := by decide +kernel
theorem dX5_coverLoss_27 : decode cX5_coverLoss 27 = .ok (.aload_n 0, 1) := by decide +kernel
theorem dX5_coverLoss_28 : decode cX5_coverLoss 28 = .ok (.lload 4, 2) := by decide +kernel
theorem dX5_coverLoss_30 : decode cX5_coverLoss 30 = .ok (.invokevirtual 318, 3) := by decide +kernel
theorem dX5_coverLoss_33 : decode cX5_coverLoss 33 = .ok (.lsub, 1) := by decide +kernel
theorem dX5_coverLoss_34 : decode cX5_coverLoss 34 = .ok (.ladd, 1) := by decide +kernel
theorem dX5_coverLoss_35 : decode cX5_coverLoss 35 = .ok (.putfield 192, 3) := by decide +kernel
theorem dX5_coverLoss_38 : decode cX5_coverLoss 38 = .ok (.return_, 1) := by decide +kernel
theorem dX5_takeFromShare_0 : decode cX5_takeFromShare 0 = .ok (.lload_n 1, 1) := by decide +kernel
theorem dX5_takeFromShare_1 : decode cX5_takeFromShare 1 = .ok (.aload_n 0, 1) := by decide +kernel
theorem dX5_takeFromShare_2 : decode cX5_takeFromShare 2 = .ok (.getfield 105, 3) := by decide +kernel
theorem dX5_takeFromShare_5 : decode cX5_takeFromShare 5 = .ok (.invokestatic 322, 3) := by decide +kernel
theorem dX5_takeFromShare_8 : decode cX5_takeFromShare 8 = .ok (.lstore_n 3, 1) := by decide +kernel
theorem dX5_takeFromShare_9 : decode cX5_takeFromShare 9 = .ok (.aload_n 0, 1) := by decide +kernel
theorem dX5_takeFromShare_10 : decode cX5_takeFromShare 10 = .ok (.dup, 1) := by decide +kernel
theorem dX5_takeFromShare_11 : decode cX5_takeFromShare 11 = .ok (.getfield 105, 3) := by decide +kernel
theorem dX5_takeFromShare_14 : decode cX5_takeFromShare 14 = .ok (.lload_n 3, 1) := by decide +kernel
theorem dX5_takeFromShare_15 : decode cX5_takeFromShare 15 = .ok (.lsub, 1) := by decide +kernel
theorem dX5_takeFromShare_16 : decode cX5_takeFromShare 16 = .ok (.putfield 105, 3) := by decide +kernel
theorem dX5_takeFromShare_19 : decode cX5_takeFromShare 19 = .ok (.lload_n 3, 1) := by decide +kernel
theorem dX5_takeFromShare_20 : decode cX5_takeFromShare 20 = .ok (.lreturn, 1) := by decide +kernel
theorem dX5_takeFromOthers_0 : decode cX5_takeFromOthers 0 = .ok (.aload_n 0, 1) := by decide +kernel
theorem dX5_takeFromOthers_1 : decode cX5_takeFromOthers 1 = .ok (.invokevirtual 324, 3) := by decide +kernel
theorem dX5_takeFromOthers_4 : decode cX5_takeFromOthers 4 = .ok (.lstore_n 3, 1) := by decide +kernel
theorem dX5_takeFromOthers_5 : decode cX5_takeFromOthers 5 = .ok (.lconst 0, 1) := by decide +kernel
theorem dX5_takeFromOthers_6 : decode cX5_takeFromOthers 6 = .ok (.lstore 5, 2) := by decide +kernel
theorem dX5_takeFromOthers_8 : decode cX5_takeFromOthers 8 = .ok (.iconst 0, 1) := by decide +kernel
theorem dX5_takeFromOthers_9 : decode cX5_takeFromOthers 9 = .ok (.istore 7, 2) := by decide +kernel
theorem dX5_takeFromOthers_11 : decode cX5_takeFromOthers 11 = .ok (.iload 7, 2) := by decide +kernel
theorem dX5_takeFromOthers_13 : decode cX5_takeFromOthers 13 = .ok (.iconst 5, 1) := by decide +kernel
theorem dX5_takeFromOthers_14 : decode cX5_takeFromOthers 14 = .ok (.if_icmp .ge 46, 3) := by decide +kernel
theorem dX5_takeFromOthers_17 : decode cX5_takeFromOthers 17 = .ok (.aload_n 0, 1) := by decide +kernel
theorem dX5_takeFromOthers_18 : decode cX5_takeFromOthers 18 = .ok (.getfield 11, 3) := by decide +kernel
theorem dX5_takeFromOthers_21 : decode cX5_takeFromOthers 21 = .ok (.iload 7, 2) := by decide +kernel
theorem dX5_takeFromOthers_23 : decode cX5_takeFromOthers 23 = .ok (.aaload, 1) := by decide +kernel
theorem dX5_takeFromOthers_24 : decode cX5_takeFromOthers 24 = .ok (.astore 8, 2) := by decide +kernel
theorem dX5_takeFromOthers_26 : decode cX5_takeFromOthers 26 = .ok (.aload 8, 2) := by decide +kernel
theorem dX5_takeFromOthers_28 : decode cX5_takeFromOthers 28 = .ok (.getfield 78, 3) := by decide +kernel
theorem dX5_takeFromOthers_31 : decode cX5_takeFromOthers 31 = .ok (.ifCond .ne 23, 3) := by decide +kernel
theorem dX5_takeFromOthers_34 : decode cX5_takeFromOthers 34 = .ok (.lload 5, 2) := by decide +kernel
theorem dX5_takeFromOthers_36 : decode cX5_takeFromOthers 36 = .ok (.aload 8, 2) := by decide +kernel
theorem dX5_takeFromOthers_38 : decode cX5_takeFromOthers 38 = .ok (.lload_n 1, 1) := by decide +kernel
theorem dX5_takeFromOthers_39 : decode cX5_takeFromOthers 39 = .ok (.aload 8, 2) := by decide +kernel
theorem dX5_takeFromOthers_41 : decode cX5_takeFromOthers 41 = .ok (.getfield 105, 3) := by decide +kernel
theorem dX5_takeFromOthers_44 : decode cX5_takeFromOthers 44 = .ok (.lload_n 3, 1) := by decide +kernel
theorem dX5_takeFromOthers_45 : decode cX5_takeFromOthers 45 = .ok (.invokestatic 328, 3) := by decide +kernel
theorem dX5_takeFromOthers_48 : decode cX5_takeFromOthers 48 = .ok (.invokestatic 314, 3) := by decide +kernel
theorem dX5_takeFromOthers_51 : decode cX5_takeFromOthers 51 = .ok (.ladd, 1) := by decide +kernel
theorem dX5_takeFromOthers_52 : decode cX5_takeFromOthers 52 = .ok (.lstore 5, 2) := by decide +kernel
theorem dX5_takeFromOthers_54 : decode cX5_takeFromOthers 54 = .ok (.iinc 7 1, 3) := by decide +kernel
theorem dX5_takeFromOthers_57 : decode cX5_takeFromOthers 57 = .ok (.goto (-46), 3) := by decide +kernel
theorem dX5_takeFromOthers_60 : decode cX5_takeFromOthers 60 = .ok (.iconst 0, 1) := by decide +kernel
theorem dX5_takeFromOthers_61 : decode cX5_takeFromOthers 61 = .ok (.istore 7, 2) := by decide +kernel
theorem dX5_takeFromOthers_63 : decode cX5_takeFromOthers 63 = .ok (.iload 7, 2) := by decide +kernel
theorem dX5_takeFromOthers_65 : decode cX5_takeFromOthers 65 = .ok (.iconst 5, 1) := by decide +kernel
theorem dX5_takeFromOthers_66 : decode cX5_takeFromOthers 66 = .ok (.if_icmp .ge 41, 3) := by decide +kernel
theorem dX5_takeFromOthers_69 : decode cX5_takeFromOthers 69 = .ok (.aload_n 0, 1) := by decide +kernel
theorem dX5_takeFromOthers_70 : decode cX5_takeFromOthers 70 = .ok (.getfield 11, 3) := by decide +kernel
theorem dX5_takeFromOthers_73 : decode cX5_takeFromOthers 73 = .ok (.iload 7, 2) := by decide +kernel
theorem dX5_takeFromOthers_75 : decode cX5_takeFromOthers 75 = .ok (.aaload, 1) := by decide +kernel
theorem dX5_takeFromOthers_76 : decode cX5_takeFromOthers 76 = .ok (.getfield 78, 3) := by decide +kernel
theorem dX5_takeFromOthers_79 : decode cX5_takeFromOthers 79 = .ok (.ifCond .ne 22, 3) := by decide +kernel
theorem dX5_takeFromOthers_82 : decode cX5_takeFromOthers 82 = .ok (.lload 5, 2) := by decide +kernel
theorem dX5_takeFromOthers_84 : decode cX5_takeFromOthers 84 = .ok (.aload_n 0, 1) := by decide +kernel
theorem dX5_takeFromOthers_85 : decode cX5_takeFromOthers 85 = .ok (.getfield 11, 3) := by decide +kernel
theorem dX5_takeFromOthers_88 : decode cX5_takeFromOthers 88 = .ok (.iload 7, 2) := by decide +kernel
theorem dX5_takeFromOthers_90 : decode cX5_takeFromOthers 90 = .ok (.aaload, 1) := by decide +kernel
theorem dX5_takeFromOthers_91 : decode cX5_takeFromOthers 91 = .ok (.lload_n 1, 1) := by decide +kernel
theorem dX5_takeFromOthers_92 : decode cX5_takeFromOthers 92 = .ok (.lload 5, 2) := by decide +kernel
theorem dX5_takeFromOthers_94 : decode cX5_takeFromOthers 94 = .ok (.lsub, 1) := by decide +kernel
theorem dX5_takeFromOthers_95 : decode cX5_takeFromOthers 95 = .ok (.invokestatic 314, 3) := by decide +kernel
theorem dX5_takeFromOthers_98 : decode cX5_takeFromOthers 98 = .ok (.ladd, 1) := by decide +kernel
theorem dX5_takeFromOthers_99 : decode cX5_takeFromOthers 99 = .ok (.lstore 5, 2) := by decide +kernel
theorem dX5_takeFromOthers_101 : decode cX5_takeFromOthers 101 = .ok (.iinc 7 1, 3) := by decide +kernel
theorem dX5_takeFromOthers_104 : decode cX5_takeFromOthers 104 = .ok (.goto (-41), 3) := by decide +kernel
theorem dX5_takeFromOthers_107 : decode cX5_takeFromOthers 107 = .ok (.lload 5, 2) := by decide +kernel
theorem dX5_takeFromOthers_109 : decode cX5_takeFromOthers 109 = .ok (.lreturn, 1) := by decide +kernel
theorem dX5_sharesOfOthers_0 : decode cX5_sharesOfOthers 0 = .ok (.lconst 0, 1) := by decide +kernel
theorem dX5_sharesOfOthers_1 : decode cX5_sharesOfOthers 1 = .ok (.lstore_n 1, 1) := by decide +kernel
theorem dX5_sharesOfOthers_2 : decode cX5_sharesOfOthers 2 = .ok (.iconst 0, 1) := by decide +kernel
theorem dX5_sharesOfOthers_3 : decode cX5_sharesOfOthers 3 = .ok (.istore_n 3, 1) := by decide +kernel
theorem dX5_sharesOfOthers_4 : decode cX5_sharesOfOthers 4 = .ok (.iload_n 3, 1) := by decide +kernel
theorem dX5_sharesOfOthers_5 : decode cX5_sharesOfOthers 5 = .ok (.iconst 5, 1) := by decide +kernel
theorem dX5_sharesOfOthers_6 : decode cX5_sharesOfOthers 6 = .ok (.if_icmp .ge 37, 3) := by decide +kernel
theorem dX5_sharesOfOthers_9 : decode cX5_sharesOfOthers 9 = .ok (.lload_n 1, 1) := by decide +kernel
theorem dX5_sharesOfOthers_10 : decode cX5_sharesOfOthers 10 = .ok (.aload_n 0, 1) := by decide +kernel
theorem dX5_sharesOfOthers_11 : decode cX5_sharesOfOthers 11 = .ok (.getfield 11, 3) := by decide +kernel
theorem dX5_sharesOfOthers_14 : decode cX5_sharesOfOthers 14 = .ok (.iload_n 3, 1) := by decide +kernel
theorem dX5_sharesOfOthers_15 : decode cX5_sharesOfOthers 15 = .ok (.aaload, 1) := by decide +kernel
theorem dX5_sharesOfOthers_16 : decode cX5_sharesOfOthers 16 = .ok (.getfield 78, 3) := by decide +kernel
theorem dX5_sharesOfOthers_19 : decode cX5_sharesOfOthers 19 = .ok (.ifCond .eq 7, 3) := by decide +kernel
theorem dX5_sharesOfOthers_22 : decode cX5_sharesOfOthers 22 = .ok (.lconst 0, 1) := by decide +kernel
theorem dX5_sharesOfOthers_23 : decode cX5_sharesOfOthers 23 = .ok (.goto 12, 3) := by decide +kernel
theorem dX5_sharesOfOthers_26 : decode cX5_sharesOfOthers 26 = .ok (.aload_n 0, 1) := by decide +kernel
theorem dX5_sharesOfOthers_27 : decode cX5_sharesOfOthers 27 = .ok (.getfield 11, 3) := by decide +kernel
theorem dX5_sharesOfOthers_30 : decode cX5_sharesOfOthers 30 = .ok (.iload_n 3, 1) := by decide +kernel
theorem dX5_sharesOfOthers_31 : decode cX5_sharesOfOthers 31 = .ok (.aaload, 1) := by decide +kernel
theorem dX5_sharesOfOthers_32 : decode cX5_sharesOfOthers 32 = .ok (.getfield 105, 3) := by decide +kernel
theorem dX5_sharesOfOthers_35 : decode cX5_sharesOfOthers 35 = .ok (.ladd, 1) := by decide +kernel
theorem dX5_sharesOfOthers_36 : decode cX5_sharesOfOthers 36 = .ok (.lstore_n 1, 1) := by decide +kernel
theorem dX5_sharesOfOthers_37 : decode cX5_sharesOfOthers 37 = .ok (.iinc 3 1, 3) := by decide +kernel
theorem dX5_sharesOfOthers_40 : decode cX5_sharesOfOthers 40 = .ok (.goto (-36), 3) := by decide +kernel
theorem dX5_sharesOfOthers_43 : decode cX5_sharesOfOthers 43 = .ok (.lload_n 1, 1) := by decide +kernel
theorem dX5_sharesOfOthers_44 : decode cX5_sharesOfOthers 44 = .ok (.lreturn, 1) := by decide +kernel
theorem dX5_partOf_0 : decode cX5_partOf 0 = .ok (.lload 4, 2) := by decide +kernel
theorem dX5_partOf_2 : decode cX5_partOf 2 = .ok (.lload_n 0, 1) := by decide +kernel
theorem dX5_partOf_3 : decode cX5_partOf 3 = .ok (.lcmp, 1) := by decide +kernel
theorem dX5_partOf_4 : decode cX5_partOf 4 = .ok (.ifCond .le 10, 3) := by decide +kernel
theorem dX5_partOf_7 : decode cX5_partOf 7 = .ok (.lload 4, 2) := by decide +kernel
theorem dX5_partOf_9 : decode cX5_partOf 9 = .ok (.lconst 1, 1) := by decide +kernel
theorem dX5_partOf_10 : decode cX5_partOf 10 = .ok (.lcmp, 1) := by decide +kernel
theorem dX5_partOf_11 : decode cX5_partOf 11 = .ok (.ifCond .ge 5, 3) := by decide +kernel
theorem dX5_partOf_14 : decode cX5_partOf 14 = .ok (.lload_n 2, 1) := by decide +kernel
theorem dX5_partOf_15 : decode cX5_partOf 15 = .ok (.lreturn, 1) := by decide +kernel
theorem dX5_partOf_16 : decode cX5_partOf 16 = .ok (.lload_n 0, 1) := by decide +kernel
theorem dX5_partOf_17 : decode cX5_partOf 17 = .ok (.lload_n 2, 1) := by decide +kernel
theorem dX5_partOf_18 : decode cX5_partOf 18 = .ok (.lmul, 1) := by decide +kernel
theorem dX5_partOf_19 : decode cX5_partOf 19 = .ok (.lload 4, 2) := by decide +kernel
theorem dX5_partOf_21 : decode cX5_partOf 21 = .ok (.ldiv, 1) := by decide +kernel
theorem dX5_partOf_22 : decode cX5_partOf 22 = .ok (.lreturn, 1) := by decide +kernel
theorem dJ9_abs_0f7a4_0 : decode cJ9_abs_0f7a4 0 = .ok (.iload_n 0, 1) := by decide +kernel
theorem dJ9_abs_0f7a4_1 : decode cJ9_abs_0f7a4 1 = .ok (.ifCond .ge 8, 3) := by decide +kernel
theorem dJ9_abs_0f7a4_4 : decode cJ9_abs_0f7a4 4 = .ok (.iload_n 0, 1) := by decide +kernel
theorem dJ9_abs_0f7a4_5 : decode cJ9_abs_0f7a4 5 = .ok (.ineg, 1) := by decide +kernel
theorem dJ9_abs_0f7a4_6 : decode cJ9_abs_0f7a4 6 = .ok (.goto 4, 3) := by decide +kernel
theorem dJ9_abs_0f7a4_9 : decode cJ9_abs_0f7a4 9 = .ok (.iload_n 0, 1) := by decide +kernel
theorem dJ9_abs_0f7a4_10 : decode cJ9_abs_0f7a4 10 = .ok (.ireturn, 1) := by decide +kernel
theorem dJ9_max_7cf53_0 : decode cJ9_max_7cf53 0 = .ok (.iload_n 0, 1) := by decide +kernel
theorem dJ9_max_7cf53_1 : decode cJ9_max_7cf53 1 = .ok (.iload_n 1, 1) := by decide +kernel
theorem dJ9_max_7cf53_2 : decode cJ9_max_7cf53 2 = .ok (.if_icmp .lt 7, 3) := by decide +kernel
theorem dJ9_max_7cf53_5 : decode cJ9_max_7cf53 5 = .ok (.iload_n 0, 1) := by decide +kernel
theorem dJ9_max_7cf53_6 : decode cJ9_max_7cf53 6 = .ok (.goto 4, 3) := by decide +kernel
theorem dJ9_max_7cf53_9 : decode cJ9_max_7cf53 9 = .ok (.iload_n 1, 1) := by decide +kernel
theorem dJ9_max_7cf53_10 : decode cJ9_max_7cf53 10 = .ok (.ireturn, 1) := by decide +kernel
theorem dJ9_max_f86c9_0 : decode cJ9_max_f86c9 0 = .ok (.lload_n 0, 1) := by decide +kernel
theorem dJ9_max_f86c9_1 : decode cJ9_max_f86c9 1 = .ok (.lload_n 2, 1) := by decide +kernel
theorem dJ9_max_f86c9_2 : decode cJ9_max_f86c9 2 = .ok (.lcmp, 1) := by decide +kernel
theorem dJ9_max_f86c9_3 : decode cJ9_max_f86c9 3 = .ok (.ifCond .lt 7, 3) := by decide +kernel
theorem dJ9_max_f86c9_6 : decode cJ9_max_f86c9 6 = .ok (.lload_n 0, 1) := by decide +kernel
theorem dJ9_max_f86c9_7 : decode cJ9_max_f86c9 7 = .ok (.goto 4, 3) := by decide +kernel
theorem dJ9_max_f86c9_10 : decode cJ9_max_f86c9 10 = .ok (.lload_n 2, 1) := by decide +kernel
theorem dJ9_max_f86c9_11 : decode cJ9_max_f86c9 11 = .ok (.lreturn, 1) := by decide +kernel
theorem dJ9_min_7cf53_0 : decode cJ9_min_7cf53 0 = .ok (.iload_n 0, 1) := by decide +kernel
theorem dJ9_min_7cf53_1 : decode cJ9_min_7cf53 1 = .ok (.iload_n 1, 1) := by decide +kernel
theorem dJ9_min_7cf53_2 : decode cJ9_min_7cf53 2 = .ok (.if_icmp .gt 7, 3) := by decide +kernel
theorem dJ9_min_7cf53_5 : decode cJ9_min_7cf53 5 = .ok (.iload_n 0, 1) := by decide +kernel
theorem dJ9_min_7cf53_6 : decode cJ9_min_7cf53 6 = .ok (.goto 4, 3) := by decide +kernel
theorem dJ9_min_7cf53_9 : decode cJ9_min_7cf53 9 = .ok (.iload_n 1, 1) := by decide +kernel
theorem dJ9_min_7cf53_10 : decode cJ9_min_7cf53 10 = .ok (.ireturn, 1) := by decide +kernel
theorem dJ9_min_f86c9_0 : decode cJ9_min_f86c9 0 = .ok (.lload_n 0, 1) := by decide +kernel
theorem dJ9_min_f86c9_1 : decode cJ9_min_f86c9 1 = .ok (.lload_n 2, 1) := by decide +kernel
theorem dJ9_min_f86c9_2 : decode cJ9_min_f86c9 2 = .ok (.lcmp, 1) := by decide +kernel
theorem dJ9_min_f86c9_3 : decode cJ9_min_f86c9 3 = .ok (.ifCond .gt 7, 3) := by decide +kernel
theorem dJ9_min_f86c9_6 : decode cJ9_min_f86c9 6 = .ok (.lload_n 0, 1) := by decide +kernel
theorem dJ9_min_f86c9_7 : decode cJ9_min_f86c9 7 = .ok (.goto 4, 3) := by decide +kernel
theorem dJ9_min_f86c9_10 : decode cJ9_min_f86c9 10 = .ok (.lload_n 2, 1) := by decide +kernel
theorem dJ9_min_f86c9_11 : decode cJ9_min_f86c9 11 = .ok (.lreturn, 1) := by decide +kernel
theorem dJxa1e45_init_da8c8_0 : decode cJxa1e45_init_da8c8 0 = .ok (.aload_n 0, 1) := by decide +kernel
theorem dJxa1e45_init_da8c8_1 : decode cJxa1e45_init_da8c8 1 = .ok (.invokespecial 1, 3) := by decide +kernel
theorem dJxa1e45_init_da8c8_4 : decode cJxa1e45_init_da8c8 4 = .ok (.return_, 1) := by decide +kernel
theorem dJxc12de_init_da8c8_0 : decode cJxc12de_init_da8c8 0 = .ok (.aload_n 0, 1) := by decide +kernel
theorem dJxc12de_init_da8c8_1 : decode cJxc12de_init_da8c8 1 = .ok (.invokespecial 1, 3) := by decide +kernel
theorem dJxc12de_init_da8c8_4 : decode cJxc12de_init_da8c8 4 = .ok (.aload_n 0, 1) := by decide +kernel
theorem dJxc12de_init_da8c8_5 : decode cJxc12de_init_da8c8 5 = .ok (.iconst 0, 1) := by decide +kernel
theorem dJxc12de_init_da8c8_6 : decode cJxc12de_init_da8c8 6 = .ok (.putfield 7, 3) := by decide +kernel
theorem dJxc12de_init_da8c8_9 : decode cJxc12de_init_da8c8 9 = .ok (.return_, 1) := by decide +kernel
theorem dJx4a65c_init_da8c8_0 : decode cJx4a65c_init_da8c8 0 = .ok (.aload_n 0, 1) := by decide +kernel
theorem dJx4a65c_init_da8c8_1 : decode cJx4a65c_init_da8c8 1 = .ok (.invokespecial 1, 3) := by decide +kernel
theorem dJx4a65c_init_da8c8_4 : decode cJx4a65c_init_da8c8 4 = .ok (.aload_n 0, 1) := by decide +kernel
theorem dJx4a65c_init_da8c8_5 : decode cJx4a65c_init_da8c8 5 = .ok (.getstatic 39, 3) := by decide +kernel
theorem dJx4a65c_init_da8c8_8 : decode cJx4a65c_init_da8c8 8 = .ok (.putfield 9, 3) := by decide +kernel
theorem dJx4a65c_init_da8c8_11 : decode cJx4a65c_init_da8c8 11 = .ok (.return_, 1) := by decide +kernel
theorem dJx4a65c_grow_92f84_0 : decode cJx4a65c_grow_92f84 0 = .ok (.aload_n 0, 1) := by decide +kernel
theorem dJx4a65c_grow_92f84_1 : decode cJx4a65c_grow_92f84 1 = .ok (.getfield 9, 3) := by decide +kernel
theorem dJx4a65c_grow_92f84_4 : decode cJx4a65c_grow_92f84 4 = .ok (.arraylength, 1) := by decide +kernel
theorem dJx4a65c_grow_92f84_5 : decode cJx4a65c_grow_92f84 5 = .ok (.istore_n 2, 1) := by decide +kernel
theorem dJx4a65c_grow_92f84_6 : decode cJx4a65c_grow_92f84 6 = .ok (.iload_n 2, 1) := by decide +kernel
theorem dJx4a65c_grow_92f84_7 : decode cJx4a65c_grow_92f84 7 = .ok (.ifCond .gt 13, 3) := by decide +kernel
theorem dJx4a65c_grow_92f84_10 : decode cJx4a65c_grow_92f84 10 = .ok (.aload_n 0, 1) := by decide +kernel
theorem dJx4a65c_grow_92f84_11 : decode cJx4a65c_grow_92f84 11 = .ok (.getfield 9, 3) := by decide +kernel
theorem dJx4a65c_grow_92f84_14 : decode cJx4a65c_grow_92f84 14 = .ok (.getstatic 39, 3) := by decide +kernel
theorem dJx4a65c_grow_92f84_17 : decode cJx4a65c_grow_92f84 17 = .ok (.if_acmp .eq 28, 3) := by decide +kernel
theorem dJx4a65c_grow_92f84_20 : decode cJx4a65c_grow_92f84 20 = .ok (.iload_n 2, 1) := by decide +kernel
theorem dJx4a65c_grow_92f84_21 : decode cJx4a65c_grow_92f84 21 = .ok (.iload_n 1, 1) := by decide +kernel
theorem dJx4a65c_grow_92f84_22 : decode cJx4a65c_grow_92f84 22 = .ok (.iload_n 2, 1) := by decide +kernel
theorem dJx4a65c_grow_92f84_23 : decode cJx4a65c_grow_92f84 23 = .ok (.isub, 1) := by decide +kernel
theorem dJx4a65c_grow_92f84_24 : decode cJx4a65c_grow_92f84 24 = .ok (.iload_n 2, 1) := by decide +kernel
theorem dJx4a65c_grow_92f84_25 : decode cJx4a65c_grow_92f84 25 = .ok (.iconst 1, 1) := by decide +kernel
theorem dJx4a65c_grow_92f84_26 : decode cJx4a65c_grow_92f84 26 = .ok (.ishr, 1) := by decide +kernel
theorem dJx4a65c_grow_92f84_27 : decode cJx4a65c_grow_92f84 27 = .ok (.invokestatic 73, 3) := by decide +kernel
theorem dJx4a65c_grow_92f84_30 : decode cJx4a65c_grow_92f84 30 = .ok (.istore_n 3, 1) := by decide +kernel
theorem dJx4a65c_grow_92f84_31 : decode cJx4a65c_grow_92f84 31 = .ok (.aload_n 0, 1) := by decide +kernel
theorem dJx4a65c_grow_92f84_32 : decode cJx4a65c_grow_92f84 32 = .ok (.aload_n 0, 1) := by decide +kernel
theorem dJx4a65c_grow_92f84_33 : decode cJx4a65c_grow_92f84 33 = .ok (.getfield 9, 3) := by decide +kernel
theorem dJx4a65c_grow_92f84_36 : decode cJx4a65c_grow_92f84 36 = .ok (.iload_n 3, 1) := by decide +kernel
theorem dJx4a65c_grow_92f84_37 : decode cJx4a65c_grow_92f84 37 = .ok (.invokestatic 66, 3) := by decide +kernel
theorem dJx4a65c_grow_92f84_40 : decode cJx4a65c_grow_92f84 40 = .ok (.dup_x1, 1) := by decide +kernel
theorem dJx4a65c_grow_92f84_41 : decode cJx4a65c_grow_92f84 41 = .ok (.putfield 9, 3) := by decide +kernel
theorem dJx4a65c_grow_92f84_44 : decode cJx4a65c_grow_92f84 44 = .ok (.areturn, 1) := by decide +kernel
theorem dJx4a65c_grow_92f84_45 : decode cJx4a65c_grow_92f84 45 = .ok (.aload_n 0, 1) := by decide +kernel
theorem dJx4a65c_grow_92f84_46 : decode cJx4a65c_grow_92f84 46 = .ok (.bipush 10, 2) := by decide +kernel
theorem dJx4a65c_grow_92f84_48 : decode cJx4a65c_grow_92f84 48 = .ok (.iload_n 1, 1) := by decide +kernel
theorem dJx4a65c_grow_92f84_49 : decode cJx4a65c_grow_92f84 49 = .ok (.invokestatic 79, 3) := by decide +kernel
theorem dJx4a65c_grow_92f84_52 : decode cJx4a65c_grow_92f84 52 = .ok (.anewarray 7, 3) := by decide +kernel
theorem dJx4a65c_grow_92f84_55 : decode cJx4a65c_grow_92f84 55 = .ok (.dup_x1, 1) := by decide +kernel
theorem dJx4a65c_grow_92f84_56 : decode cJx4a65c_grow_92f84 56 = .ok (.putfield 9, 3) := by decide +kernel
theorem dJx4a65c_grow_92f84_59 : decode cJx4a65c_grow_92f84 59 = .ok (.areturn, 1) := by decide +kernel
theorem dJx4a65c_grow_d5877_0 : decode cJx4a65c_grow_d5877 0 = .ok (.aload_n 0, 1) := by decide +kernel
theorem dJx4a65c_grow_d5877_1 : decode cJx4a65c_grow_d5877 1 = .ok (.aload_n 0, 1) := by decide +kernel
theorem dJx4a65c_grow_d5877_2 : decode cJx4a65c_grow_d5877 2 = .ok (.getfield 48, 3) := by decide +kernel
theorem dJx4a65c_grow_d5877_5 : decode cJx4a65c_grow_d5877 5 = .ok (.iconst 1, 1) := by decide +kernel
theorem dJx4a65c_grow_d5877_6 : decode cJx4a65c_grow_d5877 6 = .ok (.iadd, 1) := by decide +kernel
theorem dJx4a65c_grow_d5877_7 : decode cJx4a65c_grow_d5877 7 = .ok (.invokevirtual 69, 3) := by decide +kernel
theorem dJx4a65c_grow_d5877_10 : decode cJx4a65c_grow_d5877 10 = .ok (.areturn, 1) := by decide +kernel
theorem dJx4a65c_size_8abf5_0 : decode cJx4a65c_size_8abf5 0 = .ok (.aload_n 0, 1) := by decide +kernel
theorem dJx4a65c_size_8abf5_1 : decode cJx4a65c_size_8abf5 1 = .ok (.getfield 48, 3) := by decide +kernel
theorem dJx4a65c_size_8abf5_4 : decode cJx4a65c_size_8abf5 4 = .ok (.ireturn, 1) := by decide +kernel
theorem dJx4a65c_elementData_915e3_0 : decode cJx4a65c_elementData_915e3 0 = .ok (.aload_n 0, 1) := by decide +kernel
theorem dJx4a65c_elementData_915e3_1 : decode cJx4a65c_elementData_915e3 1 = .ok (.getfield 9, 3) := by decide +kernel
theorem dJx4a65c_elementData_915e3_4 : decode cJx4a65c_elementData_915e3 4 = .ok (.iload_n 1, 1) := by decide +kernel
theorem dJx4a65c_elementData_915e3_5 : decode cJx4a65c_elementData_915e3 5 = .ok (.aaload, 1) := by decide +kernel
theorem dJx4a65c_elementData_915e3_6 : decode cJx4a65c_elementData_915e3 6 = .ok (.areturn, 1) := by decide +kernel
theorem dJx4a65c_get_915e3_0 : decode cJx4a65c_get_915e3 0 = .ok (.iload_n 1, 1) := by decide +kernel
theorem dJx4a65c_get_915e3_1 : decode cJx4a65c_get_915e3 1 = .ok (.aload_n 0, 1) := by decide +kernel
theorem dJx4a65c_get_915e3_2 : decode cJx4a65c_get_915e3 2 = .ok (.getfield 48, 3) := by decide +kernel
theorem dJx4a65c_get_915e3_5 : decode cJx4a65c_get_915e3 5 = .ok (.invokestatic 118, 3) := by decide +kernel
theorem dJx4a65c_get_915e3_8 : decode cJx4a65c_get_915e3 8 = .ok (.pop, 1) := by decide +kernel
theorem dJx4a65c_get_915e3_9 : decode cJx4a65c_get_915e3 9 = .ok (.aload_n 0, 1) := by decide +kernel
theorem dJx4a65c_get_915e3_10 : decode cJx4a65c_get_915e3 10 = .ok (.iload_n 1, 1) := by decide +kernel
theorem dJx4a65c_get_915e3_11 : decode cJx4a65c_get_915e3 11 = .ok (.invokevirtual 123, 3) := by decide +kernel
theorem dJx4a65c_get_915e3_14 : decode cJx4a65c_get_915e3 14 = .ok (.areturn, 1) := by decide +kernel
theorem dJx4a65c_add_72be8_0 : decode cJx4a65c_add_72be8 0 = .ok (.iload_n 3, 1) := by decide +kernel
theorem dJx4a65c_add_72be8_1 : decode cJx4a65c_add_72be8 1 = .ok (.aload_n 2, 1) := by decide +kernel
theorem dJx4a65c_add_72be8_2 : decode cJx4a65c_add_72be8 2 = .ok (.arraylength, 1) := by decide +kernel
theorem dJx4a65c_add_72be8_3 : decode cJx4a65c_add_72be8 3 = .ok (.if_icmp .ne 8, 3) := by decide +kernel
theorem dJx4a65c_add_72be8_6 : decode cJx4a65c_add_72be8 6 = .ok (.aload_n 0, 1) := by decide +kernel
theorem dJx4a65c_add_72be8_7 : decode cJx4a65c_add_72be8 7 = .ok (.invokevirtual 129, 3) := by decide +kernel
theorem dJx4a65c_add_72be8_10 : decode cJx4a65c_add_72be8 10 = .ok (.astore_n 2, 1) := by decide +kernel
theorem dJx4a65c_add_72be8_11 : decode cJx4a65c_add_72be8 11 = .ok (.aload_n 2, 1) := by decide +kernel
theorem dJx4a65c_add_72be8_12 : decode cJx4a65c_add_72be8 12 = .ok (.iload_n 3, 1) := by decide +kernel
theorem dJx4a65c_add_72be8_13 : decode cJx4a65c_add_72be8 13 = .ok (.aload_n 1, 1) := by decide +kernel
theorem dJx4a65c_add_72be8_14 : decode cJx4a65c_add_72be8 14 = .ok (.aastore, 1) := by decide +kernel
theorem dJx4a65c_add_72be8_15 : decode cJx4a65c_add_72be8 15 = .ok (.aload_n 0, 1) := by decide +kernel
theorem dJx4a65c_add_72be8_16 : decode cJx4a65c_add_72be8 16 = .ok (.iload_n 3, 1) := by decide +kernel
theorem dJx4a65c_add_72be8_17 : decode cJx4a65c_add_72be8 17 = .ok (.iconst 1, 1) := by decide +kernel
theorem dJx4a65c_add_72be8_18 : decode cJx4a65c_add_72be8 18 = .ok (.iadd, 1) := by decide +kernel
theorem dJx4a65c_add_72be8_19 : decode cJx4a65c_add_72be8 19 = .ok (.putfield 48, 3) := by decide +kernel
theorem dJx4a65c_add_72be8_22 : decode cJx4a65c_add_72be8 22 = .ok (.return_, 1) := by decide +kernel
theorem dJx4a65c_add_9ea2d_0 : decode cJx4a65c_add_9ea2d 0 = .ok (.aload_n 0, 1) := by decide +kernel
theorem dJx4a65c_add_9ea2d_1 : decode cJx4a65c_add_9ea2d 1 = .ok (.dup, 1) := by decide +kernel
theorem dJx4a65c_add_9ea2d_2 : decode cJx4a65c_add_9ea2d 2 = .ok (.getfield 63, 3) := by decide +kernel
theorem dJx4a65c_add_9ea2d_5 : decode cJx4a65c_add_9ea2d 5 = .ok (.iconst 1, 1) := by decide +kernel
theorem dJx4a65c_add_9ea2d_6 : decode cJx4a65c_add_9ea2d 6 = .ok (.iadd, 1) := by decide +kernel
theorem dJx4a65c_add_9ea2d_7 : decode cJx4a65c_add_9ea2d 7 = .ok (.putfield 63, 3) := by decide +kernel
theorem dJx4a65c_add_9ea2d_10 : decode cJx4a65c_add_9ea2d 10 = .ok (.aload_n 0, 1) := by decide +kernel
theorem dJx4a65c_add_9ea2d_11 : decode cJx4a65c_add_9ea2d 11 = .ok (.aload_n 1, 1) := by decide +kernel
theorem dJx4a65c_add_9ea2d_12 : decode cJx4a65c_add_9ea2d 12 = .ok (.aload_n 0, 1) := by decide +kernel
theorem dJx4a65c_add_9ea2d_13 : decode cJx4a65c_add_9ea2d 13 = .ok (.getfield 9, 3) := by decide +kernel
theorem dJx4a65c_add_9ea2d_16 : decode cJx4a65c_add_9ea2d 16 = .ok (.aload_n 0, 1) := by decide +kernel
theorem dJx4a65c_add_9ea2d_17 : decode cJx4a65c_add_9ea2d 17 = .ok (.getfield 48, 3) := by decide +kernel
theorem dJx4a65c_add_9ea2d_20 : decode cJx4a65c_add_9ea2d 20 = .ok (.invokevirtual 131, 3) := by decide +kernel
theorem dJx4a65c_add_9ea2d_23 : decode cJx4a65c_add_9ea2d 23 = .ok (.iconst 1, 1) := by decide +kernel
theorem dJx4a65c_add_9ea2d_24 : decode cJx4a65c_add_9ea2d 24 = .ok (.ireturn, 1) := by decide +kernel
theorem dJ7_copyOf_1904c_0 : decode cJ7_copyOf_1904c 0 = .ok (.aload_n 0, 1) := by decide +kernel
theorem dJ7_copyOf_1904c_1 : decode cJ7_copyOf_1904c 1 = .ok (.iload_n 1, 1) := by decide +kernel
theorem dJ7_copyOf_1904c_2 : decode cJ7_copyOf_1904c 2 = .ok (.aload_n 0, 1) := by decide +kernel
theorem dJ7_copyOf_1904c_3 : decode cJ7_copyOf_1904c 3 = .ok (.invokevirtual 86, 3) := by decide +kernel
theorem dJ7_copyOf_1904c_6 : decode cJ7_copyOf_1904c 6 = .ok (.invokestatic 300, 3) := by decide +kernel
theorem dJ7_copyOf_1904c_9 : decode cJ7_copyOf_1904c 9 = .ok (.areturn, 1) := by decide +kernel
theorem dJ7_copyOf_6403c_0 : decode cJ7_copyOf_6403c 0 = .ok (.aload_n 2, 1) := by decide +kernel
theorem dJ7_copyOf_6403c_1 : decode cJ7_copyOf_6403c 1 = .ok (.ldc 110, 2) := by decide +kernel
theorem dJ7_copyOf_6403c_3 : decode cJ7_copyOf_6403c 3 = .ok (.if_acmp .ne 10, 3) := by decide +kernel
theorem dJ7_copyOf_6403c_6 : decode cJ7_copyOf_6403c 6 = .ok (.iload_n 1, 1) := by decide +kernel
theorem dJ7_copyOf_6403c_7 : decode cJ7_copyOf_6403c 7 = .ok (.anewarray 2, 3) := by decide +kernel
theorem dJ7_copyOf_6403c_10 : decode cJ7_copyOf_6403c 10 = .ok (.goto 14, 3) := by decide +kernel
theorem dJ7_copyOf_6403c_13 : decode cJ7_copyOf_6403c 13 = .ok (.aload_n 2, 1) := by decide +kernel
theorem dJ7_copyOf_6403c_14 : decode cJ7_copyOf_6403c 14 = .ok (.invokevirtual 90, 3) := by decide +kernel
theorem dJ7_copyOf_6403c_17 : decode cJ7_copyOf_6403c 17 = .ok (.iload_n 1, 1) := by decide +kernel
theorem dJ7_copyOf_6403c_18 : decode cJ7_copyOf_6403c 18 = .ok (.invokestatic 95, 3) := by decide +kernel
theorem dJ7_copyOf_6403c_21 : decode cJ7_copyOf_6403c 21 = .ok (.checkcast 110, 3) := by decide +kernel
theorem dJ7_copyOf_6403c_24 : decode cJ7_copyOf_6403c 24 = .ok (.astore_n 3, 1) := by decide +kernel
theorem dJ7_copyOf_6403c_25 : decode cJ7_copyOf_6403c 25 = .ok (.aload_n 0, 1) := by decide +kernel
theorem dJ7_copyOf_6403c_26 : decode cJ7_copyOf_6403c 26 = .ok (.iconst 0, 1) := by decide +kernel
theorem dJ7_copyOf_6403c_27 : decode cJ7_copyOf_6403c 27 = .ok (.aload_n 3, 1) := by decide +kernel
theorem dJ7_copyOf_6403c_28 : decode cJ7_copyOf_6403c 28 = .ok (.iconst 0, 1) := by decide +kernel
theorem dJ7_copyOf_6403c_29 : decode cJ7_copyOf_6403c 29 = .ok (.aload_n 0, 1) := by decide +kernel
theorem dJ7_copyOf_6403c_30 : decode cJ7_copyOf_6403c 30 = .ok (.arraylength, 1) := by decide +kernel
theorem dJ7_copyOf_6403c_31 : decode cJ7_copyOf_6403c 31 = .ok (.iload_n 1, 1) := by decide +kernel
theorem dJ7_copyOf_6403c_32 : decode cJ7_copyOf_6403c 32 = .ok (.invokestatic 304, 3) := by decide +kernel
theorem dJ7_copyOf_6403c_35 : decode cJ7_copyOf_6403c 35 = .ok (.invokestatic 150, 3) := by decide +kernel
theorem dJ7_copyOf_6403c_38 : decode cJ7_copyOf_6403c 38 = .ok (.aload_n 3, 1) := by decide +kernel
theorem dJ7_copyOf_6403c_39 : decode cJ7_copyOf_6403c 39 = .ok (.areturn, 1) := by decide +kernel
theorem dJ15_checkIndex_7cf53_0 : decode cJ15_checkIndex_7cf53 0 = .ok (.iload_n 0, 1) := by decide +kernel
theorem dJ15_checkIndex_7cf53_1 : decode cJ15_checkIndex_7cf53 1 = .ok (.iload_n 1, 1) := by decide +kernel
theorem dJ15_checkIndex_7cf53_2 : decode cJ15_checkIndex_7cf53 2 = .ok (.aconst_null, 1) := by decide +kernel
theorem dJ15_checkIndex_7cf53_3 : decode cJ15_checkIndex_7cf53 3 = .ok (.invokestatic 105, 3) := by decide +kernel
theorem dJ15_checkIndex_7cf53_6 : decode cJ15_checkIndex_7cf53 6 = .ok (.ireturn, 1) := by decide +kernel
theorem dJ8_newLength_cabcc_0 : decode cJ8_newLength_cabcc 0 = .ok (.iload_n 0, 1) := by decide +kernel
theorem dJ8_newLength_cabcc_1 : decode cJ8_newLength_cabcc 1 = .ok (.iload_n 1, 1) := by decide +kernel
theorem dJ8_newLength_cabcc_2 : decode cJ8_newLength_cabcc 2 = .ok (.iload_n 2, 1) := by decide +kernel
theorem dJ8_newLength_cabcc_3 : decode cJ8_newLength_cabcc 3 = .ok (.invokestatic 194, 3) := by decide +kernel
theorem dJ8_newLength_cabcc_6 : decode cJ8_newLength_cabcc 6 = .ok (.iadd, 1) := by decide +kernel
theorem dJ8_newLength_cabcc_7 : decode cJ8_newLength_cabcc 7 = .ok (.istore_n 3, 1) := by decide +kernel
theorem dJ8_newLength_cabcc_8 : decode cJ8_newLength_cabcc 8 = .ok (.iconst 0, 1) := by decide +kernel
theorem dJ8_newLength_cabcc_9 : decode cJ8_newLength_cabcc 9 = .ok (.iload_n 3, 1) := by decide +kernel
theorem dJ8_newLength_cabcc_10 : decode cJ8_newLength_cabcc 10 = .ok (.if_icmp .ge 11, 3) := by decide +kernel
theorem dJ8_newLength_cabcc_13 : decode cJ8_newLength_cabcc 13 = .ok (.iload_n 3, 1) := by decide +kernel
theorem dJ8_newLength_cabcc_14 : decode cJ8_newLength_cabcc 14 = .ok (.ldc 200, 2) := by decide +kernel
theorem dJ8_newLength_cabcc_16 : decode cJ8_newLength_cabcc 16 = .ok (.if_icmp .gt 5, 3) := by decide +kernel
theorem dJ8_newLength_cabcc_19 : decode cJ8_newLength_cabcc 19 = .ok (.iload_n 3, 1) := by decide +kernel
theorem dJ8_newLength_cabcc_20 : decode cJ8_newLength_cabcc 20 = .ok (.ireturn, 1) := by decide +kernel
theorem dJ8_newLength_cabcc_21 : decode cJ8_newLength_cabcc 21 = .ok (.iload_n 0, 1) := by decide +kernel
theorem dJ8_newLength_cabcc_22 : decode cJ8_newLength_cabcc 22 = .ok (.iload_n 1, 1) := by decide +kernel
theorem dJ8_newLength_cabcc_23 : decode cJ8_newLength_cabcc 23 = .ok (.invokestatic 201, 3) := by decide +kernel
theorem dJ8_newLength_cabcc_26 : decode cJ8_newLength_cabcc 26 = .ok (.ireturn, 1) := by decide +kernel
theorem dJ8_hugeLength_7cf53_0 : decode cJ8_hugeLength_7cf53 0 = .ok (.iload_n 0, 1) := by decide +kernel
theorem dJ8_hugeLength_7cf53_1 : decode cJ8_hugeLength_7cf53 1 = .ok (.iload_n 1, 1) := by decide +kernel
theorem dJ8_hugeLength_7cf53_2 : decode cJ8_hugeLength_7cf53 2 = .ok (.iadd, 1) := by decide +kernel
theorem dJ8_hugeLength_7cf53_3 : decode cJ8_hugeLength_7cf53 3 = .ok (.istore_n 2, 1) := by decide +kernel
theorem dJ8_hugeLength_7cf53_4 : decode cJ8_hugeLength_7cf53 4 = .ok (.iload_n 2, 1) := by decide +kernel
theorem dJ8_hugeLength_7cf53_5 : decode cJ8_hugeLength_7cf53 5 = .ok (.ifCond .ge 44, 3) := by decide +kernel
theorem dJ8_hugeLength_7cf53_8 : decode cJ8_hugeLength_7cf53 8 = .ok (.new 204, 3) := by decide +kernel
theorem dJ8_hugeLength_7cf53_11 : decode cJ8_hugeLength_7cf53 11 = .ok (.dup, 1) := by decide +kernel
theorem dJ8_hugeLength_7cf53_12 : decode cJ8_hugeLength_7cf53 12 = .ok (.new 89, 3) := by decide +kernel
theorem dJ8_hugeLength_7cf53_15 : decode cJ8_hugeLength_7cf53 15 = .ok (.dup, 1) := by decide +kernel
theorem dJ8_hugeLength_7cf53_16 : decode cJ8_hugeLength_7cf53 16 = .ok (.invokespecial 91, 3) := by decide +kernel
theorem dJ8_hugeLength_7cf53_19 : decode cJ8_hugeLength_7cf53 19 = .ok (.ldc 206, 2) := by decide +kernel
theorem dJ8_hugeLength_7cf53_21 : decode cJ8_hugeLength_7cf53 21 = .ok (.invokevirtual 94, 3) := by decide +kernel
theorem dJ8_hugeLength_7cf53_24 : decode cJ8_hugeLength_7cf53 24 = .ok (.iload_n 0, 1) := by decide +kernel
theorem dJ8_hugeLength_7cf53_25 : decode cJ8_hugeLength_7cf53 25 = .ok (.invokevirtual 98, 3) := by decide +kernel
theorem dJ8_hugeLength_7cf53_28 : decode cJ8_hugeLength_7cf53 28 = .ok (.ldc 208, 2) := by decide +kernel
theorem dJ8_hugeLength_7cf53_30 : decode cJ8_hugeLength_7cf53 30 = .ok (.invokevirtual 94, 3) := by decide +kernel
theorem dJ8_hugeLength_7cf53_33 : decode cJ8_hugeLength_7cf53 33 = .ok (.iload_n 1, 1) := by decide +kernel
theorem dJ8_hugeLength_7cf53_34 : decode cJ8_hugeLength_7cf53 34 = .ok (.invokevirtual 98, 3) := by decide +kernel
theorem dJ8_hugeLength_7cf53_37 : decode cJ8_hugeLength_7cf53 37 = .ok (.ldc 210, 2) := by decide +kernel
theorem dJ8_hugeLength_7cf53_39 : decode cJ8_hugeLength_7cf53 39 = .ok (.invokevirtual 94, 3) := by decide +kernel
theorem dJ8_hugeLength_7cf53_42 : decode cJ8_hugeLength_7cf53 42 = .ok (.invokevirtual 101, 3) := by decide +kernel
theorem dJ8_hugeLength_7cf53_45 : decode cJ8_hugeLength_7cf53 45 = .ok (.invokespecial 212, 3) := by decide +kernel
theorem dJ8_hugeLength_7cf53_48 : decode cJ8_hugeLength_7cf53 48 = .ok (.athrow, 1) := by decide +kernel
theorem dJ8_hugeLength_7cf53_49 : decode cJ8_hugeLength_7cf53 49 = .ok (.iload_n 2, 1) := by decide +kernel
theorem dJ8_hugeLength_7cf53_50 : decode cJ8_hugeLength_7cf53 50 = .ok (.ldc 200, 2) := by decide +kernel
theorem dJ8_hugeLength_7cf53_52 : decode cJ8_hugeLength_7cf53 52 = .ok (.if_icmp .gt 6, 3) := by decide +kernel
theorem dJ8_hugeLength_7cf53_55 : decode cJ8_hugeLength_7cf53 55 = .ok (.ldc 200, 2) := by decide +kernel
theorem dJ8_hugeLength_7cf53_57 : decode cJ8_hugeLength_7cf53 57 = .ok (.ireturn, 1) := by decide +kernel
theorem dJ8_hugeLength_7cf53_58 : decode cJ8_hugeLength_7cf53 58 = .ok (.iload_n 2, 1) := by decide +kernel
theorem dJ8_hugeLength_7cf53_59 : decode cJ8_hugeLength_7cf53 59 = .ok (.ireturn, 1) := by decide +kernel
theorem dJ3_checkIndex_8e157_0 : decode cJ3_checkIndex_8e157 0 = .ok (.iload_n 0, 1) := by decide +kernel
theorem dJ3_checkIndex_8e157_1 : decode cJ3_checkIndex_8e157 1 = .ok (.ifCond .lt 8, 3) := by decide +kernel
theorem dJ3_checkIndex_8e157_4 : decode cJ3_checkIndex_8e157 4 = .ok (.iload_n 0, 1) := by decide +kernel
theorem dJ3_checkIndex_8e157_5 : decode cJ3_checkIndex_8e157 5 = .ok (.iload_n 1, 1) := by decide +kernel
theorem dJ3_checkIndex_8e157_6 : decode cJ3_checkIndex_8e157 6 = .ok (.if_icmp .lt 10, 3) := by decide +kernel
theorem dJ3_checkIndex_8e157_9 : decode cJ3_checkIndex_8e157 9 = .ok (.aload_n 2, 1) := by decide +kernel
theorem dJ3_checkIndex_8e157_10 : decode cJ3_checkIndex_8e157 10 = .ok (.iload_n 0, 1) := by decide +kernel
theorem dJ3_checkIndex_8e157_11 : decode cJ3_checkIndex_8e157 11 = .ok (.iload_n 1, 1) := by decide +kernel
theorem dJ3_checkIndex_8e157_12 : decode cJ3_checkIndex_8e157 12 = .ok (.invokestatic 95, 3) := by decide +kernel
theorem dJ3_checkIndex_8e157_15 : decode cJ3_checkIndex_8e157 15 = .ok (.athrow, 1) := by decide +kernel
theorem dJ3_checkIndex_8e157_16 : decode cJ3_checkIndex_8e157 16 = .ok (.iload_n 0, 1) := by decide +kernel
theorem dJ3_checkIndex_8e157_17 : decode cJ3_checkIndex_8e157 17 = .ok (.ireturn, 1) := by decide +kernel
theorem dL_cell_0 : decode cL_cell 0 = .ok (.iload_n 1, 1) := by decide +kernel
theorem dL_cell_1 : decode cL_cell 1 = .ok (.aload_n 0, 1) := by decide +kernel
theorem dL_cell_2 : decode cL_cell 2 = .ok (.arraylength, 1) := by decide +kernel
theorem dL_cell_3 : decode cL_cell 3 = .ok (.if_icmp .ge 9, 3) := by decide +kernel
theorem dL_cell_6 : decode cL_cell 6 = .ok (.aload_n 0, 1) := by decide +kernel
theorem dL_cell_7 : decode cL_cell 7 = .ok (.iload_n 1, 1) := by decide +kernel
theorem dL_cell_8 : decode cL_cell 8 = .ok (.iaload, 1) := by decide +kernel
theorem dL_cell_9 : decode cL_cell 9 = .ok (.goto 10, 3) := by decide +kernel
theorem dL_cell_12 : decode cL_cell 12 = .ok (.ldc 7, 2) := by decide +kernel
theorem dL_cell_14 : decode cL_cell 14 = .ok (.iload_n 1, 1) := by decide +kernel
theorem dL_cell_15 : decode cL_cell 15 = .ok (.bipush 67, 2) := by decide +kernel
theorem dL_cell_17 : decode cL_cell 17 = .ok (.iadd, 1) := by decide +kernel
theorem dL_cell_18 : decode cL_cell 18 = .ok (.imul, 1) := by decide +kernel
theorem dL_cell_19 : decode cL_cell 19 = .ok (.istore_n 2, 1) := by decide +kernel
theorem dL_cell_20 : decode cL_cell 20 = .ok (.iload_n 2, 1) := by decide +kernel
theorem dL_cell_21 : decode cL_cell 21 = .ok (.iload_n 2, 1) := by decide +kernel
theorem dL_cell_22 : decode cL_cell 22 = .ok (.bipush 16, 2) := by decide +kernel
theorem dL_cell_24 : decode cL_cell 24 = .ok (.iushr, 1) := by decide +kernel
theorem dL_cell_25 : decode cL_cell 25 = .ok (.ixor, 1) := by decide +kernel
theorem dL_cell_26 : decode cL_cell 26 = .ok (.ldc 8, 2) := by decide +kernel
theorem dL_cell_28 : decode cL_cell 28 = .ok (.imul, 1) := by decide +kernel
theorem dL_cell_29 : decode cL_cell 29 = .ok (.sipush 203, 3) := by decide +kernel
theorem dL_cell_32 : decode cL_cell 32 = .ok (.iload_n 1, 1) := by decide +kernel
theorem dL_cell_33 : decode cL_cell 33 = .ok (.imul, 1) := by decide +kernel
theorem dL_cell_34 : decode cL_cell 34 = .ok (.iadd, 1) := by decide +kernel
theorem dL_cell_35 : decode cL_cell 35 = .ok (.ireturn, 1) := by decide +kernel
theorem dL_some_0 : decode cL_some 0 = .ok (.iload_n 0, 1) := by decide +kernel
theorem dL_some_1 : decode cL_some 1 = .ok (.iconst 1, 1) := by decide +kernel
theorem dL_some_2 : decode cL_some 2 = .ok (.iushr, 1) := by decide +kernel
theorem dL_some_3 : decode cL_some 3 = .ok (.iload_n 1, 1) := by decide +kernel
theorem dL_some_4 : decode cL_some 4 = .ok (.irem, 1) := by decide +kernel
theorem dL_some_5 : decode cL_some 5 = .ok (.ireturn, 1) := by decide +kernel
theorem dL_call_0 : decode cL_call 0 = .ok (.aload_n 0, 1) := by decide +kernel
theorem dL_call_1 : decode cL_call 1 = .ok (.iload_n 1, 1) := by decide +kernel
theorem dL_call_2 : decode cL_call 2 = .ok (.iload_n 2, 1) := by decide +kernel
theorem dL_call_3 : decode cL_call 3 = .ok (.iload_n 3, 1) := by decide +kernel
theorem dL_call_4 : decode cL_call 4 = .ok (.iload 4, 2) := by decide +kernel
theorem dL_call_6 : decode cL_call 6 = .ok (.invokestatic 9, 3) := by decide +kernel
theorem dL_call_9 : decode cL_call 9 = .ok (.ireturn, 1) := by decide +kernel
theorem dL_call_10 : decode cL_call 10 = .ok (.astore 5, 2) := by decide +kernel
theorem dL_call_12 : decode cL_call 12 = .ok (.ldc 17, 2) := by decide +kernel
theorem dL_call_14 : decode cL_call 14 = .ok (.ireturn, 1) := by decide +kernel
theorem dL_call_15 : decode cL_call 15 = .ok (.astore 5, 2) := by decide +kernel
theorem dL_call_17 : decode cL_call 17 = .ok (.ldc 20, 2) := by decide +kernel
theorem dL_call_19 : decode cL_call 19 = .ok (.ireturn, 1) := by decide +kernel
theorem dL_call_20 : decode cL_call 20 = .ok (.astore 5, 2) := by decide +kernel
theorem dL_call_22 : decode cL_call 22 = .ok (.ldc 23, 2) := by decide +kernel
theorem dL_call_24 : decode cL_call 24 = .ok (.ireturn, 1) := by decide +kernel
theorem dL_call_25 : decode cL_call 25 = .ok (.astore 5, 2) := by decide +kernel
theorem dL_call_27 : decode cL_call 27 = .ok (.ldc 26, 2) := by decide +kernel
theorem dL_call_29 : decode cL_call 29 = .ok (.ireturn, 1) := by decide +kernel
theorem dL_does_0 : decode cL_does 0 = .ok (.iload_n 1, 1) := by decide +kernel
theorem dL_does_1 : decode cL_does 1 = .ok (.tableswitch 292 0 20 #[99, 106, 115, 122, 129, 138, 145, 179, 185, 201, 207, 223, 229, 243, 250, 256, 262, 268, 274, 280, 286], 99) := by decide +kernel
theorem dL_does_100 : decode cL_does 100 = .ok (.aload_n 0, 1) := by decide +kernel
theorem dL_does_101 : decode cL_does 101 = .ok (.iload_n 2, 1) := by decide +kernel
theorem dL_does_102 : decode cL_does 102 = .ok (.iload_n 3, 1) := by decide +kernel
theorem dL_does_103 : decode cL_does 103 = .ok (.invokevirtual 27, 3) := by decide +kernel
theorem dL_does_106 : decode cL_does 106 = .ok (.ireturn, 1) := by decide +kernel
theorem dL_does_107 : decode cL_does 107 = .ok (.aload_n 0, 1) := by decide +kernel
theorem dL_does_108 : decode cL_does 108 = .ok (.iload_n 2, 1) := by decide +kernel
theorem dL_does_109 : decode cL_does 109 = .ok (.iload_n 3, 1) := by decide +kernel
theorem dL_does_110 : decode cL_does 110 = .ok (.iload 4, 2) := by decide +kernel
theorem dL_does_112 : decode cL_does 112 = .ok (.invokevirtual 33, 3) := by decide +kernel
theorem dL_does_115 : decode cL_does 115 = .ok (.ireturn, 1) := by decide +kernel
theorem dL_does_116 : decode cL_does 116 = .ok (.aload_n 0, 1) := by decide +kernel
theorem dL_does_117 : decode cL_does 117 = .ok (.iload_n 2, 1) := by decide +kernel
theorem dL_does_118 : decode cL_does 118 = .ok (.iload_n 3, 1) := by decide +kernel
theorem dL_does_119 : decode cL_does 119 = .ok (.invokevirtual 37, 3) := by decide +kernel
theorem dL_does_122 : decode cL_does 122 = .ok (.ireturn, 1) := by decide +kernel
theorem dL_does_123 : decode cL_does 123 = .ok (.aload_n 0, 1) := by decide +kernel
theorem dL_does_124 : decode cL_does 124 = .ok (.iload_n 2, 1) := by decide +kernel
theorem dL_does_125 : decode cL_does 125 = .ok (.iload_n 3, 1) := by decide +kernel
theorem dL_does_126 : decode cL_does 126 = .ok (.invokevirtual 40, 3) := by decide +kernel
theorem dL_does_129 : decode cL_does 129 = .ok (.ireturn, 1) := by decide +kernel
theorem dL_does_130 : decode cL_does 130 = .ok (.aload_n 0, 1) := by decide +kernel
theorem dL_does_131 : decode cL_does 131 = .ok (.iload_n 2, 1) := by decide +kernel
theorem dL_does_132 : decode cL_does 132 = .ok (.iload_n 3, 1) := by decide +kernel
theorem dL_does_133 : decode cL_does 133 = .ok (.iload 4, 2) := by decide +kernel
theorem dL_does_135 : decode cL_does 135 = .ok (.invokevirtual 43, 3) := by decide +kernel
theorem dL_does_138 : decode cL_does 138 = .ok (.ireturn, 1) := by decide +kernel
theorem dL_does_139 : decode cL_does 139 = .ok (.aload_n 0, 1) := by decide +kernel
theorem dL_does_140 : decode cL_does 140 = .ok (.iload_n 2, 1) := by decide +kernel
theorem dL_does_141 : decode cL_does 141 = .ok (.iload_n 3, 1) := by decide +kernel
theorem dL_does_142 : decode cL_does 142 = .ok (.invokevirtual 46, 3) := by decide +kernel
theorem dL_does_145 : decode cL_does 145 = .ok (.ireturn, 1) := by decide +kernel
theorem dL_does_146 : decode cL_does 146 = .ok (.aload_n 0, 1) := by decide +kernel
theorem dL_does_147 : decode cL_does 147 = .ok (.iload_n 2, 1) := by decide +kernel
theorem dL_does_148 : decode cL_does 148 = .ok (.iload_n 3, 1) := by decide +kernel
theorem dL_does_149 : decode cL_does 149 = .ok (.iconst 1, 1) := by decide +kernel
theorem dL_does_150 : decode cL_does 150 = .ok (.ishr, 1) := by decide +kernel
theorem dL_does_151 : decode cL_does 151 = .ok (.iload_n 3, 1) := by decide +kernel
theorem dL_does_152 : decode cL_does 152 = .ok (.iconst 1, 1) := by decide +kernel
theorem dL_does_153 : decode cL_does 153 = .ok (.iand, 1) := by decide +kernel
theorem dL_does_154 : decode cL_does 154 = .ok (.iconst 1, 1) := by decide +kernel
theorem dL_does_155 : decode cL_does 155 = .ok (.if_icmp .ne 7, 3) := by decide +kernel
theorem dL_does_158 : decode cL_does 158 = .ok (.iconst 1, 1) := by decide +kernel
theorem dL_does_159 : decode cL_does 159 = .ok (.goto 4, 3) := by decide +kernel
theorem dL_does_162 : decode cL_does 162 = .ok (.iconst 0, 1) := by decide +kernel
theorem dL_does_163 : decode cL_does 163 = .ok (.iload 4, 2) := by decide +kernel
theorem dL_does_165 : decode cL_does 165 = .ok (.bipush 8, 2) := by decide +kernel
theorem dL_does_167 : decode cL_does 167 = .ok (.ishr, 1) := by decide +kernel
theorem dL_does_168 : decode cL_does 168 = .ok (.iload 4, 2) := by decide +kernel
theorem dL_does_170 : decode cL_does 170 = .ok (.sipush 255, 3) := by decide +kernel
theorem dL_does_173 : decode cL_does 173 = .ok (.iand, 1) := by decide +kernel
theorem dL_does_174 : decode cL_does 174 = .ok (.iconst 1, 1) := by decide +kernel
theorem dL_does_175 : decode cL_does 175 = .ok (.isub, 1) := by decide +kernel
theorem dL_does_176 : decode cL_does 176 = .ok (.invokevirtual 49, 3) := by decide +kernel
theorem dL_does_179 : decode cL_does 179 = .ok (.ireturn, 1) := by decide +kernel
theorem dL_does_180 : decode cL_does 180 = .ok (.aload_n 0, 1) := by decide +kernel
theorem dL_does_181 : decode cL_does 181 = .ok (.iload_n 2, 1) := by decide +kernel
theorem dL_does_182 : decode cL_does 182 = .ok (.invokevirtual 53, 3) := by decide +kernel
theorem dL_does_185 : decode cL_does 185 = .ok (.ireturn, 1) := by decide +kernel
theorem dL_does_186 : decode cL_does 186 = .ok (.aload_n 0, 1) := by decide +kernel
theorem dL_does_187 : decode cL_does 187 = .ok (.iload_n 2, 1) := by decide +kernel
theorem dL_does_188 : decode cL_does 188 = .ok (.iload_n 3, 1) := by decide +kernel
theorem dL_does_189 : decode cL_does 189 = .ok (.iconst 1, 1) := by decide +kernel
theorem dL_does_190 : decode cL_does 190 = .ok (.if_icmp .ne 7, 3) := by decide +kernel
theorem dL_does_193 : decode cL_does 193 = .ok (.iconst 1, 1) := by decide +kernel
theorem dL_does_194 : decode cL_does 194 = .ok (.goto 4, 3) := by decide +kernel
theorem dL_does_197 : decode cL_does 197 = .ok (.iconst 0, 1) := by decide +kernel
theorem dL_does_198 : decode cL_does 198 = .ok (.invokevirtual 57, 3) := by decide +kernel
theorem dL_does_201 : decode cL_does 201 = .ok (.ireturn, 1) := by decide +kernel
theorem dL_does_202 : decode cL_does 202 = .ok (.aload_n 0, 1) := by decide +kernel
theorem dL_does_203 : decode cL_does 203 = .ok (.iload_n 2, 1) := by decide +kernel
theorem dL_does_204 : decode cL_does 204 = .ok (.invokevirtual 61, 3) := by decide +kernel
theorem dL_does_207 : decode cL_does 207 = .ok (.ireturn, 1) := by decide +kernel
theorem dL_does_208 : decode cL_does 208 = .ok (.aload_n 0, 1) := by decide +kernel
theorem dL_does_209 : decode cL_does 209 = .ok (.iload_n 2, 1) := by decide +kernel
theorem dL_does_210 : decode cL_does 210 = .ok (.iload_n 3, 1) := by decide +kernel
theorem dL_does_211 : decode cL_does 211 = .ok (.iconst 1, 1) := by decide +kernel
theorem dL_does_212 : decode cL_does 212 = .ok (.if_icmp .ne 7, 3) := by decide +kernel
theorem dL_does_215 : decode cL_does 215 = .ok (.iconst 1, 1) := by decide +kernel
theorem dL_does_216 : decode cL_does 216 = .ok (.goto 4, 3) := by decide +kernel
theorem dL_does_219 : decode cL_does 219 = .ok (.iconst 0, 1) := by decide +kernel
theorem dL_does_220 : decode cL_does 220 = .ok (.invokevirtual 64, 3) := by decide +kernel
theorem dL_does_223 : decode cL_does 223 = .ok (.ireturn, 1) := by decide +kernel
theorem dL_does_224 : decode cL_does 224 = .ok (.aload_n 0, 1) := by decide +kernel
theorem dL_does_225 : decode cL_does 225 = .ok (.iload_n 2, 1) := by decide +kernel
theorem dL_does_226 : decode cL_does 226 = .ok (.invokevirtual 67, 3) := by decide +kernel
theorem dL_does_229 : decode cL_does 229 = .ok (.ireturn, 1) := by decide +kernel
theorem dL_does_230 : decode cL_does 230 = .ok (.aload_n 0, 1) := by decide +kernel
theorem dL_does_231 : decode cL_does 231 = .ok (.iload_n 2, 1) := by decide +kernel
theorem dL_does_232 : decode cL_does 232 = .ok (.invokevirtual 70, 3) := by decide +kernel
theorem dL_does_235 : decode cL_does 235 = .ok (.ifCond .eq 7, 3) := by decide +kernel
theorem dL_does_238 : decode cL_does 238 = .ok (.iconst 1, 1) := by decide +kernel
theorem dL_does_239 : decode cL_does 239 = .ok (.goto 4, 3) := by decide +kernel
theorem dL_does_242 : decode cL_does 242 = .ok (.iconst 0, 1) := by decide +kernel
theorem dL_does_243 : decode cL_does 243 = .ok (.ireturn, 1) := by decide +kernel
theorem dL_does_244 : decode cL_does 244 = .ok (.aload_n 0, 1) := by decide +kernel
theorem dL_does_245 : decode cL_does 245 = .ok (.iload_n 2, 1) := by decide +kernel
theorem dL_does_246 : decode cL_does 246 = .ok (.iload_n 3, 1) := by decide +kernel
theorem dL_does_247 : decode cL_does 247 = .ok (.invokevirtual 74, 3) := by decide +kernel
theorem dL_does_250 : decode cL_does 250 = .ok (.ireturn, 1) := by decide +kernel
theorem dL_does_251 : decode cL_does 251 = .ok (.aload_n 0, 1) := by decide +kernel
theorem dL_does_252 : decode cL_does 252 = .ok (.iload_n 2, 1) := by decide +kernel
theorem dL_does_253 : decode cL_does 253 = .ok (.invokevirtual 77, 3) := by decide +kernel
theorem dL_does_256 : decode cL_does 256 = .ok (.ireturn, 1) := by decide +kernel
theorem dL_does_257 : decode cL_does 257 = .ok (.aload_n 0, 1) := by decide +kernel
theorem dL_does_258 : decode cL_does 258 = .ok (.iload_n 2, 1) := by decide +kernel
theorem dL_does_259 : decode cL_does 259 = .ok (.invokevirtual 80, 3) := by decide +kernel
theorem dL_does_262 : decode cL_does 262 = .ok (.ireturn, 1) := by decide +kernel
theorem dL_does_263 : decode cL_does 263 = .ok (.aload_n 0, 1) := by decide +kernel
theorem dL_does_264 : decode cL_does 264 = .ok (.iload_n 2, 1) := by decide +kernel
theorem dL_does_265 : decode cL_does 265 = .ok (.invokevirtual 83, 3) := by decide +kernel
theorem dL_does_268 : decode cL_does 268 = .ok (.ireturn, 1) := by decide +kernel
theorem dL_does_269 : decode cL_does 269 = .ok (.aload_n 0, 1) := by decide +kernel
theorem dL_does_270 : decode cL_does 270 = .ok (.iload_n 2, 1) := by decide +kernel
theorem dL_does_271 : decode cL_does 271 = .ok (.invokevirtual 86, 3) := by decide +kernel
theorem dL_does_274 : decode cL_does 274 = .ok (.ireturn, 1) := by decide +kernel
theorem dL_does_275 : decode cL_does 275 = .ok (.aload_n 0, 1) := by decide +kernel
theorem dL_does_276 : decode cL_does 276 = .ok (.iload_n 2, 1) := by decide +kernel
theorem dL_does_277 : decode cL_does 277 = .ok (.invokevirtual 89, 3) := by decide +kernel
theorem dL_does_280 : decode cL_does 280 = .ok (.ireturn, 1) := by decide +kernel
theorem dL_does_281 : decode cL_does 281 = .ok (.aload_n 0, 1) := by decide +kernel
theorem dL_does_282 : decode cL_does 282 = .ok (.iload_n 2, 1) := by decide +kernel
theorem dL_does_283 : decode cL_does 283 = .ok (.invokevirtual 92, 3) := by decide +kernel
theorem dL_does_286 : decode cL_does 286 = .ok (.ireturn, 1) := by decide +kernel
theorem dL_does_287 : decode cL_does 287 = .ok (.aload_n 0, 1) := by decide +kernel
theorem dL_does_288 : decode cL_does 288 = .ok (.iload_n 2, 1) := by decide +kernel
theorem dL_does_289 : decode cL_does 289 = .ok (.invokevirtual 95, 3) := by decide +kernel
theorem dL_does_292 : decode cL_does 292 = .ok (.ireturn, 1) := by decide +kernel
theorem dL_does_293 : decode cL_does 293 = .ok (.aload_n 0, 1) := by decide +kernel
theorem dL_does_294 : decode cL_does 294 = .ok (.iload_n 2, 1) := by decide +kernel
theorem dL_does_295 : decode cL_does 295 = .ok (.invokevirtual 98, 3) := by decide +kernel
theorem dL_does_298 : decode cL_does 298 = .ok (.ireturn, 1) := by decide +kernel
theorem dL_all_0 : decode cL_all 0 = .ok (.aload_n 0, 1) := by decide +kernel
theorem dL_all_1 : decode cL_all 1 = .ok (.invokevirtual 101, 3) := by decide +kernel
theorem dL_all_4 : decode cL_all 4 = .ok (.i2l, 1) := by decide +kernel
theorem dL_all_5 : decode cL_all 5 = .ok (.ldc2_w 105, 3) := by decide +kernel
theorem dL_all_8 : decode cL_all 8 = .ok (.lmul, 1) := by decide +kernel
theorem dL_all_9 : decode cL_all 9 = .ok (.aload_n 0, 1) := by decide +kernel
theorem dL_all_10 : decode cL_all 10 = .ok (.invokevirtual 107, 3) := by decide +kernel
theorem dL_all_13 : decode cL_all 13 = .ok (.i2l, 1) := by decide +kernel
theorem dL_all_14 : decode cL_all 14 = .ok (.ladd, 1) := by decide +kernel
theorem dL_all_15 : decode cL_all 15 = .ok (.lstore_n 2, 1) := by decide +kernel
theorem dL_all_16 : decode cL_all 16 = .ok (.iconst 0, 1) := by decide +kernel
theorem dL_all_17 : decode cL_all 17 = .ok (.istore 4, 2) := by decide +kernel
theorem dL_all_19 : decode cL_all 19 = .ok (.iload 4, 2) := by decide +kernel
theorem dL_all_21 : decode cL_all 21 = .ok (.iconst 5, 1) := by decide +kernel
theorem dL_all_22 : decode cL_all 22 = .ok (.if_icmp .ge 142, 3) := by decide +kernel
theorem dL_all_25 : decode cL_all 25 = .ok (.lload_n 2, 1) := by decide +kernel
theorem dL_all_26 : decode cL_all 26 = .ok (.ldc2_w 110, 3) := by decide +kernel
theorem dL_all_29 : decode cL_all 29 = .ok (.lmul, 1) := by decide +kernel
theorem dL_all_30 : decode cL_all 30 = .ok (.aload_n 0, 1) := by decide +kernel
theorem dL_all_31 : decode cL_all 31 = .ok (.iload 4, 2) := by decide +kernel
theorem dL_all_33 : decode cL_all 33 = .ok (.invokevirtual 77, 3) := by decide +kernel
theorem dL_all_36 : decode cL_all 36 = .ok (.i2l, 1) := by decide +kernel
theorem dL_all_37 : decode cL_all 37 = .ok (.ladd, 1) := by decide +kernel
theorem dL_all_38 : decode cL_all 38 = .ok (.ldc2_w 110, 3) := by decide +kernel
theorem dL_all_41 : decode cL_all 41 = .ok (.lmul, 1) := by decide +kernel
theorem dL_all_42 : decode cL_all 42 = .ok (.aload_n 0, 1) := by decide +kernel
theorem dL_all_43 : decode cL_all 43 = .ok (.iload 4, 2) := by decide +kernel
theorem dL_all_45 : decode cL_all 45 = .ok (.invokevirtual 83, 3) := by decide +kernel
theorem dL_all_48 : decode cL_all 48 = .ok (.i2l, 1) := by decide +kernel
theorem dL_all_49 : decode cL_all 49 = .ok (.ladd, 1) := by decide +kernel
theorem dL_all_50 : decode cL_all 50 = .ok (.ldc2_w 112, 3) := by decide +kernel
theorem dL_all_53 : decode cL_all 53 = .ok (.lmul, 1) := by decide +kernel
theorem dL_all_54 : decode cL_all 54 = .ok (.aload_n 0, 1) := by decide +kernel
theorem dL_all_55 : decode cL_all 55 = .ok (.iload 4, 2) := by decide +kernel
theorem dL_all_57 : decode cL_all 57 = .ok (.invokevirtual 67, 3) := by decide +kernel
theorem dL_all_60 : decode cL_all 60 = .ok (.i2l, 1) := by decide +kernel
theorem dL_all_61 : decode cL_all 61 = .ok (.ladd, 1) := by decide +kernel
theorem dL_all_62 : decode cL_all 62 = .ok (.lstore_n 2, 1) := by decide +kernel
theorem dL_all_63 : decode cL_all 63 = .ok (.lload_n 2, 1) := by decide +kernel
theorem dL_all_64 : decode cL_all 64 = .ok (.ldc2_w 110, 3) := by decide +kernel
theorem dL_all_67 : decode cL_all 67 = .ok (.lmul, 1) := by decide +kernel
theorem dL_all_68 : decode cL_all 68 = .ok (.aload_n 0, 1) := by decide +kernel
theorem dL_all_69 : decode cL_all 69 = .ok (.iload 4, 2) := by decide +kernel
theorem dL_all_71 : decode cL_all 71 = .ok (.invokevirtual 95, 3) := by decide +kernel
theorem dL_all_74 : decode cL_all 74 = .ok (.i2l, 1) := by decide +kernel
theorem dL_all_75 : decode cL_all 75 = .ok (.ladd, 1) := by decide +kernel
theorem dL_all_76 : decode cL_all 76 = .ok (.ldc2_w 110, 3) := by decide +kernel
theorem dL_all_79 : decode cL_all 79 = .ok (.lmul, 1) := by decide +kernel
theorem dL_all_80 : decode cL_all 80 = .ok (.aload_n 0, 1) := by decide +kernel
theorem dL_all_81 : decode cL_all 81 = .ok (.iload 4, 2) := by decide +kernel
theorem dL_all_83 : decode cL_all 83 = .ok (.invokevirtual 92, 3) := by decide +kernel
theorem dL_all_86 : decode cL_all 86 = .ok (.i2l, 1) := by decide +kernel
theorem dL_all_87 : decode cL_all 87 = .ok (.ladd, 1) := by decide +kernel
theorem dL_all_88 : decode cL_all 88 = .ok (.ldc2_w 110, 3) := by decide +kernel
theorem dL_all_91 : decode cL_all 91 = .ok (.lmul, 1) := by decide +kernel
theorem dL_all_92 : decode cL_all 92 = .ok (.aload_n 0, 1) := by decide +kernel
theorem dL_all_93 : decode cL_all 93 = .ok (.iload 4, 2) := by decide +kernel
theorem dL_all_95 : decode cL_all 95 = .ok (.invokevirtual 98, 3) := by decide +kernel
theorem dL_all_98 : decode cL_all 98 = .ok (.i2l, 1) := by decide +kernel
theorem dL_all_99 : decode cL_all 99 = .ok (.ladd, 1) := by decide +kernel
theorem dL_all_100 : decode cL_all 100 = .ok (.aload_n 0, 1) := by decide +kernel
theorem dL_all_101 : decode cL_all 101 = .ok (.iload 4, 2) := by decide +kernel
theorem dL_all_103 : decode cL_all 103 = .ok (.invokevirtual 70, 3) := by decide +kernel
theorem dL_all_106 : decode cL_all 106 = .ok (.ifCond .eq 7, 3) := by decide +kernel
theorem dL_all_109 : decode cL_all 109 = .ok (.iconst 5, 1) := by decide +kernel
theorem dL_all_110 : decode cL_all 110 = .ok (.goto 4, 3) := by decide +kernel
theorem dL_all_113 : decode cL_all 113 = .ok (.iconst 0, 1) := by decide +kernel
theorem dL_all_114 : decode cL_all 114 = .ok (.i2l, 1) := by decide +kernel
theorem dL_all_115 : decode cL_all 115 = .ok (.ladd, 1) := by decide +kernel
theorem dL_all_116 : decode cL_all 116 = .ok (.lstore_n 2, 1) := by decide +kernel
theorem dL_all_117 : decode cL_all 117 = .ok (.lload_n 2, 1) := by decide +kernel
theorem dL_all_118 : decode cL_all 118 = .ok (.ldc2_w 114, 3) := by decide +kernel
theorem dL_all_121 : decode cL_all 121 = .ok (.lmul, 1) := by decide +kernel
theorem dL_all_122 : decode cL_all 122 = .ok (.aload_n 0, 1) := by decide +kernel
theorem dL_all_123 : decode cL_all 123 = .ok (.iload 4, 2) := by decide +kernel
theorem dL_all_125 : decode cL_all 125 = .ok (.iconst 0, 1) := by decide +kernel
theorem dL_all_126 : decode cL_all 126 = .ok (.invokevirtual 74, 3) := by decide +kernel
theorem dL_all_129 : decode cL_all 129 = .ok (.i2l, 1) := by decide +kernel
theorem dL_all_130 : decode cL_all 130 = .ok (.ladd, 1) := by decide +kernel
theorem dL_all_131 : decode cL_all 131 = .ok (.ldc2_w 114, 3) := by decide +kernel
theorem dL_all_134 : decode cL_all 134 = .ok (.lmul, 1) := by decide +kernel
theorem dL_all_135 : decode cL_all 135 = .ok (.aload_n 0, 1) := by decide +kernel
theorem dL_all_136 : decode cL_all 136 = .ok (.iload 4, 2) := by decide +kernel
theorem dL_all_138 : decode cL_all 138 = .ok (.iconst 1, 1) := by decide +kernel
theorem dL_all_139 : decode cL_all 139 = .ok (.invokevirtual 74, 3) := by decide +kernel
theorem dL_all_142 : decode cL_all 142 = .ok (.i2l, 1) := by decide +kernel
theorem dL_all_143 : decode cL_all 143 = .ok (.ladd, 1) := by decide +kernel
theorem dL_all_144 : decode cL_all 144 = .ok (.ldc2_w 114, 3) := by decide +kernel
theorem dL_all_147 : decode cL_all 147 = .ok (.lmul, 1) := by decide +kernel
theorem dL_all_148 : decode cL_all 148 = .ok (.aload_n 0, 1) := by decide +kernel
theorem dL_all_149 : decode cL_all 149 = .ok (.iload 4, 2) := by decide +kernel
theorem dL_all_151 : decode cL_all 151 = .ok (.iconst 2, 1) := by decide +kernel
theorem dL_all_152 : decode cL_all 152 = .ok (.invokevirtual 74, 3) := by decide +kernel
theorem dL_all_155 : decode cL_all 155 = .ok (.i2l, 1) := by decide +kernel
theorem dL_all_156 : decode cL_all 156 = .ok (.ladd, 1) := by decide +kernel
theorem dL_all_157 : decode cL_all 157 = .ok (.lstore_n 2, 1) := by decide +kernel
theorem dL_all_158 : decode cL_all 158 = .ok (.iinc 4 1, 3) := by decide +kernel
theorem dL_all_161 : decode cL_all 161 = .ok (.goto (-142), 3) := by decide +kernel
theorem dL_all_164 : decode cL_all 164 = .ok (.iconst 0, 1) := by decide +kernel
theorem dL_all_165 : decode cL_all 165 = .ok (.istore 4, 2) := by decide +kernel
theorem dL_all_167 : decode cL_all 167 = .ok (.iload 4, 2) := by decide +kernel
theorem dL_all_169 : decode cL_all 169 = .ok (.iload_n 1, 1) := by decide +kernel
theorem dL_all_170 : decode cL_all 170 = .ok (.if_icmp .ge 23, 3) := by decide +kernel
theorem dL_all_173 : decode cL_all 173 = .ok (.lload_n 2, 1) := by decide +kernel
theorem dL_all_174 : decode cL_all 174 = .ok (.ldc2_w 116, 3) := by decide +kernel
theorem dL_all_177 : decode cL_all 177 = .ok (.lmul, 1) := by decide +kernel
theorem dL_all_178 : decode cL_all 178 = .ok (.aload_n 0, 1) := by decide +kernel
theorem dL_all_179 : decode cL_all 179 = .ok (.iload 4, 2) := by decide +kernel
theorem dL_all_181 : decode cL_all 181 = .ok (.invokevirtual 61, 3) := by decide +kernel
theorem dL_all_184 : decode cL_all 184 = .ok (.i2l, 1) := by decide +kernel
theorem dL_all_185 : decode cL_all 185 = .ok (.ladd, 1) := by decide +kernel
theorem dL_all_186 : decode cL_all 186 = .ok (.lstore_n 2, 1) := by decide +kernel
theorem dL_all_187 : decode cL_all 187 = .ok (.iinc 4 1, 3) := by decide +kernel
theorem dL_all_190 : decode cL_all 190 = .ok (.goto (-23), 3) := by decide +kernel
theorem dL_all_193 : decode cL_all 193 = .ok (.iconst 0, 1) := by decide +kernel
theorem dL_all_194 : decode cL_all 194 = .ok (.istore 4, 2) := by decide +kernel
theorem dL_all_196 : decode cL_all 196 = .ok (.iload 4, 2) := by decide +kernel
theorem dL_all_198 : decode cL_all 198 = .ok (.iconst 3, 1) := by decide +kernel
theorem dL_all_199 : decode cL_all 199 = .ok (.if_icmp .ge 49, 3) := by decide +kernel
theorem dL_all_202 : decode cL_all 202 = .ok (.lload_n 2, 1) := by decide +kernel
theorem dL_all_203 : decode cL_all 203 = .ok (.ldc2_w 118, 3) := by decide +kernel
theorem dL_all_206 : decode cL_all 206 = .ok (.lmul, 1) := by decide +kernel
theorem dL_all_207 : decode cL_all 207 = .ok (.aload_n 0, 1) := by decide +kernel
theorem dL_all_208 : decode cL_all 208 = .ok (.bipush 10, 2) := by decide +kernel
theorem dL_all_210 : decode cL_all 210 = .ok (.iload 4, 2) := by decide +kernel
theorem dL_all_212 : decode cL_all 212 = .ok (.iconst 0, 1) := by decide +kernel
theorem dL_all_213 : decode cL_all 213 = .ok (.iconst 0, 1) := by decide +kernel
theorem dL_all_214 : decode cL_all 214 = .ok (.invokestatic 120, 3) := by decide +kernel
theorem dL_all_217 : decode cL_all 217 = .ok (.bipush 101, 2) := by decide +kernel
theorem dL_all_219 : decode cL_all 219 = .ok (.irem, 1) := by decide +kernel
theorem dL_all_220 : decode cL_all 220 = .ok (.i2l, 1) := by decide +kernel
theorem dL_all_221 : decode cL_all 221 = .ok (.ladd, 1) := by decide +kernel
theorem dL_all_222 : decode cL_all 222 = .ok (.ldc2_w 118, 3) := by decide +kernel
theorem dL_all_225 : decode cL_all 225 = .ok (.lmul, 1) := by decide +kernel
theorem dL_all_226 : decode cL_all 226 = .ok (.aload_n 0, 1) := by decide +kernel
theorem dL_all_227 : decode cL_all 227 = .ok (.bipush 10, 2) := by decide +kernel
theorem dL_all_229 : decode cL_all 229 = .ok (.iload 4, 2) := by decide +kernel
theorem dL_all_231 : decode cL_all 231 = .ok (.iconst 1, 1) := by decide +kernel
theorem dL_all_232 : decode cL_all 232 = .ok (.iconst 0, 1) := by decide +kernel
theorem dL_all_233 : decode cL_all 233 = .ok (.invokestatic 120, 3) := by decide +kernel
theorem dL_all_236 : decode cL_all 236 = .ok (.bipush 101, 2) := by decide +kernel
theorem dL_all_238 : decode cL_all 238 = .ok (.irem, 1) := by decide +kernel
theorem dL_all_239 : decode cL_all 239 = .ok (.i2l, 1) := by decide +kernel
theorem dL_all_240 : decode cL_all 240 = .ok (.ladd, 1) := by decide +kernel
theorem dL_all_241 : decode cL_all 241 = .ok (.lstore_n 2, 1) := by decide +kernel
theorem dL_all_242 : decode cL_all 242 = .ok (.iinc 4 1, 3) := by decide +kernel
theorem dL_all_245 : decode cL_all 245 = .ok (.goto (-49), 3) := by decide +kernel
theorem dL_all_248 : decode cL_all 248 = .ok (.lload_n 2, 1) := by decide +kernel
theorem dL_all_249 : decode cL_all 249 = .ok (.ldc2_w 123, 3) := by decide +kernel
theorem dL_all_252 : decode cL_all 252 = .ok (.lmul, 1) := by decide +kernel
theorem dL_all_253 : decode cL_all 253 = .ok (.aload_n 0, 1) := by decide +kernel
theorem dL_all_254 : decode cL_all 254 = .ok (.iconst 0, 1) := by decide +kernel
theorem dL_all_255 : decode cL_all 255 = .ok (.invokevirtual 89, 3) := by decide +kernel
theorem dL_all_258 : decode cL_all 258 = .ok (.i2l, 1) := by decide +kernel
theorem dL_all_259 : decode cL_all 259 = .ok (.ladd, 1) := by decide +kernel
theorem dL_all_260 : decode cL_all 260 = .ok (.aload_n 0, 1) := by decide +kernel
theorem dL_all_261 : decode cL_all 261 = .ok (.iconst 1, 1) := by decide +kernel
theorem dL_all_262 : decode cL_all 262 = .ok (.invokevirtual 89, 3) := by decide +kernel
theorem dL_all_265 : decode cL_all 265 = .ok (.i2l, 1) := by decide +kernel
theorem dL_all_266 : decode cL_all 266 = .ok (.ldc2_w 125, 3) := by decide +kernel
theorem dL_all_269 : decode cL_all 269 = .ok (.lmul, 1) := by decide +kernel
theorem dL_all_270 : decode cL_all 270 = .ok (.ladd, 1) := by decide +kernel
theorem dL_all_271 : decode cL_all 271 = .ok (.lreturn, 1) := by decide +kernel
theorem dL_both_0 : decode cL_both 0 = .ok (.aload_n 0, 1) := by decide +kernel
theorem dL_both_1 : decode cL_both 1 = .ok (.iload_n 2, 1) := by decide +kernel
theorem dL_both_2 : decode cL_both 2 = .ok (.iload_n 3, 1) := by decide +kernel
theorem dL_both_3 : decode cL_both 3 = .ok (.iload 4, 2) := by decide +kernel
theorem dL_both_5 : decode cL_both 5 = .ok (.iload 5, 2) := by decide +kernel
theorem dL_both_7 : decode cL_both 7 = .ok (.invokestatic 120, 3) := by decide +kernel
theorem dL_both_10 : decode cL_both 10 = .ok (.istore 6, 2) := by decide +kernel
theorem dL_both_12 : decode cL_both 12 = .ok (.iload 6, 2) := by decide +kernel
theorem dL_both_14 : decode cL_both 14 = .ok (.aload_n 1, 1) := by decide +kernel
theorem dL_both_15 : decode cL_both 15 = .ok (.iload_n 2, 1) := by decide +kernel
theorem dL_both_16 : decode cL_both 16 = .ok (.iload_n 3, 1) := by decide +kernel
theorem dL_both_17 : decode cL_both 17 = .ok (.iload 4, 2) := by decide +kernel
theorem dL_both_19 : decode cL_both 19 = .ok (.iload 5, 2) := by decide +kernel
theorem dL_both_21 : decode cL_both 21 = .ok (.invokestatic 120, 3) := by decide +kernel
theorem dL_both_24 : decode cL_both 24 = .ok (.if_icmp .ne 8, 3) := by decide +kernel
theorem dL_both_27 : decode cL_both 27 = .ok (.iload 6, 2) := by decide +kernel
theorem dL_both_29 : decode cL_both 29 = .ok (.goto 5, 3) := by decide +kernel
theorem dL_both_32 : decode cL_both 32 = .ok (.ldc 127, 2) := by decide +kernel
theorem dL_both_34 : decode cL_both 34 = .ok (.ireturn, 1) := by decide +kernel
theorem dL_equities_0 : decode cL_equities 0 = .ok (.lconst 0, 1) := by decide +kernel
theorem dL_equities_1 : decode cL_equities 1 = .ok (.lstore_n 1, 1) := by decide +kernel
theorem dL_equities_2 : decode cL_equities 2 = .ok (.iconst 0, 1) := by decide +kernel
theorem dL_equities_3 : decode cL_equities 3 = .ok (.istore_n 3, 1) := by decide +kernel
theorem dL_equities_4 : decode cL_equities 4 = .ok (.iload_n 3, 1) := by decide +kernel
theorem dL_equities_5 : decode cL_equities 5 = .ok (.iconst 5, 1) := by decide +kernel
theorem dL_equities_6 : decode cL_equities 6 = .ok (.if_icmp .ge 18, 3) := by decide +kernel
theorem dL_equities_9 : decode cL_equities 9 = .ok (.lload_n 1, 1) := by decide +kernel
theorem dL_equities_10 : decode cL_equities 10 = .ok (.aload_n 0, 1) := by decide +kernel
theorem dL_equities_11 : decode cL_equities 11 = .ok (.iload_n 3, 1) := by decide +kernel
theorem dL_equities_12 : decode cL_equities 12 = .ok (.invokevirtual 80, 3) := by decide +kernel
theorem dL_equities_15 : decode cL_equities 15 = .ok (.i2l, 1) := by decide +kernel
theorem dL_equities_16 : decode cL_equities 16 = .ok (.ladd, 1) := by decide +kernel
theorem dL_equities_17 : decode cL_equities 17 = .ok (.lstore_n 1, 1) := by decide +kernel
theorem dL_equities_18 : decode cL_equities 18 = .ok (.iinc 3 1, 3) := by decide +kernel
theorem dL_equities_21 : decode cL_equities 21 = .ok (.goto (-17), 3) := by decide +kernel
theorem dL_equities_24 : decode cL_equities 24 = .ok (.lload_n 1, 1) := by decide +kernel
theorem dL_equities_25 : decode cL_equities 25 = .ok (.lreturn, 1) := by decide +kernel
theorem dL_shares_0 : decode cL_shares 0 = .ok (.lconst 0, 1) := by decide +kernel
theorem dL_shares_1 : decode cL_shares 1 = .ok (.lstore_n 1, 1) := by decide +kernel
theorem dL_shares_2 : decode cL_shares 2 = .ok (.iconst 0, 1) := by decide +kernel
theorem dL_shares_3 : decode cL_shares 3 = .ok (.istore_n 3, 1) := by decide +kernel
theorem dL_shares_4 : decode cL_shares 4 = .ok (.iload_n 3, 1) := by decide +kernel
theorem dL_shares_5 : decode cL_shares 5 = .ok (.iconst 5, 1) := by decide +kernel
theorem dL_shares_6 : decode cL_shares 6 = .ok (.if_icmp .ge 18, 3) := by decide +kernel
theorem dL_shares_9 : decode cL_shares 9 = .ok (.lload_n 1, 1) := by decide +kernel
theorem dL_shares_10 : decode cL_shares 10 = .ok (.aload_n 0, 1) := by decide +kernel
theorem dL_shares_11 : decode cL_shares 11 = .ok (.iload_n 3, 1) := by decide +kernel
theorem dL_shares_12 : decode cL_shares 12 = .ok (.invokevirtual 98, 3) := by decide +kernel
theorem dL_shares_15 : decode cL_shares 15 = .ok (.i2l, 1) := by decide +kernel
theorem dL_shares_16 : decode cL_shares 16 = .ok (.ladd, 1) := by decide +kernel
theorem dL_shares_17 : decode cL_shares 17 = .ok (.lstore_n 1, 1) := by decide +kernel
theorem dL_shares_18 : decode cL_shares 18 = .ok (.iinc 3 1, 3) := by decide +kernel
theorem dL_shares_21 : decode cL_shares 21 = .ok (.goto (-17), 3) := by decide +kernel
theorem dL_shares_24 : decode cL_shares 24 = .ok (.lload_n 1, 1) := by decide +kernel
theorem dL_shares_25 : decode cL_shares 25 = .ok (.lreturn, 1) := by decide +kernel
theorem dL_standing_0 : decode cL_standing 0 = .ok (.iconst 0, 1) := by decide +kernel
theorem dL_standing_1 : decode cL_standing 1 = .ok (.istore_n 1, 1) := by decide +kernel
theorem dL_standing_2 : decode cL_standing 2 = .ok (.iconst 0, 1) := by decide +kernel
theorem dL_standing_3 : decode cL_standing 3 = .ok (.istore_n 2, 1) := by decide +kernel
theorem dL_standing_4 : decode cL_standing 4 = .ok (.iload_n 2, 1) := by decide +kernel
theorem dL_standing_5 : decode cL_standing 5 = .ok (.iconst 5, 1) := by decide +kernel
theorem dL_standing_6 : decode cL_standing 6 = .ok (.if_icmp .ge 25, 3) := by decide +kernel
theorem dL_standing_9 : decode cL_standing 9 = .ok (.iload_n 1, 1) := by decide +kernel
theorem dL_standing_10 : decode cL_standing 10 = .ok (.aload_n 0, 1) := by decide +kernel
theorem dL_standing_11 : decode cL_standing 11 = .ok (.iload_n 2, 1) := by decide +kernel
theorem dL_standing_12 : decode cL_standing 12 = .ok (.invokevirtual 70, 3) := by decide +kernel
theorem dL_standing_15 : decode cL_standing 15 = .ok (.ifCond .eq 7, 3) := by decide +kernel
theorem dL_standing_18 : decode cL_standing 18 = .ok (.iconst 0, 1) := by decide +kernel
theorem dL_standing_19 : decode cL_standing 19 = .ok (.goto 4, 3) := by decide +kernel
theorem dL_standing_22 : decode cL_standing 22 = .ok (.iconst 1, 1) := by decide +kernel
theorem dL_standing_23 : decode cL_standing 23 = .ok (.iadd, 1) := by decide +kernel
theorem dL_standing_24 : decode cL_standing 24 = .ok (.istore_n 1, 1) := by decide +kernel
theorem dL_standing_25 : decode cL_standing 25 = .ok (.iinc 2 1, 3) := by decide +kernel
theorem dL_standing_28 : decode cL_standing 28 = .ok (.goto (-24), 3) := by decide +kernel
theorem dL_standing_31 : decode cL_standing 31 = .ok (.iload_n 1, 1) := by decide +kernel
theorem dL_standing_32 : decode cL_standing 32 = .ok (.ireturn, 1) := by decide +kernel
theorem dL_tells_0 : decode cL_tells 0 = .ok (.iload_n 2, 1) := by decide +kernel
theorem dL_tells_1 : decode cL_tells 1 = .ok (.iconst 4, 1) := by decide +kernel
theorem dL_tells_2 : decode cL_tells 2 = .ok (.invokestatic 128, 3) := by decide +kernel
theorem dL_tells_5 : decode cL_tells 5 = .ok (.istore_n 3, 1) := by decide +kernel
theorem dL_tells_6 : decode cL_tells 6 = .ok (.iload_n 2, 1) := by decide +kernel
theorem dL_tells_7 : decode cL_tells 7 = .ok (.iconst 2, 1) := by decide +kernel
theorem dL_tells_8 : decode cL_tells 8 = .ok (.ishr, 1) := by decide +kernel
theorem dL_tells_9 : decode cL_tells 9 = .ok (.iconst 3, 1) := by decide +kernel
theorem dL_tells_10 : decode cL_tells 10 = .ok (.invokestatic 128, 3) := by decide +kernel
theorem dL_tells_13 : decode cL_tells 13 = .ok (.istore 4, 2) := by decide +kernel
theorem dL_tells_15 : decode cL_tells 15 = .ok (.iload_n 3, 1) := by decide +kernel
theorem dL_tells_16 : decode cL_tells 16 = .ok (.iconst 2, 1) := by decide +kernel
theorem dL_tells_17 : decode cL_tells 17 = .ok (.if_icmp .ge 164, 3) := by decide +kernel
theorem dL_tells_20 : decode cL_tells 20 = .ok (.iload_n 2, 1) := by decide +kernel
theorem dL_tells_21 : decode cL_tells 21 = .ok (.iconst 4, 1) := by decide +kernel
theorem dL_tells_22 : decode cL_tells 22 = .ok (.ishr, 1) := by decide +kernel
theorem dL_tells_23 : decode cL_tells 23 = .ok (.iconst 5, 1) := by decide +kernel
theorem dL_tells_24 : decode cL_tells 24 = .ok (.invokestatic 128, 3) := by decide +kernel
theorem dL_tells_27 : decode cL_tells 27 = .ok (.ifCond .ne 18, 3) := by decide +kernel
theorem dL_tells_30 : decode cL_tells 30 = .ok (.iconst 1, 1) := by decide +kernel
theorem dL_tells_31 : decode cL_tells 31 = .ok (.iload_n 2, 1) := by decide +kernel
theorem dL_tells_32 : decode cL_tells 32 = .ok (.bipush 7, 2) := by decide +kernel
theorem dL_tells_34 : decode cL_tells 34 = .ok (.ishr, 1) := by decide +kernel
theorem dL_tells_35 : decode cL_tells 35 = .ok (.sipush 400, 3) := by decide +kernel
theorem dL_tells_38 : decode cL_tells 38 = .ok (.invokestatic 128, 3) := by decide +kernel
theorem dL_tells_41 : decode cL_tells 41 = .ok (.iadd, 1) := by decide +kernel
theorem dL_tells_42 : decode cL_tells 42 = .ok (.goto 15, 3) := by decide +kernel
theorem dL_tells_45 : decode cL_tells 45 = .ok (.bipush 80, 2) := by decide +kernel
theorem dL_tells_47 : decode cL_tells 47 = .ok (.iload_n 2, 1) := by decide +kernel
theorem dL_tells_48 : decode cL_tells 48 = .ok (.bipush 7, 2) := by decide +kernel
theorem dL_tells_50 : decode cL_tells 50 = .ok (.ishr, 1) := by decide +kernel
theorem dL_tells_51 : decode cL_tells 51 = .ok (.bipush 41, 2) := by decide +kernel
theorem dL_tells_53 : decode cL_tells 53 = .ok (.invokestatic 128, 3) := by decide +kernel
theorem dL_tells_56 : decode cL_tells 56 = .ok (.iadd, 1) := by decide +kernel
theorem dL_tells_57 : decode cL_tells 57 = .ok (.istore 5, 2) := by decide +kernel
theorem dL_tells_59 : decode cL_tells 59 = .ok (.iload_n 2, 1) := by decide +kernel
theorem dL_tells_60 : decode cL_tells 60 = .ok (.iconst 5, 1) := by decide +kernel
theorem dL_tells_61 : decode cL_tells 61 = .ok (.ishr, 1) := by decide +kernel
theorem dL_tells_62 : decode cL_tells 62 = .ok (.iconst 5, 1) := by decide +kernel
theorem dL_tells_63 : decode cL_tells 63 = .ok (.invokestatic 128, 3) := by decide +kernel
theorem dL_tells_66 : decode cL_tells 66 = .ok (.istore 6, 2) := by decide +kernel
theorem dL_tells_68 : decode cL_tells 68 = .ok (.aload_n 0, 1) := by decide +kernel
theorem dL_tells_69 : decode cL_tells 69 = .ok (.iload 6, 2) := by decide +kernel
theorem dL_tells_71 : decode cL_tells 71 = .ok (.invokevirtual 80, 3) := by decide +kernel
theorem dL_tells_74 : decode cL_tells 74 = .ok (.istore 7, 2) := by decide +kernel
theorem dL_tells_76 : decode cL_tells 76 = .ok (.aload_n 0, 1) := by decide +kernel
theorem dL_tells_77 : decode cL_tells 77 = .ok (.aload_n 1, 1) := by decide +kernel
theorem dL_tells_78 : decode cL_tells 78 = .ok (.iconst 0, 1) := by decide +kernel
theorem dL_tells_79 : decode cL_tells 79 = .ok (.iload 4, 2) := by decide +kernel
theorem dL_tells_81 : decode cL_tells 81 = .ok (.iload 5, 2) := by decide +kernel
theorem dL_tells_83 : decode cL_tells 83 = .ok (.iconst 0, 1) := by decide +kernel
theorem dL_tells_84 : decode cL_tells 84 = .ok (.invokestatic 131, 3) := by decide +kernel
theorem dL_tells_87 : decode cL_tells 87 = .ok (.istore 8, 2) := by decide +kernel
theorem dL_tells_89 : decode cL_tells 89 = .ok (.iload 8, 2) := by decide +kernel
theorem dL_tells_91 : decode cL_tells 91 = .ok (.ifCond .le 33, 3) := by decide +kernel
theorem dL_tells_94 : decode cL_tells 94 = .ok (.aload_n 0, 1) := by decide +kernel
theorem dL_tells_95 : decode cL_tells 95 = .ok (.iload 6, 2) := by decide +kernel
theorem dL_tells_97 : decode cL_tells 97 = .ok (.invokevirtual 80, 3) := by decide +kernel
theorem dL_tells_100 : decode cL_tells 100 = .ok (.iload 7, 2) := by decide +kernel
theorem dL_tells_102 : decode cL_tells 102 = .ok (.aload_n 0, 1) := by decide +kernel
theorem dL_tells_103 : decode cL_tells 103 = .ok (.iload 6, 2) := by decide +kernel
theorem dL_tells_105 : decode cL_tells 105 = .ok (.iload 4, 2) := by decide +kernel
theorem dL_tells_107 : decode cL_tells 107 = .ok (.invokevirtual 74, 3) := by decide +kernel
theorem dL_tells_110 : decode cL_tells 110 = .ok (.iload 5, 2) := by decide +kernel
theorem dL_tells_112 : decode cL_tells 112 = .ok (.iload 8, 2) := by decide +kernel
theorem dL_tells_114 : decode cL_tells 114 = .ok (.isub, 1) := by decide +kernel
theorem dL_tells_115 : decode cL_tells 115 = .ok (.imul, 1) := by decide +kernel
theorem dL_tells_116 : decode cL_tells 116 = .ok (.iadd, 1) := by decide +kernel
theorem dL_tells_117 : decode cL_tells 117 = .ok (.if_icmp .ne 7, 3) := by decide +kernel
theorem dL_tells_120 : decode cL_tells 120 = .ok (.iconst 1, 1) := by decide +kernel
theorem dL_tells_121 : decode cL_tells 121 = .ok (.goto 4, 3) := by decide +kernel
theorem dL_tells_124 : decode cL_tells 124 = .ok (.iconst 0, 1) := by decide +kernel
theorem dL_tells_125 : decode cL_tells 125 = .ok (.istore 9, 2) := by decide +kernel
theorem dL_tells_127 : decode cL_tells 127 = .ok (.iload 9, 2) := by decide +kernel
theorem dL_tells_129 : decode cL_tells 129 = .ok (.ifCond .eq 50, 3) := by decide +kernel
theorem dL_tells_132 : decode cL_tells 132 = .ok (.aload_n 0, 1) := by decide +kernel
theorem dL_tells_133 : decode cL_tells 133 = .ok (.aload_n 1, 1) := by decide +kernel
theorem dL_tells_134 : decode cL_tells 134 = .ok (.iconst 0, 1) := by decide +kernel
theorem dL_tells_135 : decode cL_tells 135 = .ok (.iload 4, 2) := by decide +kernel
theorem dL_tells_137 : decode cL_tells 137 = .ok (.iload 8, 2) := by decide +kernel
theorem dL_tells_139 : decode cL_tells 139 = .ok (.iconst 0, 1) := by decide +kernel
theorem dL_tells_140 : decode cL_tells 140 = .ok (.invokestatic 131, 3) := by decide +kernel
theorem dL_tells_143 : decode cL_tells 143 = .ok (.iload 5, 2) := by decide +kernel
theorem dL_tells_145 : decode cL_tells 145 = .ok (.if_icmp .ne 34, 3) := by decide +kernel
theorem dL_tells_148 : decode cL_tells 148 = .ok (.aload_n 0, 1) := by decide +kernel
theorem dL_tells_149 : decode cL_tells 149 = .ok (.iload 6, 2) := by decide +kernel
theorem dL_tells_151 : decode cL_tells 151 = .ok (.invokevirtual 80, 3) := by decide +kernel
theorem dL_tells_154 : decode cL_tells 154 = .ok (.iload 7, 2) := by decide +kernel
theorem dL_tells_156 : decode cL_tells 156 = .ok (.if_icmp .ne 23, 3) := by decide +kernel
theorem dL_tells_159 : decode cL_tells 159 = .ok (.aload_n 0, 1) := by decide +kernel
theorem dL_tells_160 : decode cL_tells 160 = .ok (.aload_n 1, 1) := by decide +kernel
theorem dL_tells_161 : decode cL_tells 161 = .ok (.iconst 0, 1) := by decide +kernel
theorem dL_tells_162 : decode cL_tells 162 = .ok (.iload 4, 2) := by decide +kernel
theorem dL_tells_164 : decode cL_tells 164 = .ok (.iload 5, 2) := by decide +kernel
theorem dL_tells_166 : decode cL_tells 166 = .ok (.iconst 0, 1) := by decide +kernel
theorem dL_tells_167 : decode cL_tells 167 = .ok (.invokestatic 131, 3) := by decide +kernel
theorem dL_tells_170 : decode cL_tells 170 = .ok (.iload 8, 2) := by decide +kernel
theorem dL_tells_172 : decode cL_tells 172 = .ok (.if_icmp .ne 7, 3) := by decide +kernel
theorem dL_tells_175 : decode cL_tells 175 = .ok (.iconst 1, 1) := by decide +kernel
theorem dL_tells_176 : decode cL_tells 176 = .ok (.goto 4, 3) := by decide +kernel
theorem dL_tells_179 : decode cL_tells 179 = .ok (.iconst 0, 1) := by decide +kernel
theorem dL_tells_180 : decode cL_tells 180 = .ok (.ireturn, 1) := by decide +kernel
theorem dL_tells_181 : decode cL_tells 181 = .ok (.iload_n 3, 1) := by decide +kernel
theorem dL_tells_182 : decode cL_tells 182 = .ok (.iconst 3, 1) := by decide +kernel
theorem dL_tells_183 : decode cL_tells 183 = .ok (.if_icmp .ge 80, 3) := by decide +kernel
theorem dL_tells_186 : decode cL_tells 186 = .ok (.iload_n 2, 1) := by decide +kernel
theorem dL_tells_187 : decode cL_tells 187 = .ok (.bipush 6, 2) := by decide +kernel
theorem dL_tells_189 : decode cL_tells 189 = .ok (.ishr, 1) := by decide +kernel
theorem dL_tells_190 : decode cL_tells 190 = .ok (.bipush 51, 2) := by decide +kernel
theorem dL_tells_192 : decode cL_tells 192 = .ok (.invokestatic 128, 3) := by decide +kernel
theorem dL_tells_195 : decode cL_tells 195 = .ok (.bipush 25, 2) := by decide +kernel
theorem dL_tells_197 : decode cL_tells 197 = .ok (.isub, 1) := by decide +kernel
theorem dL_tells_198 : decode cL_tells 198 = .ok (.istore 5, 2) := by decide +kernel
theorem dL_tells_200 : decode cL_tells 200 = .ok (.aload_n 0, 1) := by decide +kernel
theorem dL_tells_201 : decode cL_tells 201 = .ok (.aload_n 1, 1) := by decide +kernel
theorem dL_tells_202 : decode cL_tells 202 = .ok (.iconst 1, 1) := by decide +kernel
theorem dL_tells_203 : decode cL_tells 203 = .ok (.iload_n 2, 1) := by decide +kernel
theorem dL_tells_204 : decode cL_tells 204 = .ok (.iconst 4, 1) := by decide +kernel
theorem dL_tells_205 : decode cL_tells 205 = .ok (.ishr, 1) := by decide +kernel
theorem dL_tells_206 : decode cL_tells 206 = .ok (.iconst 4, 1) := by decide +kernel
theorem dL_tells_207 : decode cL_tells 207 = .ok (.invokestatic 128, 3) := by decide +kernel
theorem dL_tells_210 : decode cL_tells 210 = .ok (.iload 4, 2) := by decide +kernel
theorem dL_tells_212 : decode cL_tells 212 = .ok (.iload 5, 2) := by decide +kernel
theorem dL_tells_214 : decode cL_tells 214 = .ok (.invokestatic 131, 3) := by decide +kernel
theorem dL_tells_217 : decode cL_tells 217 = .ok (.istore 6, 2) := by decide +kernel
theorem dL_tells_219 : decode cL_tells 219 = .ok (.iload 6, 2) := by decide +kernel
theorem dL_tells_221 : decode cL_tells 221 = .ok (.sipush (-500), 3) := by decide +kernel
theorem dL_tells_224 : decode cL_tells 224 = .ok (.if_icmp .lt 37, 3) := by decide +kernel
theorem dL_tells_227 : decode cL_tells 227 = .ok (.iload 6, 2) := by decide +kernel
theorem dL_tells_229 : decode cL_tells 229 = .ok (.sipush 500, 3) := by decide +kernel
theorem dL_tells_232 : decode cL_tells 232 = .ok (.if_icmp .gt 29, 3) := by decide +kernel
theorem dL_tells_235 : decode cL_tells 235 = .ok (.aload_n 0, 1) := by decide +kernel
theorem dL_tells_236 : decode cL_tells 236 = .ok (.aload_n 1, 1) := by decide +kernel
theorem dL_tells_237 : decode cL_tells 237 = .ok (.iconst 1, 1) := by decide +kernel
theorem dL_tells_238 : decode cL_tells 238 = .ok (.iload_n 2, 1) := by decide +kernel
theorem dL_tells_239 : decode cL_tells 239 = .ok (.iconst 4, 1) := by decide +kernel
theorem dL_tells_240 : decode cL_tells 240 = .ok (.ishr, 1) := by decide +kernel
theorem dL_tells_241 : decode cL_tells 241 = .ok (.iconst 4, 1) := by decide +kernel
theorem dL_tells_242 : decode cL_tells 242 = .ok (.invokestatic 128, 3) := by decide +kernel
theorem dL_tells_245 : decode cL_tells 245 = .ok (.iload 4, 2) := by decide +kernel
theorem dL_tells_247 : decode cL_tells 247 = .ok (.iload 5, 2) := by decide +kernel
theorem dL_tells_249 : decode cL_tells 249 = .ok (.invokestatic 131, 3) := by decide +kernel
theorem dL_tells_252 : decode cL_tells 252 = .ok (.iload 5, 2) := by decide +kernel
theorem dL_tells_254 : decode cL_tells 254 = .ok (.if_icmp .ne 7, 3) := by decide +kernel
theorem dL_tells_257 : decode cL_tells 257 = .ok (.iconst 1, 1) := by decide +kernel
theorem dL_tells_258 : decode cL_tells 258 = .ok (.goto 4, 3) := by decide +kernel
theorem dL_tells_261 : decode cL_tells 261 = .ok (.iconst 0, 1) := by decide +kernel
theorem dL_tells_262 : decode cL_tells 262 = .ok (.ireturn, 1) := by decide +kernel
theorem dL_tells_263 : decode cL_tells 263 = .ok (.iload_n 2, 1) := by decide +kernel
theorem dL_tells_264 : decode cL_tells 264 = .ok (.iconst 4, 1) := by decide +kernel
theorem dL_tells_265 : decode cL_tells 265 = .ok (.ishr, 1) := by decide +kernel
theorem dL_tells_266 : decode cL_tells 266 = .ok (.iconst 2, 1) := by decide +kernel
theorem dL_tells_267 : decode cL_tells 267 = .ok (.invokestatic 128, 3) := by decide +kernel
theorem dL_tells_270 : decode cL_tells 270 = .ok (.istore 5, 2) := by decide +kernel
theorem dL_tells_272 : decode cL_tells 272 = .ok (.aload_n 0, 1) := by decide +kernel
theorem dL_tells_273 : decode cL_tells 273 = .ok (.aload_n 1, 1) := by decide +kernel
theorem dL_tells_274 : decode cL_tells 274 = .ok (.iconst 2, 1) := by decide +kernel
theorem dL_tells_275 : decode cL_tells 275 = .ok (.iload 5, 2) := by decide +kernel
theorem dL_tells_277 : decode cL_tells 277 = .ok (.bipush 70, 2) := by decide +kernel
theorem dL_tells_279 : decode cL_tells 279 = .ok (.iload_n 2, 1) := by decide +kernel
theorem dL_tells_280 : decode cL_tells 280 = .ok (.bipush 6, 2) := by decide +kernel
theorem dL_tells_282 : decode cL_tells 282 = .ok (.ishr, 1) := by decide +kernel
theorem dL_tells_283 : decode cL_tells 283 = .ok (.bipush 61, 2) := by decide +kernel
theorem dL_tells_285 : decode cL_tells 285 = .ok (.invokestatic 128, 3) := by decide +kernel
theorem dL_tells_288 : decode cL_tells 288 = .ok (.iadd, 1) := by decide +kernel
theorem dL_tells_289 : decode cL_tells 289 = .ok (.iconst 0, 1) := by decide +kernel
theorem dL_tells_290 : decode cL_tells 290 = .ok (.invokestatic 131, 3) := by decide +kernel
theorem dL_tells_293 : decode cL_tells 293 = .ok (.istore 6, 2) := by decide +kernel
theorem dL_tells_295 : decode cL_tells 295 = .ok (.iload 6, 2) := by decide +kernel
theorem dL_tells_297 : decode cL_tells 297 = .ok (.bipush 9, 2) := by decide +kernel
theorem dL_tells_299 : decode cL_tells 299 = .ok (.if_icmp .le 25, 3) := by decide +kernel
theorem dL_tells_302 : decode cL_tells 302 = .ok (.iload 6, 2) := by decide +kernel
theorem dL_tells_304 : decode cL_tells 304 = .ok (.bipush 91, 2) := by decide +kernel
theorem dL_tells_306 : decode cL_tells 306 = .ok (.if_icmp .ge 18, 3) := by decide +kernel
theorem dL_tells_309 : decode cL_tells 309 = .ok (.aload_n 0, 1) := by decide +kernel
theorem dL_tells_310 : decode cL_tells 310 = .ok (.iload 5, 2) := by decide +kernel
theorem dL_tells_312 : decode cL_tells 312 = .ok (.invokevirtual 89, 3) := by decide +kernel
theorem dL_tells_315 : decode cL_tells 315 = .ok (.iload 6, 2) := by decide +kernel
theorem dL_tells_317 : decode cL_tells 317 = .ok (.if_icmp .ne 7, 3) := by decide +kernel
theorem dL_tells_320 : decode cL_tells 320 = .ok (.iconst 1, 1) := by decide +kernel
theorem dL_tells_321 : decode cL_tells 321 = .ok (.goto 4, 3) := by decide +kernel
theorem dL_tells_324 : decode cL_tells 324 = .ok (.iconst 0, 1) := by decide +kernel
theorem dL_tells_325 : decode cL_tells 325 = .ok (.ireturn, 1) := by decide +kernel
theorem dL_pays_0 : decode cL_pays 0 = .ok (.iload_n 3, 1) := by decide +kernel
theorem dL_pays_1 : decode cL_pays 1 = .ok (.bipush 6, 2) := by decide +kernel
theorem dL_pays_3 : decode cL_pays 3 = .ok (.invokestatic 128, 3) := by decide +kernel
theorem dL_pays_6 : decode cL_pays 6 = .ok (.istore 4, 2) := by decide +kernel
theorem dL_pays_8 : decode cL_pays 8 = .ok (.iload_n 3, 1) := by decide +kernel
theorem dL_pays_9 : decode cL_pays 9 = .ok (.iconst 3, 1) := by decide +kernel
theorem dL_pays_10 : decode cL_pays 10 = .ok (.ishr, 1) := by decide +kernel
theorem dL_pays_11 : decode cL_pays 11 = .ok (.iconst 5, 1) := by decide +kernel
theorem dL_pays_12 : decode cL_pays 12 = .ok (.invokestatic 128, 3) := by decide +kernel
theorem dL_pays_15 : decode cL_pays 15 = .ok (.istore 5, 2) := by decide +kernel
theorem dL_pays_17 : decode cL_pays 17 = .ok (.aload_n 0, 1) := by decide +kernel
theorem dL_pays_18 : decode cL_pays 18 = .ok (.iload_n 2, 1) := by decide +kernel
theorem dL_pays_19 : decode cL_pays 19 = .ok (.invokestatic 135, 3) := by decide +kernel
theorem dL_pays_22 : decode cL_pays 22 = .ok (.lstore 6, 2) := by decide +kernel
theorem dL_pays_24 : decode cL_pays 24 = .ok (.aload_n 0, 1) := by decide +kernel
theorem dL_pays_25 : decode cL_pays 25 = .ok (.iload 5, 2) := by decide +kernel
theorem dL_pays_27 : decode cL_pays 27 = .ok (.invokevirtual 70, 3) := by decide +kernel
theorem dL_pays_30 : decode cL_pays 30 = .ok (.istore 8, 2) := by decide +kernel
theorem dL_pays_32 : decode cL_pays 32 = .ok (.iload 4, 2) := by decide +kernel
theorem dL_pays_34 : decode cL_pays 34 = .ok (.iconst 3, 1) := by decide +kernel
theorem dL_pays_35 : decode cL_pays 35 = .ok (.if_icmp .ge 145, 3) := by decide +kernel
theorem dL_pays_38 : decode cL_pays 38 = .ok (.iload_n 3, 1) := by decide +kernel
theorem dL_pays_39 : decode cL_pays 39 = .ok (.bipush 6, 2) := by decide +kernel
theorem dL_pays_41 : decode cL_pays 41 = .ok (.ishr, 1) := by decide +kernel
theorem dL_pays_42 : decode cL_pays 42 = .ok (.sipush 2001, 3) := by decide +kernel
theorem dL_pays_45 : decode cL_pays 45 = .ok (.invokestatic 128, 3) := by decide +kernel
theorem dL_pays_48 : decode cL_pays 48 = .ok (.sipush 900, 3) := by decide +kernel
theorem dL_pays_51 : decode cL_pays 51 = .ok (.isub, 1) := by decide +kernel
theorem dL_pays_52 : decode cL_pays 52 = .ok (.istore 9, 2) := by decide +kernel
theorem dL_pays_54 : decode cL_pays 54 = .ok (.aload_n 0, 1) := by decide +kernel
theorem dL_pays_55 : decode cL_pays 55 = .ok (.iload 5, 2) := by decide +kernel
theorem dL_pays_57 : decode cL_pays 57 = .ok (.invokevirtual 77, 3) := by decide +kernel
theorem dL_pays_60 : decode cL_pays 60 = .ok (.istore 10, 2) := by decide +kernel
theorem dL_pays_62 : decode cL_pays 62 = .ok (.aload_n 0, 1) := by decide +kernel
theorem dL_pays_63 : decode cL_pays 63 = .ok (.iload 5, 2) := by decide +kernel
theorem dL_pays_65 : decode cL_pays 65 = .ok (.invokevirtual 95, 3) := by decide +kernel
theorem dL_pays_68 : decode cL_pays 68 = .ok (.istore 11, 2) := by decide +kernel
theorem dL_pays_70 : decode cL_pays 70 = .ok (.aload_n 0, 1) := by decide +kernel
theorem dL_pays_71 : decode cL_pays 71 = .ok (.aload_n 1, 1) := by decide +kernel
theorem dL_pays_72 : decode cL_pays 72 = .ok (.iconst 3, 1) := by decide +kernel
theorem dL_pays_73 : decode cL_pays 73 = .ok (.iload 5, 2) := by decide +kernel
theorem dL_pays_75 : decode cL_pays 75 = .ok (.iload 9, 2) := by decide +kernel
theorem dL_pays_77 : decode cL_pays 77 = .ok (.iconst 0, 1) := by decide +kernel
theorem dL_pays_78 : decode cL_pays 78 = .ok (.invokestatic 131, 3) := by decide +kernel
theorem dL_pays_81 : decode cL_pays 81 = .ok (.istore 12, 2) := by decide +kernel
theorem dL_pays_83 : decode cL_pays 83 = .ok (.iload 8, 2) := by decide +kernel
theorem dL_pays_85 : decode cL_pays 85 = .ok (.ifCond .ne 20, 3) := by decide +kernel
theorem dL_pays_88 : decode cL_pays 88 = .ok (.iload 9, 2) := by decide +kernel
theorem dL_pays_90 : decode cL_pays 90 = .ok (.ifCond .ge 11, 3) := by decide +kernel
theorem dL_pays_93 : decode cL_pays 93 = .ok (.iload 11, 2) := by decide +kernel
theorem dL_pays_95 : decode cL_pays 95 = .ok (.iload 9, 2) := by decide +kernel
theorem dL_pays_97 : decode cL_pays 97 = .ok (.iadd, 1) := by decide +kernel
theorem dL_pays_98 : decode cL_pays 98 = .ok (.ifCond .lt 7, 3) := by decide +kernel
theorem dL_pays_101 : decode cL_pays 101 = .ok (.iconst 1, 1) := by decide +kernel
theorem dL_pays_102 : decode cL_pays 102 = .ok (.goto 4, 3) := by decide +kernel
theorem dL_pays_105 : decode cL_pays 105 = .ok (.iconst 0, 1) := by decide +kernel
theorem dL_pays_106 : decode cL_pays 106 = .ok (.istore 13, 2) := by decide +kernel
theorem dL_pays_108 : decode cL_pays 108 = .ok (.iload 13, 2) := by decide +kernel
theorem dL_pays_110 : decode cL_pays 110 = .ok (.ifCond .eq 46, 3) := by decide +kernel
theorem dL_pays_113 : decode cL_pays 113 = .ok (.iload 12, 2) := by decide +kernel
theorem dL_pays_115 : decode cL_pays 115 = .ok (.iload 10, 2) := by decide +kernel
theorem dL_pays_117 : decode cL_pays 117 = .ok (.iload 9, 2) := by decide +kernel
theorem dL_pays_119 : decode cL_pays 119 = .ok (.iadd, 1) := by decide +kernel
theorem dL_pays_120 : decode cL_pays 120 = .ok (.if_icmp .ne 32, 3) := by decide +kernel
theorem dL_pays_123 : decode cL_pays 123 = .ok (.aload_n 0, 1) := by decide +kernel
theorem dL_pays_124 : decode cL_pays 124 = .ok (.iload 5, 2) := by decide +kernel
theorem dL_pays_126 : decode cL_pays 126 = .ok (.invokevirtual 77, 3) := by decide +kernel
theorem dL_pays_129 : decode cL_pays 129 = .ok (.iload 12, 2) := by decide +kernel
theorem dL_pays_131 : decode cL_pays 131 = .ok (.if_icmp .ne 21, 3) := by decide +kernel
theorem dL_pays_134 : decode cL_pays 134 = .ok (.aload_n 0, 1) := by decide +kernel
theorem dL_pays_135 : decode cL_pays 135 = .ok (.iload 5, 2) := by decide +kernel
theorem dL_pays_137 : decode cL_pays 137 = .ok (.invokevirtual 95, 3) := by decide +kernel
theorem dL_pays_140 : decode cL_pays 140 = .ok (.iload 11, 2) := by decide +kernel
theorem dL_pays_142 : decode cL_pays 142 = .ok (.iload 9, 2) := by decide +kernel
theorem dL_pays_144 : decode cL_pays 144 = .ok (.iadd, 1) := by decide +kernel
theorem dL_pays_145 : decode cL_pays 145 = .ok (.if_icmp .ne 7, 3) := by decide +kernel
theorem dL_pays_148 : decode cL_pays 148 = .ok (.iconst 1, 1) := by decide +kernel
theorem dL_pays_149 : decode cL_pays 149 = .ok (.goto 30, 3) := by decide +kernel
theorem dL_pays_152 : decode cL_pays 152 = .ok (.iconst 0, 1) := by decide +kernel
theorem dL_pays_153 : decode cL_pays 153 = .ok (.goto 26, 3) := by decide +kernel
theorem dL_pays_156 : decode cL_pays 156 = .ok (.iload 12, 2) := by decide +kernel
theorem dL_pays_158 : decode cL_pays 158 = .ok (.ldc 23, 2) := by decide +kernel
theorem dL_pays_160 : decode cL_pays 160 = .ok (.if_icmp .ne 18, 3) := by decide +kernel
theorem dL_pays_163 : decode cL_pays 163 = .ok (.aload_n 0, 1) := by decide +kernel
theorem dL_pays_164 : decode cL_pays 164 = .ok (.iload_n 2, 1) := by decide +kernel
theorem dL_pays_165 : decode cL_pays 165 = .ok (.invokestatic 135, 3) := by decide +kernel
theorem dL_pays_168 : decode cL_pays 168 = .ok (.lload 6, 2) := by decide +kernel
theorem dL_pays_170 : decode cL_pays 170 = .ok (.lcmp, 1) := by decide +kernel
theorem dL_pays_171 : decode cL_pays 171 = .ok (.ifCond .ne 7, 3) := by decide +kernel
theorem dL_pays_174 : decode cL_pays 174 = .ok (.iconst 1, 1) := by decide +kernel
theorem dL_pays_175 : decode cL_pays 175 = .ok (.goto 4, 3) := by decide +kernel
theorem dL_pays_178 : decode cL_pays 178 = .ok (.iconst 0, 1) := by decide +kernel
theorem dL_pays_179 : decode cL_pays 179 = .ok (.ireturn, 1) := by decide +kernel
theorem dL_pays_180 : decode cL_pays 180 = .ok (.iload 4, 2) := by decide +kernel
theorem dL_pays_182 : decode cL_pays 182 = .ok (.iconst 5, 1) := by decide +kernel
theorem dL_pays_183 : decode cL_pays 183 = .ok (.if_icmp .ge 180, 3) := by decide +kernel
theorem dL_pays_186 : decode cL_pays 186 = .ok (.iload_n 3, 1) := by decide +kernel
theorem dL_pays_187 : decode cL_pays 187 = .ok (.bipush 6, 2) := by decide +kernel
theorem dL_pays_189 : decode cL_pays 189 = .ok (.ishr, 1) := by decide +kernel
theorem dL_pays_190 : decode cL_pays 190 = .ok (.iconst 2, 1) := by decide +kernel
theorem dL_pays_191 : decode cL_pays 191 = .ok (.invokestatic 128, 3) := by decide +kernel
theorem dL_pays_194 : decode cL_pays 194 = .ok (.istore 9, 2) := by decide +kernel
theorem dL_pays_196 : decode cL_pays 196 = .ok (.iload_n 3, 1) := by decide +kernel
theorem dL_pays_197 : decode cL_pays 197 = .ok (.bipush 7, 2) := by decide +kernel
theorem dL_pays_199 : decode cL_pays 199 = .ok (.ishr, 1) := by decide +kernel
theorem dL_pays_200 : decode cL_pays 200 = .ok (.bipush 31, 2) := by decide +kernel
theorem dL_pays_202 : decode cL_pays 202 = .ok (.invokestatic 128, 3) := by decide +kernel
theorem dL_pays_205 : decode cL_pays 205 = .ok (.bipush 12, 2) := by decide +kernel
theorem dL_pays_207 : decode cL_pays 207 = .ok (.isub, 1) := by decide +kernel
theorem dL_pays_208 : decode cL_pays 208 = .ok (.istore 10, 2) := by decide +kernel
theorem dL_pays_210 : decode cL_pays 210 = .ok (.aload_n 0, 1) := by decide +kernel
theorem dL_pays_211 : decode cL_pays 211 = .ok (.iload 5, 2) := by decide +kernel
theorem dL_pays_213 : decode cL_pays 213 = .ok (.invokevirtual 95, 3) := by decide +kernel
theorem dL_pays_216 : decode cL_pays 216 = .ok (.istore 11, 2) := by decide +kernel
theorem dL_pays_218 : decode cL_pays 218 = .ok (.aload_n 0, 1) := by decide +kernel
theorem dL_pays_219 : decode cL_pays 219 = .ok (.iload 5, 2) := by decide +kernel
theorem dL_pays_221 : decode cL_pays 221 = .ok (.invokevirtual 92, 3) := by decide +kernel
theorem dL_pays_224 : decode cL_pays 224 = .ok (.istore 12, 2) := by decide +kernel
theorem dL_pays_226 : decode cL_pays 226 = .ok (.aload_n 0, 1) := by decide +kernel
theorem dL_pays_227 : decode cL_pays 227 = .ok (.aload_n 1, 1) := by decide +kernel
theorem dL_pays_228 : decode cL_pays 228 = .ok (.iconst 4, 1) := by decide +kernel
theorem dL_pays_229 : decode cL_pays 229 = .ok (.iload 5, 2) := by decide +kernel
theorem dL_pays_231 : decode cL_pays 231 = .ok (.iload 9, 2) := by decide +kernel
theorem dL_pays_233 : decode cL_pays 233 = .ok (.iload 10, 2) := by decide +kernel
theorem dL_pays_235 : decode cL_pays 235 = .ok (.invokestatic 131, 3) := by decide +kernel
theorem dL_pays_238 : decode cL_pays 238 = .ok (.istore 13, 2) := by decide +kernel
theorem dL_pays_240 : decode cL_pays 240 = .ok (.iload 13, 2) := by decide +kernel
theorem dL_pays_242 : decode cL_pays 242 = .ok (.ldc 23, 2) := by decide +kernel
theorem dL_pays_244 : decode cL_pays 244 = .ok (.if_icmp .ne 30, 3) := by decide +kernel
theorem dL_pays_247 : decode cL_pays 247 = .ok (.aload_n 0, 1) := by decide +kernel
theorem dL_pays_248 : decode cL_pays 248 = .ok (.iload_n 2, 1) := by decide +kernel
theorem dL_pays_249 : decode cL_pays 249 = .ok (.invokestatic 135, 3) := by decide +kernel
theorem dL_pays_252 : decode cL_pays 252 = .ok (.lload 6, 2) := by decide +kernel
theorem dL_pays_254 : decode cL_pays 254 = .ok (.lcmp, 1) := by decide +kernel
theorem dL_pays_255 : decode cL_pays 255 = .ok (.ifCond .ne 17, 3) := by decide +kernel
theorem dL_pays_258 : decode cL_pays 258 = .ok (.iload 8, 2) := by decide +kernel
theorem dL_pays_260 : decode cL_pays 260 = .ok (.ifCond .ne 8, 3) := by decide +kernel
theorem dL_pays_263 : decode cL_pays 263 = .ok (.iload 10, 2) := by decide +kernel
theorem dL_pays_265 : decode cL_pays 265 = .ok (.ifCond .eq 7, 3) := by decide +kernel
theorem dL_pays_268 : decode cL_pays 268 = .ok (.iconst 1, 1) := by decide +kernel
theorem dL_pays_269 : decode cL_pays 269 = .ok (.goto 4, 3) := by decide +kernel
theorem dL_pays_272 : decode cL_pays 272 = .ok (.iconst 0, 1) := by decide +kernel
theorem dL_pays_273 : decode cL_pays 273 = .ok (.ireturn, 1) := by decide +kernel
theorem dL_pays_274 : decode cL_pays 274 = .ok (.iload 8, 2) := by decide +kernel
theorem dL_pays_276 : decode cL_pays 276 = .ok (.ifCond .ne 85, 3) := by decide +kernel
theorem dL_pays_279 : decode cL_pays 279 = .ok (.iload 13, 2) := by decide +kernel
theorem dL_pays_281 : decode cL_pays 281 = .ok (.ifCond .lt 80, 3) := by decide +kernel
theorem dL_pays_284 : decode cL_pays 284 = .ok (.iload 13, 2) := by decide +kernel
theorem dL_pays_286 : decode cL_pays 286 = .ok (.sipush 1000, 3) := by decide +kernel
theorem dL_pays_289 : decode cL_pays 289 = .ok (.if_icmp .gt 72, 3) := by decide +kernel
theorem dL_pays_292 : decode cL_pays 292 = .ok (.aload_n 0, 1) := by decide +kernel
theorem dL_pays_293 : decode cL_pays 293 = .ok (.iload 5, 2) := by decide +kernel
theorem dL_pays_295 : decode cL_pays 295 = .ok (.invokevirtual 95, 3) := by decide +kernel
theorem dL_pays_298 : decode cL_pays 298 = .ok (.iload 11, 2) := by decide +kernel
theorem dL_pays_300 : decode cL_pays 300 = .ok (.isub, 1) := by decide +kernel
theorem dL_pays_301 : decode cL_pays 301 = .ok (.aload_n 0, 1) := by decide +kernel
theorem dL_pays_302 : decode cL_pays 302 = .ok (.iload 5, 2) := by decide +kernel
theorem dL_pays_304 : decode cL_pays 304 = .ok (.invokevirtual 92, 3) := by decide +kernel
theorem dL_pays_307 : decode cL_pays 307 = .ok (.iload 12, 2) := by decide +kernel
theorem dL_pays_309 : decode cL_pays 309 = .ok (.isub, 1) := by decide +kernel
theorem dL_pays_310 : decode cL_pays 310 = .ok (.if_icmp .ne 51, 3) := by decide +kernel
theorem dL_pays_313 : decode cL_pays 313 = .ok (.iload 10, 2) := by decide +kernel
theorem dL_pays_315 : decode cL_pays 315 = .ok (.ifCond .ge 12, 3) := by decide +kernel
theorem dL_pays_318 : decode cL_pays 318 = .ok (.aload_n 0, 1) := by decide +kernel
theorem dL_pays_319 : decode cL_pays 319 = .ok (.iload 5, 2) := by decide +kernel
theorem dL_pays_321 : decode cL_pays 321 = .ok (.invokevirtual 95, 3) := by decide +kernel
theorem dL_pays_324 : decode cL_pays 324 = .ok (.ifCond .lt 37, 3) := by decide +kernel
theorem dL_pays_327 : decode cL_pays 327 = .ok (.iload 10, 2) := by decide +kernel
theorem dL_pays_329 : decode cL_pays 329 = .ok (.ifCond .ge 17, 3) := by decide +kernel
theorem dL_pays_332 : decode cL_pays 332 = .ok (.aload_n 0, 1) := by decide +kernel
theorem dL_pays_333 : decode cL_pays 333 = .ok (.iload 5, 2) := by decide +kernel
theorem dL_pays_335 : decode cL_pays 335 = .ok (.invokevirtual 92, 3) := by decide +kernel
theorem dL_pays_338 : decode cL_pays 338 = .ok (.iload 12, 2) := by decide +kernel
theorem dL_pays_340 : decode cL_pays 340 = .ok (.if_icmp .gt 21, 3) := by decide +kernel
theorem dL_pays_343 : decode cL_pays 343 = .ok (.goto 14, 3) := by decide +kernel
theorem dL_pays_346 : decode cL_pays 346 = .ok (.aload_n 0, 1) := by decide +kernel
theorem dL_pays_347 : decode cL_pays 347 = .ok (.iload 5, 2) := by decide +kernel
theorem dL_pays_349 : decode cL_pays 349 = .ok (.invokevirtual 92, 3) := by decide +kernel
theorem dL_pays_352 : decode cL_pays 352 = .ok (.iload 12, 2) := by decide +kernel
theorem dL_pays_354 : decode cL_pays 354 = .ok (.if_icmp .lt 7, 3) := by decide +kernel
theorem dL_pays_357 : decode cL_pays 357 = .ok (.iconst 1, 1) := by decide +kernel
theorem dL_pays_358 : decode cL_pays 358 = .ok (.goto 4, 3) := by decide +kernel
theorem dL_pays_361 : decode cL_pays 361 = .ok (.iconst 0, 1) := by decide +kernel
theorem dL_pays_362 : decode cL_pays 362 = .ok (.ireturn, 1) := by decide +kernel
theorem dL_pays_363 : decode cL_pays 363 = .ok (.aload_n 0, 1) := by decide +kernel
theorem dL_pays_364 : decode cL_pays 364 = .ok (.iload 5, 2) := by decide +kernel
theorem dL_pays_366 : decode cL_pays 366 = .ok (.invokevirtual 98, 3) := by decide +kernel
theorem dL_pays_369 : decode cL_pays 369 = .ok (.istore 9, 2) := by decide +kernel
theorem dL_pays_371 : decode cL_pays 371 = .ok (.iconst 1, 1) := by decide +kernel
theorem dL_pays_372 : decode cL_pays 372 = .ok (.iload_n 3, 1) := by decide +kernel
theorem dL_pays_373 : decode cL_pays 373 = .ok (.bipush 6, 2) := by decide +kernel
theorem dL_pays_375 : decode cL_pays 375 = .ok (.ishr, 1) := by decide +kernel
theorem dL_pays_376 : decode cL_pays 376 = .ok (.sipush 300, 3) := by decide +kernel
theorem dL_pays_379 : decode cL_pays 379 = .ok (.invokestatic 128, 3) := by decide +kernel
theorem dL_pays_382 : decode cL_pays 382 = .ok (.iadd, 1) := by decide +kernel
theorem dL_pays_383 : decode cL_pays 383 = .ok (.istore 10, 2) := by decide +kernel
theorem dL_pays_385 : decode cL_pays 385 = .ok (.aload_n 0, 1) := by decide +kernel
theorem dL_pays_386 : decode cL_pays 386 = .ok (.iload 5, 2) := by decide +kernel
theorem dL_pays_388 : decode cL_pays 388 = .ok (.invokevirtual 77, 3) := by decide +kernel
theorem dL_pays_391 : decode cL_pays 391 = .ok (.istore 11, 2) := by decide +kernel
theorem dL_pays_393 : decode cL_pays 393 = .ok (.aload_n 0, 1) := by decide +kernel
theorem dL_pays_394 : decode cL_pays 394 = .ok (.aload_n 1, 1) := by decide +kernel
theorem dL_pays_395 : decode cL_pays 395 = .ok (.iconst 5, 1) := by decide +kernel
theorem dL_pays_396 : decode cL_pays 396 = .ok (.iload 5, 2) := by decide +kernel
theorem dL_pays_398 : decode cL_pays 398 = .ok (.iload 10, 2) := by decide +kernel
theorem dL_pays_400 : decode cL_pays 400 = .ok (.iconst 0, 1) := by decide +kernel
theorem dL_pays_401 : decode cL_pays 401 = .ok (.invokestatic 131, 3) := by decide +kernel
theorem dL_pays_404 : decode cL_pays 404 = .ok (.istore 12, 2) := by decide +kernel
theorem dL_pays_406 : decode cL_pays 406 = .ok (.iload 8, 2) := by decide +kernel
theorem dL_pays_408 : decode cL_pays 408 = .ok (.ifCond .eq 29, 3) := by decide +kernel
theorem dL_pays_411 : decode cL_pays 411 = .ok (.iload 12, 2) := by decide +kernel
theorem dL_pays_413 : decode cL_pays 413 = .ok (.ldc 23, 2) := by decide +kernel
theorem dL_pays_415 : decode cL_pays 415 = .ok (.if_icmp .ne 18, 3) := by decide +kernel
theorem dL_pays_418 : decode cL_pays 418 = .ok (.aload_n 0, 1) := by decide +kernel
theorem dL_pays_419 : decode cL_pays 419 = .ok (.iload_n 2, 1) := by decide +kernel
theorem dL_pays_420 : decode cL_pays 420 = .ok (.invokestatic 135, 3) := by decide +kernel
theorem dL_pays_423 : decode cL_pays 423 = .ok (.lload 6, 2) := by decide +kernel
theorem dL_pays_425 : decode cL_pays 425 = .ok (.lcmp, 1) := by decide +kernel
theorem dL_pays_426 : decode cL_pays 426 = .ok (.ifCond .ne 7, 3) := by decide +kernel
theorem dL_pays_429 : decode cL_pays 429 = .ok (.iconst 1, 1) := by decide +kernel
theorem dL_pays_430 : decode cL_pays 430 = .ok (.goto 44, 3) := by decide +kernel
theorem dL_pays_433 : decode cL_pays 433 = .ok (.iconst 0, 1) := by decide +kernel
theorem dL_pays_434 : decode cL_pays 434 = .ok (.goto 40, 3) := by decide +kernel
theorem dL_pays_437 : decode cL_pays 437 = .ok (.iload 12, 2) := by decide +kernel
theorem dL_pays_439 : decode cL_pays 439 = .ok (.iload 9, 2) := by decide +kernel
theorem dL_pays_441 : decode cL_pays 441 = .ok (.iload 10, 2) := by decide +kernel
theorem dL_pays_443 : decode cL_pays 443 = .ok (.iadd, 1) := by decide +kernel
theorem dL_pays_444 : decode cL_pays 444 = .ok (.if_icmp .ne 29, 3) := by decide +kernel
theorem dL_pays_447 : decode cL_pays 447 = .ok (.aload_n 0, 1) := by decide +kernel
theorem dL_pays_448 : decode cL_pays 448 = .ok (.iload 5, 2) := by decide +kernel
theorem dL_pays_450 : decode cL_pays 450 = .ok (.invokevirtual 98, 3) := by decide +kernel
theorem dL_pays_453 : decode cL_pays 453 = .ok (.iload 12, 2) := by decide +kernel
theorem dL_pays_455 : decode cL_pays 455 = .ok (.if_icmp .ne 18, 3) := by decide +kernel
theorem dL_pays_458 : decode cL_pays 458 = .ok (.aload_n 0, 1) := by decide +kernel
theorem dL_pays_459 : decode cL_pays 459 = .ok (.iload 5, 2) := by decide +kernel
theorem dL_pays_461 : decode cL_pays 461 = .ok (.invokevirtual 77, 3) := by decide +kernel
theorem dL_pays_464 : decode cL_pays 464 = .ok (.iload 11, 2) := by decide +kernel
theorem dL_pays_466 : decode cL_pays 466 = .ok (.if_icmp .ne 7, 3) := by decide +kernel
theorem dL_pays_469 : decode cL_pays 469 = .ok (.iconst 1, 1) := by decide +kernel
theorem dL_pays_470 : decode cL_pays 470 = .ok (.goto 4, 3) := by decide +kernel
theorem dL_pays_473 : decode cL_pays 473 = .ok (.iconst 0, 1) := by decide +kernel
theorem dL_pays_474 : decode cL_pays 474 = .ok (.ireturn, 1) := by decide +kernel
theorem dL_places_0 : decode cL_places 0 = .ok (.iload_n 3, 1) := by decide +kernel
theorem dL_places_1 : decode cL_places 1 = .ok (.iconst 5, 1) := by decide +kernel
theorem dL_places_2 : decode cL_places 2 = .ok (.invokestatic 128, 3) := by decide +kernel
theorem dL_places_5 : decode cL_places 5 = .ok (.istore 4, 2) := by decide +kernel
theorem dL_places_7 : decode cL_places 7 = .ok (.iload_n 3, 1) := by decide +kernel
theorem dL_places_8 : decode cL_places 8 = .ok (.iconst 3, 1) := by decide +kernel
theorem dL_places_9 : decode cL_places 9 = .ok (.ishr, 1) := by decide +kernel
theorem dL_places_10 : decode cL_places 10 = .ok (.iload_n 3, 1) := by decide +kernel
theorem dL_places_11 : decode cL_places 11 = .ok (.iconst 5, 1) := by decide +kernel
theorem dL_places_12 : decode cL_places 12 = .ok (.ishr, 1) := by decide +kernel
theorem dL_places_13 : decode cL_places 13 = .ok (.iconst 3, 1) := by decide +kernel
theorem dL_places_14 : decode cL_places 14 = .ok (.invokestatic 128, 3) := by decide +kernel
theorem dL_places_17 : decode cL_places 17 = .ok (.ifCond .ne 7, 3) := by decide +kernel
theorem dL_places_20 : decode cL_places 20 = .ok (.iconst 3, 1) := by decide +kernel
theorem dL_places_21 : decode cL_places 21 = .ok (.goto 4, 3) := by decide +kernel
theorem dL_places_24 : decode cL_places 24 = .ok (.iconst 1, 1) := by decide +kernel
theorem dL_places_25 : decode cL_places 25 = .ok (.invokestatic 128, 3) := by decide +kernel
theorem dL_places_28 : decode cL_places 28 = .ok (.istore 5, 2) := by decide +kernel
theorem dL_places_30 : decode cL_places 30 = .ok (.iload_n 3, 1) := by decide +kernel
theorem dL_places_31 : decode cL_places 31 = .ok (.iconst 4, 1) := by decide +kernel
theorem dL_places_32 : decode cL_places 32 = .ok (.ishr, 1) := by decide +kernel
theorem dL_places_33 : decode cL_places 33 = .ok (.iconst 2, 1) := by decide +kernel
theorem dL_places_34 : decode cL_places 34 = .ok (.invokestatic 128, 3) := by decide +kernel
theorem dL_places_37 : decode cL_places 37 = .ok (.istore 6, 2) := by decide +kernel
theorem dL_places_39 : decode cL_places 39 = .ok (.iload_n 3, 1) := by decide +kernel
theorem dL_places_40 : decode cL_places 40 = .ok (.bipush 6, 2) := by decide +kernel
theorem dL_places_42 : decode cL_places 42 = .ok (.ishr, 1) := by decide +kernel
theorem dL_places_43 : decode cL_places 43 = .ok (.bipush 8, 2) := by decide +kernel
theorem dL_places_45 : decode cL_places 45 = .ok (.invokestatic 128, 3) := by decide +kernel
theorem dL_places_48 : decode cL_places 48 = .ok (.ifCond .ne 18, 3) := by decide +kernel
theorem dL_places_51 : decode cL_places 51 = .ok (.iconst 1, 1) := by decide +kernel
theorem dL_places_52 : decode cL_places 52 = .ok (.iload_n 3, 1) := by decide +kernel
theorem dL_places_53 : decode cL_places 53 = .ok (.bipush 8, 2) := by decide +kernel
theorem dL_places_55 : decode cL_places 55 = .ok (.ishr, 1) := by decide +kernel
theorem dL_places_56 : decode cL_places 56 = .ok (.sipush 300, 3) := by decide +kernel
theorem dL_places_59 : decode cL_places 59 = .ok (.invokestatic 128, 3) := by decide +kernel
theorem dL_places_62 : decode cL_places 62 = .ok (.iadd, 1) := by decide +kernel
theorem dL_places_63 : decode cL_places 63 = .ok (.goto 15, 3) := by decide +kernel
theorem dL_places_66 : decode cL_places 66 = .ok (.bipush 94, 2) := by decide +kernel
theorem dL_places_68 : decode cL_places 68 = .ok (.iload_n 3, 1) := by decide +kernel
theorem dL_places_69 : decode cL_places 69 = .ok (.bipush 8, 2) := by decide +kernel
theorem dL_places_71 : decode cL_places 71 = .ok (.ishr, 1) := by decide +kernel
theorem dL_places_72 : decode cL_places 72 = .ok (.bipush 13, 2) := by decide +kernel
theorem dL_places_74 : decode cL_places 74 = .ok (.invokestatic 128, 3) := by decide +kernel
theorem dL_places_77 : decode cL_places 77 = .ok (.iadd, 1) := by decide +kernel
theorem dL_places_78 : decode cL_places 78 = .ok (.istore 7, 2) := by decide +kernel
theorem dL_places_80 : decode cL_places 80 = .ok (.iconst 1, 1) := by decide +kernel
theorem dL_places_81 : decode cL_places 81 = .ok (.iload_n 3, 1) := by decide +kernel
theorem dL_places_82 : decode cL_places 82 = .ok (.bipush 9, 2) := by decide +kernel
theorem dL_places_84 : decode cL_places 84 = .ok (.ishr, 1) := by decide +kernel
theorem dL_places_85 : decode cL_places 85 = .ok (.iload_n 3, 1) := by decide +kernel
theorem dL_places_86 : decode cL_places 86 = .ok (.bipush 7, 2) := by decide +kernel
theorem dL_places_88 : decode cL_places 88 = .ok (.ishr, 1) := by decide +kernel
theorem dL_places_89 : decode cL_places 89 = .ok (.iconst 3, 1) := by decide +kernel
theorem dL_places_90 : decode cL_places 90 = .ok (.invokestatic 128, 3) := by decide +kernel
theorem dL_places_93 : decode cL_places 93 = .ok (.ifCond .ne 8, 3) := by decide +kernel
theorem dL_places_96 : decode cL_places 96 = .ok (.bipush 60, 2) := by decide +kernel
theorem dL_places_98 : decode cL_places 98 = .ok (.goto 5, 3) := by decide +kernel
theorem dL_places_101 : decode cL_places 101 = .ok (.bipush 15, 2) := by decide +kernel
theorem dL_places_103 : decode cL_places 103 = .ok (.invokestatic 128, 3) := by decide +kernel
theorem dL_places_106 : decode cL_places 106 = .ok (.iadd, 1) := by decide +kernel
theorem dL_places_107 : decode cL_places 107 = .ok (.istore 8, 2) := by decide +kernel
theorem dL_places_109 : decode cL_places 109 = .ok (.aload_n 0, 1) := by decide +kernel
theorem dL_places_110 : decode cL_places 110 = .ok (.invokestatic 139, 3) := by decide +kernel
theorem dL_places_113 : decode cL_places 113 = .ok (.lstore 9, 2) := by decide +kernel
theorem dL_places_115 : decode cL_places 115 = .ok (.aload_n 0, 1) := by decide +kernel
theorem dL_places_116 : decode cL_places 116 = .ok (.iload 4, 2) := by decide +kernel
theorem dL_places_118 : decode cL_places 118 = .ok (.iload 5, 2) := by decide +kernel
theorem dL_places_120 : decode cL_places 120 = .ok (.invokevirtual 74, 3) := by decide +kernel
theorem dL_places_123 : decode cL_places 123 = .ok (.istore 11, 2) := by decide +kernel
theorem dL_places_125 : decode cL_places 125 = .ok (.aload_n 0, 1) := by decide +kernel
theorem dL_places_126 : decode cL_places 126 = .ok (.invokevirtual 101, 3) := by decide +kernel
theorem dL_places_129 : decode cL_places 129 = .ok (.istore 12, 2) := by decide +kernel
theorem dL_places_131 : decode cL_places 131 = .ok (.aload_n 0, 1) := by decide +kernel
theorem dL_places_132 : decode cL_places 132 = .ok (.iload_n 2, 1) := by decide +kernel
theorem dL_places_133 : decode cL_places 133 = .ok (.invokestatic 135, 3) := by decide +kernel
theorem dL_places_136 : decode cL_places 136 = .ok (.lstore 13, 2) := by decide +kernel
theorem dL_places_138 : decode cL_places 138 = .ok (.aload_n 0, 1) := by decide +kernel
theorem dL_places_139 : decode cL_places 139 = .ok (.iload 4, 2) := by decide +kernel
theorem dL_places_141 : decode cL_places 141 = .ok (.invokevirtual 70, 3) := by decide +kernel
theorem dL_places_144 : decode cL_places 144 = .ok (.istore 15, 2) := by decide +kernel
theorem dL_places_146 : decode cL_places 146 = .ok (.aload_n 0, 1) := by decide +kernel
theorem dL_places_147 : decode cL_places 147 = .ok (.aload_n 1, 1) := by decide +kernel
theorem dL_places_148 : decode cL_places 148 = .ok (.bipush 6, 2) := by decide +kernel
theorem dL_places_150 : decode cL_places 150 = .ok (.iload 4, 2) := by decide +kernel
theorem dL_places_152 : decode cL_places 152 = .ok (.iconst 2, 1) := by decide +kernel
theorem dL_places_153 : decode cL_places 153 = .ok (.iload 5, 2) := by decide +kernel
theorem dL_places_155 : decode cL_places 155 = .ok (.imul, 1) := by decide +kernel
theorem dL_places_156 : decode cL_places 156 = .ok (.iload 6, 2) := by decide +kernel
theorem dL_places_158 : decode cL_places 158 = .ok (.iadd, 1) := by decide +kernel
theorem dL_places_159 : decode cL_places 159 = .ok (.sipush 256, 3) := by decide +kernel
theorem dL_places_162 : decode cL_places 162 = .ok (.iload 7, 2) := by decide +kernel
theorem dL_places_164 : decode cL_places 164 = .ok (.imul, 1) := by decide +kernel
theorem dL_places_165 : decode cL_places 165 = .ok (.iload 8, 2) := by decide +kernel
theorem dL_places_167 : decode cL_places 167 = .ok (.iadd, 1) := by decide +kernel
theorem dL_places_168 : decode cL_places 168 = .ok (.iconst 1, 1) := by decide +kernel
theorem dL_places_169 : decode cL_places 169 = .ok (.iadd, 1) := by decide +kernel
theorem dL_places_170 : decode cL_places 170 = .ok (.invokestatic 131, 3) := by decide +kernel
theorem dL_places_173 : decode cL_places 173 = .ok (.istore 16, 2) := by decide +kernel
theorem dL_places_175 : decode cL_places 175 = .ok (.iload 16, 2) := by decide +kernel
theorem dL_places_177 : decode cL_places 177 = .ok (.ldc 23, 2) := by decide +kernel
theorem dL_places_179 : decode cL_places 179 = .ok (.if_icmp .ne 30, 3) := by decide +kernel
theorem dL_places_182 : decode cL_places 182 = .ok (.aload_n 0, 1) := by decide +kernel
theorem dL_places_183 : decode cL_places 183 = .ok (.iload_n 2, 1) := by decide +kernel
theorem dL_places_184 : decode cL_places 184 = .ok (.invokestatic 135, 3) := by decide +kernel
theorem dL_places_187 : decode cL_places 187 = .ok (.lload 13, 2) := by decide +kernel
theorem dL_places_189 : decode cL_places 189 = .ok (.lcmp, 1) := by decide +kernel
theorem dL_places_190 : decode cL_places 190 = .ok (.ifCond .ne 17, 3) := by decide +kernel
theorem dL_places_193 : decode cL_places 193 = .ok (.aload_n 0, 1) := by decide +kernel
theorem dL_places_194 : decode cL_places 194 = .ok (.invokestatic 139, 3) := by decide +kernel
theorem dL_places_197 : decode cL_places 197 = .ok (.lload 9, 2) := by decide +kernel
theorem dL_places_199 : decode cL_places 199 = .ok (.lcmp, 1) := by decide +kernel
theorem dL_places_200 : decode cL_places 200 = .ok (.ifCond .ne 7, 3) := by decide +kernel
theorem dL_places_203 : decode cL_places 203 = .ok (.iconst 1, 1) := by decide +kernel
theorem dL_places_204 : decode cL_places 204 = .ok (.goto 4, 3) := by decide +kernel
theorem dL_places_207 : decode cL_places 207 = .ok (.iconst 0, 1) := by decide +kernel
theorem dL_places_208 : decode cL_places 208 = .ok (.ireturn, 1) := by decide +kernel
theorem dL_places_209 : decode cL_places 209 = .ok (.iload 16, 2) := by decide +kernel
theorem dL_places_211 : decode cL_places 211 = .ok (.ifCond .ge 7, 3) := by decide +kernel
theorem dL_places_214 : decode cL_places 214 = .ok (.iconst 0, 1) := by decide +kernel
theorem dL_places_215 : decode cL_places 215 = .ok (.goto 9, 3) := by decide +kernel
theorem dL_places_218 : decode cL_places 218 = .ok (.aload_n 0, 1) := by decide +kernel
theorem dL_places_219 : decode cL_places 219 = .ok (.iload 16, 2) := by decide +kernel
theorem dL_places_221 : decode cL_places 221 = .ok (.invokevirtual 61, 3) := by decide +kernel
theorem dL_places_224 : decode cL_places 224 = .ok (.istore 17, 2) := by decide +kernel
theorem dL_places_226 : decode cL_places 226 = .ok (.iload 6, 2) := by decide +kernel
theorem dL_places_228 : decode cL_places 228 = .ok (.iconst 1, 1) := by decide +kernel
theorem dL_places_229 : decode cL_places 229 = .ok (.if_icmp .ne 17, 3) := by decide +kernel
theorem dL_places_232 : decode cL_places 232 = .ok (.aload_n 0, 1) := by decide +kernel
theorem dL_places_233 : decode cL_places 233 = .ok (.iload 4, 2) := by decide +kernel
theorem dL_places_235 : decode cL_places 235 = .ok (.iload 5, 2) := by decide +kernel
theorem dL_places_237 : decode cL_places 237 = .ok (.invokevirtual 74, 3) := by decide +kernel
theorem dL_places_240 : decode cL_places 240 = .ok (.iload 11, 2) := by decide +kernel
theorem dL_places_242 : decode cL_places 242 = .ok (.isub, 1) := by decide +kernel
theorem dL_places_243 : decode cL_places 243 = .ok (.goto 14, 3) := by decide +kernel
theorem dL_places_246 : decode cL_places 246 = .ok (.iload 11, 2) := by decide +kernel
theorem dL_places_248 : decode cL_places 248 = .ok (.aload_n 0, 1) := by decide +kernel
theorem dL_places_249 : decode cL_places 249 = .ok (.iload 4, 2) := by decide +kernel
theorem dL_places_251 : decode cL_places 251 = .ok (.iload 5, 2) := by decide +kernel
theorem dL_places_253 : decode cL_places 253 = .ok (.invokevirtual 74, 3) := by decide +kernel
theorem dL_places_256 : decode cL_places 256 = .ok (.isub, 1) := by decide +kernel
theorem dL_places_257 : decode cL_places 257 = .ok (.istore 18, 2) := by decide +kernel
theorem dL_places_259 : decode cL_places 259 = .ok (.iload 15, 2) := by decide +kernel
theorem dL_places_261 : decode cL_places 261 = .ok (.ifCond .ne 65, 3) := by decide +kernel
theorem dL_places_264 : decode cL_places 264 = .ok (.iload 16, 2) := by decide +kernel
theorem dL_places_266 : decode cL_places 266 = .ok (.iload_n 2, 1) := by decide +kernel
theorem dL_places_267 : decode cL_places 267 = .ok (.if_icmp .ne 59, 3) := by decide +kernel
theorem dL_places_270 : decode cL_places 270 = .ok (.aload_n 0, 1) := by decide +kernel
theorem dL_places_271 : decode cL_places 271 = .ok (.invokestatic 139, 3) := by decide +kernel
theorem dL_places_274 : decode cL_places 274 = .ok (.lload 9, 2) := by decide +kernel
theorem dL_places_276 : decode cL_places 276 = .ok (.lcmp, 1) := by decide +kernel
theorem dL_places_277 : decode cL_places 277 = .ok (.ifCond .ne 49, 3) := by decide +kernel
theorem dL_places_280 : decode cL_places 280 = .ok (.iload 18, 2) := by decide +kernel
theorem dL_places_282 : decode cL_places 282 = .ok (.ifCond .lt 44, 3) := by decide +kernel
theorem dL_places_285 : decode cL_places 285 = .ok (.iload 18, 2) := by decide +kernel
theorem dL_places_287 : decode cL_places 287 = .ok (.iload 17, 2) := by decide +kernel
theorem dL_places_289 : decode cL_places 289 = .ok (.iadd, 1) := by decide +kernel
theorem dL_places_290 : decode cL_places 290 = .ok (.iload 8, 2) := by decide +kernel
theorem dL_places_292 : decode cL_places 292 = .ok (.if_icmp .ne 34, 3) := by decide +kernel
theorem dL_places_295 : decode cL_places 295 = .ok (.iload 18, 2) := by decide +kernel
theorem dL_places_297 : decode cL_places 297 = .ok (.ifCond .le 7, 3) := by decide +kernel
theorem dL_places_300 : decode cL_places 300 = .ok (.iconst 1, 1) := by decide +kernel
theorem dL_places_301 : decode cL_places 301 = .ok (.goto 4, 3) := by decide +kernel
theorem dL_places_304 : decode cL_places 304 = .ok (.iconst 0, 1) := by decide +kernel
theorem dL_places_305 : decode cL_places 305 = .ok (.aload_n 0, 1) := by decide +kernel
theorem dL_places_306 : decode cL_places 306 = .ok (.invokevirtual 101, 3) := by decide +kernel
theorem dL_places_309 : decode cL_places 309 = .ok (.iload 12, 2) := by decide +kernel
theorem dL_places_311 : decode cL_places 311 = .ok (.if_icmp .le 7, 3) := by decide +kernel
theorem dL_places_314 : decode cL_places 314 = .ok (.iconst 1, 1) := by decide +kernel
theorem dL_places_315 : decode cL_places 315 = .ok (.goto 4, 3) := by decide +kernel
theorem dL_places_318 : decode cL_places 318 = .ok (.iconst 0, 1) := by decide +kernel
theorem dL_places_319 : decode cL_places 319 = .ok (.if_icmp .ne 7, 3) := by decide +kernel
theorem dL_places_322 : decode cL_places 322 = .ok (.iconst 1, 1) := by decide +kernel
theorem dL_places_323 : decode cL_places 323 = .ok (.goto 4, 3) := by decide +kernel
theorem dL_places_326 : decode cL_places 326 = .ok (.iconst 0, 1) := by decide +kernel
theorem dL_places_327 : decode cL_places 327 = .ok (.istore 19, 2) := by decide +kernel
theorem dL_places_329 : decode cL_places 329 = .ok (.aload_n 0, 1) := by decide +kernel
theorem dL_places_330 : decode cL_places 330 = .ok (.bipush 10, 2) := by decide +kernel
theorem dL_places_332 : decode cL_places 332 = .ok (.iload 5, 2) := by decide +kernel
theorem dL_places_334 : decode cL_places 334 = .ok (.iconst 1, 1) := by decide +kernel
theorem dL_places_335 : decode cL_places 335 = .ok (.iconst 0, 1) := by decide +kernel
theorem dL_places_336 : decode cL_places 336 = .ok (.invokestatic 120, 3) := by decide +kernel
theorem dL_places_339 : decode cL_places 339 = .ok (.istore 20, 2) := by decide +kernel
theorem dL_places_341 : decode cL_places 341 = .ok (.aload_n 0, 1) := by decide +kernel
theorem dL_places_342 : decode cL_places 342 = .ok (.bipush 10, 2) := by decide +kernel
theorem dL_places_344 : decode cL_places 344 = .ok (.iload 5, 2) := by decide +kernel
theorem dL_places_346 : decode cL_places 346 = .ok (.iconst 0, 1) := by decide +kernel
theorem dL_places_347 : decode cL_places 347 = .ok (.iconst 0, 1) := by decide +kernel
theorem dL_places_348 : decode cL_places 348 = .ok (.invokestatic 120, 3) := by decide +kernel
theorem dL_places_351 : decode cL_places 351 = .ok (.istore 21, 2) := by decide +kernel
theorem dL_places_353 : decode cL_places 353 = .ok (.iload 19, 2) := by decide +kernel
theorem dL_places_355 : decode cL_places 355 = .ok (.ifCond .eq 36, 3) := by decide +kernel
theorem dL_places_358 : decode cL_places 358 = .ok (.iload 17, 2) := by decide +kernel
theorem dL_places_360 : decode cL_places 360 = .ok (.ifCond .eq 27, 3) := by decide +kernel
theorem dL_places_363 : decode cL_places 363 = .ok (.iload 20, 2) := by decide +kernel
theorem dL_places_365 : decode cL_places 365 = .ok (.iload 16, 2) := by decide +kernel
theorem dL_places_367 : decode cL_places 367 = .ok (.if_icmp .eq 20, 3) := by decide +kernel
theorem dL_places_370 : decode cL_places 370 = .ok (.iload 21, 2) := by decide +kernel
theorem dL_places_372 : decode cL_places 372 = .ok (.iload 16, 2) := by decide +kernel
theorem dL_places_374 : decode cL_places 374 = .ok (.if_icmp .eq 13, 3) := by decide +kernel
theorem dL_places_377 : decode cL_places 377 = .ok (.iload 20, 2) := by decide +kernel
theorem dL_places_379 : decode cL_places 379 = .ok (.ifCond .ge 8, 3) := by decide +kernel
theorem dL_places_382 : decode cL_places 382 = .ok (.iload 21, 2) := by decide +kernel
theorem dL_places_384 : decode cL_places 384 = .ok (.ifCond .lt 7, 3) := by decide +kernel
theorem dL_places_387 : decode cL_places 387 = .ok (.iconst 1, 1) := by decide +kernel
theorem dL_places_388 : decode cL_places 388 = .ok (.goto 4, 3) := by decide +kernel
theorem dL_places_391 : decode cL_places 391 = .ok (.iconst 0, 1) := by decide +kernel
theorem dL_places_392 : decode cL_places 392 = .ok (.ireturn, 1) := by decide +kernel
theorem dL_evening_0 : decode cL_evening 0 = .ok (.aload_n 0, 1) := by decide +kernel
theorem dL_evening_1 : decode cL_evening 1 = .ok (.iconst 2, 1) := by decide +kernel
theorem dL_evening_2 : decode cL_evening 2 = .ok (.invokevirtual 80, 3) := by decide +kernel
theorem dL_evening_5 : decode cL_evening 5 = .ok (.istore_n 2, 1) := by decide +kernel
theorem dL_evening_6 : decode cL_evening 6 = .ok (.aload_n 0, 1) := by decide +kernel
theorem dL_evening_7 : decode cL_evening 7 = .ok (.iconst 3, 1) := by decide +kernel
theorem dL_evening_8 : decode cL_evening 8 = .ok (.invokevirtual 95, 3) := by decide +kernel
theorem dL_evening_11 : decode cL_evening 11 = .ok (.istore_n 3, 1) := by decide +kernel
theorem dL_evening_12 : decode cL_evening 12 = .ok (.aload_n 0, 1) := by decide +kernel
theorem dL_evening_13 : decode cL_evening 13 = .ok (.invokestatic 139, 3) := by decide +kernel
theorem dL_evening_16 : decode cL_evening 16 = .ok (.lstore 4, 2) := by decide +kernel
theorem dL_evening_18 : decode cL_evening 18 = .ok (.aload_n 0, 1) := by decide +kernel
theorem dL_evening_19 : decode cL_evening 19 = .ok (.invokevirtual 143, 3) := by decide +kernel
theorem dL_evening_22 : decode cL_evening 22 = .ok (.istore 6, 2) := by decide +kernel
theorem dL_evening_24 : decode cL_evening 24 = .ok (.iload 6, 2) := by decide +kernel
theorem dL_evening_26 : decode cL_evening 26 = .ok (.aload_n 1, 1) := by decide +kernel
theorem dL_evening_27 : decode cL_evening 27 = .ok (.invokevirtual 143, 3) := by decide +kernel
theorem dL_evening_30 : decode cL_evening 30 = .ok (.if_icmp .ne 44, 3) := by decide +kernel
theorem dL_evening_33 : decode cL_evening 33 = .ok (.aload_n 0, 1) := by decide +kernel
theorem dL_evening_34 : decode cL_evening 34 = .ok (.iconst 2, 1) := by decide +kernel
theorem dL_evening_35 : decode cL_evening 35 = .ok (.invokevirtual 80, 3) := by decide +kernel
theorem dL_evening_38 : decode cL_evening 38 = .ok (.iload_n 2, 1) := by decide +kernel
theorem dL_evening_39 : decode cL_evening 39 = .ok (.if_icmp .ne 35, 3) := by decide +kernel
theorem dL_evening_42 : decode cL_evening 42 = .ok (.aload_n 0, 1) := by decide +kernel
theorem dL_evening_43 : decode cL_evening 43 = .ok (.iconst 2, 1) := by decide +kernel
theorem dL_evening_44 : decode cL_evening 44 = .ok (.invokevirtual 77, 3) := by decide +kernel
theorem dL_evening_47 : decode cL_evening 47 = .ok (.iload_n 2, 1) := by decide +kernel
theorem dL_evening_48 : decode cL_evening 48 = .ok (.if_icmp .ne 26, 3) := by decide +kernel
theorem dL_evening_51 : decode cL_evening 51 = .ok (.aload_n 0, 1) := by decide +kernel
theorem dL_evening_52 : decode cL_evening 52 = .ok (.iconst 3, 1) := by decide +kernel
theorem dL_evening_53 : decode cL_evening 53 = .ok (.invokevirtual 95, 3) := by decide +kernel
theorem dL_evening_56 : decode cL_evening 56 = .ok (.iload_n 3, 1) := by decide +kernel
theorem dL_evening_57 : decode cL_evening 57 = .ok (.if_icmp .ne 17, 3) := by decide +kernel
theorem dL_evening_60 : decode cL_evening 60 = .ok (.aload_n 0, 1) := by decide +kernel
theorem dL_evening_61 : decode cL_evening 61 = .ok (.invokestatic 139, 3) := by decide +kernel
theorem dL_evening_64 : decode cL_evening 64 = .ok (.lload 4, 2) := by decide +kernel
theorem dL_evening_66 : decode cL_evening 66 = .ok (.lcmp, 1) := by decide +kernel
theorem dL_evening_67 : decode cL_evening 67 = .ok (.ifCond .ne 7, 3) := by decide +kernel
theorem dL_evening_70 : decode cL_evening 70 = .ok (.iconst 1, 1) := by decide +kernel
theorem dL_evening_71 : decode cL_evening 71 = .ok (.goto 4, 3) := by decide +kernel
theorem dL_evening_74 : decode cL_evening 74 = .ok (.iconst 0, 1) := by decide +kernel
theorem dL_evening_75 : decode cL_evening 75 = .ok (.ireturn, 1) := by decide +kernel
theorem dL_hour_0 : decode cL_hour 0 = .ok (.aload_n 0, 1) := by decide +kernel
theorem dL_hour_1 : decode cL_hour 1 = .ok (.invokestatic 146, 3) := by decide +kernel
theorem dL_hour_4 : decode cL_hour 4 = .ok (.istore_n 2, 1) := by decide +kernel
theorem dL_hour_5 : decode cL_hour 5 = .ok (.aload_n 0, 1) := by decide +kernel
theorem dL_hour_6 : decode cL_hour 6 = .ok (.invokestatic 150, 3) := by decide +kernel
theorem dL_hour_9 : decode cL_hour 9 = .ok (.lstore_n 3, 1) := by decide +kernel
theorem dL_hour_10 : decode cL_hour 10 = .ok (.aload_n 0, 1) := by decide +kernel
theorem dL_hour_11 : decode cL_hour 11 = .ok (.invokevirtual 107, 3) := by decide +kernel
theorem dL_hour_14 : decode cL_hour 14 = .ok (.istore 5, 2) := by decide +kernel
theorem dL_hour_16 : decode cL_hour 16 = .ok (.aload_n 0, 1) := by decide +kernel
theorem dL_hour_17 : decode cL_hour 17 = .ok (.invokestatic 139, 3) := by decide +kernel
theorem dL_hour_20 : decode cL_hour 20 = .ok (.lstore 6, 2) := by decide +kernel
theorem dL_hour_22 : decode cL_hour 22 = .ok (.lconst 0, 1) := by decide +kernel
theorem dL_hour_23 : decode cL_hour 23 = .ok (.lstore 8, 2) := by decide +kernel
theorem dL_hour_25 : decode cL_hour 25 = .ok (.iconst 0, 1) := by decide +kernel
theorem dL_hour_26 : decode cL_hour 26 = .ok (.istore 10, 2) := by decide +kernel
theorem dL_hour_28 : decode cL_hour 28 = .ok (.iconst 0, 1) := by decide +kernel
theorem dL_hour_29 : decode cL_hour 29 = .ok (.istore 11, 2) := by decide +kernel
theorem dL_hour_31 : decode cL_hour 31 = .ok (.iload 11, 2) := by decide +kernel
theorem dL_hour_33 : decode cL_hour 33 = .ok (.iconst 5, 1) := by decide +kernel
theorem dL_hour_34 : decode cL_hour 34 = .ok (.if_icmp .ge 41, 3) := by decide +kernel
theorem dL_hour_37 : decode cL_hour 37 = .ok (.lload 8, 2) := by decide +kernel
theorem dL_hour_39 : decode cL_hour 39 = .ok (.aload_n 0, 1) := by decide +kernel
theorem dL_hour_40 : decode cL_hour 40 = .ok (.iload 11, 2) := by decide +kernel
theorem dL_hour_42 : decode cL_hour 42 = .ok (.invokevirtual 92, 3) := by decide +kernel
theorem dL_hour_45 : decode cL_hour 45 = .ok (.i2l, 1) := by decide +kernel
theorem dL_hour_46 : decode cL_hour 46 = .ok (.ladd, 1) := by decide +kernel
theorem dL_hour_47 : decode cL_hour 47 = .ok (.lstore 8, 2) := by decide +kernel
theorem dL_hour_49 : decode cL_hour 49 = .ok (.iload 10, 2) := by decide +kernel
theorem dL_hour_51 : decode cL_hour 51 = .ok (.aload_n 0, 1) := by decide +kernel
theorem dL_hour_52 : decode cL_hour 52 = .ok (.iload 11, 2) := by decide +kernel
theorem dL_hour_54 : decode cL_hour 54 = .ok (.invokevirtual 67, 3) := by decide +kernel
theorem dL_hour_57 : decode cL_hour 57 = .ok (.iconst 1, 1) := by decide +kernel
theorem dL_hour_58 : decode cL_hour 58 = .ok (.if_icmp .ne 7, 3) := by decide +kernel
theorem dL_hour_61 : decode cL_hour 61 = .ok (.iconst 1, 1) := by decide +kernel
theorem dL_hour_62 : decode cL_hour 62 = .ok (.goto 4, 3) := by decide +kernel
theorem dL_hour_65 : decode cL_hour 65 = .ok (.iconst 0, 1) := by decide +kernel
theorem dL_hour_66 : decode cL_hour 66 = .ok (.iadd, 1) := by decide +kernel
theorem dL_hour_67 : decode cL_hour 67 = .ok (.istore 10, 2) := by decide +kernel
theorem dL_hour_69 : decode cL_hour 69 = .ok (.iinc 11 1, 3) := by decide +kernel
theorem dL_hour_72 : decode cL_hour 72 = .ok (.goto (-41), 3) := by decide +kernel
theorem dL_hour_75 : decode cL_hour 75 = .ok (.aload_n 0, 1) := by decide +kernel
theorem dL_hour_76 : decode cL_hour 76 = .ok (.invokevirtual 101, 3) := by decide +kernel
theorem dL_hour_79 : decode cL_hour 79 = .ok (.istore 11, 2) := by decide +kernel
theorem dL_hour_81 : decode cL_hour 81 = .ok (.aload_n 0, 1) := by decide +kernel
theorem dL_hour_82 : decode cL_hour 82 = .ok (.invokevirtual 153, 3) := by decide +kernel
theorem dL_hour_85 : decode cL_hour 85 = .ok (.istore 12, 2) := by decide +kernel
theorem dL_hour_87 : decode cL_hour 87 = .ok (.lconst 0, 1) := by decide +kernel
theorem dL_hour_88 : decode cL_hour 88 = .ok (.lstore 13, 2) := by decide +kernel
theorem dL_hour_90 : decode cL_hour 90 = .ok (.iconst 0, 1) := by decide +kernel
theorem dL_hour_91 : decode cL_hour 91 = .ok (.istore 15, 2) := by decide +kernel
theorem dL_hour_93 : decode cL_hour 93 = .ok (.iload 15, 2) := by decide +kernel
theorem dL_hour_95 : decode cL_hour 95 = .ok (.iconst 5, 1) := by decide +kernel
theorem dL_hour_96 : decode cL_hour 96 = .ok (.if_icmp .ge 21, 3) := by decide +kernel
theorem dL_hour_99 : decode cL_hour 99 = .ok (.lload 13, 2) := by decide +kernel
theorem dL_hour_101 : decode cL_hour 101 = .ok (.aload_n 0, 1) := by decide +kernel
theorem dL_hour_102 : decode cL_hour 102 = .ok (.iload 15, 2) := by decide +kernel
theorem dL_hour_104 : decode cL_hour 104 = .ok (.invokevirtual 92, 3) := by decide +kernel
theorem dL_hour_107 : decode cL_hour 107 = .ok (.i2l, 1) := by decide +kernel
theorem dL_hour_108 : decode cL_hour 108 = .ok (.ladd, 1) := by decide +kernel
theorem dL_hour_109 : decode cL_hour 109 = .ok (.lstore 13, 2) := by decide +kernel
theorem dL_hour_111 : decode cL_hour 111 = .ok (.iinc 15 1, 3) := by decide +kernel
theorem dL_hour_114 : decode cL_hour 114 = .ok (.goto (-21), 3) := by decide +kernel
theorem dL_hour_117 : decode cL_hour 117 = .ok (.iload 12, 2) := by decide +kernel
theorem dL_hour_119 : decode cL_hour 119 = .ok (.aload_n 1, 1) := by decide +kernel
theorem dL_hour_120 : decode cL_hour 120 = .ok (.invokevirtual 153, 3) := by decide +kernel
theorem dL_hour_123 : decode cL_hour 123 = .ok (.if_icmp .ne 43, 3) := by decide +kernel
theorem dL_hour_126 : decode cL_hour 126 = .ok (.iload 12, 2) := by decide +kernel
theorem dL_hour_128 : decode cL_hour 128 = .ok (.iload_n 2, 1) := by decide +kernel
theorem dL_hour_129 : decode cL_hour 129 = .ok (.aload_n 0, 1) := by decide +kernel
theorem dL_hour_130 : decode cL_hour 130 = .ok (.invokestatic 146, 3) := by decide +kernel
theorem dL_hour_133 : decode cL_hour 133 = .ok (.isub, 1) := by decide +kernel
theorem dL_hour_134 : decode cL_hour 134 = .ok (.if_icmp .ne 32, 3) := by decide +kernel
theorem dL_hour_137 : decode cL_hour 137 = .ok (.iload 12, 2) := by decide +kernel
theorem dL_hour_139 : decode cL_hour 139 = .ok (.iload 10, 2) := by decide +kernel
theorem dL_hour_141 : decode cL_hour 141 = .ok (.if_icmp .gt 25, 3) := by decide +kernel
theorem dL_hour_144 : decode cL_hour 144 = .ok (.aload_n 0, 1) := by decide +kernel
theorem dL_hour_145 : decode cL_hour 145 = .ok (.invokevirtual 107, 3) := by decide +kernel
theorem dL_hour_148 : decode cL_hour 148 = .ok (.iload 5, 2) := by decide +kernel
theorem dL_hour_150 : decode cL_hour 150 = .ok (.if_icmp .lt 16, 3) := by decide +kernel
theorem dL_hour_153 : decode cL_hour 153 = .ok (.aload_n 0, 1) := by decide +kernel
theorem dL_hour_154 : decode cL_hour 154 = .ok (.invokestatic 150, 3) := by decide +kernel
theorem dL_hour_157 : decode cL_hour 157 = .ok (.lload_n 3, 1) := by decide +kernel
theorem dL_hour_158 : decode cL_hour 158 = .ok (.lcmp, 1) := by decide +kernel
theorem dL_hour_159 : decode cL_hour 159 = .ok (.ifCond .gt 7, 3) := by decide +kernel
theorem dL_hour_162 : decode cL_hour 162 = .ok (.iconst 1, 1) := by decide +kernel
theorem dL_hour_163 : decode cL_hour 163 = .ok (.goto 4, 3) := by decide +kernel
theorem dL_hour_166 : decode cL_hour 166 = .ok (.iconst 0, 1) := by decide +kernel
theorem dL_hour_167 : decode cL_hour 167 = .ok (.istore 15, 2) := by decide +kernel
theorem dL_hour_169 : decode cL_hour 169 = .ok (.iload 15, 2) := by decide +kernel
theorem dL_hour_171 : decode cL_hour 171 = .ok (.ifCond .eq 40, 3) := by decide +kernel
theorem dL_hour_174 : decode cL_hour 174 = .ok (.aload_n 0, 1) := by decide +kernel
theorem dL_hour_175 : decode cL_hour 175 = .ok (.invokestatic 139, 3) := by decide +kernel
theorem dL_hour_178 : decode cL_hour 178 = .ok (.lload 6, 2) := by decide +kernel
theorem dL_hour_180 : decode cL_hour 180 = .ok (.lsub, 1) := by decide +kernel
theorem dL_hour_181 : decode cL_hour 181 = .ok (.lload 8, 2) := by decide +kernel
theorem dL_hour_183 : decode cL_hour 183 = .ok (.lload 13, 2) := by decide +kernel
theorem dL_hour_185 : decode cL_hour 185 = .ok (.lsub, 1) := by decide +kernel
theorem dL_hour_186 : decode cL_hour 186 = .ok (.lload_n 3, 1) := by decide +kernel
theorem dL_hour_187 : decode cL_hour 187 = .ok (.ladd, 1) := by decide +kernel
theorem dL_hour_188 : decode cL_hour 188 = .ok (.aload_n 0, 1) := by decide +kernel
theorem dL_hour_189 : decode cL_hour 189 = .ok (.invokestatic 150, 3) := by decide +kernel
theorem dL_hour_192 : decode cL_hour 192 = .ok (.lsub, 1) := by decide +kernel
theorem dL_hour_193 : decode cL_hour 193 = .ok (.aload_n 0, 1) := by decide +kernel
theorem dL_hour_194 : decode cL_hour 194 = .ok (.invokevirtual 107, 3) := by decide +kernel
theorem dL_hour_197 : decode cL_hour 197 = .ok (.i2l, 1) := by decide +kernel
theorem dL_hour_198 : decode cL_hour 198 = .ok (.ladd, 1) := by decide +kernel
theorem dL_hour_199 : decode cL_hour 199 = .ok (.iload 5, 2) := by decide +kernel
theorem dL_hour_201 : decode cL_hour 201 = .ok (.i2l, 1) := by decide +kernel
theorem dL_hour_202 : decode cL_hour 202 = .ok (.lsub, 1) := by decide +kernel
theorem dL_hour_203 : decode cL_hour 203 = .ok (.lcmp, 1) := by decide +kernel
theorem dL_hour_204 : decode cL_hour 204 = .ok (.ifCond .ne 7, 3) := by decide +kernel
theorem dL_hour_207 : decode cL_hour 207 = .ok (.iconst 1, 1) := by decide +kernel
theorem dL_hour_208 : decode cL_hour 208 = .ok (.goto 4, 3) := by decide +kernel
theorem dL_hour_211 : decode cL_hour 211 = .ok (.iconst 0, 1) := by decide +kernel
theorem dL_hour_212 : decode cL_hour 212 = .ok (.istore 15, 2) := by decide +kernel
theorem dL_hour_214 : decode cL_hour 214 = .ok (.iload 15, 2) := by decide +kernel
theorem dL_hour_216 : decode cL_hour 216 = .ok (.ifCond .eq 67, 3) := by decide +kernel
theorem dL_hour_219 : decode cL_hour 219 = .ok (.iload 12, 2) := by decide +kernel
theorem dL_hour_221 : decode cL_hour 221 = .ok (.ifCond .gt 39, 3) := by decide +kernel
theorem dL_hour_224 : decode cL_hour 224 = .ok (.aload_n 0, 1) := by decide +kernel
theorem dL_hour_225 : decode cL_hour 225 = .ok (.invokestatic 150, 3) := by decide +kernel
theorem dL_hour_228 : decode cL_hour 228 = .ok (.lload_n 3, 1) := by decide +kernel
theorem dL_hour_229 : decode cL_hour 229 = .ok (.lcmp, 1) := by decide +kernel
theorem dL_hour_230 : decode cL_hour 230 = .ok (.ifCond .ne 53, 3) := by decide +kernel
theorem dL_hour_233 : decode cL_hour 233 = .ok (.aload_n 0, 1) := by decide +kernel
theorem dL_hour_234 : decode cL_hour 234 = .ok (.invokevirtual 107, 3) := by decide +kernel
theorem dL_hour_237 : decode cL_hour 237 = .ok (.iload 5, 2) := by decide +kernel
theorem dL_hour_239 : decode cL_hour 239 = .ok (.if_icmp .ne 44, 3) := by decide +kernel
theorem dL_hour_242 : decode cL_hour 242 = .ok (.lload 13, 2) := by decide +kernel
theorem dL_hour_244 : decode cL_hour 244 = .ok (.lload 8, 2) := by decide +kernel
theorem dL_hour_246 : decode cL_hour 246 = .ok (.lcmp, 1) := by decide +kernel
theorem dL_hour_247 : decode cL_hour 247 = .ok (.ifCond .ne 36, 3) := by decide +kernel
theorem dL_hour_250 : decode cL_hour 250 = .ok (.aload_n 0, 1) := by decide +kernel
theorem dL_hour_251 : decode cL_hour 251 = .ok (.invokestatic 139, 3) := by decide +kernel
theorem dL_hour_254 : decode cL_hour 254 = .ok (.lload 6, 2) := by decide +kernel
theorem dL_hour_256 : decode cL_hour 256 = .ok (.lcmp, 1) := by decide +kernel
theorem dL_hour_257 : decode cL_hour 257 = .ok (.ifCond .ne 26, 3) := by decide +kernel
theorem dL_hour_260 : decode cL_hour 260 = .ok (.iload 10, 2) := by decide +kernel
theorem dL_hour_262 : decode cL_hour 262 = .ok (.ifCond .gt 17, 3) := by decide +kernel
theorem dL_hour_265 : decode cL_hour 265 = .ok (.aload_n 0, 1) := by decide +kernel
theorem dL_hour_266 : decode cL_hour 266 = .ok (.invokevirtual 101, 3) := by decide +kernel
theorem dL_hour_269 : decode cL_hour 269 = .ok (.iload 11, 2) := by decide +kernel
theorem dL_hour_271 : decode cL_hour 271 = .ok (.if_icmp .ne 12, 3) := by decide +kernel
theorem dL_hour_274 : decode cL_hour 274 = .ok (.iload 12, 2) := by decide +kernel
theorem dL_hour_276 : decode cL_hour 276 = .ok (.ifCond .ne 7, 3) := by decide +kernel
theorem dL_hour_279 : decode cL_hour 279 = .ok (.iconst 1, 1) := by decide +kernel
theorem dL_hour_280 : decode cL_hour 280 = .ok (.goto 4, 3) := by decide +kernel
theorem dL_hour_283 : decode cL_hour 283 = .ok (.iconst 0, 1) := by decide +kernel
theorem dL_hour_284 : decode cL_hour 284 = .ok (.ireturn, 1) := by decide +kernel
theorem dL_refused_0 : decode cL_refused 0 = .ok (.aload_n 0, 1) := by decide +kernel
theorem dL_refused_1 : decode cL_refused 1 = .ok (.iload_n 1, 1) := by decide +kernel
theorem dL_refused_2 : decode cL_refused 2 = .ok (.invokestatic 135, 3) := by decide +kernel
theorem dL_refused_5 : decode cL_refused 5 = .ok (.lstore_n 2, 1) := by decide +kernel
theorem dL_refused_6 : decode cL_refused 6 = .ok (.aload_n 0, 1) := by decide +kernel
theorem dL_refused_7 : decode cL_refused 7 = .ok (.iconst 0, 1) := by decide +kernel
theorem dL_refused_8 : decode cL_refused 8 = .ok (.iconst (-1), 1) := by decide +kernel
theorem dL_refused_9 : decode cL_refused 9 = .ok (.iconst 5, 1) := by decide +kernel
theorem dL_refused_10 : decode cL_refused 10 = .ok (.iconst 0, 1) := by decide +kernel
theorem dL_refused_11 : decode cL_refused 11 = .ok (.invokestatic 120, 3) := by decide +kernel
theorem dL_refused_14 : decode cL_refused 14 = .ok (.ldc 20, 2) := by decide +kernel
theorem dL_refused_16 : decode cL_refused 16 = .ok (.if_icmp .ne 201, 3) := by decide +kernel
theorem dL_refused_19 : decode cL_refused 19 = .ok (.aload_n 0, 1) := by decide +kernel
theorem dL_refused_20 : decode cL_refused 20 = .ok (.iconst 0, 1) := by decide +kernel
theorem dL_refused_21 : decode cL_refused 21 = .ok (.iconst 0, 1) := by decide +kernel
theorem dL_refused_22 : decode cL_refused 22 = .ok (.iconst (-1), 1) := by decide +kernel
theorem dL_refused_23 : decode cL_refused 23 = .ok (.iconst 0, 1) := by decide +kernel
theorem dL_refused_24 : decode cL_refused 24 = .ok (.invokestatic 120, 3) := by decide +kernel
theorem dL_refused_27 : decode cL_refused 27 = .ok (.ldc 20, 2) := by decide +kernel
theorem dL_refused_29 : decode cL_refused 29 = .ok (.if_icmp .ne 188, 3) := by decide +kernel
theorem dL_refused_32 : decode cL_refused 32 = .ok (.aload_n 0, 1) := by decide +kernel
theorem dL_refused_33 : decode cL_refused 33 = .ok (.iconst 1, 1) := by decide +kernel
theorem dL_refused_34 : decode cL_refused 34 = .ok (.iconst (-1), 1) := by decide +kernel
theorem dL_refused_35 : decode cL_refused 35 = .ok (.iconst 0, 1) := by decide +kernel
theorem dL_refused_36 : decode cL_refused 36 = .ok (.iconst 0, 1) := by decide +kernel
theorem dL_refused_37 : decode cL_refused 37 = .ok (.invokestatic 120, 3) := by decide +kernel
theorem dL_refused_40 : decode cL_refused 40 = .ok (.ldc 20, 2) := by decide +kernel
theorem dL_refused_42 : decode cL_refused 42 = .ok (.if_icmp .ne 175, 3) := by decide +kernel
theorem dL_refused_45 : decode cL_refused 45 = .ok (.aload_n 0, 1) := by decide +kernel
theorem dL_refused_46 : decode cL_refused 46 = .ok (.iconst 1, 1) := by decide +kernel
theorem dL_refused_47 : decode cL_refused 47 = .ok (.iconst 0, 1) := by decide +kernel
theorem dL_refused_48 : decode cL_refused 48 = .ok (.iconst (-1), 1) := by decide +kernel
theorem dL_refused_49 : decode cL_refused 49 = .ok (.iconst 0, 1) := by decide +kernel
theorem dL_refused_50 : decode cL_refused 50 = .ok (.invokestatic 120, 3) := by decide +kernel
theorem dL_refused_53 : decode cL_refused 53 = .ok (.ldc 20, 2) := by decide +kernel
theorem dL_refused_55 : decode cL_refused 55 = .ok (.if_icmp .ne 162, 3) := by decide +kernel
theorem dL_refused_58 : decode cL_refused 58 = .ok (.aload_n 0, 1) := by decide +kernel
theorem dL_refused_59 : decode cL_refused 59 = .ok (.iconst 2, 1) := by decide +kernel
theorem dL_refused_60 : decode cL_refused 60 = .ok (.iconst (-1), 1) := by decide +kernel
theorem dL_refused_61 : decode cL_refused 61 = .ok (.iconst 5, 1) := by decide +kernel
theorem dL_refused_62 : decode cL_refused 62 = .ok (.iconst 0, 1) := by decide +kernel
theorem dL_refused_63 : decode cL_refused 63 = .ok (.invokestatic 120, 3) := by decide +kernel
theorem dL_refused_66 : decode cL_refused 66 = .ok (.ldc 20, 2) := by decide +kernel
theorem dL_refused_68 : decode cL_refused 68 = .ok (.if_icmp .ne 149, 3) := by decide +kernel
theorem dL_refused_71 : decode cL_refused 71 = .ok (.aload_n 0, 1) := by decide +kernel
theorem dL_refused_72 : decode cL_refused 72 = .ok (.iconst 2, 1) := by decide +kernel
theorem dL_refused_73 : decode cL_refused 73 = .ok (.iconst 1, 1) := by decide +kernel
theorem dL_refused_74 : decode cL_refused 74 = .ok (.sipush 10000, 3) := by decide +kernel
theorem dL_refused_77 : decode cL_refused 77 = .ok (.iconst 0, 1) := by decide +kernel
theorem dL_refused_78 : decode cL_refused 78 = .ok (.invokestatic 120, 3) := by decide +kernel
theorem dL_refused_81 : decode cL_refused 81 = .ok (.ldc 20, 2) := by decide +kernel
theorem dL_refused_83 : decode cL_refused 83 = .ok (.if_icmp .ne 134, 3) := by decide +kernel
theorem dL_refused_86 : decode cL_refused 86 = .ok (.aload_n 0, 1) := by decide +kernel
theorem dL_refused_87 : decode cL_refused 87 = .ok (.iconst 3, 1) := by decide +kernel
theorem dL_refused_88 : decode cL_refused 88 = .ok (.iconst (-1), 1) := by decide +kernel
theorem dL_refused_89 : decode cL_refused 89 = .ok (.iconst 0, 1) := by decide +kernel
theorem dL_refused_90 : decode cL_refused 90 = .ok (.iconst 0, 1) := by decide +kernel
theorem dL_refused_91 : decode cL_refused 91 = .ok (.invokestatic 120, 3) := by decide +kernel
theorem dL_refused_94 : decode cL_refused 94 = .ok (.ldc 20, 2) := by decide +kernel
theorem dL_refused_96 : decode cL_refused 96 = .ok (.if_icmp .ne 121, 3) := by decide +kernel
theorem dL_refused_99 : decode cL_refused 99 = .ok (.aload_n 0, 1) := by decide +kernel
theorem dL_refused_100 : decode cL_refused 100 = .ok (.iconst 3, 1) := by decide +kernel
theorem dL_refused_101 : decode cL_refused 101 = .ok (.iconst 0, 1) := by decide +kernel
theorem dL_refused_102 : decode cL_refused 102 = .ok (.ldc 156, 2) := by decide +kernel
theorem dL_refused_104 : decode cL_refused 104 = .ok (.iconst 0, 1) := by decide +kernel
theorem dL_refused_105 : decode cL_refused 105 = .ok (.invokestatic 120, 3) := by decide +kernel
theorem dL_refused_108 : decode cL_refused 108 = .ok (.ldc 20, 2) := by decide +kernel
theorem dL_refused_110 : decode cL_refused 110 = .ok (.if_icmp .ne 107, 3) := by decide +kernel
theorem dL_refused_113 : decode cL_refused 113 = .ok (.aload_n 0, 1) := by decide +kernel
theorem dL_refused_114 : decode cL_refused 114 = .ok (.iconst 4, 1) := by decide +kernel
theorem dL_refused_115 : decode cL_refused 115 = .ok (.iconst (-1), 1) := by decide +kernel
theorem dL_refused_116 : decode cL_refused 116 = .ok (.iconst 0, 1) := by decide +kernel
theorem dL_refused_117 : decode cL_refused 117 = .ok (.iconst 0, 1) := by decide +kernel
theorem dL_refused_118 : decode cL_refused 118 = .ok (.invokestatic 120, 3) := by decide +kernel
theorem dL_refused_121 : decode cL_refused 121 = .ok (.ldc 20, 2) := by decide +kernel
theorem dL_refused_123 : decode cL_refused 123 = .ok (.if_icmp .ne 94, 3) := by decide +kernel
theorem dL_refused_126 : decode cL_refused 126 = .ok (.aload_n 0, 1) := by decide +kernel
theorem dL_refused_127 : decode cL_refused 127 = .ok (.iconst 4, 1) := by decide +kernel
theorem dL_refused_128 : decode cL_refused 128 = .ok (.iconst 0, 1) := by decide +kernel
theorem dL_refused_129 : decode cL_refused 129 = .ok (.iconst (-1), 1) := by decide +kernel
theorem dL_refused_130 : decode cL_refused 130 = .ok (.iconst 0, 1) := by decide +kernel
theorem dL_refused_131 : decode cL_refused 131 = .ok (.invokestatic 120, 3) := by decide +kernel
theorem dL_refused_134 : decode cL_refused 134 = .ok (.ldc 20, 2) := by decide +kernel
theorem dL_refused_136 : decode cL_refused 136 = .ok (.if_icmp .ne 81, 3) := by decide +kernel
theorem dL_refused_139 : decode cL_refused 139 = .ok (.aload_n 0, 1) := by decide +kernel
theorem dL_refused_140 : decode cL_refused 140 = .ok (.iconst 5, 1) := by decide +kernel
theorem dL_refused_141 : decode cL_refused 141 = .ok (.iconst 5, 1) := by decide +kernel
theorem dL_refused_142 : decode cL_refused 142 = .ok (.iconst 1, 1) := by decide +kernel
theorem dL_refused_143 : decode cL_refused 143 = .ok (.iconst 0, 1) := by decide +kernel
theorem dL_refused_144 : decode cL_refused 144 = .ok (.invokestatic 120, 3) := by decide +kernel
theorem dL_refused_147 : decode cL_refused 147 = .ok (.ldc 20, 2) := by decide +kernel
theorem dL_refused_149 : decode cL_refused 149 = .ok (.if_icmp .ne 68, 3) := by decide +kernel
theorem dL_refused_152 : decode cL_refused 152 = .ok (.aload_n 0, 1) := by decide +kernel
theorem dL_refused_153 : decode cL_refused 153 = .ok (.iconst 5, 1) := by decide +kernel
theorem dL_refused_154 : decode cL_refused 154 = .ok (.iconst 0, 1) := by decide +kernel
theorem dL_refused_155 : decode cL_refused 155 = .ok (.iconst (-1), 1) := by decide +kernel
theorem dL_refused_156 : decode cL_refused 156 = .ok (.iconst 0, 1) := by decide +kernel
theorem dL_refused_157 : decode cL_refused 157 = .ok (.invokestatic 120, 3) := by decide +kernel
theorem dL_refused_160 : decode cL_refused 160 = .ok (.ldc 20, 2) := by decide +kernel
theorem dL_refused_162 : decode cL_refused 162 = .ok (.if_icmp .ne 55, 3) := by decide +kernel
theorem dL_refused_165 : decode cL_refused 165 = .ok (.aload_n 0, 1) := by decide +kernel
theorem dL_refused_166 : decode cL_refused 166 = .ok (.bipush 6, 2) := by decide +kernel
theorem dL_refused_168 : decode cL_refused 168 = .ok (.iconst (-1), 1) := by decide +kernel
theorem dL_refused_169 : decode cL_refused 169 = .ok (.iconst 0, 1) := by decide +kernel
theorem dL_refused_170 : decode cL_refused 170 = .ok (.sipush 12802, 3) := by decide +kernel
theorem dL_refused_173 : decode cL_refused 173 = .ok (.invokestatic 120, 3) := by decide +kernel
theorem dL_refused_176 : decode cL_refused 176 = .ok (.ldc 20, 2) := by decide +kernel
theorem dL_refused_178 : decode cL_refused 178 = .ok (.if_icmp .ne 39, 3) := by decide +kernel
theorem dL_refused_181 : decode cL_refused 181 = .ok (.aload_n 0, 1) := by decide +kernel
theorem dL_refused_182 : decode cL_refused 182 = .ok (.bipush 6, 2) := by decide +kernel
theorem dL_refused_184 : decode cL_refused 184 = .ok (.iconst 0, 1) := by decide +kernel
theorem dL_refused_185 : decode cL_refused 185 = .ok (.iconst (-1), 1) := by decide +kernel
theorem dL_refused_186 : decode cL_refused 186 = .ok (.sipush 12802, 3) := by decide +kernel
theorem dL_refused_189 : decode cL_refused 189 = .ok (.invokestatic 120, 3) := by decide +kernel
theorem dL_refused_192 : decode cL_refused 192 = .ok (.ldc 20, 2) := by decide +kernel
theorem dL_refused_194 : decode cL_refused 194 = .ok (.if_icmp .ne 23, 3) := by decide +kernel
theorem dL_refused_197 : decode cL_refused 197 = .ok (.aload_n 0, 1) := by decide +kernel
theorem dL_refused_198 : decode cL_refused 198 = .ok (.bipush 6, 2) := by decide +kernel
theorem dL_refused_200 : decode cL_refused 200 = .ok (.iconst 0, 1) := by decide +kernel
theorem dL_refused_201 : decode cL_refused 201 = .ok (.iconst 0, 1) := by decide +kernel
theorem dL_refused_202 : decode cL_refused 202 = .ok (.sipush 12902, 3) := by decide +kernel
theorem dL_refused_205 : decode cL_refused 205 = .ok (.invokestatic 120, 3) := by decide +kernel
theorem dL_refused_208 : decode cL_refused 208 = .ok (.ldc 20, 2) := by decide +kernel
theorem dL_refused_210 : decode cL_refused 210 = .ok (.if_icmp .ne 7, 3) := by decide +kernel
theorem dL_refused_213 : decode cL_refused 213 = .ok (.iconst 1, 1) := by decide +kernel
theorem dL_refused_214 : decode cL_refused 214 = .ok (.goto 4, 3) := by decide +kernel
theorem dL_refused_217 : decode cL_refused 217 = .ok (.iconst 0, 1) := by decide +kernel
theorem dL_refused_218 : decode cL_refused 218 = .ok (.istore 4, 2) := by decide +kernel
theorem dL_refused_220 : decode cL_refused 220 = .ok (.iload 4, 2) := by decide +kernel
theorem dL_refused_222 : decode cL_refused 222 = .ok (.ifCond .eq 143, 3) := by decide +kernel
theorem dL_refused_225 : decode cL_refused 225 = .ok (.aload_n 0, 1) := by decide +kernel
theorem dL_refused_226 : decode cL_refused 226 = .ok (.bipush 7, 2) := by decide +kernel
theorem dL_refused_228 : decode cL_refused 228 = .ok (.iload_n 1, 1) := by decide +kernel
theorem dL_refused_229 : decode cL_refused 229 = .ok (.iconst 0, 1) := by decide +kernel
theorem dL_refused_230 : decode cL_refused 230 = .ok (.iconst 0, 1) := by decide +kernel
theorem dL_refused_231 : decode cL_refused 231 = .ok (.invokestatic 120, 3) := by decide +kernel
theorem dL_refused_234 : decode cL_refused 234 = .ok (.ldc 17, 2) := by decide +kernel
theorem dL_refused_236 : decode cL_refused 236 = .ok (.if_icmp .ne 129, 3) := by decide +kernel
theorem dL_refused_239 : decode cL_refused 239 = .ok (.aload_n 0, 1) := by decide +kernel
theorem dL_refused_240 : decode cL_refused 240 = .ok (.bipush 7, 2) := by decide +kernel
theorem dL_refused_242 : decode cL_refused 242 = .ok (.iconst (-1), 1) := by decide +kernel
theorem dL_refused_243 : decode cL_refused 243 = .ok (.iconst 0, 1) := by decide +kernel
theorem dL_refused_244 : decode cL_refused 244 = .ok (.iconst 0, 1) := by decide +kernel
theorem dL_refused_245 : decode cL_refused 245 = .ok (.invokestatic 120, 3) := by decide +kernel
theorem dL_refused_248 : decode cL_refused 248 = .ok (.ldc 17, 2) := by decide +kernel
theorem dL_refused_250 : decode cL_refused 250 = .ok (.if_icmp .ne 115, 3) := by decide +kernel
theorem dL_refused_253 : decode cL_refused 253 = .ok (.aload_n 0, 1) := by decide +kernel
theorem dL_refused_254 : decode cL_refused 254 = .ok (.bipush 8, 2) := by decide +kernel
theorem dL_refused_256 : decode cL_refused 256 = .ok (.iconst (-1), 1) := by decide +kernel
theorem dL_refused_257 : decode cL_refused 257 = .ok (.iconst 1, 1) := by decide +kernel
theorem dL_refused_258 : decode cL_refused 258 = .ok (.iconst 0, 1) := by decide +kernel
theorem dL_refused_259 : decode cL_refused 259 = .ok (.invokestatic 120, 3) := by decide +kernel
theorem dL_refused_262 : decode cL_refused 262 = .ok (.ldc 20, 2) := by decide +kernel
theorem dL_refused_264 : decode cL_refused 264 = .ok (.if_icmp .ne 101, 3) := by decide +kernel
theorem dL_refused_267 : decode cL_refused 267 = .ok (.aload_n 0, 1) := by decide +kernel
theorem dL_refused_268 : decode cL_refused 268 = .ok (.bipush 9, 2) := by decide +kernel
theorem dL_refused_270 : decode cL_refused 270 = .ok (.iload_n 1, 1) := by decide +kernel
theorem dL_refused_271 : decode cL_refused 271 = .ok (.iconst 0, 1) := by decide +kernel
theorem dL_refused_272 : decode cL_refused 272 = .ok (.iconst 0, 1) := by decide +kernel
theorem dL_refused_273 : decode cL_refused 273 = .ok (.invokestatic 120, 3) := by decide +kernel
theorem dL_refused_276 : decode cL_refused 276 = .ok (.ldc 17, 2) := by decide +kernel
theorem dL_refused_278 : decode cL_refused 278 = .ok (.if_icmp .ne 87, 3) := by decide +kernel
theorem dL_refused_281 : decode cL_refused 281 = .ok (.aload_n 0, 1) := by decide +kernel
theorem dL_refused_282 : decode cL_refused 282 = .ok (.bipush 10, 2) := by decide +kernel
theorem dL_refused_284 : decode cL_refused 284 = .ok (.iconst 3, 1) := by decide +kernel
theorem dL_refused_285 : decode cL_refused 285 = .ok (.iconst 0, 1) := by decide +kernel
theorem dL_refused_286 : decode cL_refused 286 = .ok (.iconst 0, 1) := by decide +kernel
theorem dL_refused_287 : decode cL_refused 287 = .ok (.invokestatic 120, 3) := by decide +kernel
theorem dL_refused_290 : decode cL_refused 290 = .ok (.ldc 20, 2) := by decide +kernel
theorem dL_refused_292 : decode cL_refused 292 = .ok (.if_icmp .ne 73, 3) := by decide +kernel
theorem dL_refused_295 : decode cL_refused 295 = .ok (.aload_n 0, 1) := by decide +kernel
theorem dL_refused_296 : decode cL_refused 296 = .ok (.bipush 11, 2) := by decide +kernel
theorem dL_refused_298 : decode cL_refused 298 = .ok (.iconst 5, 1) := by decide +kernel
theorem dL_refused_299 : decode cL_refused 299 = .ok (.iconst 0, 1) := by decide +kernel
theorem dL_refused_300 : decode cL_refused 300 = .ok (.iconst 0, 1) := by decide +kernel
theorem dL_refused_301 : decode cL_refused 301 = .ok (.invokestatic 120, 3) := by decide +kernel
theorem dL_refused_304 : decode cL_refused 304 = .ok (.ldc 20, 2) := by decide +kernel
theorem dL_refused_306 : decode cL_refused 306 = .ok (.if_icmp .ne 59, 3) := by decide +kernel
theorem dL_refused_309 : decode cL_refused 309 = .ok (.aload_n 0, 1) := by decide +kernel
theorem dL_refused_310 : decode cL_refused 310 = .ok (.bipush 13, 2) := by decide +kernel
theorem dL_refused_312 : decode cL_refused 312 = .ok (.iconst 5, 1) := by decide +kernel
theorem dL_refused_313 : decode cL_refused 313 = .ok (.iconst 0, 1) := by decide +kernel
theorem dL_refused_314 : decode cL_refused 314 = .ok (.iconst 0, 1) := by decide +kernel
theorem dL_refused_315 : decode cL_refused 315 = .ok (.invokestatic 120, 3) := by decide +kernel
theorem dL_refused_318 : decode cL_refused 318 = .ok (.ldc 20, 2) := by decide +kernel
theorem dL_refused_320 : decode cL_refused 320 = .ok (.if_icmp .ne 45, 3) := by decide +kernel
theorem dL_refused_323 : decode cL_refused 323 = .ok (.aload_n 0, 1) := by decide +kernel
theorem dL_refused_324 : decode cL_refused 324 = .ok (.bipush 18, 2) := by decide +kernel
theorem dL_refused_326 : decode cL_refused 326 = .ok (.iconst (-1), 1) := by decide +kernel
theorem dL_refused_327 : decode cL_refused 327 = .ok (.iconst 0, 1) := by decide +kernel
theorem dL_refused_328 : decode cL_refused 328 = .ok (.iconst 0, 1) := by decide +kernel
theorem dL_refused_329 : decode cL_refused 329 = .ok (.invokestatic 120, 3) := by decide +kernel
theorem dL_refused_332 : decode cL_refused 332 = .ok (.ldc 20, 2) := by decide +kernel
theorem dL_refused_334 : decode cL_refused 334 = .ok (.if_icmp .ne 31, 3) := by decide +kernel
theorem dL_refused_337 : decode cL_refused 337 = .ok (.aload_n 0, 1) := by decide +kernel
theorem dL_refused_338 : decode cL_refused 338 = .ok (.bipush 20, 2) := by decide +kernel
theorem dL_refused_340 : decode cL_refused 340 = .ok (.iconst (-1), 1) := by decide +kernel
theorem dL_refused_341 : decode cL_refused 341 = .ok (.iconst 0, 1) := by decide +kernel
theorem dL_refused_342 : decode cL_refused 342 = .ok (.iconst 0, 1) := by decide +kernel
theorem dL_refused_343 : decode cL_refused 343 = .ok (.invokestatic 120, 3) := by decide +kernel
theorem dL_refused_346 : decode cL_refused 346 = .ok (.ldc 20, 2) := by decide +kernel
theorem dL_refused_348 : decode cL_refused 348 = .ok (.if_icmp .ne 17, 3) := by decide +kernel
theorem dL_refused_351 : decode cL_refused 351 = .ok (.aload_n 0, 1) := by decide +kernel
theorem dL_refused_352 : decode cL_refused 352 = .ok (.iload_n 1, 1) := by decide +kernel
theorem dL_refused_353 : decode cL_refused 353 = .ok (.invokestatic 135, 3) := by decide +kernel
theorem dL_refused_356 : decode cL_refused 356 = .ok (.lload_n 2, 1) := by decide +kernel
theorem dL_refused_357 : decode cL_refused 357 = .ok (.lcmp, 1) := by decide +kernel
theorem dL_refused_358 : decode cL_refused 358 = .ok (.ifCond .ne 7, 3) := by decide +kernel
theorem dL_refused_361 : decode cL_refused 361 = .ok (.iconst 1, 1) := by decide +kernel
theorem dL_refused_362 : decode cL_refused 362 = .ok (.goto 4, 3) := by decide +kernel
theorem dL_refused_365 : decode cL_refused 365 = .ok (.iconst 0, 1) := by decide +kernel
theorem dL_refused_366 : decode cL_refused 366 = .ok (.ireturn, 1) := by decide +kernel
theorem dL_law_0 : decode cL_law 0 = .ok (.new 28, 3) := by decide +kernel
theorem dL_law_3 : decode cL_law 3 = .ok (.dup, 1) := by decide +kernel
theorem dL_law_4 : decode cL_law 4 = .ok (.invokespecial 157, 3) := by decide +kernel
theorem dL_law_7 : decode cL_law 7 = .ok (.astore_n 1, 1) := by decide +kernel
theorem dL_law_8 : decode cL_law 8 = .ok (.new 28, 3) := by decide +kernel
theorem dL_law_11 : decode cL_law 11 = .ok (.dup, 1) := by decide +kernel
theorem dL_law_12 : decode cL_law 12 = .ok (.invokespecial 157, 3) := by decide +kernel
theorem dL_law_15 : decode cL_law 15 = .ok (.astore_n 2, 1) := by decide +kernel
theorem dL_law_16 : decode cL_law 16 = .ok (.iconst 0, 1) := by decide +kernel
theorem dL_law_17 : decode cL_law 17 = .ok (.istore_n 3, 1) := by decide +kernel
theorem dL_law_18 : decode cL_law 18 = .ok (.aload_n 1, 1) := by decide +kernel
theorem dL_law_19 : decode cL_law 19 = .ok (.iconst 0, 1) := by decide +kernel
theorem dL_law_20 : decode cL_law 20 = .ok (.invokestatic 158, 3) := by decide +kernel
theorem dL_law_23 : decode cL_law 23 = .ok (.ifCond .eq 21, 3) := by decide +kernel
theorem dL_law_26 : decode cL_law 26 = .ok (.aload_n 1, 1) := by decide +kernel
theorem dL_law_27 : decode cL_law 27 = .ok (.iconst 0, 1) := by decide +kernel
theorem dL_law_28 : decode cL_law 28 = .ok (.invokestatic 135, 3) := by decide +kernel
theorem dL_law_31 : decode cL_law 31 = .ok (.aload_n 2, 1) := by decide +kernel
theorem dL_law_32 : decode cL_law 32 = .ok (.iconst 0, 1) := by decide +kernel
theorem dL_law_33 : decode cL_law 33 = .ok (.invokestatic 135, 3) := by decide +kernel
theorem dL_law_36 : decode cL_law 36 = .ok (.lcmp, 1) := by decide +kernel
theorem dL_law_37 : decode cL_law 37 = .ok (.ifCond .ne 7, 3) := by decide +kernel
theorem dL_law_40 : decode cL_law 40 = .ok (.iconst 1, 1) := by decide +kernel
theorem dL_law_41 : decode cL_law 41 = .ok (.goto 4, 3) := by decide +kernel
theorem dL_law_44 : decode cL_law 44 = .ok (.iconst 0, 1) := by decide +kernel
theorem dL_law_45 : decode cL_law 45 = .ok (.istore 4, 2) := by decide +kernel
theorem dL_law_47 : decode cL_law 47 = .ok (.iconst 0, 1) := by decide +kernel
theorem dL_law_48 : decode cL_law 48 = .ok (.istore 5, 2) := by decide +kernel
theorem dL_law_50 : decode cL_law 50 = .ok (.iload 5, 2) := by decide +kernel
theorem dL_law_52 : decode cL_law 52 = .ok (.bipush 120, 2) := by decide +kernel
theorem dL_law_54 : decode cL_law 54 = .ok (.if_icmp .ge 443, 3) := by decide +kernel
theorem dL_law_57 : decode cL_law 57 = .ok (.iload 4, 2) := by decide +kernel
theorem dL_law_59 : decode cL_law 59 = .ok (.ifCond .eq 438, 3) := by decide +kernel
theorem dL_law_62 : decode cL_law 62 = .ok (.aload_n 0, 1) := by decide +kernel
theorem dL_law_63 : decode cL_law 63 = .ok (.iconst 2, 1) := by decide +kernel
theorem dL_law_64 : decode cL_law 64 = .ok (.iload 5, 2) := by decide +kernel
theorem dL_law_66 : decode cL_law 66 = .ok (.imul, 1) := by decide +kernel
theorem dL_law_67 : decode cL_law 67 = .ok (.invokestatic 162, 3) := by decide +kernel
theorem dL_law_70 : decode cL_law 70 = .ok (.istore 6, 2) := by decide +kernel
theorem dL_law_72 : decode cL_law 72 = .ok (.aload_n 0, 1) := by decide +kernel
theorem dL_law_73 : decode cL_law 73 = .ok (.iconst 2, 1) := by decide +kernel
theorem dL_law_74 : decode cL_law 74 = .ok (.iload 5, 2) := by decide +kernel
theorem dL_law_76 : decode cL_law 76 = .ok (.imul, 1) := by decide +kernel
theorem dL_law_77 : decode cL_law 77 = .ok (.iconst 1, 1) := by decide +kernel
theorem dL_law_78 : decode cL_law 78 = .ok (.iadd, 1) := by decide +kernel
theorem dL_law_79 : decode cL_law 79 = .ok (.invokestatic 162, 3) := by decide +kernel
theorem dL_law_82 : decode cL_law 82 = .ok (.istore 7, 2) := by decide +kernel
theorem dL_law_84 : decode cL_law 84 = .ok (.iload 6, 2) := by decide +kernel
theorem dL_law_86 : decode cL_law 86 = .ok (.bipush 20, 2) := by decide +kernel
theorem dL_law_88 : decode cL_law 88 = .ok (.invokestatic 128, 3) := by decide +kernel
theorem dL_law_91 : decode cL_law 91 = .ok (.istore 8, 2) := by decide +kernel
theorem dL_law_93 : decode cL_law 93 = .ok (.iload 8, 2) := by decide +kernel
theorem dL_law_95 : decode cL_law 95 = .ok (.iconst 4, 1) := by decide +kernel
theorem dL_law_96 : decode cL_law 96 = .ok (.if_icmp .ge 15, 3) := by decide +kernel
theorem dL_law_99 : decode cL_law 99 = .ok (.aload_n 1, 1) := by decide +kernel
theorem dL_law_100 : decode cL_law 100 = .ok (.aload_n 2, 1) := by decide +kernel
theorem dL_law_101 : decode cL_law 101 = .ok (.iload 7, 2) := by decide +kernel
theorem dL_law_103 : decode cL_law 103 = .ok (.invokestatic 166, 3) := by decide +kernel
theorem dL_law_106 : decode cL_law 106 = .ok (.istore 4, 2) := by decide +kernel
theorem dL_law_108 : decode cL_law 108 = .ok (.goto 334, 3) := by decide +kernel
theorem dL_law_111 : decode cL_law 111 = .ok (.iload 8, 2) := by decide +kernel
theorem dL_law_113 : decode cL_law 113 = .ok (.bipush 7, 2) := by decide +kernel
theorem dL_law_115 : decode cL_law 115 = .ok (.if_icmp .ge 16, 3) := by decide +kernel
theorem dL_law_118 : decode cL_law 118 = .ok (.aload_n 1, 1) := by decide +kernel
theorem dL_law_119 : decode cL_law 119 = .ok (.aload_n 2, 1) := by decide +kernel
theorem dL_law_120 : decode cL_law 120 = .ok (.iload_n 3, 1) := by decide +kernel
theorem dL_law_121 : decode cL_law 121 = .ok (.iload 7, 2) := by decide +kernel
theorem dL_law_123 : decode cL_law 123 = .ok (.invokestatic 170, 3) := by decide +kernel
theorem dL_law_126 : decode cL_law 126 = .ok (.istore 4, 2) := by decide +kernel
theorem dL_law_128 : decode cL_law 128 = .ok (.goto 314, 3) := by decide +kernel
theorem dL_law_131 : decode cL_law 131 = .ok (.iload 8, 2) := by decide +kernel
theorem dL_law_133 : decode cL_law 133 = .ok (.bipush 13, 2) := by decide +kernel
theorem dL_law_135 : decode cL_law 135 = .ok (.if_icmp .ge 47, 3) := by decide +kernel
theorem dL_law_138 : decode cL_law 138 = .ok (.iload_n 3, 1) := by decide +kernel
theorem dL_law_139 : decode cL_law 139 = .ok (.bipush 90, 2) := by decide +kernel
theorem dL_law_141 : decode cL_law 141 = .ok (.if_icmp .ge 41, 3) := by decide +kernel
theorem dL_law_144 : decode cL_law 144 = .ok (.aload_n 1, 1) := by decide +kernel
theorem dL_law_145 : decode cL_law 145 = .ok (.aload_n 2, 1) := by decide +kernel
theorem dL_law_146 : decode cL_law 146 = .ok (.iload_n 3, 1) := by decide +kernel
theorem dL_law_147 : decode cL_law 147 = .ok (.iload 7, 2) := by decide +kernel
theorem dL_law_149 : decode cL_law 149 = .ok (.invokestatic 174, 3) := by decide +kernel
theorem dL_law_152 : decode cL_law 152 = .ok (.istore 4, 2) := by decide +kernel
theorem dL_law_154 : decode cL_law 154 = .ok (.iload_n 3, 1) := by decide +kernel
theorem dL_law_155 : decode cL_law 155 = .ok (.iload 4, 2) := by decide +kernel
theorem dL_law_157 : decode cL_law 157 = .ok (.ifCond .eq 19, 3) := by decide +kernel
theorem dL_law_160 : decode cL_law 160 = .ok (.aload_n 1, 1) := by decide +kernel
theorem dL_law_161 : decode cL_law 161 = .ok (.bipush 9, 2) := by decide +kernel
theorem dL_law_163 : decode cL_law 163 = .ok (.iload_n 3, 1) := by decide +kernel
theorem dL_law_164 : decode cL_law 164 = .ok (.iconst 0, 1) := by decide +kernel
theorem dL_law_165 : decode cL_law 165 = .ok (.iconst 0, 1) := by decide +kernel
theorem dL_law_166 : decode cL_law 166 = .ok (.invokestatic 120, 3) := by decide +kernel
theorem dL_law_169 : decode cL_law 169 = .ok (.ifCond .lt 7, 3) := by decide +kernel
theorem dL_law_172 : decode cL_law 172 = .ok (.iconst 1, 1) := by decide +kernel
theorem dL_law_173 : decode cL_law 173 = .ok (.goto 4, 3) := by decide +kernel
theorem dL_law_176 : decode cL_law 176 = .ok (.iconst 0, 1) := by decide +kernel
theorem dL_law_177 : decode cL_law 177 = .ok (.iadd, 1) := by decide +kernel
theorem dL_law_178 : decode cL_law 178 = .ok (.istore_n 3, 1) := by decide +kernel
theorem dL_law_179 : decode cL_law 179 = .ok (.goto 263, 3) := by decide +kernel
theorem dL_law_182 : decode cL_law 182 = .ok (.iload 8, 2) := by decide +kernel
theorem dL_law_184 : decode cL_law 184 = .ok (.bipush 14, 2) := by decide +kernel
theorem dL_law_186 : decode cL_law 186 = .ok (.if_icmp .ge 112, 3) := by decide +kernel
theorem dL_law_189 : decode cL_law 189 = .ok (.iload 7, 2) := by decide +kernel
theorem dL_law_191 : decode cL_law 191 = .ok (.iload_n 3, 1) := by decide +kernel
theorem dL_law_192 : decode cL_law 192 = .ok (.iconst 1, 1) := by decide +kernel
theorem dL_law_193 : decode cL_law 193 = .ok (.iadd, 1) := by decide +kernel
theorem dL_law_194 : decode cL_law 194 = .ok (.invokestatic 128, 3) := by decide +kernel
theorem dL_law_197 : decode cL_law 197 = .ok (.istore 9, 2) := by decide +kernel
theorem dL_law_199 : decode cL_law 199 = .ok (.iload 9, 2) := by decide +kernel
theorem dL_law_201 : decode cL_law 201 = .ok (.iload_n 3, 1) := by decide +kernel
theorem dL_law_202 : decode cL_law 202 = .ok (.if_icmp .ne 7, 3) := by decide +kernel
theorem dL_law_205 : decode cL_law 205 = .ok (.iconst 0, 1) := by decide +kernel
theorem dL_law_206 : decode cL_law 206 = .ok (.goto 9, 3) := by decide +kernel
theorem dL_law_209 : decode cL_law 209 = .ok (.aload_n 1, 1) := by decide +kernel
theorem dL_law_210 : decode cL_law 210 = .ok (.iload 9, 2) := by decide +kernel
theorem dL_law_212 : decode cL_law 212 = .ok (.invokevirtual 61, 3) := by decide +kernel
theorem dL_law_215 : decode cL_law 215 = .ok (.istore 10, 2) := by decide +kernel
theorem dL_law_217 : decode cL_law 217 = .ok (.aload_n 1, 1) := by decide +kernel
theorem dL_law_218 : decode cL_law 218 = .ok (.invokestatic 139, 3) := by decide +kernel
theorem dL_law_221 : decode cL_law 221 = .ok (.lstore 11, 2) := by decide +kernel
theorem dL_law_223 : decode cL_law 223 = .ok (.aload_n 1, 1) := by decide +kernel
theorem dL_law_224 : decode cL_law 224 = .ok (.aload_n 2, 1) := by decide +kernel
theorem dL_law_225 : decode cL_law 225 = .ok (.bipush 7, 2) := by decide +kernel
theorem dL_law_227 : decode cL_law 227 = .ok (.iload 9, 2) := by decide +kernel
theorem dL_law_229 : decode cL_law 229 = .ok (.iconst 0, 1) := by decide +kernel
theorem dL_law_230 : decode cL_law 230 = .ok (.iconst 0, 1) := by decide +kernel
theorem dL_law_231 : decode cL_law 231 = .ok (.invokestatic 131, 3) := by decide +kernel
theorem dL_law_234 : decode cL_law 234 = .ok (.istore 13, 2) := by decide +kernel
theorem dL_law_236 : decode cL_law 236 = .ok (.iload 9, 2) := by decide +kernel
theorem dL_law_238 : decode cL_law 238 = .ok (.iload_n 3, 1) := by decide +kernel
theorem dL_law_239 : decode cL_law 239 = .ok (.if_icmp .ne 13, 3) := by decide +kernel
theorem dL_law_242 : decode cL_law 242 = .ok (.iload 13, 2) := by decide +kernel
theorem dL_law_244 : decode cL_law 244 = .ok (.ldc 17, 2) := by decide +kernel
theorem dL_law_246 : decode cL_law 246 = .ok (.if_icmp .ne 46, 3) := by decide +kernel
theorem dL_law_249 : decode cL_law 249 = .ok (.goto 29, 3) := by decide +kernel
theorem dL_law_252 : decode cL_law 252 = .ok (.iload 13, 2) := by decide +kernel
theorem dL_law_254 : decode cL_law 254 = .ok (.iload 10, 2) := by decide +kernel
theorem dL_law_256 : decode cL_law 256 = .ok (.ifCond .ne 8, 3) := by decide +kernel
theorem dL_law_259 : decode cL_law 259 = .ok (.ldc 23, 2) := by decide +kernel
theorem dL_law_261 : decode cL_law 261 = .ok (.goto 5, 3) := by decide +kernel
theorem dL_law_264 : decode cL_law 264 = .ok (.iload 10, 2) := by decide +kernel
theorem dL_law_266 : decode cL_law 266 = .ok (.if_icmp .ne 26, 3) := by decide +kernel
theorem dL_law_269 : decode cL_law 269 = .ok (.aload_n 1, 1) := by decide +kernel
theorem dL_law_270 : decode cL_law 270 = .ok (.iload 9, 2) := by decide +kernel
theorem dL_law_272 : decode cL_law 272 = .ok (.invokevirtual 61, 3) := by decide +kernel
theorem dL_law_275 : decode cL_law 275 = .ok (.ifCond .ne 17, 3) := by decide +kernel
theorem dL_law_278 : decode cL_law 278 = .ok (.aload_n 1, 1) := by decide +kernel
theorem dL_law_279 : decode cL_law 279 = .ok (.invokestatic 139, 3) := by decide +kernel
theorem dL_law_282 : decode cL_law 282 = .ok (.lload 11, 2) := by decide +kernel
theorem dL_law_284 : decode cL_law 284 = .ok (.lcmp, 1) := by decide +kernel
theorem dL_law_285 : decode cL_law 285 = .ok (.ifCond .ne 7, 3) := by decide +kernel
theorem dL_law_288 : decode cL_law 288 = .ok (.iconst 1, 1) := by decide +kernel
theorem dL_law_289 : decode cL_law 289 = .ok (.goto 4, 3) := by decide +kernel
theorem dL_law_292 : decode cL_law 292 = .ok (.iconst 0, 1) := by decide +kernel
theorem dL_law_293 : decode cL_law 293 = .ok (.istore 4, 2) := by decide +kernel
theorem dL_law_295 : decode cL_law 295 = .ok (.goto 147, 3) := by decide +kernel
theorem dL_law_298 : decode cL_law 298 = .ok (.iload 8, 2) := by decide +kernel
theorem dL_law_300 : decode cL_law 300 = .ok (.bipush 15, 2) := by decide +kernel
theorem dL_law_302 : decode cL_law 302 = .ok (.if_icmp .ge 116, 3) := by decide +kernel
theorem dL_law_305 : decode cL_law 305 = .ok (.iload 7, 2) := by decide +kernel
theorem dL_law_307 : decode cL_law 307 = .ok (.iconst 4, 1) := by decide +kernel
theorem dL_law_308 : decode cL_law 308 = .ok (.invokestatic 128, 3) := by decide +kernel
theorem dL_law_311 : decode cL_law 311 = .ok (.ifCond .ne 7, 3) := by decide +kernel
theorem dL_law_314 : decode cL_law 314 = .ok (.iconst 1, 1) := by decide +kernel
theorem dL_law_315 : decode cL_law 315 = .ok (.goto 4, 3) := by decide +kernel
theorem dL_law_318 : decode cL_law 318 = .ok (.iconst 0, 1) := by decide +kernel
theorem dL_law_319 : decode cL_law 319 = .ok (.istore 9, 2) := by decide +kernel
theorem dL_law_321 : decode cL_law 321 = .ok (.iload 7, 2) := by decide +kernel
theorem dL_law_323 : decode cL_law 323 = .ok (.iconst 3, 1) := by decide +kernel
theorem dL_law_324 : decode cL_law 324 = .ok (.ishr, 1) := by decide +kernel
theorem dL_law_325 : decode cL_law 325 = .ok (.iconst 3, 1) := by decide +kernel
theorem dL_law_326 : decode cL_law 326 = .ok (.invokestatic 128, 3) := by decide +kernel
theorem dL_law_329 : decode cL_law 329 = .ok (.istore 10, 2) := by decide +kernel
theorem dL_law_331 : decode cL_law 331 = .ok (.aload_n 1, 1) := by decide +kernel
theorem dL_law_332 : decode cL_law 332 = .ok (.aload_n 2, 1) := by decide +kernel
theorem dL_law_333 : decode cL_law 333 = .ok (.bipush 8, 2) := by decide +kernel
theorem dL_law_335 : decode cL_law 335 = .ok (.iload 10, 2) := by decide +kernel
theorem dL_law_337 : decode cL_law 337 = .ok (.iload 9, 2) := by decide +kernel
theorem dL_law_339 : decode cL_law 339 = .ok (.iconst 0, 1) := by decide +kernel
theorem dL_law_340 : decode cL_law 340 = .ok (.invokestatic 131, 3) := by decide +kernel
theorem dL_law_343 : decode cL_law 343 = .ok (.istore 11, 2) := by decide +kernel
theorem dL_law_345 : decode cL_law 345 = .ok (.iload 11, 2) := by decide +kernel
theorem dL_law_347 : decode cL_law 347 = .ok (.ifCond .lt 65, 3) := by decide +kernel
theorem dL_law_350 : decode cL_law 350 = .ok (.iload 9, 2) := by decide +kernel
theorem dL_law_352 : decode cL_law 352 = .ok (.iconst 1, 1) := by decide +kernel
theorem dL_law_353 : decode cL_law 353 = .ok (.if_icmp .ne 50, 3) := by decide +kernel
theorem dL_law_356 : decode cL_law 356 = .ok (.aload_n 1, 1) := by decide +kernel
theorem dL_law_357 : decode cL_law 357 = .ok (.bipush 10, 2) := by decide +kernel
theorem dL_law_359 : decode cL_law 359 = .ok (.iload 10, 2) := by decide +kernel
theorem dL_law_361 : decode cL_law 361 = .ok (.iconst 0, 1) := by decide +kernel
theorem dL_law_362 : decode cL_law 362 = .ok (.iconst 0, 1) := by decide +kernel
theorem dL_law_363 : decode cL_law 363 = .ok (.invokestatic 120, 3) := by decide +kernel
theorem dL_law_366 : decode cL_law 366 = .ok (.ldc 26, 2) := by decide +kernel
theorem dL_law_368 : decode cL_law 368 = .ok (.if_icmp .ne 44, 3) := by decide +kernel
theorem dL_law_371 : decode cL_law 371 = .ok (.aload_n 1, 1) := by decide +kernel
theorem dL_law_372 : decode cL_law 372 = .ok (.bipush 10, 2) := by decide +kernel
theorem dL_law_374 : decode cL_law 374 = .ok (.iload 10, 2) := by decide +kernel
theorem dL_law_376 : decode cL_law 376 = .ok (.iconst 1, 1) := by decide +kernel
theorem dL_law_377 : decode cL_law 377 = .ok (.iconst 0, 1) := by decide +kernel
theorem dL_law_378 : decode cL_law 378 = .ok (.invokestatic 120, 3) := by decide +kernel
theorem dL_law_381 : decode cL_law 381 = .ok (.ldc 26, 2) := by decide +kernel
theorem dL_law_383 : decode cL_law 383 = .ok (.if_icmp .ne 29, 3) := by decide +kernel
theorem dL_law_386 : decode cL_law 386 = .ok (.aload_n 1, 1) := by decide +kernel
theorem dL_law_387 : decode cL_law 387 = .ok (.aload_n 2, 1) := by decide +kernel
theorem dL_law_388 : decode cL_law 388 = .ok (.bipush 8, 2) := by decide +kernel
theorem dL_law_390 : decode cL_law 390 = .ok (.iload 10, 2) := by decide +kernel
theorem dL_law_392 : decode cL_law 392 = .ok (.iconst 1, 1) := by decide +kernel
theorem dL_law_393 : decode cL_law 393 = .ok (.iconst 0, 1) := by decide +kernel
theorem dL_law_394 : decode cL_law 394 = .ok (.invokestatic 131, 3) := by decide +kernel
theorem dL_law_397 : decode cL_law 397 = .ok (.ifCond .ne 15, 3) := by decide +kernel
theorem dL_law_400 : decode cL_law 400 = .ok (.goto 8, 3) := by decide +kernel
theorem dL_law_403 : decode cL_law 403 = .ok (.iload 11, 2) := by decide +kernel
theorem dL_law_405 : decode cL_law 405 = .ok (.ifCond .ne 7, 3) := by decide +kernel
theorem dL_law_408 : decode cL_law 408 = .ok (.iconst 1, 1) := by decide +kernel
theorem dL_law_409 : decode cL_law 409 = .ok (.goto 4, 3) := by decide +kernel
theorem dL_law_412 : decode cL_law 412 = .ok (.iconst 0, 1) := by decide +kernel
theorem dL_law_413 : decode cL_law 413 = .ok (.istore 4, 2) := by decide +kernel
theorem dL_law_415 : decode cL_law 415 = .ok (.goto 27, 3) := by decide +kernel
theorem dL_law_418 : decode cL_law 418 = .ok (.iload 8, 2) := by decide +kernel
theorem dL_law_420 : decode cL_law 420 = .ok (.bipush 16, 2) := by decide +kernel
theorem dL_law_422 : decode cL_law 422 = .ok (.if_icmp .ge 13, 3) := by decide +kernel
theorem dL_law_425 : decode cL_law 425 = .ok (.aload_n 1, 1) := by decide +kernel
theorem dL_law_426 : decode cL_law 426 = .ok (.aload_n 2, 1) := by decide +kernel
theorem dL_law_427 : decode cL_law 427 = .ok (.invokestatic 177, 3) := by decide +kernel
theorem dL_law_430 : decode cL_law 430 = .ok (.istore 4, 2) := by decide +kernel
theorem dL_law_432 : decode cL_law 432 = .ok (.goto 10, 3) := by decide +kernel
theorem dL_law_435 : decode cL_law 435 = .ok (.aload_n 1, 1) := by decide +kernel
theorem dL_law_436 : decode cL_law 436 = .ok (.aload_n 2, 1) := by decide +kernel
theorem dL_law_437 : decode cL_law 437 = .ok (.invokestatic 180, 3) := by decide +kernel
theorem dL_law_440 : decode cL_law 440 = .ok (.istore 4, 2) := by decide +kernel
theorem dL_law_442 : decode cL_law 442 = .ok (.iload 4, 2) := by decide +kernel
theorem dL_law_444 : decode cL_law 444 = .ok (.ifCond .eq 44, 3) := by decide +kernel
theorem dL_law_447 : decode cL_law 447 = .ok (.iload 5, 2) := by decide +kernel
theorem dL_law_449 : decode cL_law 449 = .ok (.iconst 4, 1) := by decide +kernel
theorem dL_law_450 : decode cL_law 450 = .ok (.irem, 1) := by decide +kernel
theorem dL_law_451 : decode cL_law 451 = .ok (.ifCond .gt 17, 3) := by decide +kernel
theorem dL_law_454 : decode cL_law 454 = .ok (.aload_n 1, 1) := by decide +kernel
theorem dL_law_455 : decode cL_law 455 = .ok (.iload_n 3, 1) := by decide +kernel
theorem dL_law_456 : decode cL_law 456 = .ok (.invokestatic 135, 3) := by decide +kernel
theorem dL_law_459 : decode cL_law 459 = .ok (.aload_n 2, 1) := by decide +kernel
theorem dL_law_460 : decode cL_law 460 = .ok (.iload_n 3, 1) := by decide +kernel
theorem dL_law_461 : decode cL_law 461 = .ok (.invokestatic 135, 3) := by decide +kernel
theorem dL_law_464 : decode cL_law 464 = .ok (.lcmp, 1) := by decide +kernel
theorem dL_law_465 : decode cL_law 465 = .ok (.ifCond .ne 23, 3) := by decide +kernel
theorem dL_law_468 : decode cL_law 468 = .ok (.iload 5, 2) := by decide +kernel
theorem dL_law_470 : decode cL_law 470 = .ok (.bipush 24, 2) := by decide +kernel
theorem dL_law_472 : decode cL_law 472 = .ok (.irem, 1) := by decide +kernel
theorem dL_law_473 : decode cL_law 473 = .ok (.ifCond .gt 11, 3) := by decide +kernel
theorem dL_law_476 : decode cL_law 476 = .ok (.aload_n 1, 1) := by decide +kernel
theorem dL_law_477 : decode cL_law 477 = .ok (.iload_n 3, 1) := by decide +kernel
theorem dL_law_478 : decode cL_law 478 = .ok (.invokestatic 158, 3) := by decide +kernel
theorem dL_law_481 : decode cL_law 481 = .ok (.ifCond .eq 7, 3) := by decide +kernel
theorem dL_law_484 : decode cL_law 484 = .ok (.iconst 1, 1) := by decide +kernel
theorem dL_law_485 : decode cL_law 485 = .ok (.goto 4, 3) := by decide +kernel
theorem dL_law_488 : decode cL_law 488 = .ok (.iconst 0, 1) := by decide +kernel
theorem dL_law_489 : decode cL_law 489 = .ok (.istore 4, 2) := by decide +kernel
theorem dL_law_491 : decode cL_law 491 = .ok (.iinc 5 1, 3) := by decide +kernel
theorem dL_law_494 : decode cL_law 494 = .ok (.goto (-444), 3) := by decide +kernel
theorem dL_law_497 : decode cL_law 497 = .ok (.iload 4, 2) := by decide +kernel
theorem dL_law_499 : decode cL_law 499 = .ok (.ifCond .eq 21, 3) := by decide +kernel
theorem dL_law_502 : decode cL_law 502 = .ok (.aload_n 1, 1) := by decide +kernel
theorem dL_law_503 : decode cL_law 503 = .ok (.iload_n 3, 1) := by decide +kernel
theorem dL_law_504 : decode cL_law 504 = .ok (.invokestatic 135, 3) := by decide +kernel
theorem dL_law_507 : decode cL_law 507 = .ok (.aload_n 2, 1) := by decide +kernel
theorem dL_law_508 : decode cL_law 508 = .ok (.iload_n 3, 1) := by decide +kernel
theorem dL_law_509 : decode cL_law 509 = .ok (.invokestatic 135, 3) := by decide +kernel
theorem dL_law_512 : decode cL_law 512 = .ok (.lcmp, 1) := by decide +kernel
theorem dL_law_513 : decode cL_law 513 = .ok (.ifCond .ne 7, 3) := by decide +kernel
theorem dL_law_516 : decode cL_law 516 = .ok (.iconst 1, 1) := by decide +kernel
theorem dL_law_517 : decode cL_law 517 = .ok (.goto 4, 3) := by decide +kernel
theorem dL_law_520 : decode cL_law 520 = .ok (.iconst 0, 1) := by decide +kernel
theorem dL_law_521 : decode cL_law 521 = .ok (.ireturn, 1) := by decide +kernel
