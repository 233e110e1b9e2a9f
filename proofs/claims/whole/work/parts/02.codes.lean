theorem dX0_init_0 : decode cX0_init 0 = .ok (.aload_n 0, 1) := by decide +kernel
theorem dX0_init_1 : decode cX0_init 1 = .ok (.invokespecial 3, 3) := by decide +kernel
theorem dX0_init_4 : decode cX0_init 4 = .ok (.aload_n 0, 1) := by decide +kernel
theorem dX0_init_5 : decode cX0_init 5 = .ok (.iconst (-1), 1) := by decide +kernel
theorem dX0_init_6 : decode cX0_init 6 = .ok (.putfield 9, 3) := by decide +kernel
theorem dX0_init_9 : decode cX0_init 9 = .ok (.aload_n 0, 1) := by decide +kernel
theorem dX0_init_10 : decode cX0_init 10 = .ok (.iconst 2, 1) := by decide +kernel
theorem dX0_init_11 : decode cX0_init 11 = .ok (.newarray .int, 2) := by decide +kernel
theorem dX0_init_13 : decode cX0_init 13 = .ok (.putfield 15, 3) := by decide +kernel
theorem dX0_init_16 : decode cX0_init 16 = .ok (.aload_n 0, 1) := by decide +kernel
theorem dX0_init_17 : decode cX0_init 17 = .ok (.iconst 3, 1) := by decide +kernel
theorem dX0_init_18 : decode cX0_init 18 = .ok (.newarray .int, 2) := by decide +kernel
theorem dX0_init_20 : decode cX0_init 20 = .ok (.putfield 19, 3) := by decide +kernel
theorem dX0_init_23 : decode cX0_init 23 = .ok (.aload_n 0, 1) := by decide +kernel
theorem dX0_init_24 : decode cX0_init 24 = .ok (.iconst 3, 1) := by decide +kernel
theorem dX0_init_25 : decode cX0_init 25 = .ok (.newarray .long, 2) := by decide +kernel
theorem dX0_init_27 : decode cX0_init 27 = .ok (.putfield 22, 3) := by decide +kernel
theorem dX0_init_30 : decode cX0_init 30 = .ok (.return_, 1) := by decide +kernel
theorem dX1_init_0 : decode cX1_init 0 = .ok (.aload_n 0, 1) := by decide +kernel
theorem dX1_init_1 : decode cX1_init 1 = .ok (.invokespecial 3, 3) := by decide +kernel
theorem dX1_init_4 : decode cX1_init 4 = .ok (.aload_n 0, 1) := by decide +kernel
theorem dX1_init_5 : decode cX1_init 5 = .ok (.iconst 4, 1) := by decide +kernel
theorem dX1_init_6 : decode cX1_init 6 = .ok (.newarray .int, 2) := by decide +kernel
theorem dX1_init_8 : decode cX1_init 8 = .ok (.putfield 9, 3) := by decide +kernel
theorem dX1_init_11 : decode cX1_init 11 = .ok (.aload_n 0, 1) := by decide +kernel
theorem dX1_init_12 : decode cX1_init 12 = .ok (.bipush 10, 2) := by decide +kernel
theorem dX1_init_14 : decode cX1_init 14 = .ok (.putfield 15, 3) := by decide +kernel
theorem dX1_init_17 : decode cX1_init 17 = .ok (.iconst 0, 1) := by decide +kernel
theorem dX1_init_18 : decode cX1_init 18 = .ok (.istore_n 1, 1) := by decide +kernel
theorem dX1_init_19 : decode cX1_init 19 = .ok (.iload_n 1, 1) := by decide +kernel
theorem dX1_init_20 : decode cX1_init 20 = .ok (.iconst 4, 1) := by decide +kernel
theorem dX1_init_21 : decode cX1_init 21 = .ok (.if_icmp .ge 17, 3) := by decide +kernel
theorem dX1_init_24 : decode cX1_init 24 = .ok (.aload_n 0, 1) := by decide +kernel
theorem dX1_init_25 : decode cX1_init 25 = .ok (.getfield 9, 3) := by decide +kernel
theorem dX1_init_28 : decode cX1_init 28 = .ok (.iload_n 1, 1) := by decide +kernel
theorem dX1_init_29 : decode cX1_init 29 = .ok (.bipush 100, 2) := by decide +kernel
theorem dX1_init_31 : decode cX1_init 31 = .ok (.iastore, 1) := by decide +kernel
theorem dX1_init_32 : decode cX1_init 32 = .ok (.iinc 1 1, 3) := by decide +kernel
theorem dX1_init_35 : decode cX1_init 35 = .ok (.goto (-16), 3) := by decide +kernel
theorem dX1_init_38 : decode cX1_init 38 = .ok (.return_, 1) := by decide +kernel
theorem dX2_init_0 : decode cX2_init 0 = .ok (.aload_n 0, 1) := by decide +kernel
theorem dX2_init_1 : decode cX2_init 1 = .ok (.invokespecial 1, 3) := by decide +kernel
theorem dX2_init_4 : decode cX2_init 4 = .ok (.aload_n 0, 1) := by decide +kernel
theorem dX2_init_5 : decode cX2_init 5 = .ok (.iload_n 1, 1) := by decide +kernel
theorem dX2_init_6 : decode cX2_init 6 = .ok (.putfield 7, 3) := by decide +kernel
theorem dX2_init_9 : decode cX2_init 9 = .ok (.aload_n 0, 1) := by decide +kernel
theorem dX2_init_10 : decode cX2_init 10 = .ok (.iload_n 2, 1) := by decide +kernel
theorem dX2_init_11 : decode cX2_init 11 = .ok (.putfield 13, 3) := by decide +kernel
theorem dX2_init_14 : decode cX2_init 14 = .ok (.aload_n 0, 1) := by decide +kernel
theorem dX2_init_15 : decode cX2_init 15 = .ok (.iload_n 3, 1) := by decide +kernel
theorem dX2_init_16 : decode cX2_init 16 = .ok (.putfield 16, 3) := by decide +kernel
theorem dX2_init_19 : decode cX2_init 19 = .ok (.aload_n 0, 1) := by decide +kernel
theorem dX2_init_20 : decode cX2_init 20 = .ok (.iload 4, 2) := by decide +kernel
theorem dX2_init_22 : decode cX2_init 22 = .ok (.putfield 19, 3) := by decide +kernel
theorem dX2_init_25 : decode cX2_init 25 = .ok (.aload_n 0, 1) := by decide +kernel
theorem dX2_init_26 : decode cX2_init 26 = .ok (.iload 5, 2) := by decide +kernel
theorem dX2_init_28 : decode cX2_init 28 = .ok (.putfield 23, 3) := by decide +kernel
theorem dX2_init_31 : decode cX2_init 31 = .ok (.aload_n 0, 1) := by decide +kernel
theorem dX2_init_32 : decode cX2_init 32 = .ok (.iload 6, 2) := by decide +kernel
theorem dX2_init_34 : decode cX2_init 34 = .ok (.putfield 26, 3) := by decide +kernel
theorem dX2_init_37 : decode cX2_init 37 = .ok (.return_, 1) := by decide +kernel
theorem dX3_init_0 : decode cX3_init 0 = .ok (.aload_n 0, 1) := by decide +kernel
theorem dX3_init_1 : decode cX3_init 1 = .ok (.invokespecial 3, 3) := by decide +kernel
theorem dX3_init_4 : decode cX3_init 4 = .ok (.aload_n 0, 1) := by decide +kernel
theorem dX3_init_5 : decode cX3_init 5 = .ok (.bipush 100, 2) := by decide +kernel
theorem dX3_init_7 : decode cX3_init 7 = .ok (.putfield 9, 3) := by decide +kernel
theorem dX3_init_10 : decode cX3_init 10 = .ok (.aload_n 0, 1) := by decide +kernel
theorem dX3_init_11 : decode cX3_init 11 = .ok (.iconst 4, 1) := by decide +kernel
theorem dX3_init_12 : decode cX3_init 12 = .ok (.newarray .int, 2) := by decide +kernel
theorem dX3_init_14 : decode cX3_init 14 = .ok (.putfield 15, 3) := by decide +kernel
theorem dX3_init_17 : decode cX3_init 17 = .ok (.return_, 1) := by decide +kernel
theorem dX4_init_0 : decode cX4_init 0 = .ok (.aload_n 0, 1) := by decide +kernel
theorem dX4_init_1 : decode cX4_init 1 = .ok (.invokespecial 1, 3) := by decide +kernel
theorem dX4_init_4 : decode cX4_init 4 = .ok (.aload_n 0, 1) := by decide +kernel
theorem dX4_init_5 : decode cX4_init 5 = .ok (.iload_n 1, 1) := by decide +kernel
theorem dX4_init_6 : decode cX4_init 6 = .ok (.putfield 7, 3) := by decide +kernel
theorem dX4_init_9 : decode cX4_init 9 = .ok (.aload_n 0, 1) := by decide +kernel
theorem dX4_init_10 : decode cX4_init 10 = .ok (.iload_n 2, 1) := by decide +kernel
theorem dX4_init_11 : decode cX4_init 11 = .ok (.putfield 13, 3) := by decide +kernel
theorem dX4_init_14 : decode cX4_init 14 = .ok (.aload_n 0, 1) := by decide +kernel
theorem dX4_init_15 : decode cX4_init 15 = .ok (.iload_n 3, 1) := by decide +kernel
theorem dX4_init_16 : decode cX4_init 16 = .ok (.putfield 16, 3) := by decide +kernel
theorem dX4_init_19 : decode cX4_init 19 = .ok (.aload_n 0, 1) := by decide +kernel
theorem dX4_init_20 : decode cX4_init 20 = .ok (.iload 4, 2) := by decide +kernel
theorem dX4_init_22 : decode cX4_init 22 = .ok (.putfield 19, 3) := by decide +kernel
theorem dX4_init_25 : decode cX4_init 25 = .ok (.aload_n 0, 1) := by decide +kernel
theorem dX4_init_26 : decode cX4_init 26 = .ok (.iload 5, 2) := by decide +kernel
theorem dX4_init_28 : decode cX4_init 28 = .ok (.putfield 22, 3) := by decide +kernel
theorem dX4_init_31 : decode cX4_init 31 = .ok (.return_, 1) := by decide +kernel
theorem dX5_init_0 : decode cX5_init 0 = .ok (.aload_n 0, 1) := by decide +kernel
theorem dX5_init_1 : decode cX5_init 1 = .ok (.invokespecial 1, 3) := by decide +kernel
theorem dX5_init_4 : decode cX5_init 4 = .ok (.aload_n 0, 1) := by decide +kernel
theorem dX5_init_5 : decode cX5_init 5 = .ok (.iconst 5, 1) := by decide +kernel
theorem dX5_init_6 : decode cX5_init 6 = .ok (.anewarray 9, 3) := by decide +kernel
theorem dX5_init_9 : decode cX5_init 9 = .ok (.putfield 11, 3) := by decide +kernel
theorem dX5_init_12 : decode cX5_init 12 = .ok (.aload_n 0, 1) := by decide +kernel
theorem dX5_init_13 : decode cX5_init 13 = .ok (.iconst 3, 1) := by decide +kernel
theorem dX5_init_14 : decode cX5_init 14 = .ok (.anewarray 15, 3) := by decide +kernel
theorem dX5_init_17 : decode cX5_init 17 = .ok (.putfield 17, 3) := by decide +kernel
theorem dX5_init_20 : decode cX5_init 20 = .ok (.aload_n 0, 1) := by decide +kernel
theorem dX5_init_21 : decode cX5_init 21 = .ok (.iconst 2, 1) := by decide +kernel
theorem dX5_init_22 : decode cX5_init 22 = .ok (.anewarray 21, 3) := by decide +kernel
theorem dX5_init_25 : decode cX5_init 25 = .ok (.putfield 23, 3) := by decide +kernel
theorem dX5_init_28 : decode cX5_init 28 = .ok (.aload_n 0, 1) := by decide +kernel
theorem dX5_init_29 : decode cX5_init 29 = .ok (.new 27, 3) := by decide +kernel
theorem dX5_init_32 : decode cX5_init 32 = .ok (.dup, 1) := by decide +kernel
theorem dX5_init_33 : decode cX5_init 33 = .ok (.invokespecial 29, 3) := by decide +kernel
theorem dX5_init_36 : decode cX5_init 36 = .ok (.putfield 30, 3) := by decide +kernel
theorem dX5_init_39 : decode cX5_init 39 = .ok (.aload_n 0, 1) := by decide +kernel
theorem dX5_init_40 : decode cX5_init 40 = .ok (.new 27, 3) := by decide +kernel
theorem dX5_init_43 : decode cX5_init 43 = .ok (.dup, 1) := by decide +kernel
theorem dX5_init_44 : decode cX5_init 44 = .ok (.invokespecial 29, 3) := by decide +kernel
theorem dX5_init_47 : decode cX5_init 47 = .ok (.putfield 34, 3) := by decide +kernel
theorem dX5_init_50 : decode cX5_init 50 = .ok (.aload_n 0, 1) := by decide +kernel
theorem dX5_init_51 : decode cX5_init 51 = .ok (.iconst 4, 1) := by decide +kernel
theorem dX5_init_52 : decode cX5_init 52 = .ok (.newarray .long, 2) := by decide +kernel
theorem dX5_init_54 : decode cX5_init 54 = .ok (.putfield 37, 3) := by decide +kernel
theorem dX5_init_57 : decode cX5_init 57 = .ok (.iconst 0, 1) := by decide +kernel
theorem dX5_init_58 : decode cX5_init 58 = .ok (.istore_n 1, 1) := by decide +kernel
theorem dX5_init_59 : decode cX5_init 59 = .ok (.iload_n 1, 1) := by decide +kernel
theorem dX5_init_60 : decode cX5_init 60 = .ok (.iconst 5, 1) := by decide +kernel
theorem dX5_init_61 : decode cX5_init 61 = .ok (.if_icmp .ge 22, 3) := by decide +kernel
theorem dX5_init_64 : decode cX5_init 64 = .ok (.aload_n 0, 1) := by decide +kernel
theorem dX5_init_65 : decode cX5_init 65 = .ok (.getfield 11, 3) := by decide +kernel
theorem dX5_init_68 : decode cX5_init 68 = .ok (.iload_n 1, 1) := by decide +kernel
theorem dX5_init_69 : decode cX5_init 69 = .ok (.new 9, 3) := by decide +kernel
theorem dX5_init_72 : decode cX5_init 72 = .ok (.dup, 1) := by decide +kernel
theorem dX5_init_73 : decode cX5_init 73 = .ok (.invokespecial 41, 3) := by decide +kernel
theorem dX5_init_76 : decode cX5_init 76 = .ok (.aastore, 1) := by decide +kernel
theorem dX5_init_77 : decode cX5_init 77 = .ok (.iinc 1 1, 3) := by decide +kernel
theorem dX5_init_80 : decode cX5_init 80 = .ok (.goto (-21), 3) := by decide +kernel
theorem dX5_init_83 : decode cX5_init 83 = .ok (.iconst 0, 1) := by decide +kernel
theorem dX5_init_84 : decode cX5_init 84 = .ok (.istore_n 1, 1) := by decide +kernel
theorem dX5_init_85 : decode cX5_init 85 = .ok (.iload_n 1, 1) := by decide +kernel
theorem dX5_init_86 : decode cX5_init 86 = .ok (.iconst 3, 1) := by decide +kernel
theorem dX5_init_87 : decode cX5_init 87 = .ok (.if_icmp .ge 22, 3) := by decide +kernel
theorem dX5_init_90 : decode cX5_init 90 = .ok (.aload_n 0, 1) := by decide +kernel
theorem dX5_init_91 : decode cX5_init 91 = .ok (.getfield 17, 3) := by decide +kernel
theorem dX5_init_94 : decode cX5_init 94 = .ok (.iload_n 1, 1) := by decide +kernel
theorem dX5_init_95 : decode cX5_init 95 = .ok (.new 15, 3) := by decide +kernel
theorem dX5_init_98 : decode cX5_init 98 = .ok (.dup, 1) := by decide +kernel
theorem dX5_init_99 : decode cX5_init 99 = .ok (.invokespecial 42, 3) := by decide +kernel
theorem dX5_init_102 : decode cX5_init 102 = .ok (.aastore, 1) := by decide +kernel
theorem dX5_init_103 : decode cX5_init 103 = .ok (.iinc 1 1, 3) := by decide +kernel
theorem dX5_init_106 : decode cX5_init 106 = .ok (.goto (-21), 3) := by decide +kernel
theorem dX5_init_109 : decode cX5_init 109 = .ok (.iconst 0, 1) := by decide +kernel
theorem dX5_init_110 : decode cX5_init 110 = .ok (.istore_n 1, 1) := by decide +kernel
theorem dX5_init_111 : decode cX5_init 111 = .ok (.iload_n 1, 1) := by decide +kernel
theorem dX5_init_112 : decode cX5_init 112 = .ok (.iconst 2, 1) := by decide +kernel
theorem dX5_init_113 : decode cX5_init 113 = .ok (.if_icmp .ge 22, 3) := by decide +kernel
theorem dX5_init_116 : decode cX5_init 116 = .ok (.aload_n 0, 1) := by decide +kernel
theorem dX5_init_117 : decode cX5_init 117 = .ok (.getfield 23, 3) := by decide +kernel
theorem dX5_init_120 : decode cX5_init 120 = .ok (.iload_n 1, 1) := by decide +kernel
theorem dX5_init_121 : decode cX5_init 121 = .ok (.new 21, 3) := by decide +kernel
theorem dX5_init_124 : decode cX5_init 124 = .ok (.dup, 1) := by decide +kernel
theorem dX5_init_125 : decode cX5_init 125 = .ok (.invokespecial 43, 3) := by decide +kernel
theorem dX5_init_128 : decode cX5_init 128 = .ok (.aastore, 1) := by decide +kernel
theorem dX5_init_129 : decode cX5_init 129 = .ok (.iinc 1 1, 3) := by decide +kernel
theorem dX5_init_132 : decode cX5_init 132 = .ok (.goto (-21), 3) := by decide +kernel
theorem dX5_init_135 : decode cX5_init 135 = .ok (.return_, 1) := by decide +kernel
theorem dX5_tell_0 : decode cX5_tell 0 = .ok (.iload_n 1, 1) := by decide +kernel
theorem dX5_tell_1 : decode cX5_tell 1 = .ok (.invokestatic 44, 3) := by decide +kernel
theorem dX5_tell_4 : decode cX5_tell 4 = .ok (.iload_n 2, 1) := by decide +kernel
theorem dX5_tell_5 : decode cX5_tell 5 = .ok (.iconst 1, 1) := by decide +kernel
theorem dX5_tell_6 : decode cX5_tell 6 = .ok (.sipush 9999, 3) := by decide +kernel
theorem dX5_tell_9 : decode cX5_tell 9 = .ok (.invokestatic 48, 3) := by decide +kernel
theorem dX5_tell_12 : decode cX5_tell 12 = .ok (.aload_n 0, 1) := by decide +kernel
theorem dX5_tell_13 : decode cX5_tell 13 = .ok (.getfield 17, 3) := by decide +kernel
theorem dX5_tell_16 : decode cX5_tell 16 = .ok (.iload_n 1, 1) := by decide +kernel
theorem dX5_tell_17 : decode cX5_tell 17 = .ok (.aaload, 1) := by decide +kernel
theorem dX5_tell_18 : decode cX5_tell 18 = .ok (.getfield 52, 3) := by decide +kernel
theorem dX5_tell_21 : decode cX5_tell 21 = .ok (.istore_n 3, 1) := by decide +kernel
theorem dX5_tell_22 : decode cX5_tell 22 = .ok (.aload_n 0, 1) := by decide +kernel
theorem dX5_tell_23 : decode cX5_tell 23 = .ok (.getfield 17, 3) := by decide +kernel
theorem dX5_tell_26 : decode cX5_tell 26 = .ok (.iload_n 1, 1) := by decide +kernel
theorem dX5_tell_27 : decode cX5_tell 27 = .ok (.aaload, 1) := by decide +kernel
theorem dX5_tell_28 : decode cX5_tell 28 = .ok (.iload_n 2, 1) := by decide +kernel
theorem dX5_tell_29 : decode cX5_tell 29 = .ok (.putfield 52, 3) := by decide +kernel
theorem dX5_tell_32 : decode cX5_tell 32 = .ok (.iload_n 3, 1) := by decide +kernel
theorem dX5_tell_33 : decode cX5_tell 33 = .ok (.ireturn, 1) := by decide +kernel
theorem dX5_setMove_0 : decode cX5_setMove 0 = .ok (.iload_n 1, 1) := by decide +kernel
theorem dX5_setMove_1 : decode cX5_setMove 1 = .ok (.iconst 0, 1) := by decide +kernel
theorem dX5_setMove_2 : decode cX5_setMove 2 = .ok (.iconst 3, 1) := by decide +kernel
theorem dX5_setMove_3 : decode cX5_setMove 3 = .ok (.invokestatic 48, 3) := by decide +kernel
theorem dX5_setMove_6 : decode cX5_setMove 6 = .ok (.iload_n 2, 1) := by decide +kernel
theorem dX5_setMove_7 : decode cX5_setMove 7 = .ok (.invokestatic 44, 3) := by decide +kernel
theorem dX5_setMove_10 : decode cX5_setMove 10 = .ok (.iload_n 3, 1) := by decide +kernel
theorem dX5_setMove_11 : decode cX5_setMove 11 = .ok (.sipush (-500), 3) := by decide +kernel
theorem dX5_setMove_14 : decode cX5_setMove 14 = .ok (.sipush 500, 3) := by decide +kernel
theorem dX5_setMove_17 : decode cX5_setMove 17 = .ok (.invokestatic 48, 3) := by decide +kernel
theorem dX5_setMove_20 : decode cX5_setMove 20 = .ok (.aload_n 0, 1) := by decide +kernel
theorem dX5_setMove_21 : decode cX5_setMove 21 = .ok (.getfield 17, 3) := by decide +kernel
theorem dX5_setMove_24 : decode cX5_setMove 24 = .ok (.iload_n 2, 1) := by decide +kernel
theorem dX5_setMove_25 : decode cX5_setMove 25 = .ok (.aaload, 1) := by decide +kernel
theorem dX5_setMove_26 : decode cX5_setMove 26 = .ok (.getfield 56, 3) := by decide +kernel
theorem dX5_setMove_29 : decode cX5_setMove 29 = .ok (.iload_n 1, 1) := by decide +kernel
theorem dX5_setMove_30 : decode cX5_setMove 30 = .ok (.iaload, 1) := by decide +kernel
theorem dX5_setMove_31 : decode cX5_setMove 31 = .ok (.istore 4, 2) := by decide +kernel
theorem dX5_setMove_33 : decode cX5_setMove 33 = .ok (.aload_n 0, 1) := by decide +kernel
theorem dX5_setMove_34 : decode cX5_setMove 34 = .ok (.getfield 17, 3) := by decide +kernel
theorem dX5_setMove_37 : decode cX5_setMove 37 = .ok (.iload_n 2, 1) := by decide +kernel
theorem dX5_setMove_38 : decode cX5_setMove 38 = .ok (.aaload, 1) := by decide +kernel
theorem dX5_setMove_39 : decode cX5_setMove 39 = .ok (.getfield 56, 3) := by decide +kernel
theorem dX5_setMove_42 : decode cX5_setMove 42 = .ok (.iload_n 1, 1) := by decide +kernel
theorem dX5_setMove_43 : decode cX5_setMove 43 = .ok (.iload_n 3, 1) := by decide +kernel
theorem dX5_setMove_44 : decode cX5_setMove 44 = .ok (.iastore, 1) := by decide +kernel
theorem dX5_setMove_45 : decode cX5_setMove 45 = .ok (.iload 4, 2) := by decide +kernel
theorem dX5_setMove_47 : decode cX5_setMove 47 = .ok (.ireturn, 1) := by decide +kernel
theorem dX5_tellKind_0 : decode cX5_tellKind 0 = .ok (.iload_n 1, 1) := by decide +kernel
theorem dX5_tellKind_1 : decode cX5_tellKind 1 = .ok (.invokestatic 60, 3) := by decide +kernel
theorem dX5_tellKind_4 : decode cX5_tellKind 4 = .ok (.iload_n 2, 1) := by decide +kernel
theorem dX5_tellKind_5 : decode cX5_tellKind 5 = .ok (.iconst 1, 1) := by decide +kernel
theorem dX5_tellKind_6 : decode cX5_tellKind 6 = .ok (.sipush 9999, 3) := by decide +kernel
theorem dX5_tellKind_9 : decode cX5_tellKind 9 = .ok (.invokestatic 48, 3) := by decide +kernel
theorem dX5_tellKind_12 : decode cX5_tellKind 12 = .ok (.aload_n 0, 1) := by decide +kernel
theorem dX5_tellKind_13 : decode cX5_tellKind 13 = .ok (.getfield 23, 3) := by decide +kernel
theorem dX5_tellKind_16 : decode cX5_tellKind 16 = .ok (.iload_n 1, 1) := by decide +kernel
theorem dX5_tellKind_17 : decode cX5_tellKind 17 = .ok (.aaload, 1) := by decide +kernel
theorem dX5_tellKind_18 : decode cX5_tellKind 18 = .ok (.getfield 63, 3) := by decide +kernel
theorem dX5_tellKind_21 : decode cX5_tellKind 21 = .ok (.astore_n 3, 1) := by decide +kernel
theorem dX5_tellKind_22 : decode cX5_tellKind 22 = .ok (.iconst 1, 1) := by decide +kernel
theorem dX5_tellKind_23 : decode cX5_tellKind 23 = .ok (.istore 4, 2) := by decide +kernel
theorem dX5_tellKind_25 : decode cX5_tellKind 25 = .ok (.iload 4, 2) := by decide +kernel
theorem dX5_tellKind_27 : decode cX5_tellKind 27 = .ok (.iconst 4, 1) := by decide +kernel
theorem dX5_tellKind_28 : decode cX5_tellKind 28 = .ok (.if_icmp .ge 19, 3) := by decide +kernel
theorem dX5_tellKind_31 : decode cX5_tellKind 31 = .ok (.aload_n 3, 1) := by decide +kernel
theorem dX5_tellKind_32 : decode cX5_tellKind 32 = .ok (.iload 4, 2) := by decide +kernel
theorem dX5_tellKind_34 : decode cX5_tellKind 34 = .ok (.iconst 1, 1) := by decide +kernel
theorem dX5_tellKind_35 : decode cX5_tellKind 35 = .ok (.isub, 1) := by decide +kernel
theorem dX5_tellKind_36 : decode cX5_tellKind 36 = .ok (.aload_n 3, 1) := by decide +kernel
theorem dX5_tellKind_37 : decode cX5_tellKind 37 = .ok (.iload 4, 2) := by decide +kernel
theorem dX5_tellKind_39 : decode cX5_tellKind 39 = .ok (.iaload, 1) := by decide +kernel
theorem dX5_tellKind_40 : decode cX5_tellKind 40 = .ok (.iastore, 1) := by decide +kernel
theorem dX5_tellKind_41 : decode cX5_tellKind 41 = .ok (.iinc 4 1, 3) := by decide +kernel
theorem dX5_tellKind_44 : decode cX5_tellKind 44 = .ok (.goto (-19), 3) := by decide +kernel
theorem dX5_tellKind_47 : decode cX5_tellKind 47 = .ok (.aload_n 3, 1) := by decide +kernel
theorem dX5_tellKind_48 : decode cX5_tellKind 48 = .ok (.iconst 3, 1) := by decide +kernel
theorem dX5_tellKind_49 : decode cX5_tellKind 49 = .ok (.iload_n 2, 1) := by decide +kernel
theorem dX5_tellKind_50 : decode cX5_tellKind 50 = .ok (.iastore, 1) := by decide +kernel
theorem dX5_tellKind_51 : decode cX5_tellKind 51 = .ok (.aload_n 0, 1) := by decide +kernel
theorem dX5_tellKind_52 : decode cX5_tellKind 52 = .ok (.getfield 23, 3) := by decide +kernel
theorem dX5_tellKind_55 : decode cX5_tellKind 55 = .ok (.iload_n 1, 1) := by decide +kernel
theorem dX5_tellKind_56 : decode cX5_tellKind 56 = .ok (.aaload, 1) := by decide +kernel
theorem dX5_tellKind_57 : decode cX5_tellKind 57 = .ok (.aload_n 3, 1) := by decide +kernel
theorem dX5_tellKind_58 : decode cX5_tellKind 58 = .ok (.iload_n 2, 1) := by decide +kernel
theorem dX5_tellKind_59 : decode cX5_tellKind 59 = .ok (.invokestatic 66, 3) := by decide +kernel
theorem dX5_tellKind_62 : decode cX5_tellKind 62 = .ok (.putfield 70, 3) := by decide +kernel
theorem dX5_tellKind_65 : decode cX5_tellKind 65 = .ok (.aload_n 0, 1) := by decide +kernel
theorem dX5_tellKind_66 : decode cX5_tellKind 66 = .ok (.getfield 23, 3) := by decide +kernel
theorem dX5_tellKind_69 : decode cX5_tellKind 69 = .ok (.iload_n 1, 1) := by decide +kernel
theorem dX5_tellKind_70 : decode cX5_tellKind 70 = .ok (.aaload, 1) := by decide +kernel
theorem dX5_tellKind_71 : decode cX5_tellKind 71 = .ok (.getfield 70, 3) := by decide +kernel
theorem dX5_tellKind_74 : decode cX5_tellKind 74 = .ok (.ireturn, 1) := by decide +kernel
theorem dX5_pay_0 : decode cX5_pay 0 = .ok (.iload_n 1, 1) := by decide +kernel
theorem dX5_pay_1 : decode cX5_pay 1 = .ok (.invokestatic 73, 3) := by decide +kernel
theorem dX5_pay_4 : decode cX5_pay 4 = .ok (.iload_n 2, 1) := by decide +kernel
theorem dX5_pay_5 : decode cX5_pay 5 = .ok (.ldc 76, 2) := by decide +kernel
theorem dX5_pay_7 : decode cX5_pay 7 = .ok (.ldc 77, 2) := by decide +kernel
theorem dX5_pay_9 : decode cX5_pay 9 = .ok (.invokestatic 48, 3) := by decide +kernel
theorem dX5_pay_12 : decode cX5_pay 12 = .ok (.aload_n 0, 1) := by decide +kernel
theorem dX5_pay_13 : decode cX5_pay 13 = .ok (.getfield 11, 3) := by decide +kernel
theorem dX5_pay_16 : decode cX5_pay 16 = .ok (.iload_n 1, 1) := by decide +kernel
theorem dX5_pay_17 : decode cX5_pay 17 = .ok (.aaload, 1) := by decide +kernel
theorem dX5_pay_18 : decode cX5_pay 18 = .ok (.astore_n 3, 1) := by decide +kernel
theorem dX5_pay_19 : decode cX5_pay 19 = .ok (.aload_n 3, 1) := by decide +kernel
theorem dX5_pay_20 : decode cX5_pay 20 = .ok (.getfield 78, 3) := by decide +kernel
theorem dX5_pay_23 : decode cX5_pay 23 = .ok (.ifCond .ne 7, 3) := by decide +kernel
theorem dX5_pay_26 : decode cX5_pay 26 = .ok (.iconst 1, 1) := by decide +kernel
theorem dX5_pay_27 : decode cX5_pay 27 = .ok (.goto 4, 3) := by decide +kernel
theorem dX5_pay_30 : decode cX5_pay 30 = .ok (.iconst 0, 1) := by decide +kernel
theorem dX5_pay_31 : decode cX5_pay 31 = .ok (.invokestatic 82, 3) := by decide +kernel
theorem dX5_pay_34 : decode cX5_pay 34 = .ok (.iload_n 2, 1) := by decide +kernel
theorem dX5_pay_35 : decode cX5_pay 35 = .ok (.ifCond .ge 16, 3) := by decide +kernel
theorem dX5_pay_38 : decode cX5_pay 38 = .ok (.aload_n 0, 1) := by decide +kernel
theorem dX5_pay_39 : decode cX5_pay 39 = .ok (.iload_n 1, 1) := by decide +kernel
theorem dX5_pay_40 : decode cX5_pay 40 = .ok (.invokevirtual 86, 3) := by decide +kernel
theorem dX5_pay_43 : decode cX5_pay 43 = .ok (.iload_n 2, 1) := by decide +kernel
theorem dX5_pay_44 : decode cX5_pay 44 = .ok (.i2l, 1) := by decide +kernel
theorem dX5_pay_45 : decode cX5_pay 45 = .ok (.ladd, 1) := by decide +kernel
theorem dX5_pay_46 : decode cX5_pay 46 = .ok (.lconst 0, 1) := by decide +kernel
theorem dX5_pay_47 : decode cX5_pay 47 = .ok (.lcmp, 1) := by decide +kernel
theorem dX5_pay_48 : decode cX5_pay 48 = .ok (.ifCond .lt 7, 3) := by decide +kernel
theorem dX5_pay_51 : decode cX5_pay 51 = .ok (.iconst 1, 1) := by decide +kernel
theorem dX5_pay_52 : decode cX5_pay 52 = .ok (.goto 4, 3) := by decide +kernel
theorem dX5_pay_55 : decode cX5_pay 55 = .ok (.iconst 0, 1) := by decide +kernel
theorem dX5_pay_56 : decode cX5_pay 56 = .ok (.invokestatic 82, 3) := by decide +kernel
theorem dX5_pay_59 : decode cX5_pay 59 = .ok (.aload_n 3, 1) := by decide +kernel
theorem dX5_pay_60 : decode cX5_pay 60 = .ok (.iload_n 2, 1) := by decide +kernel
theorem dX5_pay_61 : decode cX5_pay 61 = .ok (.i2l, 1) := by decide +kernel
theorem dX5_pay_62 : decode cX5_pay 62 = .ok (.invokestatic 90, 3) := by decide +kernel
theorem dX5_pay_65 : decode cX5_pay 65 = .ok (.aload_n 3, 1) := by decide +kernel
theorem dX5_pay_66 : decode cX5_pay 66 = .ok (.getfield 94, 3) := by decide +kernel
theorem dX5_pay_69 : decode cX5_pay 69 = .ok (.l2i, 1) := by decide +kernel
theorem dX5_pay_70 : decode cX5_pay 70 = .ok (.ireturn, 1) := by decide +kernel
theorem dX5_bring_0 : decode cX5_bring 0 = .ok (.iload_n 1, 1) := by decide +kernel
theorem dX5_bring_1 : decode cX5_bring 1 = .ok (.invokestatic 73, 3) := by decide +kernel
theorem dX5_bring_4 : decode cX5_bring 4 = .ok (.iload_n 2, 1) := by decide +kernel
theorem dX5_bring_5 : decode cX5_bring 5 = .ok (.invokestatic 60, 3) := by decide +kernel
theorem dX5_bring_8 : decode cX5_bring 8 = .ok (.iload_n 3, 1) := by decide +kernel
theorem dX5_bring_9 : decode cX5_bring 9 = .ok (.sipush (-1000), 3) := by decide +kernel
theorem dX5_bring_12 : decode cX5_bring 12 = .ok (.sipush 1000, 3) := by decide +kernel
theorem dX5_bring_15 : decode cX5_bring 15 = .ok (.invokestatic 48, 3) := by decide +kernel
theorem dX5_bring_18 : decode cX5_bring 18 = .ok (.aload_n 0, 1) := by decide +kernel
theorem dX5_bring_19 : decode cX5_bring 19 = .ok (.getfield 11, 3) := by decide +kernel
theorem dX5_bring_22 : decode cX5_bring 22 = .ok (.iload_n 1, 1) := by decide +kernel
theorem dX5_bring_23 : decode cX5_bring 23 = .ok (.aaload, 1) := by decide +kernel
theorem dX5_bring_24 : decode cX5_bring 24 = .ok (.astore 4, 2) := by decide +kernel
theorem dX5_bring_26 : decode cX5_bring 26 = .ok (.aload 4, 2) := by decide +kernel
theorem dX5_bring_28 : decode cX5_bring 28 = .ok (.getfield 98, 3) := by decide +kernel
theorem dX5_bring_31 : decode cX5_bring 31 = .ok (.iload_n 2, 1) := by decide +kernel
theorem dX5_bring_32 : decode cX5_bring 32 = .ok (.iaload, 1) := by decide +kernel
theorem dX5_bring_33 : decode cX5_bring 33 = .ok (.istore 5, 2) := by decide +kernel
theorem dX5_bring_35 : decode cX5_bring 35 = .ok (.iload 5, 2) := by decide +kernel
theorem dX5_bring_37 : decode cX5_bring 37 = .ok (.iload_n 3, 1) := by decide +kernel
theorem dX5_bring_38 : decode cX5_bring 38 = .ok (.iadd, 1) := by decide +kernel
theorem dX5_bring_39 : decode cX5_bring 39 = .ok (.istore 6, 2) := by decide +kernel
theorem dX5_bring_41 : decode cX5_bring 41 = .ok (.aload 4, 2) := by decide +kernel
theorem dX5_bring_43 : decode cX5_bring 43 = .ok (.getfield 78, 3) := by decide +kernel
theorem dX5_bring_46 : decode cX5_bring 46 = .ok (.ifCond .ne 20, 3) := by decide +kernel
theorem dX5_bring_49 : decode cX5_bring 49 = .ok (.iload 6, 2) := by decide +kernel
theorem dX5_bring_51 : decode cX5_bring 51 = .ok (.ifCond .lt 15, 3) := by decide +kernel
theorem dX5_bring_54 : decode cX5_bring 54 = .ok (.iload 6, 2) := by decide +kernel
theorem dX5_bring_56 : decode cX5_bring 56 = .ok (.sipush 1000, 3) := by decide +kernel
theorem dX5_bring_59 : decode cX5_bring 59 = .ok (.if_icmp .gt 7, 3) := by decide +kernel
theorem dX5_bring_62 : decode cX5_bring 62 = .ok (.iconst 1, 1) := by decide +kernel
theorem dX5_bring_63 : decode cX5_bring 63 = .ok (.goto 4, 3) := by decide +kernel
theorem dX5_bring_66 : decode cX5_bring 66 = .ok (.iconst 0, 1) := by decide +kernel
theorem dX5_bring_67 : decode cX5_bring 67 = .ok (.invokestatic 82, 3) := by decide +kernel
theorem dX5_bring_70 : decode cX5_bring 70 = .ok (.iload_n 3, 1) := by decide +kernel
theorem dX5_bring_71 : decode cX5_bring 71 = .ok (.ifCond .ge 29, 3) := by decide +kernel
theorem dX5_bring_74 : decode cX5_bring 74 = .ok (.aload_n 0, 1) := by decide +kernel
theorem dX5_bring_75 : decode cX5_bring 75 = .ok (.iload_n 1, 1) := by decide +kernel
theorem dX5_bring_76 : decode cX5_bring 76 = .ok (.invokevirtual 86, 3) := by decide +kernel
theorem dX5_bring_79 : decode cX5_bring 79 = .ok (.aload_n 0, 1) := by decide +kernel
theorem dX5_bring_80 : decode cX5_bring 80 = .ok (.iload_n 2, 1) := by decide +kernel
theorem dX5_bring_81 : decode cX5_bring 81 = .ok (.iload 5, 2) := by decide +kernel
theorem dX5_bring_83 : decode cX5_bring 83 = .ok (.invokevirtual 101, 3) := by decide +kernel
theorem dX5_bring_86 : decode cX5_bring 86 = .ok (.lsub, 1) := by decide +kernel
theorem dX5_bring_87 : decode cX5_bring 87 = .ok (.aload_n 0, 1) := by decide +kernel
theorem dX5_bring_88 : decode cX5_bring 88 = .ok (.iload_n 2, 1) := by decide +kernel
theorem dX5_bring_89 : decode cX5_bring 89 = .ok (.iload 6, 2) := by decide +kernel
theorem dX5_bring_91 : decode cX5_bring 91 = .ok (.invokevirtual 101, 3) := by decide +kernel
theorem dX5_bring_94 : decode cX5_bring 94 = .ok (.ladd, 1) := by decide +kernel
theorem dX5_bring_95 : decode cX5_bring 95 = .ok (.lconst 0, 1) := by decide +kernel
theorem dX5_bring_96 : decode cX5_bring 96 = .ok (.lcmp, 1) := by decide +kernel
theorem dX5_bring_97 : decode cX5_bring 97 = .ok (.ifCond .lt 7, 3) := by decide +kernel
theorem dX5_bring_100 : decode cX5_bring 100 = .ok (.iconst 1, 1) := by decide +kernel
theorem dX5_bring_101 : decode cX5_bring 101 = .ok (.goto 4, 3) := by decide +kernel
theorem dX5_bring_104 : decode cX5_bring 104 = .ok (.iconst 0, 1) := by decide +kernel
theorem dX5_bring_105 : decode cX5_bring 105 = .ok (.invokestatic 82, 3) := by decide +kernel
theorem dX5_bring_108 : decode cX5_bring 108 = .ok (.aload 4, 2) := by decide +kernel
theorem dX5_bring_110 : decode cX5_bring 110 = .ok (.getfield 98, 3) := by decide +kernel
theorem dX5_bring_113 : decode cX5_bring 113 = .ok (.iload_n 2, 1) := by decide +kernel
theorem dX5_bring_114 : decode cX5_bring 114 = .ok (.iload 6, 2) := by decide +kernel
theorem dX5_bring_116 : decode cX5_bring 116 = .ok (.iastore, 1) := by decide +kernel
theorem dX5_bring_117 : decode cX5_bring 117 = .ok (.iload 6, 2) := by decide +kernel
theorem dX5_bring_119 : decode cX5_bring 119 = .ok (.ireturn, 1) := by decide +kernel
theorem dX5_contribute_0 : decode cX5_contribute 0 = .ok (.iload_n 1, 1) := by decide +kernel
theorem dX5_contribute_1 : decode cX5_contribute 1 = .ok (.invokestatic 73, 3) := by decide +kernel
theorem dX5_contribute_4 : decode cX5_contribute 4 = .ok (.iload_n 2, 1) := by decide +kernel
theorem dX5_contribute_5 : decode cX5_contribute 5 = .ok (.iconst 1, 1) := by decide +kernel
theorem dX5_contribute_6 : decode cX5_contribute 6 = .ok (.ldc 77, 2) := by decide +kernel
theorem dX5_contribute_8 : decode cX5_contribute 8 = .ok (.invokestatic 48, 3) := by decide +kernel
theorem dX5_contribute_11 : decode cX5_contribute 11 = .ok (.aload_n 0, 1) := by decide +kernel
theorem dX5_contribute_12 : decode cX5_contribute 12 = .ok (.getfield 11, 3) := by decide +kernel
theorem dX5_contribute_15 : decode cX5_contribute 15 = .ok (.iload_n 1, 1) := by decide +kernel
theorem dX5_contribute_16 : decode cX5_contribute 16 = .ok (.aaload, 1) := by decide +kernel
theorem dX5_contribute_17 : decode cX5_contribute 17 = .ok (.astore_n 3, 1) := by decide +kernel
theorem dX5_contribute_18 : decode cX5_contribute 18 = .ok (.aload_n 3, 1) := by decide +kernel
theorem dX5_contribute_19 : decode cX5_contribute 19 = .ok (.getfield 78, 3) := by decide +kernel
theorem dX5_contribute_22 : decode cX5_contribute 22 = .ok (.ifCond .ne 7, 3) := by decide +kernel
theorem dX5_contribute_25 : decode cX5_contribute 25 = .ok (.iconst 1, 1) := by decide +kernel
theorem dX5_contribute_26 : decode cX5_contribute 26 = .ok (.goto 4, 3) := by decide +kernel
theorem dX5_contribute_29 : decode cX5_contribute 29 = .ok (.iconst 0, 1) := by decide +kernel
theorem dX5_contribute_30 : decode cX5_contribute 30 = .ok (.invokestatic 82, 3) := by decide +kernel
theorem dX5_contribute_33 : decode cX5_contribute 33 = .ok (.aload_n 3, 1) := by decide +kernel
theorem dX5_contribute_34 : decode cX5_contribute 34 = .ok (.dup, 1) := by decide +kernel
theorem dX5_contribute_35 : decode cX5_contribute 35 = .ok (.getfield 105, 3) := by decide +kernel
theorem dX5_contribute_38 : decode cX5_contribute 38 = .ok (.iload_n 2, 1) := by decide +kernel
theorem dX5_contribute_39 : decode cX5_contribute 39 = .ok (.i2l, 1) := by decide +kernel
theorem dX5_contribute_40 : decode cX5_contribute 40 = .ok (.ladd, 1) := by decide +kernel
theorem dX5_contribute_41 : decode cX5_contribute 41 = .ok (.putfield 105, 3) := by decide +kernel
theorem dX5_contribute_44 : decode cX5_contribute 44 = .ok (.aload_n 3, 1) := by decide +kernel
theorem dX5_contribute_45 : decode cX5_contribute 45 = .ok (.getfield 105, 3) := by decide +kernel
theorem dX5_contribute_48 : decode cX5_contribute 48 = .ok (.l2i, 1) := by decide +kernel
theorem dX5_contribute_49 : decode cX5_contribute 49 = .ok (.ireturn, 1) := by decide +kernel
theorem dX5_place_0 : decode cX5_place 0 = .ok (.iload_n 1, 1) := by decide +kernel
theorem dX5_place_1 : decode cX5_place 1 = .ok (.invokestatic 73, 3) := by decide +kernel
theorem dX5_place_4 : decode cX5_place 4 = .ok (.iload_n 2, 1) := by decide +kernel
theorem dX5_place_5 : decode cX5_place 5 = .ok (.invokestatic 44, 3) := by decide +kernel
theorem dX5_place_8 : decode cX5_place 8 = .ok (.iload 4, 2) := by decide +kernel
theorem dX5_place_10 : decode cX5_place 10 = .ok (.iconst 1, 1) := by decide +kernel
theorem dX5_place_11 : decode cX5_place 11 = .ok (.sipush 9999, 3) := by decide +kernel
theorem dX5_place_14 : decode cX5_place 14 = .ok (.invokestatic 48, 3) := by decide +kernel
theorem dX5_place_17 : decode cX5_place 17 = .ok (.iload 5, 2) := by decide +kernel
theorem dX5_place_19 : decode cX5_place 19 = .ok (.iconst 1, 1) := by decide +kernel
theorem dX5_place_20 : decode cX5_place 20 = .ok (.bipush 100, 2) := by decide +kernel
theorem dX5_place_22 : decode cX5_place 22 = .ok (.invokestatic 48, 3) := by decide +kernel
theorem dX5_place_25 : decode cX5_place 25 = .ok (.aload_n 0, 1) := by decide +kernel
theorem dX5_place_26 : decode cX5_place 26 = .ok (.getfield 30, 3) := by decide +kernel
theorem dX5_place_29 : decode cX5_place 29 = .ok (.invokevirtual 108, 3) := by decide +kernel
theorem dX5_place_32 : decode cX5_place 32 = .ok (.istore 6, 2) := by decide +kernel
theorem dX5_place_34 : decode cX5_place 34 = .ok (.aload_n 0, 1) := by decide +kernel
theorem dX5_place_35 : decode cX5_place 35 = .ok (.getfield 11, 3) := by decide +kernel
theorem dX5_place_38 : decode cX5_place 38 = .ok (.iload_n 1, 1) := by decide +kernel
theorem dX5_place_39 : decode cX5_place 39 = .ok (.aaload, 1) := by decide +kernel
theorem dX5_place_40 : decode cX5_place 40 = .ok (.getfield 78, 3) := by decide +kernel
theorem dX5_place_43 : decode cX5_place 43 = .ok (.ifCond .ne 26, 3) := by decide +kernel
theorem dX5_place_46 : decode cX5_place 46 = .ok (.aload_n 0, 1) := by decide +kernel
theorem dX5_place_47 : decode cX5_place 47 = .ok (.getfield 17, 3) := by decide +kernel
theorem dX5_place_50 : decode cX5_place 50 = .ok (.iload_n 2, 1) := by decide +kernel
theorem dX5_place_51 : decode cX5_place 51 = .ok (.aaload, 1) := by decide +kernel
theorem dX5_place_52 : decode cX5_place 52 = .ok (.getfield 112, 3) := by decide +kernel
theorem dX5_place_55 : decode cX5_place 55 = .ok (.ifCond .ne 14, 3) := by decide +kernel
theorem dX5_place_58 : decode cX5_place 58 = .ok (.iload 6, 2) := by decide +kernel
theorem dX5_place_60 : decode cX5_place 60 = .ok (.bipush 100, 2) := by decide +kernel
theorem dX5_place_62 : decode cX5_place 62 = .ok (.if_icmp .ge 7, 3) := by decide +kernel
theorem dX5_place_65 : decode cX5_place 65 = .ok (.iconst 1, 1) := by decide +kernel
theorem dX5_place_66 : decode cX5_place 66 = .ok (.goto 4, 3) := by decide +kernel
theorem dX5_place_69 : decode cX5_place 69 = .ok (.iconst 0, 1) := by decide +kernel
theorem dX5_place_70 : decode cX5_place 70 = .ok (.invokestatic 82, 3) := by decide +kernel
theorem dX5_place_73 : decode cX5_place 73 = .ok (.new 115, 3) := by decide +kernel
theorem dX5_place_76 : decode cX5_place 76 = .ok (.dup, 1) := by decide +kernel
theorem dX5_place_77 : decode cX5_place 77 = .ok (.iload 6, 2) := by decide +kernel
theorem dX5_place_79 : decode cX5_place 79 = .ok (.iload_n 1, 1) := by decide +kernel
theorem dX5_place_80 : decode cX5_place 80 = .ok (.iload_n 2, 1) := by decide +kernel
theorem dX5_place_81 : decode cX5_place 81 = .ok (.iload_n 3, 1) := by decide +kernel
theorem dX5_place_82 : decode cX5_place 82 = .ok (.iload 4, 2) := by decide +kernel
theorem dX5_place_84 : decode cX5_place 84 = .ok (.iload 5, 2) := by decide +kernel
theorem dX5_place_86 : decode cX5_place 86 = .ok (.invokespecial 117, 3) := by decide +kernel
theorem dX5_place_89 : decode cX5_place 89 = .ok (.astore 7, 2) := by decide +kernel
theorem dX5_place_91 : decode cX5_place 91 = .ok (.aload_n 0, 1) := by decide +kernel
theorem dX5_place_92 : decode cX5_place 92 = .ok (.getfield 30, 3) := by decide +kernel
theorem dX5_place_95 : decode cX5_place 95 = .ok (.aload 7, 2) := by decide +kernel
theorem dX5_place_97 : decode cX5_place 97 = .ok (.invokevirtual 120, 3) := by decide +kernel
theorem dX5_place_100 : decode cX5_place 100 = .ok (.pop, 1) := by decide +kernel
theorem dX5_place_101 : decode cX5_place 101 = .ok (.aload_n 0, 1) := by decide +kernel
theorem dX5_place_102 : decode cX5_place 102 = .ok (.aload 7, 2) := by decide +kernel
theorem dX5_place_104 : decode cX5_place 104 = .ok (.invokevirtual 124, 3) := by decide +kernel
theorem dX5_place_107 : decode cX5_place 107 = .ok (.iload 6, 2) := by decide +kernel
theorem dX5_place_109 : decode cX5_place 109 = .ok (.ireturn, 1) := by decide +kernel
theorem dX5_cancel_0 : decode cX5_cancel 0 = .ok (.aload_n 0, 1) := by decide +kernel
theorem dX5_cancel_1 : decode cX5_cancel 1 = .ok (.iload_n 1, 1) := by decide +kernel
theorem dX5_cancel_2 : decode cX5_cancel 2 = .ok (.invokevirtual 128, 3) := by decide +kernel
theorem dX5_cancel_5 : decode cX5_cancel 5 = .ok (.aload_n 0, 1) := by decide +kernel
theorem dX5_cancel_6 : decode cX5_cancel 6 = .ok (.getfield 30, 3) := by decide +kernel
theorem dX5_cancel_9 : decode cX5_cancel 9 = .ok (.iload_n 1, 1) := by decide +kernel
theorem dX5_cancel_10 : decode cX5_cancel 10 = .ok (.invokevirtual 131, 3) := by decide +kernel
theorem dX5_cancel_13 : decode cX5_cancel 13 = .ok (.checkcast 115, 3) := by decide +kernel
theorem dX5_cancel_16 : decode cX5_cancel 16 = .ok (.astore_n 2, 1) := by decide +kernel
theorem dX5_cancel_17 : decode cX5_cancel 17 = .ok (.aload_n 2, 1) := by decide +kernel
theorem dX5_cancel_18 : decode cX5_cancel 18 = .ok (.getfield 135, 3) := by decide +kernel
theorem dX5_cancel_21 : decode cX5_cancel 21 = .ok (.ifCond .le 7, 3) := by decide +kernel
theorem dX5_cancel_24 : decode cX5_cancel 24 = .ok (.iconst 1, 1) := by decide +kernel
theorem dX5_cancel_25 : decode cX5_cancel 25 = .ok (.goto 4, 3) := by decide +kernel
theorem dX5_cancel_28 : decode cX5_cancel 28 = .ok (.iconst 0, 1) := by decide +kernel
theorem dX5_cancel_29 : decode cX5_cancel 29 = .ok (.invokestatic 82, 3) := by decide +kernel
theorem dX5_cancel_32 : decode cX5_cancel 32 = .ok (.aload_n 2, 1) := by decide +kernel
theorem dX5_cancel_33 : decode cX5_cancel 33 = .ok (.getfield 135, 3) := by decide +kernel
theorem dX5_cancel_36 : decode cX5_cancel 36 = .ok (.istore_n 3, 1) := by decide +kernel
theorem dX5_cancel_37 : decode cX5_cancel 37 = .ok (.aload_n 2, 1) := by decide +kernel
theorem dX5_cancel_38 : decode cX5_cancel 38 = .ok (.iconst 0, 1) := by decide +kernel
theorem dX5_cancel_39 : decode cX5_cancel 39 = .ok (.putfield 135, 3) := by decide +kernel
theorem dX5_cancel_42 : decode cX5_cancel 42 = .ok (.iload_n 3, 1) := by decide +kernel
theorem dX5_cancel_43 : decode cX5_cancel 43 = .ok (.ireturn, 1) := by decide +kernel
theorem dX5_halt_0 : decode cX5_halt 0 = .ok (.iload_n 1, 1) := by decide +kernel
theorem dX5_halt_1 : decode cX5_halt 1 = .ok (.invokestatic 44, 3) := by decide +kernel
theorem dX5_halt_4 : decode cX5_halt 4 = .ok (.aload_n 0, 1) := by decide +kernel
theorem dX5_halt_5 : decode cX5_halt 5 = .ok (.getfield 17, 3) := by decide +kernel
theorem dX5_halt_8 : decode cX5_halt 8 = .ok (.iload_n 1, 1) := by decide +kernel
theorem dX5_halt_9 : decode cX5_halt 9 = .ok (.aaload, 1) := by decide +kernel
theorem dX5_halt_10 : decode cX5_halt 10 = .ok (.iload_n 2, 1) := by decide +kernel
theorem dX5_halt_11 : decode cX5_halt 11 = .ok (.putfield 112, 3) := by decide +kernel
theorem dX5_halt_14 : decode cX5_halt 14 = .ok (.iload_n 2, 1) := by decide +kernel
theorem dX5_halt_15 : decode cX5_halt 15 = .ok (.ifCond .eq 11, 3) := by decide +kernel
theorem dX5_halt_18 : decode cX5_halt 18 = .ok (.aload_n 0, 1) := by decide +kernel
theorem dX5_halt_19 : decode cX5_halt 19 = .ok (.iload_n 1, 1) := by decide +kernel
theorem dX5_halt_20 : decode cX5_halt 20 = .ok (.invokevirtual 138, 3) := by decide +kernel
theorem dX5_halt_23 : decode cX5_halt 23 = .ok (.goto 4, 3) := by decide +kernel
theorem dX5_halt_26 : decode cX5_halt 26 = .ok (.iconst 0, 1) := by decide +kernel
theorem dX5_halt_27 : decode cX5_halt 27 = .ok (.ireturn, 1) := by decide +kernel
theorem dX5_left_0 : decode cX5_left 0 = .ok (.aload_n 0, 1) := by decide +kernel
theorem dX5_left_1 : decode cX5_left 1 = .ok (.iload_n 1, 1) := by decide +kernel
theorem dX5_left_2 : decode cX5_left 2 = .ok (.invokevirtual 128, 3) := by decide +kernel
theorem dX5_left_5 : decode cX5_left 5 = .ok (.aload_n 0, 1) := by decide +kernel
theorem dX5_left_6 : decode cX5_left 6 = .ok (.getfield 30, 3) := by decide +kernel
theorem dX5_left_9 : decode cX5_left 9 = .ok (.iload_n 1, 1) := by decide +kernel
theorem dX5_left_10 : decode cX5_left 10 = .ok (.invokevirtual 131, 3) := by decide +kernel
theorem dX5_left_13 : decode cX5_left 13 = .ok (.checkcast 115, 3) := by decide +kernel
theorem dX5_left_16 : decode cX5_left 16 = .ok (.getfield 135, 3) := by decide +kernel
theorem dX5_left_19 : decode cX5_left 19 = .ok (.ireturn, 1) := by decide +kernel
theorem dX5_best_0 : decode cX5_best 0 = .ok (.iload_n 1, 1) := by decide +kernel
theorem dX5_best_1 : decode cX5_best 1 = .ok (.invokestatic 44, 3) := by decide +kernel
theorem dX5_best_4 : decode cX5_best 4 = .ok (.aload_n 0, 1) := by decide +kernel
theorem dX5_best_5 : decode cX5_best 5 = .ok (.iload_n 1, 1) := by decide +kernel
theorem dX5_best_6 : decode cX5_best 6 = .ok (.iload_n 2, 1) := by decide +kernel
theorem dX5_best_7 : decode cX5_best 7 = .ok (.invokevirtual 142, 3) := by decide +kernel
theorem dX5_best_10 : decode cX5_best 10 = .ok (.astore_n 3, 1) := by decide +kernel
theorem dX5_best_11 : decode cX5_best 11 = .ok (.aload_n 3, 1) := by decide +kernel
theorem dX5_best_12 : decode cX5_best 12 = .ok (.ifnonnull 11, 3) := by decide +kernel
theorem dX5_best_15 : decode cX5_best 15 = .ok (.new 146, 3) := by decide +kernel
theorem dX5_best_18 : decode cX5_best 18 = .ok (.dup, 1) := by decide +kernel
theorem dX5_best_19 : decode cX5_best 19 = .ok (.invokespecial 148, 3) := by decide +kernel
theorem dX5_best_22 : decode cX5_best 22 = .ok (.athrow, 1) := by decide +kernel
theorem dX5_best_23 : decode cX5_best 23 = .ok (.aload_n 3, 1) := by decide +kernel
theorem dX5_best_24 : decode cX5_best 24 = .ok (.getfield 149, 3) := by decide +kernel
theorem dX5_best_27 : decode cX5_best 27 = .ok (.ireturn, 1) := by decide +kernel
theorem dX5_trades_0 : decode cX5_trades 0 = .ok (.aload_n 0, 1) := by decide +kernel
theorem dX5_trades_1 : decode cX5_trades 1 = .ok (.getfield 152, 3) := by decide +kernel
theorem dX5_trades_4 : decode cX5_trades 4 = .ok (.ireturn, 1) := by decide +kernel
theorem dX5_hour_0 : decode cX5_hour 0 = .ok (.iconst 0, 1) := by decide +kernel
theorem dX5_hour_1 : decode cX5_hour 1 = .ok (.istore_n 1, 1) := by decide +kernel
theorem dX5_hour_2 : decode cX5_hour 2 = .ok (.iconst 0, 1) := by decide +kernel
theorem dX5_hour_3 : decode cX5_hour 3 = .ok (.istore_n 2, 1) := by decide +kernel
theorem dX5_hour_4 : decode cX5_hour 4 = .ok (.iload_n 2, 1) := by decide +kernel
theorem dX5_hour_5 : decode cX5_hour 5 = .ok (.iconst 5, 1) := by decide +kernel
theorem dX5_hour_6 : decode cX5_hour 6 = .ok (.if_icmp .ge 53, 3) := by decide +kernel
theorem dX5_hour_9 : decode cX5_hour 9 = .ok (.aload_n 0, 1) := by decide +kernel
theorem dX5_hour_10 : decode cX5_hour 10 = .ok (.getfield 11, 3) := by decide +kernel
theorem dX5_hour_13 : decode cX5_hour 13 = .ok (.iload_n 2, 1) := by decide +kernel
theorem dX5_hour_14 : decode cX5_hour 14 = .ok (.aaload, 1) := by decide +kernel
theorem dX5_hour_15 : decode cX5_hour 15 = .ok (.getfield 78, 3) := by decide +kernel
theorem dX5_hour_18 : decode cX5_hour 18 = .ok (.ifCond .ne 35, 3) := by decide +kernel
theorem dX5_hour_21 : decode cX5_hour 21 = .ok (.aload_n 0, 1) := by decide +kernel
theorem dX5_hour_22 : decode cX5_hour 22 = .ok (.iload_n 2, 1) := by decide +kernel
theorem dX5_hour_23 : decode cX5_hour 23 = .ok (.invokevirtual 155, 3) := by decide +kernel
theorem dX5_hour_26 : decode cX5_hour 26 = .ok (.iconst 2, 1) := by decide +kernel
theorem dX5_hour_27 : decode cX5_hour 27 = .ok (.if_icmp .lt 26, 3) := by decide +kernel
theorem dX5_hour_30 : decode cX5_hour 30 = .ok (.aload_n 0, 1) := by decide +kernel
theorem dX5_hour_31 : decode cX5_hour 31 = .ok (.iload_n 2, 1) := by decide +kernel
theorem dX5_hour_32 : decode cX5_hour 32 = .ok (.invokevirtual 158, 3) := by decide +kernel
theorem dX5_hour_35 : decode cX5_hour 35 = .ok (.aload_n 0, 1) := by decide +kernel
theorem dX5_hour_36 : decode cX5_hour 36 = .ok (.iload_n 2, 1) := by decide +kernel
theorem dX5_hour_37 : decode cX5_hour 37 = .ok (.invokevirtual 86, 3) := by decide +kernel
theorem dX5_hour_40 : decode cX5_hour 40 = .ok (.lconst 0, 1) := by decide +kernel
theorem dX5_hour_41 : decode cX5_hour 41 = .ok (.lcmp, 1) := by decide +kernel
theorem dX5_hour_42 : decode cX5_hour 42 = .ok (.ifCond .ge 11, 3) := by decide +kernel
theorem dX5_hour_45 : decode cX5_hour 45 = .ok (.aload_n 0, 1) := by decide +kernel
theorem dX5_hour_46 : decode cX5_hour 46 = .ok (.iload_n 2, 1) := by decide +kernel
theorem dX5_hour_47 : decode cX5_hour 47 = .ok (.invokevirtual 161, 3) := by decide +kernel
theorem dX5_hour_50 : decode cX5_hour 50 = .ok (.iinc 1 1, 3) := by decide +kernel
theorem dX5_hour_53 : decode cX5_hour 53 = .ok (.iinc 2 1, 3) := by decide +kernel
theorem dX5_hour_56 : decode cX5_hour 56 = .ok (.goto (-52), 3) := by decide +kernel
theorem dX5_hour_59 : decode cX5_hour 59 = .ok (.iload_n 1, 1) := by decide +kernel
theorem dX5_hour_60 : decode cX5_hour 60 = .ok (.ireturn, 1) := by decide +kernel
theorem dX5_evening_0 : decode cX5_evening 0 = .ok (.lconst 0, 1) := by decide +kernel
theorem dX5_evening_1 : decode cX5_evening 1 = .ok (.lstore_n 1, 1) := by decide +kernel
theorem dX5_evening_2 : decode cX5_evening 2 = .ok (.iconst 0, 1) := by decide +kernel
theorem dX5_evening_3 : decode cX5_evening 3 = .ok (.istore_n 3, 1) := by decide +kernel
theorem dX5_evening_4 : decode cX5_evening 4 = .ok (.iload_n 3, 1) := by decide +kernel
theorem dX5_evening_5 : decode cX5_evening 5 = .ok (.iconst 5, 1) := by decide +kernel
theorem dX5_evening_6 : decode cX5_evening 6 = .ok (.if_icmp .ge 22, 3) := by decide +kernel
theorem dX5_evening_9 : decode cX5_evening 9 = .ok (.lload_n 1, 1) := by decide +kernel
theorem dX5_evening_10 : decode cX5_evening 10 = .ok (.aload_n 0, 1) := by decide +kernel
theorem dX5_evening_11 : decode cX5_evening 11 = .ok (.aload_n 0, 1) := by decide +kernel
theorem dX5_evening_12 : decode cX5_evening 12 = .ok (.getfield 11, 3) := by decide +kernel
theorem dX5_evening_15 : decode cX5_evening 15 = .ok (.iload_n 3, 1) := by decide +kernel
theorem dX5_evening_16 : decode cX5_evening 16 = .ok (.aaload, 1) := by decide +kernel
theorem dX5_evening_17 : decode cX5_evening 17 = .ok (.invokevirtual 164, 3) := by decide +kernel
theorem dX5_evening_20 : decode cX5_evening 20 = .ok (.ladd, 1) := by decide +kernel
theorem dX5_evening_21 : decode cX5_evening 21 = .ok (.lstore_n 1, 1) := by decide +kernel
theorem dX5_evening_22 : decode cX5_evening 22 = .ok (.iinc 3 1, 3) := by decide +kernel
theorem dX5_evening_25 : decode cX5_evening 25 = .ok (.goto (-21), 3) := by decide +kernel
theorem dX5_evening_28 : decode cX5_evening 28 = .ok (.lload_n 1, 1) := by decide +kernel
theorem dX5_evening_29 : decode cX5_evening 29 = .ok (.l2i, 1) := by decide +kernel
theorem dX5_evening_30 : decode cX5_evening 30 = .ok (.ireturn, 1) := by decide +kernel
theorem dX5_called_0 : decode cX5_called 0 = .ok (.iload_n 1, 1) := by decide +kernel
theorem dX5_called_1 : decode cX5_called 1 = .ok (.invokestatic 73, 3) := by decide +kernel
theorem dX5_called_4 : decode cX5_called 4 = .ok (.aload_n 0, 1) := by decide +kernel
theorem dX5_called_5 : decode cX5_called 5 = .ok (.getfield 11, 3) := by decide +kernel
theorem dX5_called_8 : decode cX5_called 8 = .ok (.iload_n 1, 1) := by decide +kernel
theorem dX5_called_9 : decode cX5_called 9 = .ok (.aaload, 1) := by decide +kernel
theorem dX5_called_10 : decode cX5_called 10 = .ok (.getfield 168, 3) := by decide +kernel
theorem dX5_called_13 : decode cX5_called 13 = .ok (.ireturn, 1) := by decide +kernel
theorem dX5_hasFailed_0 : decode cX5_hasFailed 0 = .ok (.iload_n 1, 1) := by decide +kernel
theorem dX5_hasFailed_1 : decode cX5_hasFailed 1 = .ok (.invokestatic 73, 3) := by decide +kernel
theorem dX5_hasFailed_4 : decode cX5_hasFailed 4 = .ok (.aload_n 0, 1) := by decide +kernel
theorem dX5_hasFailed_5 : decode cX5_hasFailed 5 = .ok (.getfield 11, 3) := by decide +kernel
theorem dX5_hasFailed_8 : decode cX5_hasFailed 8 = .ok (.iload_n 1, 1) := by decide +kernel
theorem dX5_hasFailed_9 : decode cX5_hasFailed 9 = .ok (.aaload, 1) := by decide +kernel
theorem dX5_hasFailed_10 : decode cX5_hasFailed 10 = .ok (.getfield 78, 3) := by decide +kernel
theorem dX5_hasFailed_13 : decode cX5_hasFailed 13 = .ok (.ireturn, 1) := by decide +kernel
theorem dX5_position_0 : decode cX5_position 0 = .ok (.iload_n 1, 1) := by decide +kernel
theorem dX5_position_1 : decode cX5_position 1 = .ok (.invokestatic 73, 3) := by decide +kernel
theorem dX5_position_4 : decode cX5_position 4 = .ok (.iload_n 2, 1) := by decide +kernel
theorem dX5_position_5 : decode cX5_position 5 = .ok (.invokestatic 44, 3) := by decide +kernel
theorem dX5_position_8 : decode cX5_position 8 = .ok (.aload_n 0, 1) := by decide +kernel
theorem dX5_position_9 : decode cX5_position 9 = .ok (.getfield 11, 3) := by decide +kernel
theorem dX5_position_12 : decode cX5_position 12 = .ok (.iload_n 1, 1) := by decide +kernel
theorem dX5_position_13 : decode cX5_position 13 = .ok (.aaload, 1) := by decide +kernel
theorem dX5_position_14 : decode cX5_position 14 = .ok (.getfield 171, 3) := by decide +kernel
theorem dX5_position_17 : decode cX5_position 17 = .ok (.iload_n 2, 1) := by decide +kernel
theorem dX5_position_18 : decode cX5_position 18 = .ok (.iaload, 1) := by decide +kernel
theorem dX5_position_19 : decode cX5_position 19 = .ok (.ireturn, 1) := by decide +kernel
theorem dX5_cash_0 : decode cX5_cash 0 = .ok (.iload_n 1, 1) := by decide +kernel
theorem dX5_cash_1 : decode cX5_cash 1 = .ok (.invokestatic 73, 3) := by decide +kernel
theorem dX5_cash_4 : decode cX5_cash 4 = .ok (.aload_n 0, 1) := by decide +kernel
theorem dX5_cash_5 : decode cX5_cash 5 = .ok (.getfield 11, 3) := by decide +kernel
theorem dX5_cash_8 : decode cX5_cash 8 = .ok (.iload_n 1, 1) := by decide +kernel
theorem dX5_cash_9 : decode cX5_cash 9 = .ok (.aaload, 1) := by decide +kernel
theorem dX5_cash_10 : decode cX5_cash 10 = .ok (.getfield 94, 3) := by decide +kernel
theorem dX5_cash_13 : decode cX5_cash 13 = .ok (.l2i, 1) := by decide +kernel
theorem dX5_cash_14 : decode cX5_cash 14 = .ok (.ireturn, 1) := by decide +kernel
theorem dX5_equity_0 : decode cX5_equity 0 = .ok (.iload_n 1, 1) := by decide +kernel
theorem dX5_equity_1 : decode cX5_equity 1 = .ok (.invokestatic 73, 3) := by decide +kernel
theorem dX5_equity_4 : decode cX5_equity 4 = .ok (.aload_n 0, 1) := by decide +kernel
theorem dX5_equity_5 : decode cX5_equity 5 = .ok (.iload_n 1, 1) := by decide +kernel
theorem dX5_equity_6 : decode cX5_equity 6 = .ok (.invokevirtual 174, 3) := by decide +kernel
theorem dX5_equity_9 : decode cX5_equity 9 = .ok (.l2i, 1) := by decide +kernel
theorem dX5_equity_10 : decode cX5_equity 10 = .ok (.ireturn, 1) := by decide +kernel
theorem dX5_equityByTrades_0 : decode cX5_equityByTrades 0 = .ok (.iload_n 1, 1) := by decide +kernel
theorem dX5_equityByTrades_1 : decode cX5_equityByTrades 1 = .ok (.invokestatic 73, 3) := by decide +kernel
theorem dX5_equityByTrades_4 : decode cX5_equityByTrades 4 = .ok (.aload_n 0, 1) := by decide +kernel
theorem dX5_equityByTrades_5 : decode cX5_equityByTrades 5 = .ok (.getfield 11, 3) := by decide +kernel
theorem dX5_equityByTrades_8 : decode cX5_equityByTrades 8 = .ok (.iload_n 1, 1) := by decide +kernel
theorem dX5_equityByTrades_9 : decode cX5_equityByTrades 9 = .ok (.aaload, 1) := by decide +kernel
theorem dX5_equityByTrades_10 : decode cX5_equityByTrades 10 = .ok (.getfield 177, 3) := by decide +kernel
theorem dX5_equityByTrades_13 : decode cX5_equityByTrades 13 = .ok (.lstore_n 2, 1) := by decide +kernel
theorem dX5_equityByTrades_14 : decode cX5_equityByTrades 14 = .ok (.iconst 0, 1) := by decide +kernel
theorem dX5_equityByTrades_15 : decode cX5_equityByTrades 15 = .ok (.istore 4, 2) := by decide +kernel
theorem dX5_equityByTrades_17 : decode cX5_equityByTrades 17 = .ok (.iload 4, 2) := by decide +kernel
theorem dX5_equityByTrades_19 : decode cX5_equityByTrades 19 = .ok (.aload_n 0, 1) := by decide +kernel
theorem dX5_equityByTrades_20 : decode cX5_equityByTrades 20 = .ok (.getfield 34, 3) := by decide +kernel
theorem dX5_equityByTrades_23 : decode cX5_equityByTrades 23 = .ok (.invokevirtual 108, 3) := by decide +kernel
theorem dX5_equityByTrades_26 : decode cX5_equityByTrades 26 = .ok (.if_icmp .ge 29, 3) := by decide +kernel
theorem dX5_equityByTrades_29 : decode cX5_equityByTrades 29 = .ok (.lload_n 2, 1) := by decide +kernel
theorem dX5_equityByTrades_30 : decode cX5_equityByTrades 30 = .ok (.aload_n 0, 1) := by decide +kernel
theorem dX5_equityByTrades_31 : decode cX5_equityByTrades 31 = .ok (.iload_n 1, 1) := by decide +kernel
theorem dX5_equityByTrades_32 : decode cX5_equityByTrades 32 = .ok (.aload_n 0, 1) := by decide +kernel
theorem dX5_equityByTrades_33 : decode cX5_equityByTrades 33 = .ok (.getfield 34, 3) := by decide +kernel
theorem dX5_equityByTrades_36 : decode cX5_equityByTrades 36 = .ok (.iload 4, 2) := by decide +kernel
theorem dX5_equityByTrades_38 : decode cX5_equityByTrades 38 = .ok (.invokevirtual 131, 3) := by decide +kernel
theorem dX5_equityByTrades_41 : decode cX5_equityByTrades 41 = .ok (.checkcast 180, 3) := by decide +kernel
theorem dX5_equityByTrades_44 : decode cX5_equityByTrades 44 = .ok (.invokevirtual 182, 3) := by decide +kernel
theorem dX5_equityByTrades_47 : decode cX5_equityByTrades 47 = .ok (.ladd, 1) := by decide +kernel
theorem dX5_equityByTrades_48 : decode cX5_equityByTrades 48 = .ok (.lstore_n 2, 1) := by decide +kernel
theorem dX5_equityByTrades_49 : decode cX5_equityByTrades 49 = .ok (.iinc 4 1, 3) := by decide +kernel
theorem dX5_equityByTrades_52 : decode cX5_equityByTrades 52 = .ok (.goto (-35), 3) := by decide +kernel
theorem dX5_equityByTrades_55 : decode cX5_equityByTrades 55 = .ok (.lload_n 2, 1) := by decide +kernel
theorem dX5_equityByTrades_56 : decode cX5_equityByTrades 56 = .ok (.l2i, 1) := by decide +kernel
theorem dX5_equityByTrades_57 : decode cX5_equityByTrades 57 = .ok (.ireturn, 1) := by decide +kernel
theorem dX5_margin_0 : decode cX5_margin 0 = .ok (.iload_n 1, 1) := by decide +kernel
theorem dX5_margin_1 : decode cX5_margin 1 = .ok (.invokestatic 73, 3) := by decide +kernel
theorem dX5_margin_4 : decode cX5_margin 4 = .ok (.aload_n 0, 1) := by decide +kernel
theorem dX5_margin_5 : decode cX5_margin 5 = .ok (.iload_n 1, 1) := by decide +kernel
theorem dX5_margin_6 : decode cX5_margin 6 = .ok (.invokevirtual 186, 3) := by decide +kernel
theorem dX5_margin_9 : decode cX5_margin 9 = .ok (.l2i, 1) := by decide +kernel
theorem dX5_margin_10 : decode cX5_margin 10 = .ok (.ireturn, 1) := by decide +kernel
theorem dX5_haircut_0 : decode cX5_haircut 0 = .ok (.iload_n 1, 1) := by decide +kernel
theorem dX5_haircut_1 : decode cX5_haircut 1 = .ok (.invokestatic 60, 3) := by decide +kernel
theorem dX5_haircut_4 : decode cX5_haircut 4 = .ok (.aload_n 0, 1) := by decide +kernel
theorem dX5_haircut_5 : decode cX5_haircut 5 = .ok (.getfield 23, 3) := by decide +kernel
theorem dX5_haircut_8 : decode cX5_haircut 8 = .ok (.iload_n 1, 1) := by decide +kernel
theorem dX5_haircut_9 : decode cX5_haircut 9 = .ok (.aaload, 1) := by decide +kernel
theorem dX5_haircut_10 : decode cX5_haircut 10 = .ok (.getfield 70, 3) := by decide +kernel
theorem dX5_haircut_13 : decode cX5_haircut 13 = .ok (.ireturn, 1) := by decide +kernel
theorem dX5_collateral_0 : decode cX5_collateral 0 = .ok (.iload_n 1, 1) := by decide +kernel
theorem dX5_collateral_1 : decode cX5_collateral 1 = .ok (.invokestatic 73, 3) := by decide +kernel
theorem dX5_collateral_4 : decode cX5_collateral 4 = .ok (.aload_n 0, 1) := by decide +kernel
theorem dX5_collateral_5 : decode cX5_collateral 5 = .ok (.iload_n 1, 1) := by decide +kernel
theorem dX5_collateral_6 : decode cX5_collateral 6 = .ok (.invokevirtual 189, 3) := by decide +kernel
theorem dX5_collateral_9 : decode cX5_collateral 9 = .ok (.l2i, 1) := by decide +kernel
theorem dX5_collateral_10 : decode cX5_collateral 10 = .ok (.ireturn, 1) := by decide +kernel
theorem dX5_free_0 : decode cX5_free 0 = .ok (.iload_n 1, 1) := by decide +kernel
theorem dX5_free_1 : decode cX5_free 1 = .ok (.invokestatic 73, 3) := by decide +kernel
theorem dX5_free_4 : decode cX5_free 4 = .ok (.aload_n 0, 1) := by decide +kernel
theorem dX5_free_5 : decode cX5_free 5 = .ok (.iload_n 1, 1) := by decide +kernel
theorem dX5_free_6 : decode cX5_free 6 = .ok (.invokevirtual 86, 3) := by decide +kernel
theorem dX5_free_9 : decode cX5_free 9 = .ok (.l2i, 1) := by decide +kernel
theorem dX5_free_10 : decode cX5_free 10 = .ok (.ireturn, 1) := by decide +kernel
theorem dX5_share_0 : decode cX5_share 0 = .ok (.iload_n 1, 1) := by decide +kernel
theorem dX5_share_1 : decode cX5_share 1 = .ok (.invokestatic 73, 3) := by decide +kernel
theorem dX5_share_4 : decode cX5_share 4 = .ok (.aload_n 0, 1) := by decide +kernel
theorem dX5_share_5 : decode cX5_share 5 = .ok (.getfield 11, 3) := by decide +kernel
theorem dX5_share_8 : decode cX5_share 8 = .ok (.iload_n 1, 1) := by decide +kernel
theorem dX5_share_9 : decode cX5_share 9 = .ok (.aaload, 1) := by decide +kernel
theorem dX5_share_10 : decode cX5_share 10 = .ok (.getfield 105, 3) := by decide +kernel
theorem dX5_share_13 : decode cX5_share 13 = .ok (.l2i, 1) := by decide +kernel
theorem dX5_share_14 : decode cX5_share 14 = .ok (.ireturn, 1) := by decide +kernel
theorem dX5_unpaid_0 : decode cX5_unpaid 0 = .ok (.aload_n 0, 1) := by decide +kernel
theorem dX5_unpaid_1 : decode cX5_unpaid 1 = .ok (.getfield 192, 3) := by decide +kernel
theorem dX5_unpaid_4 : decode cX5_unpaid 4 = .ok (.l2i, 1) := by decide +kernel
theorem dX5_unpaid_5 : decode cX5_unpaid 5 = .ok (.ireturn, 1) := by decide +kernel
theorem dX5_demandMember_0 : decode cX5_demandMember 0 = .ok (.iload_n 0, 1) := by decide +kernel
theorem dX5_demandMember_1 : decode cX5_demandMember 1 = .ok (.iconst 0, 1) := by decide +kernel
theorem dX5_demandMember_2 : decode cX5_demandMember 2 = .ok (.iconst 4, 1) := by decide +kernel
theorem dX5_demandMember_3 : decode cX5_demandMember 3 = .ok (.invokestatic 48, 3) := by decide +kernel
theorem dX5_demandMember_6 : decode cX5_demandMember 6 = .ok (.return_, 1) := by decide +kernel
theorem dX5_demandProduct_0 : decode cX5_demandProduct 0 = .ok (.iload_n 0, 1) := by decide +kernel
theorem dX5_demandProduct_1 : decode cX5_demandProduct 1 = .ok (.iconst 0, 1) := by decide +kernel
theorem dX5_demandProduct_2 : decode cX5_demandProduct 2 = .ok (.iconst 2, 1) := by decide +kernel
theorem dX5_demandProduct_3 : decode cX5_demandProduct 3 = .ok (.invokestatic 48, 3) := by decide +kernel
theorem dX5_demandProduct_6 : decode cX5_demandProduct 6 = .ok (.return_, 1) := by decide +kernel
theorem dX5_demandKind_0 : decode cX5_demandKind 0 = .ok (.iload_n 0, 1) := by decide +kernel
theorem dX5_demandKind_1 : decode cX5_demandKind 1 = .ok (.iconst 0, 1) := by decide +kernel
theorem dX5_demandKind_2 : decode cX5_demandKind 2 = .ok (.iconst 1, 1) := by decide +kernel
theorem dX5_demandKind_3 : decode cX5_demandKind 3 = .ok (.invokestatic 48, 3) := by decide +kernel
theorem dX5_demandKind_6 : decode cX5_demandKind 6 = .ok (.return_, 1) := by decide +kernel
theorem dX5_demandWithin_0 : decode cX5_demandWithin 0 = .ok (.iload_n 0, 1) := by decide +kernel
theorem dX5_demandWithin_1 : decode cX5_demandWithin 1 = .ok (.iload_n 1, 1) := by decide +kernel
theorem dX5_demandWithin_2 : decode cX5_demandWithin 2 = .ok (.if_icmp .lt 8, 3) := by decide +kernel
theorem dX5_demandWithin_5 : decode cX5_demandWithin 5 = .ok (.iload_n 0, 1) := by decide +kernel
theorem dX5_demandWithin_6 : decode cX5_demandWithin 6 = .ok (.iload_n 2, 1) := by decide +kernel
theorem dX5_demandWithin_7 : decode cX5_demandWithin 7 = .ok (.if_icmp .le 11, 3) := by decide +kernel
theorem dX5_demandWithin_10 : decode cX5_demandWithin 10 = .ok (.new 195, 3) := by decide +kernel
theorem dX5_demandWithin_13 : decode cX5_demandWithin 13 = .ok (.dup, 1) := by decide +kernel
theorem dX5_demandWithin_14 : decode cX5_demandWithin 14 = .ok (.invokespecial 197, 3) := by decide +kernel
theorem dX5_demandWithin_17 : decode cX5_demandWithin 17 = .ok (.athrow, 1) := by decide +kernel
theorem dX5_demandWithin_18 : decode cX5_demandWithin 18 = .ok (.return_, 1) := by decide +kernel
theorem dX5_demandState_0 : decode cX5_demandState 0 = .ok (.iload_n 0, 1) := by decide +kernel
theorem dX5_demandState_1 : decode cX5_demandState 1 = .ok (.ifCond .ne 11, 3) := by decide +kernel
theorem dX5_demandState_4 : decode cX5_demandState 4 = .ok (.new 198, 3) := by decide +kernel
theorem dX5_demandState_7 : decode cX5_demandState 7 = .ok (.dup, 1) := by decide +kernel
theorem dX5_demandState_8 : decode cX5_demandState 8 = .ok (.invokespecial 200, 3) := by decide +kernel
theorem dX5_demandState_11 : decode cX5_demandState 11 = .ok (.athrow, 1) := by decide +kernel
theorem dX5_demandState_12 : decode cX5_demandState 12 = .ok (.return_, 1) := by decide +kernel
theorem dX5_demandOrder_0 : decode cX5_demandOrder 0 = .ok (.iload_n 1, 1) := by decide +kernel
theorem dX5_demandOrder_1 : decode cX5_demandOrder 1 = .ok (.ifCond .lt 14, 3) := by decide +kernel
theorem dX5_demandOrder_4 : decode cX5_demandOrder 4 = .ok (.iload_n 1, 1) := by decide +kernel
theorem dX5_demandOrder_5 : decode cX5_demandOrder 5 = .ok (.aload_n 0, 1) := by decide +kernel
theorem dX5_demandOrder_6 : decode cX5_demandOrder 6 = .ok (.getfield 30, 3) := by decide +kernel
theorem dX5_demandOrder_9 : decode cX5_demandOrder 9 = .ok (.invokevirtual 108, 3) := by decide +kernel
theorem dX5_demandOrder_12 : decode cX5_demandOrder 12 = .ok (.if_icmp .lt 11, 3) := by decide +kernel
theorem dX5_demandOrder_15 : decode cX5_demandOrder 15 = .ok (.new 201, 3) := by decide +kernel
theorem dX5_demandOrder_18 : decode cX5_demandOrder 18 = .ok (.dup, 1) := by decide +kernel
theorem dX5_demandOrder_19 : decode cX5_demandOrder 19 = .ok (.invokespecial 203, 3) := by decide +kernel
theorem dX5_demandOrder_22 : decode cX5_demandOrder 22 = .ok (.athrow, 1) := by decide +kernel
theorem dX5_demandOrder_23 : decode cX5_demandOrder 23 = .ok (.return_, 1) := by decide +kernel
theorem dX5_bestResting_0 : decode cX5_bestResting 0 = .ok (.aconst_null, 1) := by decide +kernel
theorem dX5_bestResting_1 : decode cX5_bestResting 1 = .ok (.astore_n 3, 1) := by decide +kernel
theorem dX5_bestResting_2 : decode cX5_bestResting 2 = .ok (.iconst 0, 1) := by decide +kernel
theorem dX5_bestResting_3 : decode cX5_bestResting 3 = .ok (.istore 4, 2) := by decide +kernel
theorem dX5_bestResting_5 : decode cX5_bestResting 5 = .ok (.iload 4, 2) := by decide +kernel
theorem dX5_bestResting_7 : decode cX5_bestResting 7 = .ok (.aload_n 0, 1) := by decide +kernel
theorem dX5_bestResting_8 : decode cX5_bestResting 8 = .ok (.getfield 30, 3) := by decide +kernel
theorem dX5_bestResting_11 : decode cX5_bestResting 11 = .ok (.invokevirtual 108, 3) := by decide +kernel
theorem dX5_bestResting_14 : decode cX5_bestResting 14 = .ok (.if_icmp .ge 65, 3) := by decide +kernel
theorem dX5_bestResting_17 : decode cX5_bestResting 17 = .ok (.aload_n 0, 1) := by decide +kernel
theorem dX5_bestResting_18 : decode cX5_bestResting 18 = .ok (.getfield 30, 3) := by decide +kernel
theorem dX5_bestResting_21 : decode cX5_bestResting 21 = .ok (.iload 4, 2) := by decide +kernel
theorem dX5_bestResting_23 : decode cX5_bestResting 23 = .ok (.invokevirtual 131, 3) := by decide +kernel
theorem dX5_bestResting_26 : decode cX5_bestResting 26 = .ok (.checkcast 115, 3) := by decide +kernel
theorem dX5_bestResting_29 : decode cX5_bestResting 29 = .ok (.astore 5, 2) := by decide +kernel
theorem dX5_bestResting_31 : decode cX5_bestResting 31 = .ok (.aload 5, 2) := by decide +kernel
theorem dX5_bestResting_33 : decode cX5_bestResting 33 = .ok (.getfield 135, 3) := by decide +kernel
theorem dX5_bestResting_36 : decode cX5_bestResting 36 = .ok (.ifCond .le 37, 3) := by decide +kernel
theorem dX5_bestResting_39 : decode cX5_bestResting 39 = .ok (.aload 5, 2) := by decide +kernel
theorem dX5_bestResting_41 : decode cX5_bestResting 41 = .ok (.getfield 204, 3) := by decide +kernel
theorem dX5_bestResting_44 : decode cX5_bestResting 44 = .ok (.iload_n 1, 1) := by decide +kernel
theorem dX5_bestResting_45 : decode cX5_bestResting 45 = .ok (.if_icmp .ne 28, 3) := by decide +kernel
theorem dX5_bestResting_48 : decode cX5_bestResting 48 = .ok (.aload 5, 2) := by decide +kernel
theorem dX5_bestResting_50 : decode cX5_bestResting 50 = .ok (.getfield 207, 3) := by decide +kernel
theorem dX5_bestResting_53 : decode cX5_bestResting 53 = .ok (.iload_n 2, 1) := by decide +kernel
theorem dX5_bestResting_54 : decode cX5_bestResting 54 = .ok (.if_icmp .ne 19, 3) := by decide +kernel
theorem dX5_bestResting_57 : decode cX5_bestResting 57 = .ok (.aload_n 3, 1) := by decide +kernel
theorem dX5_bestResting_58 : decode cX5_bestResting 58 = .ok (.ifnull 12, 3) := by decide +kernel
theorem dX5_bestResting_61 : decode cX5_bestResting 61 = .ok (.aload 5, 2) := by decide +kernel
theorem dX5_bestResting_63 : decode cX5_bestResting 63 = .ok (.aload_n 3, 1) := by decide +kernel
theorem dX5_bestResting_64 : decode cX5_bestResting 64 = .ok (.invokestatic 210, 3) := by decide +kernel
theorem dX5_bestResting_67 : decode cX5_bestResting 67 = .ok (.ifCond .eq 6, 3) := by decide +kernel
theorem dX5_bestResting_70 : decode cX5_bestResting 70 = .ok (.aload 5, 2) := by decide +kernel
theorem dX5_bestResting_72 : decode cX5_bestResting 72 = .ok (.astore_n 3, 1) := by decide +kernel
theorem dX5_bestResting_73 : decode cX5_bestResting 73 = .ok (.iinc 4 1, 3) := by decide +kernel
theorem dX5_bestResting_76 : decode cX5_bestResting 76 = .ok (.goto (-71), 3) := by decide +kernel
theorem dX5_bestResting_79 : decode cX5_bestResting 79 = .ok (.aload_n 3, 1) := by decide +kernel
theorem dX5_bestResting_80 : decode cX5_bestResting 80 = .ok (.areturn, 1) := by decide +kernel
theorem dX5_isBetter_0 : decode cX5_isBetter 0 = .ok (.aload_n 0, 1) := by decide +kernel
theorem dX5_isBetter_1 : decode cX5_isBetter 1 = .ok (.getfield 207, 3) := by decide +kernel
theorem dX5_isBetter_4 : decode cX5_isBetter 4 = .ok (.ifCond .eq 22, 3) := by decide +kernel
theorem dX5_isBetter_7 : decode cX5_isBetter 7 = .ok (.aload_n 0, 1) := by decide +kernel
theorem dX5_isBetter_8 : decode cX5_isBetter 8 = .ok (.getfield 214, 3) := by decide +kernel
theorem dX5_isBetter_11 : decode cX5_isBetter 11 = .ok (.aload_n 1, 1) := by decide +kernel
theorem dX5_isBetter_12 : decode cX5_isBetter 12 = .ok (.getfield 214, 3) := by decide +kernel
theorem dX5_isBetter_15 : decode cX5_isBetter 15 = .ok (.if_icmp .le 7, 3) := by decide +kernel
theorem dX5_isBetter_18 : decode cX5_isBetter 18 = .ok (.iconst 1, 1) := by decide +kernel
theorem dX5_isBetter_19 : decode cX5_isBetter 19 = .ok (.goto 23, 3) := by decide +kernel
theorem dX5_isBetter_22 : decode cX5_isBetter 22 = .ok (.iconst 0, 1) := by decide +kernel
theorem dX5_isBetter_23 : decode cX5_isBetter 23 = .ok (.goto 19, 3) := by decide +kernel
theorem dX5_isBetter_26 : decode cX5_isBetter 26 = .ok (.aload_n 0, 1) := by decide +kernel
theorem dX5_isBetter_27 : decode cX5_isBetter 27 = .ok (.getfield 214, 3) := by decide +kernel
theorem dX5_isBetter_30 : decode cX5_isBetter 30 = .ok (.aload_n 1, 1) := by decide +kernel
theorem dX5_isBetter_31 : decode cX5_isBetter 31 = .ok (.getfield 214, 3) := by decide +kernel
theorem dX5_isBetter_34 : decode cX5_isBetter 34 = .ok (.if_icmp .ge 7, 3) := by decide +kernel
theorem dX5_isBetter_37 : decode cX5_isBetter 37 = .ok (.iconst 1, 1) := by decide +kernel
theorem dX5_isBetter_38 : decode cX5_isBetter 38 = .ok (.goto 4, 3) := by decide +kernel
theorem dX5_isBetter_41 : decode cX5_isBetter 41 = .ok (.iconst 0, 1) := by decide +kernel
theorem dX5_isBetter_42 : decode cX5_isBetter 42 = .ok (.ireturn, 1) := by decide +kernel
theorem dX5_match_0 : decode cX5_match 0 = .ok (.iconst 0, 1) := by decide +kernel
theorem dX5_match_1 : decode cX5_match 1 = .ok (.istore_n 2, 1) := by decide +kernel
theorem dX5_match_2 : decode cX5_match 2 = .ok (.iload_n 2, 1) := by decide +kernel
theorem dX5_match_3 : decode cX5_match 3 = .ok (.bipush 100, 2) := by decide +kernel
theorem dX5_match_5 : decode cX5_match 5 = .ok (.if_icmp .ge 104, 3) := by decide +kernel
theorem dX5_match_8 : decode cX5_match 8 = .ok (.aload_n 1, 1) := by decide +kernel
theorem dX5_match_9 : decode cX5_match 9 = .ok (.getfield 135, 3) := by decide +kernel
theorem dX5_match_12 : decode cX5_match 12 = .ok (.ifCond .le 97, 3) := by decide +kernel
theorem dX5_match_15 : decode cX5_match 15 = .ok (.aload_n 0, 1) := by decide +kernel
theorem dX5_match_16 : decode cX5_match 16 = .ok (.aload_n 1, 1) := by decide +kernel
theorem dX5_match_17 : decode cX5_match 17 = .ok (.getfield 204, 3) := by decide +kernel
theorem dX5_match_20 : decode cX5_match 20 = .ok (.aload_n 1, 1) := by decide +kernel
theorem dX5_match_21 : decode cX5_match 21 = .ok (.getfield 207, 3) := by decide +kernel
theorem dX5_match_24 : decode cX5_match 24 = .ok (.ifCond .ne 7, 3) := by decide +kernel
theorem dX5_match_27 : decode cX5_match 27 = .ok (.iconst 1, 1) := by decide +kernel
theorem dX5_match_28 : decode cX5_match 28 = .ok (.goto 4, 3) := by decide +kernel
theorem dX5_match_31 : decode cX5_match 31 = .ok (.iconst 0, 1) := by decide +kernel
theorem dX5_match_32 : decode cX5_match 32 = .ok (.invokevirtual 142, 3) := by decide +kernel
theorem dX5_match_35 : decode cX5_match 35 = .ok (.astore_n 3, 1) := by decide +kernel
theorem dX5_match_36 : decode cX5_match 36 = .ok (.aload_n 3, 1) := by decide +kernel
theorem dX5_match_37 : decode cX5_match 37 = .ok (.ifnull 11, 3) := by decide +kernel
theorem dX5_match_40 : decode cX5_match 40 = .ok (.aload_n 1, 1) := by decide +kernel
theorem dX5_match_41 : decode cX5_match 41 = .ok (.aload_n 3, 1) := by decide +kernel
theorem dX5_match_42 : decode cX5_match 42 = .ok (.invokestatic 217, 3) := by decide +kernel
theorem dX5_match_45 : decode cX5_match 45 = .ok (.ifCond .ne 4, 3) := by decide +kernel
theorem dX5_match_48 : decode cX5_match 48 = .ok (.return_, 1) := by decide +kernel
theorem dX5_match_49 : decode cX5_match 49 = .ok (.aload_n 3, 1) := by decide +kernel
theorem dX5_match_50 : decode cX5_match 50 = .ok (.getfield 220, 3) := by decide +kernel
theorem dX5_match_53 : decode cX5_match 53 = .ok (.aload_n 1, 1) := by decide +kernel
theorem dX5_match_54 : decode cX5_match 54 = .ok (.getfield 220, 3) := by decide +kernel
theorem dX5_match_57 : decode cX5_match 57 = .ok (.if_icmp .ne 11, 3) := by decide +kernel
theorem dX5_match_60 : decode cX5_match 60 = .ok (.aload_n 3, 1) := by decide +kernel
theorem dX5_match_61 : decode cX5_match 61 = .ok (.iconst 0, 1) := by decide +kernel
theorem dX5_match_62 : decode cX5_match 62 = .ok (.putfield 135, 3) := by decide +kernel
theorem dX5_match_65 : decode cX5_match 65 = .ok (.goto 38, 3) := by decide +kernel
theorem dX5_match_68 : decode cX5_match 68 = .ok (.aload_n 1, 1) := by decide +kernel
theorem dX5_match_69 : decode cX5_match 69 = .ok (.getfield 135, 3) := by decide +kernel
theorem dX5_match_72 : decode cX5_match 72 = .ok (.aload_n 3, 1) := by decide +kernel
theorem dX5_match_73 : decode cX5_match 73 = .ok (.getfield 135, 3) := by decide +kernel
theorem dX5_match_76 : decode cX5_match 76 = .ok (.invokestatic 223, 3) := by decide +kernel
theorem dX5_match_79 : decode cX5_match 79 = .ok (.istore 4, 2) := by decide +kernel
theorem dX5_match_81 : decode cX5_match 81 = .ok (.aload_n 1, 1) := by decide +kernel
theorem dX5_match_82 : decode cX5_match 82 = .ok (.dup, 1) := by decide +kernel
theorem dX5_match_83 : decode cX5_match 83 = .ok (.getfield 135, 3) := by decide +kernel
theorem dX5_match_86 : decode cX5_match 86 = .ok (.iload 4, 2) := by decide +kernel
theorem dX5_match_88 : decode cX5_match 88 = .ok (.isub, 1) := by decide +kernel
theorem dX5_match_89 : decode cX5_match 89 = .ok (.putfield 135, 3) := by decide +kernel
theorem dX5_match_92 : decode cX5_match 92 = .ok (.aload_n 0, 1) := by decide +kernel
theorem dX5_match_93 : decode cX5_match 93 = .ok (.aload_n 1, 1) := by decide +kernel
theorem dX5_match_94 : decode cX5_match 94 = .ok (.getfield 220, 3) := by decide +kernel
theorem dX5_match_97 : decode cX5_match 97 = .ok (.aload_n 3, 1) := by decide +kernel
theorem dX5_match_98 : decode cX5_match 98 = .ok (.iload 4, 2) := by decide +kernel
theorem dX5_match_100 : decode cX5_match 100 = .ok (.invokevirtual 229, 3) := by decide +kernel
theorem dX5_match_103 : decode cX5_match 103 = .ok (.iinc 2 1, 3) := by decide +kernel
theorem dX5_match_106 : decode cX5_match 106 = .ok (.goto (-104), 3) := by decide +kernel
theorem dX5_match_109 : decode cX5_match 109 = .ok (.return_, 1) := by decide +kernel
theorem dX5_meet_0 : decode cX5_meet 0 = .ok (.aload_n 0, 1) := by decide +kernel
theorem dX5_meet_1 : decode cX5_meet 1 = .ok (.getfield 207, 3) := by decide +kernel
theorem dX5_meet_4 : decode cX5_meet 4 = .ok (.ifCond .eq 22, 3) := by decide +kernel
theorem dX5_meet_7 : decode cX5_meet 7 = .ok (.aload_n 0, 1) := by decide +kernel
theorem dX5_meet_8 : decode cX5_meet 8 = .ok (.getfield 214, 3) := by decide +kernel
theorem dX5_meet_11 : decode cX5_meet 11 = .ok (.aload_n 1, 1) := by decide +kernel
theorem dX5_meet_12 : decode cX5_meet 12 = .ok (.getfield 214, 3) := by decide +kernel
theorem dX5_meet_15 : decode cX5_meet 15 = .ok (.if_icmp .lt 7, 3) := by decide +kernel
theorem dX5_meet_18 : decode cX5_meet 18 = .ok (.iconst 1, 1) := by decide +kernel
theorem dX5_meet_19 : decode cX5_meet 19 = .ok (.goto 23, 3) := by decide +kernel
theorem dX5_meet_22 : decode cX5_meet 22 = .ok (.iconst 0, 1) := by decide +kernel
theorem dX5_meet_23 : decode cX5_meet 23 = .ok (.goto 19, 3) := by decide +kernel
theorem dX5_meet_26 : decode cX5_meet 26 = .ok (.aload_n 0, 1) := by decide +kernel
theorem dX5_meet_27 : decode cX5_meet 27 = .ok (.getfield 214, 3) := by decide +kernel
theorem dX5_meet_30 : decode cX5_meet 30 = .ok (.aload_n 1, 1) := by decide +kernel
theorem dX5_meet_31 : decode cX5_meet 31 = .ok (.getfield 214, 3) := by decide +kernel
theorem dX5_meet_34 : decode cX5_meet 34 = .ok (.if_icmp .gt 7, 3) := by decide +kernel
theorem dX5_meet_37 : decode cX5_meet 37 = .ok (.iconst 1, 1) := by decide +kernel
theorem dX5_meet_38 : decode cX5_meet 38 = .ok (.goto 4, 3) := by decide +kernel
theorem dX5_meet_41 : decode cX5_meet 41 = .ok (.iconst 0, 1) := by decide +kernel
theorem dX5_meet_42 : decode cX5_meet 42 = .ok (.ireturn, 1) := by decide +kernel
theorem dX5_tradeWithResting_0 : decode cX5_tradeWithResting 0 = .ok (.aload_n 2, 1) := by decide +kernel
theorem dX5_tradeWithResting_1 : decode cX5_tradeWithResting 1 = .ok (.dup, 1) := by decide +kernel
theorem dX5_tradeWithResting_2 : decode cX5_tradeWithResting 2 = .ok (.getfield 135, 3) := by decide +kernel
theorem dX5_tradeWithResting_5 : decode cX5_tradeWithResting 5 = .ok (.iload_n 3, 1) := by decide +kernel
theorem dX5_tradeWithResting_6 : decode cX5_tradeWithResting 6 = .ok (.isub, 1) := by decide +kernel
theorem dX5_tradeWithResting_7 : decode cX5_tradeWithResting 7 = .ok (.putfield 135, 3) := by decide +kernel
theorem dX5_tradeWithResting_10 : decode cX5_tradeWithResting 10 = .ok (.aload_n 2, 1) := by decide +kernel
theorem dX5_tradeWithResting_11 : decode cX5_tradeWithResting 11 = .ok (.getfield 207, 3) := by decide +kernel
theorem dX5_tradeWithResting_14 : decode cX5_tradeWithResting 14 = .ok (.ifCond .eq 24, 3) := by decide +kernel
theorem dX5_tradeWithResting_17 : decode cX5_tradeWithResting 17 = .ok (.aload_n 0, 1) := by decide +kernel
theorem dX5_tradeWithResting_18 : decode cX5_tradeWithResting 18 = .ok (.aload_n 2, 1) := by decide +kernel
theorem dX5_tradeWithResting_19 : decode cX5_tradeWithResting 19 = .ok (.getfield 220, 3) := by decide +kernel
theorem dX5_tradeWithResting_22 : decode cX5_tradeWithResting 22 = .ok (.iload_n 1, 1) := by decide +kernel
theorem dX5_tradeWithResting_23 : decode cX5_tradeWithResting 23 = .ok (.aload_n 2, 1) := by decide +kernel
theorem dX5_tradeWithResting_24 : decode cX5_tradeWithResting 24 = .ok (.getfield 204, 3) := by decide +kernel
theorem dX5_tradeWithResting_27 : decode cX5_tradeWithResting 27 = .ok (.iload_n 3, 1) := by decide +kernel
theorem dX5_tradeWithResting_28 : decode cX5_tradeWithResting 28 = .ok (.aload_n 2, 1) := by decide +kernel
theorem dX5_tradeWithResting_29 : decode cX5_tradeWithResting 29 = .ok (.getfield 214, 3) := by decide +kernel
theorem dX5_tradeWithResting_32 : decode cX5_tradeWithResting 32 = .ok (.invokevirtual 233, 3) := by decide +kernel
theorem dX5_tradeWithResting_35 : decode cX5_tradeWithResting 35 = .ok (.goto 21, 3) := by decide +kernel
theorem dX5_tradeWithResting_38 : decode cX5_tradeWithResting 38 = .ok (.aload_n 0, 1) := by decide +kernel
theorem dX5_tradeWithResting_39 : decode cX5_tradeWithResting 39 = .ok (.iload_n 1, 1) := by decide +kernel
theorem dX5_tradeWithResting_40 : decode cX5_tradeWithResting 40 = .ok (.aload_n 2, 1) := by decide +kernel
theorem dX5_tradeWithResting_41 : decode cX5_tradeWithResting 41 = .ok (.getfield 220, 3) := by decide +kernel
theorem dX5_tradeWithResting_44 : decode cX5_tradeWithResting 44 = .ok (.aload_n 2, 1) := by decide +kernel
theorem dX5_tradeWithResting_45 : decode cX5_tradeWithResting 45 = .ok (.getfield 204, 3) := by decide +kernel
theorem dX5_tradeWithResting_48 : decode cX5_tradeWithResting 48 = .ok (.iload_n 3, 1) := by decide +kernel
theorem dX5_tradeWithResting_49 : decode cX5_tradeWithResting 49 = .ok (.aload_n 2, 1) := by decide +kernel
theorem dX5_tradeWithResting_50 : decode cX5_tradeWithResting 50 = .ok (.getfield 214, 3) := by decide +kernel
theorem dX5_tradeWithResting_53 : decode cX5_tradeWithResting 53 = .ok (.invokevirtual 233, 3) := by decide +kernel
theorem dX5_tradeWithResting_56 : decode cX5_tradeWithResting 56 = .ok (.return_, 1) := by decide +kernel
theorem dX5_trade_0 : decode cX5_trade 0 = .ok (.aload_n 0, 1) := by decide +kernel
theorem dX5_trade_1 : decode cX5_trade 1 = .ok (.getfield 11, 3) := by decide +kernel
theorem dX5_trade_4 : decode cX5_trade 4 = .ok (.iload_n 1, 1) := by decide +kernel
theorem dX5_trade_5 : decode cX5_trade 5 = .ok (.aaload, 1) := by decide +kernel
theorem dX5_trade_6 : decode cX5_trade 6 = .ok (.iload_n 3, 1) := by decide +kernel
theorem dX5_trade_7 : decode cX5_trade 7 = .ok (.iload 4, 2) := by decide +kernel
theorem dX5_trade_9 : decode cX5_trade 9 = .ok (.iload 5, 2) := by decide +kernel
theorem dX5_trade_11 : decode cX5_trade 11 = .ok (.invokestatic 237, 3) := by decide +kernel
theorem dX5_trade_14 : decode cX5_trade 14 = .ok (.aload_n 0, 1) := by decide +kernel
theorem dX5_trade_15 : decode cX5_trade 15 = .ok (.getfield 11, 3) := by decide +kernel
theorem dX5_trade_18 : decode cX5_trade 18 = .ok (.iload_n 2, 1) := by decide +kernel
theorem dX5_trade_19 : decode cX5_trade 19 = .ok (.aaload, 1) := by decide +kernel
theorem dX5_trade_20 : decode cX5_trade 20 = .ok (.iload_n 3, 1) := by decide +kernel
theorem dX5_trade_21 : decode cX5_trade 21 = .ok (.iload 4, 2) := by decide +kernel
theorem dX5_trade_23 : decode cX5_trade 23 = .ok (.ineg, 1) := by decide +kernel
theorem dX5_trade_24 : decode cX5_trade 24 = .ok (.iload 5, 2) := by decide +kernel
theorem dX5_trade_26 : decode cX5_trade 26 = .ok (.invokestatic 237, 3) := by decide +kernel
theorem dX5_trade_29 : decode cX5_trade 29 = .ok (.aload_n 0, 1) := by decide +kernel
theorem dX5_trade_30 : decode cX5_trade 30 = .ok (.getfield 34, 3) := by decide +kernel
theorem dX5_trade_33 : decode cX5_trade 33 = .ok (.new 180, 3) := by decide +kernel
theorem dX5_trade_36 : decode cX5_trade 36 = .ok (.dup, 1) := by decide +kernel
theorem dX5_trade_37 : decode cX5_trade 37 = .ok (.iload_n 1, 1) := by decide +kernel
theorem dX5_trade_38 : decode cX5_trade 38 = .ok (.iload_n 2, 1) := by decide +kernel
theorem dX5_trade_39 : decode cX5_trade 39 = .ok (.iload_n 3, 1) := by decide +kernel
theorem dX5_trade_40 : decode cX5_trade 40 = .ok (.iload 4, 2) := by decide +kernel
theorem dX5_trade_42 : decode cX5_trade 42 = .ok (.iload 5, 2) := by decide +kernel
theorem dX5_trade_44 : decode cX5_trade 44 = .ok (.invokespecial 241, 3) := by decide +kernel
theorem dX5_trade_47 : decode cX5_trade 47 = .ok (.invokevirtual 120, 3) := by decide +kernel
theorem dX5_trade_50 : decode cX5_trade 50 = .ok (.pop, 1) := by decide +kernel
theorem dX5_trade_51 : decode cX5_trade 51 = .ok (.aload_n 0, 1) := by decide +kernel
theorem dX5_trade_52 : decode cX5_trade 52 = .ok (.dup, 1) := by decide +kernel
theorem dX5_trade_53 : decode cX5_trade 53 = .ok (.getfield 152, 3) := by decide +kernel
theorem dX5_trade_56 : decode cX5_trade 56 = .ok (.iconst 1, 1) := by decide +kernel
theorem dX5_trade_57 : decode cX5_trade 57 = .ok (.iadd, 1) := by decide +kernel
theorem dX5_trade_58 : decode cX5_trade 58 = .ok (.putfield 152, 3) := by decide +kernel
theorem dX5_trade_61 : decode cX5_trade 61 = .ok (.return_, 1) := by decide +kernel
theorem dX5_book_0 : decode cX5_book 0 = .ok (.aload_n 0, 1) := by decide +kernel
theorem dX5_book_1 : decode cX5_book 1 = .ok (.getfield 171, 3) := by decide +kernel
theorem dX5_book_4 : decode cX5_book 4 = .ok (.iload_n 1, 1) := by decide +kernel
theorem dX5_book_5 : decode cX5_book 5 = .ok (.dup2, 1) := by decide +kernel
theorem dX5_book_6 : decode cX5_book 6 = .ok (.iaload, 1) := by decide +kernel
theorem dX5_book_7 : decode cX5_book 7 = .ok (.iload_n 2, 1) := by decide +kernel
theorem dX5_book_8 : decode cX5_book 8 = .ok (.iadd, 1) := by decide +kernel
theorem dX5_book_9 : decode cX5_book 9 = .ok (.iastore, 1) := by decide +kernel
theorem dX5_book_10 : decode cX5_book 10 = .ok (.aload_n 0, 1) := by decide +kernel
theorem dX5_book_11 : decode cX5_book 11 = .ok (.getfield 243, 3) := by decide +kernel
theorem dX5_book_14 : decode cX5_book 14 = .ok (.iload_n 1, 1) := by decide +kernel
theorem dX5_book_15 : decode cX5_book 15 = .ok (.dup2, 1) := by decide +kernel
theorem dX5_book_16 : decode cX5_book 16 = .ok (.laload, 1) := by decide +kernel
theorem dX5_book_17 : decode cX5_book 17 = .ok (.iload_n 2, 1) := by decide +kernel
theorem dX5_book_18 : decode cX5_book 18 = .ok (.i2l, 1) := by decide +kernel
theorem dX5_book_19 : decode cX5_book 19 = .ok (.iload_n 3, 1) := by decide +kernel
theorem dX5_book_20 : decode cX5_book 20 = .ok (.i2l, 1) := by decide +kernel
theorem dX5_book_21 : decode cX5_book 21 = .ok (.lmul, 1) := by decide +kernel
theorem dX5_book_22 : decode cX5_book 22 = .ok (.ladd, 1) := by decide +kernel
theorem dX5_book_23 : decode cX5_book 23 = .ok (.lastore, 1) := by decide +kernel
theorem dX5_book_24 : decode cX5_book 24 = .ok (.return_, 1) := by decide +kernel
theorem dX5_cancelOrdersFor_0 : decode cX5_cancelOrdersFor 0 = .ok (.iconst 0, 1) := by decide +kernel
theorem dX5_cancelOrdersFor_1 : decode cX5_cancelOrdersFor 1 = .ok (.istore_n 2, 1) := by decide +kernel
theorem dX5_cancelOrdersFor_2 : decode cX5_cancelOrdersFor 2 = .ok (.iconst 0, 1) := by decide +kernel
theorem dX5_cancelOrdersFor_3 : decode cX5_cancelOrdersFor 3 = .ok (.istore_n 3, 1) := by decide +kernel
theorem dX5_cancelOrdersFor_4 : decode cX5_cancelOrdersFor 4 = .ok (.iload_n 3, 1) := by decide +kernel
theorem dX5_cancelOrdersFor_5 : decode cX5_cancelOrdersFor 5 = .ok (.aload_n 0, 1) := by decide +kernel
theorem dX5_cancelOrdersFor_6 : decode cX5_cancelOrdersFor 6 = .ok (.getfield 30, 3) := by decide +kernel
theorem dX5_cancelOrdersFor_9 : decode cX5_cancelOrdersFor 9 = .ok (.invokevirtual 108, 3) := by decide +kernel
theorem dX5_cancelOrdersFor_12 : decode cX5_cancelOrdersFor 12 = .ok (.if_icmp .ge 48, 3) := by decide +kernel
theorem dX5_cancelOrdersFor_15 : decode cX5_cancelOrdersFor 15 = .ok (.aload_n 0, 1) := by decide +kernel
theorem dX5_cancelOrdersFor_16 : decode cX5_cancelOrdersFor 16 = .ok (.getfield 30, 3) := by decide +kernel
theorem dX5_cancelOrdersFor_19 : decode cX5_cancelOrdersFor 19 = .ok (.iload_n 3, 1) := by decide +kernel
theorem dX5_cancelOrdersFor_20 : decode cX5_cancelOrdersFor 20 = .ok (.invokevirtual 131, 3) := by decide +kernel
theorem dX5_cancelOrdersFor_23 : decode cX5_cancelOrdersFor 23 = .ok (.checkcast 115, 3) := by decide +kernel
theorem dX5_cancelOrdersFor_26 : decode cX5_cancelOrdersFor 26 = .ok (.astore 4, 2) := by decide +kernel
theorem dX5_cancelOrdersFor_28 : decode cX5_cancelOrdersFor 28 = .ok (.aload 4, 2) := by decide +kernel
theorem dX5_cancelOrdersFor_30 : decode cX5_cancelOrdersFor 30 = .ok (.getfield 135, 3) := by decide +kernel
theorem dX5_cancelOrdersFor_33 : decode cX5_cancelOrdersFor 33 = .ok (.ifCond .le 21, 3) := by decide +kernel
theorem dX5_cancelOrdersFor_36 : decode cX5_cancelOrdersFor 36 = .ok (.aload 4, 2) := by decide +kernel
theorem dX5_cancelOrdersFor_38 : decode cX5_cancelOrdersFor 38 = .ok (.getfield 204, 3) := by decide +kernel
theorem dX5_cancelOrdersFor_41 : decode cX5_cancelOrdersFor 41 = .ok (.iload_n 1, 1) := by decide +kernel
theorem dX5_cancelOrdersFor_42 : decode cX5_cancelOrdersFor 42 = .ok (.if_icmp .ne 12, 3) := by decide +kernel
theorem dX5_cancelOrdersFor_45 : decode cX5_cancelOrdersFor 45 = .ok (.aload 4, 2) := by decide +kernel
theorem dX5_cancelOrdersFor_47 : decode cX5_cancelOrdersFor 47 = .ok (.iconst 0, 1) := by decide +kernel
theorem dX5_cancelOrdersFor_48 : decode cX5_cancelOrdersFor 48 = .ok (.putfield 135, 3) := by decide +kernel
theorem dX5_cancelOrdersFor_51 : decode cX5_cancelOrdersFor 51 = .ok (.iinc 2 1, 3) := by decide +kernel
theorem dX5_cancelOrdersFor_54 : decode cX5_cancelOrdersFor 54 = .ok (.iinc 3 1, 3) := by decide +kernel
theorem dX5_cancelOrdersFor_57 : decode cX5_cancelOrdersFor 57 = .ok (.goto (-53), 3) := by decide +kernel
theorem dX5_cancelOrdersFor_60 : decode cX5_cancelOrdersFor 60 = .ok (.iload_n 2, 1) := by decide +kernel
theorem dX5_cancelOrdersFor_61 : decode cX5_cancelOrdersFor 61 = .ok (.ireturn, 1) := by decide +kernel
theorem dX5_cancelOrdersOf_0 : decode cX5_cancelOrdersOf 0 = .ok (.iconst 0, 1) := by decide +kernel
theorem dX5_cancelOrdersOf_1 : decode cX5_cancelOrdersOf 1 = .ok (.istore_n 2, 1) := by decide +kernel
theorem dX5_cancelOrdersOf_2 : decode cX5_cancelOrdersOf 2 = .ok (.iload_n 2, 1) := by decide +kernel
theorem dX5_cancelOrdersOf_3 : decode cX5_cancelOrdersOf 3 = .ok (.aload_n 0, 1) := by decide +kernel
theorem dX5_cancelOrdersOf_4 : decode cX5_cancelOrdersOf 4 = .ok (.getfield 30, 3) := by decide +kernel
theorem dX5_cancelOrdersOf_7 : decode cX5_cancelOrdersOf 7 = .ok (.invokevirtual 108, 3) := by decide +kernel
theorem dX5_cancelOrdersOf_10 : decode cX5_cancelOrdersOf 10 = .ok (.if_icmp .ge 34, 3) := by decide +kernel
theorem dX5_cancelOrdersOf_13 : decode cX5_cancelOrdersOf 13 = .ok (.aload_n 0, 1) := by decide +kernel
theorem dX5_cancelOrdersOf_14 : decode cX5_cancelOrdersOf 14 = .ok (.getfield 30, 3) := by decide +kernel
theorem dX5_cancelOrdersOf_17 : decode cX5_cancelOrdersOf 17 = .ok (.iload_n 2, 1) := by decide +kernel
theorem dX5_cancelOrdersOf_18 : decode cX5_cancelOrdersOf 18 = .ok (.invokevirtual 131, 3) := by decide +kernel
theorem dX5_cancelOrdersOf_21 : decode cX5_cancelOrdersOf 21 = .ok (.checkcast 115, 3) := by decide +kernel
theorem dX5_cancelOrdersOf_24 : decode cX5_cancelOrdersOf 24 = .ok (.astore_n 3, 1) := by decide +kernel
theorem dX5_cancelOrdersOf_25 : decode cX5_cancelOrdersOf 25 = .ok (.aload_n 3, 1) := by decide +kernel
theorem dX5_cancelOrdersOf_26 : decode cX5_cancelOrdersOf 26 = .ok (.getfield 220, 3) := by decide +kernel
theorem dX5_cancelOrdersOf_29 : decode cX5_cancelOrdersOf 29 = .ok (.iload_n 1, 1) := by decide +kernel
theorem dX5_cancelOrdersOf_30 : decode cX5_cancelOrdersOf 30 = .ok (.if_icmp .ne 8, 3) := by decide +kernel
theorem dX5_cancelOrdersOf_33 : decode cX5_cancelOrdersOf 33 = .ok (.aload_n 3, 1) := by decide +kernel
theorem dX5_cancelOrdersOf_34 : decode cX5_cancelOrdersOf 34 = .ok (.iconst 0, 1) := by decide +kernel
theorem dX5_cancelOrdersOf_35 : decode cX5_cancelOrdersOf 35 = .ok (.putfield 135, 3) := by decide +kernel
theorem dX5_cancelOrdersOf_38 : decode cX5_cancelOrdersOf 38 = .ok (.iinc 2 1, 3) := by decide +kernel
theorem dX5_cancelOrdersOf_41 : decode cX5_cancelOrdersOf 41 = .ok (.goto (-39), 3) := by decide +kernel
theorem dX5_cancelOrdersOf_44 : decode cX5_cancelOrdersOf 44 = .ok (.return_, 1) := by decide +kernel
theorem dX5_freeOf_0 : decode cX5_freeOf 0 = .ok (.aload_n 0, 1) := by decide +kernel
theorem dX5_freeOf_1 : decode cX5_freeOf 1 = .ok (.iload_n 1, 1) := by decide +kernel
theorem dX5_freeOf_2 : decode cX5_freeOf 2 = .ok (.invokevirtual 174, 3) := by decide +kernel
theorem dX5_freeOf_5 : decode cX5_freeOf 5 = .ok (.aload_n 0, 1) := by decide +kernel
theorem dX5_freeOf_6 : decode cX5_freeOf 6 = .ok (.iload_n 1, 1) := by decide +kernel
theorem dX5_freeOf_7 : decode cX5_freeOf 7 = .ok (.invokevirtual 189, 3) := by decide +kernel
theorem dX5_freeOf_10 : decode cX5_freeOf 10 = .ok (.ladd, 1) := by decide +kernel
theorem dX5_freeOf_11 : decode cX5_freeOf 11 = .ok (.aload_n 0, 1) := by decide +kernel
theorem dX5_freeOf_12 : decode cX5_freeOf 12 = .ok (.iload_n 1, 1) := by decide +kernel
theorem dX5_freeOf_13 : decode cX5_freeOf 13 = .ok (.invokevirtual 186, 3) := by decide +kernel
theorem dX5_freeOf_16 : decode cX5_freeOf 16 = .ok (.lsub, 1) := by decide +kernel
theorem dX5_freeOf_17 : decode cX5_freeOf 17 = .ok (.lreturn, 1) := by decide +kernel
theorem dX5_equityOf_0 : decode cX5_equityOf 0 = .ok (.aload_n 0, 1) := by decide +kernel
theorem dX5_equityOf_1 : decode cX5_equityOf 1 = .ok (.getfield 11, 3) := by decide +kernel
theorem dX5_equityOf_4 : decode cX5_equityOf 4 = .ok (.iload_n 1, 1) := by decide +kernel
theorem dX5_equityOf_5 : decode cX5_equityOf 5 = .ok (.aaload, 1) := by decide +kernel
theorem dX5_equityOf_6 : decode cX5_equityOf 6 = .ok (.astore_n 2, 1) := by decide +kernel
theorem dX5_equityOf_7 : decode cX5_equityOf 7 = .ok (.aload_n 2, 1) := by decide +kernel
theorem dX5_equityOf_8 : decode cX5_equityOf 8 = .ok (.getfield 94, 3) := by decide +kernel
theorem dX5_equityOf_11 : decode cX5_equityOf 11 = .ok (.lstore_n 3, 1) := by decide +kernel
theorem dX5_equityOf_12 : decode cX5_equityOf 12 = .ok (.iconst 0, 1) := by decide +kernel
theorem dX5_equityOf_13 : decode cX5_equityOf 13 = .ok (.istore 5, 2) := by decide +kernel
theorem dX5_equityOf_15 : decode cX5_equityOf 15 = .ok (.iload 5, 2) := by decide +kernel
theorem dX5_equityOf_17 : decode cX5_equityOf 17 = .ok (.iconst 3, 1) := by decide +kernel
theorem dX5_equityOf_18 : decode cX5_equityOf 18 = .ok (.if_icmp .ge 19, 3) := by decide +kernel
theorem dX5_equityOf_21 : decode cX5_equityOf 21 = .ok (.lload_n 3, 1) := by decide +kernel
theorem dX5_equityOf_22 : decode cX5_equityOf 22 = .ok (.aload_n 0, 1) := by decide +kernel
theorem dX5_equityOf_23 : decode cX5_equityOf 23 = .ok (.aload_n 2, 1) := by decide +kernel
theorem dX5_equityOf_24 : decode cX5_equityOf 24 = .ok (.iload 5, 2) := by decide +kernel
theorem dX5_equityOf_26 : decode cX5_equityOf 26 = .ok (.invokevirtual 246, 3) := by decide +kernel
theorem dX5_equityOf_29 : decode cX5_equityOf 29 = .ok (.ladd, 1) := by decide +kernel
theorem dX5_equityOf_30 : decode cX5_equityOf 30 = .ok (.lstore_n 3, 1) := by decide +kernel
theorem dX5_equityOf_31 : decode cX5_equityOf 31 = .ok (.iinc 5 1, 3) := by decide +kernel
theorem dX5_equityOf_34 : decode cX5_equityOf 34 = .ok (.goto (-19), 3) := by decide +kernel
theorem dX5_equityOf_37 : decode cX5_equityOf 37 = .ok (.lload_n 3, 1) := by decide +kernel
theorem dX5_equityOf_38 : decode cX5_equityOf 38 = .ok (.lreturn, 1) := by decide +kernel
theorem dX5_differenceOf_0 : decode cX5_differenceOf 0 = .ok (.aload_n 1, 1) := by decide +kernel
theorem dX5_differenceOf_1 : decode cX5_differenceOf 1 = .ok (.getfield 171, 3) := by decide +kernel
theorem dX5_differenceOf_4 : decode cX5_differenceOf 4 = .ok (.iload_n 2, 1) := by decide +kernel
theorem dX5_differenceOf_5 : decode cX5_differenceOf 5 = .ok (.iaload, 1) := by decide +kernel
theorem dX5_differenceOf_6 : decode cX5_differenceOf 6 = .ok (.i2l, 1) := by decide +kernel
theorem dX5_differenceOf_7 : decode cX5_differenceOf 7 = .ok (.aload_n 0, 1) := by decide +kernel
theorem dX5_differenceOf_8 : decode cX5_differenceOf 8 = .ok (.getfield 17, 3) := by decide +kernel
theorem dX5_differenceOf_11 : decode cX5_differenceOf 11 = .ok (.iload_n 2, 1) := by decide +kernel
theorem dX5_differenceOf_12 : decode cX5_differenceOf 12 = .ok (.aaload, 1) := by decide +kernel
theorem dX5_differenceOf_13 : decode cX5_differenceOf 13 = .ok (.getfield 52, 3) := by decide +kernel
theorem dX5_differenceOf_16 : decode cX5_differenceOf 16 = .ok (.i2l, 1) := by decide +kernel
theorem dX5_differenceOf_17 : decode cX5_differenceOf 17 = .ok (.lmul, 1) := by decide +kernel
theorem dX5_differenceOf_18 : decode cX5_differenceOf 18 = .ok (.aload_n 1, 1) := by decide +kernel
theorem dX5_differenceOf_19 : decode cX5_differenceOf 19 = .ok (.getfield 243, 3) := by decide +kernel
theorem dX5_differenceOf_22 : decode cX5_differenceOf 22 = .ok (.iload_n 2, 1) := by decide +kernel
theorem dX5_differenceOf_23 : decode cX5_differenceOf 23 = .ok (.laload, 1) := by decide +kernel
theorem dX5_differenceOf_24 : decode cX5_differenceOf 24 = .ok (.lsub, 1) := by decide +kernel
theorem dX5_differenceOf_25 : decode cX5_differenceOf 25 = .ok (.lreturn, 1) := by decide +kernel
theorem dX5_gainOf_0 : decode cX5_gainOf 0 = .ok (.aload_n 2, 1) := by decide +kernel
theorem dX5_gainOf_1 : decode cX5_gainOf 1 = .ok (.getfield 250, 3) := by decide +kernel
theorem dX5_gainOf_4 : decode cX5_gainOf 4 = .ok (.i2l, 1) := by decide +kernel
theorem dX5_gainOf_5 : decode cX5_gainOf 5 = .ok (.aload_n 0, 1) := by decide +kernel
theorem dX5_gainOf_6 : decode cX5_gainOf 6 = .ok (.getfield 17, 3) := by decide +kernel
theorem dX5_gainOf_9 : decode cX5_gainOf 9 = .ok (.aload_n 2, 1) := by decide +kernel
theorem dX5_gainOf_10 : decode cX5_gainOf 10 = .ok (.getfield 253, 3) := by decide +kernel
theorem dX5_gainOf_13 : decode cX5_gainOf 13 = .ok (.aaload, 1) := by decide +kernel
theorem dX5_gainOf_14 : decode cX5_gainOf 14 = .ok (.getfield 52, 3) := by decide +kernel
theorem dX5_gainOf_17 : decode cX5_gainOf 17 = .ok (.aload_n 2, 1) := by decide +kernel
theorem dX5_gainOf_18 : decode cX5_gainOf 18 = .ok (.getfield 254, 3) := by decide +kernel
theorem dX5_gainOf_21 : decode cX5_gainOf 21 = .ok (.isub, 1) := by decide +kernel
theorem dX5_gainOf_22 : decode cX5_gainOf 22 = .ok (.i2l, 1) := by decide +kernel
theorem dX5_gainOf_23 : decode cX5_gainOf 23 = .ok (.lmul, 1) := by decide +kernel
theorem dX5_gainOf_24 : decode cX5_gainOf 24 = .ok (.lstore_n 3, 1) := by decide +kernel
theorem dX5_gainOf_25 : decode cX5_gainOf 25 = .ok (.aload_n 2, 1) := by decide +kernel
theorem dX5_gainOf_26 : decode cX5_gainOf 26 = .ok (.getfield 255, 3) := by decide +kernel
theorem dX5_gainOf_29 : decode cX5_gainOf 29 = .ok (.iload_n 1, 1) := by decide +kernel
theorem dX5_gainOf_30 : decode cX5_gainOf 30 = .ok (.if_icmp .ne 5, 3) := by decide +kernel
theorem dX5_gainOf_33 : decode cX5_gainOf 33 = .ok (.lload_n 3, 1) := by decide +kernel
theorem dX5_gainOf_34 : decode cX5_gainOf 34 = .ok (.lreturn, 1) := by decide +kernel
theorem dX5_gainOf_35 : decode cX5_gainOf 35 = .ok (.aload_n 2, 1) := by decide +kernel
theorem dX5_gainOf_36 : decode cX5_gainOf 36 = .ok (.getfield 258, 3) := by decide +kernel
theorem dX5_gainOf_39 : decode cX5_gainOf 39 = .ok (.iload_n 1, 1) := by decide +kernel
theorem dX5_gainOf_40 : decode cX5_gainOf 40 = .ok (.if_icmp .ne 8, 3) := by decide +kernel
theorem dX5_gainOf_43 : decode cX5_gainOf 43 = .ok (.lload_n 3, 1) := by decide +kernel
theorem dX5_gainOf_44 : decode cX5_gainOf 44 = .ok (.lneg, 1) := by decide +kernel
theorem dX5_gainOf_45 : decode cX5_gainOf 45 = .ok (.goto 4, 3) := by decide +kernel
theorem dX5_gainOf_48 : decode cX5_gainOf 48 = .ok (.lconst 0, 1) := by decide +kernel
theorem dX5_gainOf_49 : decode cX5_gainOf 49 = .ok (.lreturn, 1) := by decide +kernel
theorem dX5_collateralOf_0 : decode cX5_collateralOf 0 = .ok (.lconst 0, 1) := by decide +kernel
theorem dX5_collateralOf_1 : decode cX5_collateralOf 1 = .ok (.lstore_n 2, 1) := by decide +kernel
theorem dX5_collateralOf_2 : decode cX5_collateralOf 2 = .ok (.iconst 0, 1) := by decide +kernel
theorem dX5_collateralOf_3 : decode cX5_collateralOf 3 = .ok (.istore 4, 2) := by decide +kernel
theorem dX5_collateralOf_5 : decode cX5_collateralOf 5 = .ok (.iload 4, 2) := by decide +kernel
theorem dX5_collateralOf_7 : decode cX5_collateralOf 7 = .ok (.iconst 2, 1) := by decide +kernel
theorem dX5_collateralOf_8 : decode cX5_collateralOf 8 = .ok (.if_icmp .ge 30, 3) := by decide +kernel
theorem dX5_collateralOf_11 : decode cX5_collateralOf 11 = .ok (.lload_n 2, 1) := by decide +kernel
theorem dX5_collateralOf_12 : decode cX5_collateralOf 12 = .ok (.aload_n 0, 1) := by decide +kernel
theorem dX5_collateralOf_13 : decode cX5_collateralOf 13 = .ok (.iload 4, 2) := by decide +kernel
theorem dX5_collateralOf_15 : decode cX5_collateralOf 15 = .ok (.aload_n 0, 1) := by decide +kernel
theorem dX5_collateralOf_16 : decode cX5_collateralOf 16 = .ok (.getfield 11, 3) := by decide +kernel
theorem dX5_collateralOf_19 : decode cX5_collateralOf 19 = .ok (.iload_n 1, 1) := by decide +kernel
theorem dX5_collateralOf_20 : decode cX5_collateralOf 20 = .ok (.aaload, 1) := by decide +kernel
theorem dX5_collateralOf_21 : decode cX5_collateralOf 21 = .ok (.getfield 98, 3) := by decide +kernel
theorem dX5_collateralOf_24 : decode cX5_collateralOf 24 = .ok (.iload 4, 2) := by decide +kernel
theorem dX5_collateralOf_26 : decode cX5_collateralOf 26 = .ok (.iaload, 1) := by decide +kernel
theorem dX5_collateralOf_27 : decode cX5_collateralOf 27 = .ok (.invokevirtual 101, 3) := by decide +kernel
theorem dX5_collateralOf_30 : decode cX5_collateralOf 30 = .ok (.ladd, 1) := by decide +kernel
theorem dX5_collateralOf_31 : decode cX5_collateralOf 31 = .ok (.lstore_n 2, 1) := by decide +kernel
theorem dX5_collateralOf_32 : decode cX5_collateralOf 32 = .ok (.iinc 4 1, 3) := by decide +kernel
theorem dX5_collateralOf_35 : decode cX5_collateralOf 35 = .ok (.goto (-30), 3) := by decide +kernel
theorem dX5_collateralOf_38 : decode cX5_collateralOf 38 = .ok (.lload_n 2, 1) := by decide +kernel
theorem dX5_collateralOf_39 : decode cX5_collateralOf 39 = .ok (.lreturn, 1) := by decide +kernel
theorem dX5_worthOf_0 : decode cX5_worthOf 0 = .ok (.aload_n 0, 1) := by decide +kernel
theorem dX5_worthOf_1 : decode cX5_worthOf 1 = .ok (.getfield 23, 3) := by decide +kernel
theorem dX5_worthOf_4 : decode cX5_worthOf 4 = .ok (.iload_n 1, 1) := by decide +kernel
theorem dX5_worthOf_5 : decode cX5_worthOf 5 = .ok (.aaload, 1) := by decide +kernel
theorem dX5_worthOf_6 : decode cX5_worthOf 6 = .ok (.getfield 63, 3) := by decide +kernel
theorem dX5_worthOf_9 : decode cX5_worthOf 9 = .ok (.iconst 3, 1) := by decide +kernel
theorem dX5_worthOf_10 : decode cX5_worthOf 10 = .ok (.iaload, 1) := by decide +kernel
theorem dX5_worthOf_11 : decode cX5_worthOf 11 = .ok (.istore_n 3, 1) := by decide +kernel
theorem dX5_worthOf_12 : decode cX5_worthOf 12 = .ok (.iload_n 2, 1) := by decide +kernel
theorem dX5_worthOf_13 : decode cX5_worthOf 13 = .ok (.i2l, 1) := by decide +kernel
theorem dX5_worthOf_14 : decode cX5_worthOf 14 = .ok (.iload_n 3, 1) := by decide +kernel
theorem dX5_worthOf_15 : decode cX5_worthOf 15 = .ok (.i2l, 1) := by decide +kernel
theorem dX5_worthOf_16 : decode cX5_worthOf 16 = .ok (.lmul, 1) := by decide +kernel
theorem dX5_worthOf_17 : decode cX5_worthOf 17 = .ok (.bipush 100, 2) := by decide +kernel
theorem dX5_worthOf_19 : decode cX5_worthOf 19 = .ok (.aload_n 0, 1) := by decide +kernel
theorem dX5_worthOf_20 : decode cX5_worthOf 20 = .ok (.getfield 23, 3) := by decide +kernel
theorem dX5_worthOf_23 : decode cX5_worthOf 23 = .ok (.iload_n 1, 1) := by decide +kernel
theorem dX5_worthOf_24 : decode cX5_worthOf 24 = .ok (.aaload, 1) := by decide +kernel
theorem dX5_worthOf_25 : decode cX5_worthOf 25 = .ok (.getfield 70, 3) := by decide +kernel
theorem dX5_worthOf_28 : decode cX5_worthOf 28 = .ok (.isub, 1) := by decide +kernel
theorem dX5_worthOf_29 : decode cX5_worthOf 29 = .ok (.i2l, 1) := by decide +kernel
theorem dX5_worthOf_30 : decode cX5_worthOf 30 = .ok (.lmul, 1) := by decide +kernel
theorem dX5_worthOf_31 : decode cX5_worthOf 31 = .ok (.ldc2_w 261, 3) := by decide +kernel
theorem dX5_worthOf_34 : decode cX5_worthOf 34 = .ok (.ldiv, 1) := by decide +kernel
theorem dX5_worthOf_35 : decode cX5_worthOf 35 = .ok (.lreturn, 1) := by decide +kernel
theorem dX5_haircutBy_0 : decode cX5_haircutBy 0 = .ok (.iload_n 1, 1) := by decide +kernel
theorem dX5_haircutBy_1 : decode cX5_haircutBy 1 = .ok (.istore_n 2, 1) := by decide +kernel
theorem dX5_haircutBy_2 : decode cX5_haircutBy 2 = .ok (.iload_n 1, 1) := by decide +kernel
theorem dX5_haircutBy_3 : decode cX5_haircutBy 3 = .ok (.istore_n 3, 1) := by decide +kernel
theorem dX5_haircutBy_4 : decode cX5_haircutBy 4 = .ok (.iconst 0, 1) := by decide +kernel
theorem dX5_haircutBy_5 : decode cX5_haircutBy 5 = .ok (.istore 4, 2) := by decide +kernel
theorem dX5_haircutBy_7 : decode cX5_haircutBy 7 = .ok (.iload 4, 2) := by decide +kernel
theorem dX5_haircutBy_9 : decode cX5_haircutBy 9 = .ok (.aload_n 0, 1) := by decide +kernel
theorem dX5_haircutBy_10 : decode cX5_haircutBy 10 = .ok (.arraylength, 1) := by decide +kernel
theorem dX5_haircutBy_11 : decode cX5_haircutBy 11 = .ok (.if_icmp .ge 27, 3) := by decide +kernel
theorem dX5_haircutBy_14 : decode cX5_haircutBy 14 = .ok (.iload_n 2, 1) := by decide +kernel
theorem dX5_haircutBy_15 : decode cX5_haircutBy 15 = .ok (.aload_n 0, 1) := by decide +kernel
theorem dX5_haircutBy_16 : decode cX5_haircutBy 16 = .ok (.iload 4, 2) := by decide +kernel
theorem dX5_haircutBy_18 : decode cX5_haircutBy 18 = .ok (.iaload, 1) := by decide +kernel
theorem dX5_haircutBy_19 : decode cX5_haircutBy 19 = .ok (.invokestatic 263, 3) := by decide +kernel
theorem dX5_haircutBy_22 : decode cX5_haircutBy 22 = .ok (.istore_n 2, 1) := by decide +kernel
theorem dX5_haircutBy_23 : decode cX5_haircutBy 23 = .ok (.iload_n 3, 1) := by decide +kernel
theorem dX5_haircutBy_24 : decode cX5_haircutBy 24 = .ok (.aload_n 0, 1) := by decide +kernel
theorem dX5_haircutBy_25 : decode cX5_haircutBy 25 = .ok (.iload 4, 2) := by decide +kernel
theorem dX5_haircutBy_27 : decode cX5_haircutBy 27 = .ok (.iaload, 1) := by decide +kernel
theorem dX5_haircutBy_28 : decode cX5_haircutBy 28 = .ok (.invokestatic 223, 3) := by decide +kernel
theorem dX5_haircutBy_31 : decode cX5_haircutBy 31 = .ok (.istore_n 3, 1) := by decide +kernel
theorem dX5_haircutBy_32 : decode cX5_haircutBy 32 = .ok (.iinc 4 1, 3) := by decide +kernel
theorem dX5_haircutBy_35 : decode cX5_haircutBy 35 = .ok (.goto (-28), 3) := by decide +kernel
theorem dX5_haircutBy_38 : decode cX5_haircutBy 38 = .ok (.bipush 90, 2) := by decide +kernel
theorem dX5_haircutBy_40 : decode cX5_haircutBy 40 = .ok (.bipush 10, 2) := by decide +kernel
theorem dX5_haircutBy_42 : decode cX5_haircutBy 42 = .ok (.iload_n 2, 1) := by decide +kernel
theorem dX5_haircutBy_43 : decode cX5_haircutBy 43 = .ok (.iload_n 3, 1) := by decide +kernel
theorem dX5_haircutBy_44 : decode cX5_haircutBy 44 = .ok (.isub, 1) := by decide +kernel
theorem dX5_haircutBy_45 : decode cX5_haircutBy 45 = .ok (.bipush 100, 2) := by decide +kernel
theorem dX5_haircutBy_47 : decode cX5_haircutBy 47 = .ok (.imul, 1) := by decide +kernel
theorem dX5_haircutBy_48 : decode cX5_haircutBy 48 = .ok (.iload_n 1, 1) := by decide +kernel
theorem dX5_haircutBy_49 : decode cX5_haircutBy 49 = .ok (.invokestatic 266, 3) := by decide +kernel
theorem dX5_haircutBy_52 : decode cX5_haircutBy 52 = .ok (.iadd, 1) := by decide +kernel
theorem dX5_haircutBy_53 : decode cX5_haircutBy 53 = .ok (.invokestatic 223, 3) := by decide +kernel
theorem dX5_haircutBy_56 : decode cX5_haircutBy 56 = .ok (.ireturn, 1) := by decide +kernel
theorem dX5_dividedUp_0 : decode cX5_dividedUp 0 = .ok (.iload_n 1, 1) := by decide +kernel
theorem dX5_dividedUp_1 : decode cX5_dividedUp 1 = .ok (.iconst 1, 1) := by decide +kernel
theorem dX5_dividedUp_2 : decode cX5_dividedUp 2 = .ok (.if_icmp .ge 7, 3) := by decide +kernel
theorem dX5_dividedUp_5 : decode cX5_dividedUp 5 = .ok (.iconst 0, 1) := by decide +kernel
theorem dX5_dividedUp_6 : decode cX5_dividedUp 6 = .ok (.goto 10, 3) := by decide +kernel
theorem dX5_dividedUp_9 : decode cX5_dividedUp 9 = .ok (.iload_n 0, 1) := by decide +kernel
theorem dX5_dividedUp_10 : decode cX5_dividedUp 10 = .ok (.iload_n 1, 1) := by decide +kernel
theorem dX5_dividedUp_11 : decode cX5_dividedUp 11 = .ok (.iadd, 1) := by decide +kernel
theorem dX5_dividedUp_12 : decode cX5_dividedUp 12 = .ok (.iconst 1, 1) := by decide +kernel
theorem dX5_dividedUp_13 : decode cX5_dividedUp 13 = .ok (.isub, 1) := by decide +kernel
theorem dX5_dividedUp_14 : decode cX5_dividedUp 14 = .ok (.iload_n 1, 1) := by decide +kernel
theorem dX5_dividedUp_15 : decode cX5_dividedUp 15 = .ok (.idiv, 1) := by decide +kernel
theorem dX5_dividedUp_16 : decode cX5_dividedUp 16 = .ok (.ireturn, 1) := by decide +kernel
theorem dX5_marginOf_0 : decode cX5_marginOf 0 = .ok (.iconst 0, 1) := by decide +kernel
theorem dX5_marginOf_1 : decode cX5_marginOf 1 = .ok (.istore_n 2, 1) := by decide +kernel
theorem dX5_marginOf_2 : decode cX5_marginOf 2 = .ok (.iload_n 2, 1) := by decide +kernel
theorem dX5_marginOf_3 : decode cX5_marginOf 3 = .ok (.iconst 4, 1) := by decide +kernel
theorem dX5_marginOf_4 : decode cX5_marginOf 4 = .ok (.if_icmp .ge 16, 3) := by decide +kernel
theorem dX5_marginOf_7 : decode cX5_marginOf 7 = .ok (.aload_n 0, 1) := by decide +kernel
theorem dX5_marginOf_8 : decode cX5_marginOf 8 = .ok (.getfield 37, 3) := by decide +kernel
theorem dX5_marginOf_11 : decode cX5_marginOf 11 = .ok (.iload_n 2, 1) := by decide +kernel
theorem dX5_marginOf_12 : decode cX5_marginOf 12 = .ok (.lconst 0, 1) := by decide +kernel
theorem dX5_marginOf_13 : decode cX5_marginOf 13 = .ok (.lastore, 1) := by decide +kernel
theorem dX5_marginOf_14 : decode cX5_marginOf 14 = .ok (.iinc 2 1, 3) := by decide +kernel
theorem dX5_marginOf_17 : decode cX5_marginOf 17 = .ok (.goto (-15), 3) := by decide +kernel
theorem dX5_marginOf_20 : decode cX5_marginOf 20 = .ok (.iconst 0, 1) := by decide +kernel
theorem dX5_marginOf_21 : decode cX5_marginOf 21 = .ok (.istore_n 2, 1) := by decide +kernel
theorem dX5_marginOf_22 : decode cX5_marginOf 22 = .ok (.iload_n 2, 1) := by decide +kernel
theorem dX5_marginOf_23 : decode cX5_marginOf 23 = .ok (.iconst 3, 1) := by decide +kernel
theorem dX5_marginOf_24 : decode cX5_marginOf 24 = .ok (.if_icmp .ge 99, 3) := by decide +kernel
theorem dX5_marginOf_27 : decode cX5_marginOf 27 = .ok (.aload_n 0, 1) := by decide +kernel
theorem dX5_marginOf_28 : decode cX5_marginOf 28 = .ok (.getfield 11, 3) := by decide +kernel
theorem dX5_marginOf_31 : decode cX5_marginOf 31 = .ok (.iload_n 1, 1) := by decide +kernel
theorem dX5_marginOf_32 : decode cX5_marginOf 32 = .ok (.aaload, 1) := by decide +kernel
theorem dX5_marginOf_33 : decode cX5_marginOf 33 = .ok (.getfield 171, 3) := by decide +kernel
theorem dX5_marginOf_36 : decode cX5_marginOf 36 = .ok (.iload_n 2, 1) := by decide +kernel
theorem dX5_marginOf_37 : decode cX5_marginOf 37 = .ok (.iaload, 1) := by decide +kernel
theorem dX5_marginOf_38 : decode cX5_marginOf 38 = .ok (.i2l, 1) := by decide +kernel
theorem dX5_marginOf_39 : decode cX5_marginOf 39 = .ok (.lstore_n 3, 1) := by decide +kernel
theorem dX5_marginOf_40 : decode cX5_marginOf 40 = .ok (.lload_n 3, 1) := by decide +kernel
theorem dX5_marginOf_41 : decode cX5_marginOf 41 = .ok (.aload_n 0, 1) := by decide +kernel
theorem dX5_marginOf_42 : decode cX5_marginOf 42 = .ok (.iload_n 1, 1) := by decide +kernel
theorem dX5_marginOf_43 : decode cX5_marginOf 43 = .ok (.iload_n 2, 1) := by decide +kernel
theorem dX5_marginOf_44 : decode cX5_marginOf 44 = .ok (.iconst 1, 1) := by decide +kernel
theorem dX5_marginOf_45 : decode cX5_marginOf 45 = .ok (.invokevirtual 269, 3) := by decide +kernel
theorem dX5_marginOf_48 : decode cX5_marginOf 48 = .ok (.ladd, 1) := by decide +kernel
theorem dX5_marginOf_49 : decode cX5_marginOf 49 = .ok (.lstore 5, 2) := by decide +kernel
theorem dX5_marginOf_51 : decode cX5_marginOf 51 = .ok (.lload_n 3, 1) := by decide +kernel
theorem dX5_marginOf_52 : decode cX5_marginOf 52 = .ok (.aload_n 0, 1) := by decide +kernel
theorem dX5_marginOf_53 : decode cX5_marginOf 53 = .ok (.iload_n 1, 1) := by decide +kernel
theorem dX5_marginOf_54 : decode cX5_marginOf 54 = .ok (.iload_n 2, 1) := by decide +kernel
theorem dX5_marginOf_55 : decode cX5_marginOf 55 = .ok (.iconst 0, 1) := by decide +kernel
theorem dX5_marginOf_56 : decode cX5_marginOf 56 = .ok (.invokevirtual 269, 3) := by decide +kernel
theorem dX5_marginOf_59 : decode cX5_marginOf 59 = .ok (.lsub, 1) := by decide +kernel
theorem dX5_marginOf_60 : decode cX5_marginOf 60 = .ok (.lstore 7, 2) := by decide +kernel
theorem dX5_marginOf_62 : decode cX5_marginOf 62 = .ok (.iconst 0, 1) := by decide +kernel
theorem dX5_marginOf_63 : decode cX5_marginOf 63 = .ok (.istore 9, 2) := by decide +kernel
theorem dX5_marginOf_65 : decode cX5_marginOf 65 = .ok (.iload 9, 2) := by decide +kernel
theorem dX5_marginOf_67 : decode cX5_marginOf 67 = .ok (.iconst 4, 1) := by decide +kernel
theorem dX5_marginOf_68 : decode cX5_marginOf 68 = .ok (.if_icmp .ge 49, 3) := by decide +kernel
theorem dX5_marginOf_71 : decode cX5_marginOf 71 = .ok (.aload_n 0, 1) := by decide +kernel
theorem dX5_marginOf_72 : decode cX5_marginOf 72 = .ok (.getfield 17, 3) := by decide +kernel
theorem dX5_marginOf_75 : decode cX5_marginOf 75 = .ok (.iload_n 2, 1) := by decide +kernel
theorem dX5_marginOf_76 : decode cX5_marginOf 76 = .ok (.aaload, 1) := by decide +kernel
theorem dX5_marginOf_77 : decode cX5_marginOf 77 = .ok (.getfield 56, 3) := by decide +kernel
theorem dX5_marginOf_80 : decode cX5_marginOf 80 = .ok (.iload 9, 2) := by decide +kernel
theorem dX5_marginOf_82 : decode cX5_marginOf 82 = .ok (.iaload, 1) := by decide +kernel
theorem dX5_marginOf_83 : decode cX5_marginOf 83 = .ok (.i2l, 1) := by decide +kernel
theorem dX5_marginOf_84 : decode cX5_marginOf 84 = .ok (.lstore 10, 2) := by decide +kernel
theorem dX5_marginOf_86 : decode cX5_marginOf 86 = .ok (.aload_n 0, 1) := by decide +kernel
theorem dX5_marginOf_87 : decode cX5_marginOf 87 = .ok (.getfield 37, 3) := by decide +kernel
theorem dX5_marginOf_90 : decode cX5_marginOf 90 = .ok (.iload 9, 2) := by decide +kernel
theorem dX5_marginOf_92 : decode cX5_marginOf 92 = .ok (.dup2, 1) := by decide +kernel
theorem dX5_marginOf_93 : decode cX5_marginOf 93 = .ok (.laload, 1) := by decide +kernel
theorem dX5_marginOf_94 : decode cX5_marginOf 94 = .ok (.lload 5, 2) := by decide +kernel
theorem dX5_marginOf_96 : decode cX5_marginOf 96 = .ok (.lneg, 1) := by decide +kernel
theorem dX5_marginOf_97 : decode cX5_marginOf 97 = .ok (.lload 10, 2) := by decide +kernel
theorem dX5_marginOf_99 : decode cX5_marginOf 99 = .ok (.lmul, 1) := by decide +kernel
theorem dX5_marginOf_100 : decode cX5_marginOf 100 = .ok (.lload 7, 2) := by decide +kernel
theorem dX5_marginOf_102 : decode cX5_marginOf 102 = .ok (.lneg, 1) := by decide +kernel
theorem dX5_marginOf_103 : decode cX5_marginOf 103 = .ok (.lload 10, 2) := by decide +kernel
theorem dX5_marginOf_105 : decode cX5_marginOf 105 = .ok (.lmul, 1) := by decide +kernel
theorem dX5_marginOf_106 : decode cX5_marginOf 106 = .ok (.invokestatic 273, 3) := by decide +kernel
theorem dX5_marginOf_109 : decode cX5_marginOf 109 = .ok (.ladd, 1) := by decide +kernel
theorem dX5_marginOf_110 : decode cX5_marginOf 110 = .ok (.lastore, 1) := by decide +kernel
theorem dX5_marginOf_111 : decode cX5_marginOf 111 = .ok (.iinc 9 1, 3) := by decide +kernel
theorem dX5_marginOf_114 : decode cX5_marginOf 114 = .ok (.goto (-49), 3) := by decide +kernel
theorem dX5_marginOf_117 : decode cX5_marginOf 117 = .ok (.iinc 2 1, 3) := by decide +kernel
theorem dX5_marginOf_120 : decode cX5_marginOf 120 = .ok (.goto (-98), 3) := by decide +kernel
theorem dX5_marginOf_123 : decode cX5_marginOf 123 = .ok (.lconst 0, 1) := by decide +kernel
theorem dX5_marginOf_124 : decode cX5_marginOf 124 = .ok (.lstore_n 2, 1) := by decide +kernel
theorem dX5_marginOf_125 : decode cX5_marginOf 125 = .ok (.iconst 0, 1) := by decide +kernel
theorem dX5_marginOf_126 : decode cX5_marginOf 126 = .ok (.istore 4, 2) := by decide +kernel
theorem dX5_marginOf_128 : decode cX5_marginOf 128 = .ok (.iload 4, 2) := by decide +kernel
theorem dX5_marginOf_130 : decode cX5_marginOf 130 = .ok (.iconst 4, 1) := by decide +kernel
theorem dX5_marginOf_131 : decode cX5_marginOf 131 = .ok (.if_icmp .ge 21, 3) := by decide +kernel
theorem dX5_marginOf_134 : decode cX5_marginOf 134 = .ok (.lload_n 2, 1) := by decide +kernel
theorem dX5_marginOf_135 : decode cX5_marginOf 135 = .ok (.aload_n 0, 1) := by decide +kernel
theorem dX5_marginOf_136 : decode cX5_marginOf 136 = .ok (.getfield 37, 3) := by decide +kernel
theorem dX5_marginOf_139 : decode cX5_marginOf 139 = .ok (.iload 4, 2) := by decide +kernel
theorem dX5_marginOf_141 : decode cX5_marginOf 141 = .ok (.laload, 1) := by decide +kernel
theorem dX5_marginOf_142 : decode cX5_marginOf 142 = .ok (.invokestatic 273, 3) := by decide +kernel
theorem dX5_marginOf_145 : decode cX5_marginOf 145 = .ok (.lstore_n 2, 1) := by decide +kernel
theorem dX5_marginOf_146 : decode cX5_marginOf 146 = .ok (.iinc 4 1, 3) := by decide +kernel
theorem dX5_marginOf_149 : decode cX5_marginOf 149 = .ok (.goto (-21), 3) := by decide +kernel
theorem dX5_marginOf_152 : decode cX5_marginOf 152 = .ok (.lload_n 2, 1) := by decide +kernel
theorem dX5_marginOf_153 : decode cX5_marginOf 153 = .ok (.lreturn, 1) := by decide +kernel
theorem dX5_restOf_0 : decode cX5_restOf 0 = .ok (.lconst 0, 1) := by decide +kernel
theorem dX5_restOf_1 : decode cX5_restOf 1 = .ok (.lstore 4, 2) := by decide +kernel
theorem dX5_restOf_3 : decode cX5_restOf 3 = .ok (.iconst 0, 1) := by decide +kernel
theorem dX5_restOf_4 : decode cX5_restOf 4 = .ok (.istore 6, 2) := by decide +kernel
theorem dX5_restOf_6 : decode cX5_restOf 6 = .ok (.iload 6, 2) := by decide +kernel
theorem dX5_restOf_8 : decode cX5_restOf 8 = .ok (.aload_n 0, 1) := by decide +kernel
theorem dX5_restOf_9 : decode cX5_restOf 9 = .ok (.getfield 30, 3) := by decide +kernel
theorem dX5_restOf_12 : decode cX5_restOf 12 = .ok (.invokevirtual 108, 3) := by decide +kernel
theorem dX5_restOf_15 : decode cX5_restOf 15 = .ok (.if_icmp .ge 61, 3) := by decide +kernel
theorem dX5_restOf_18 : decode cX5_restOf 18 = .ok (.aload_n 0, 1) := by decide +kernel
theorem dX5_restOf_19 : decode cX5_restOf 19 = .ok (.getfield 30, 3) := by decide +kernel
theorem dX5_restOf_22 : decode cX5_restOf 22 = .ok (.iload 6, 2) := by decide +kernel
theorem dX5_restOf_24 : decode cX5_restOf 24 = .ok (.invokevirtual 131, 3) := by decide +kernel
theorem dX5_restOf_27 : decode cX5_restOf 27 = .ok (.checkcast 115, 3) := by decide +kernel
theorem dX5_restOf_30 : decode cX5_restOf 30 = .ok (.astore 7, 2) := by decide +kernel
theorem dX5_restOf_32 : decode cX5_restOf 32 = .ok (.aload 7, 2) := by decide +kernel
theorem dX5_restOf_34 : decode cX5_restOf 34 = .ok (.getfield 220, 3) := by decide +kernel
theorem dX5_restOf_37 : decode cX5_restOf 37 = .ok (.iload_n 1, 1) := by decide +kernel
theorem dX5_restOf_38 : decode cX5_restOf 38 = .ok (.if_icmp .ne 32, 3) := by decide +kernel
theorem dX5_restOf_41 : decode cX5_restOf 41 = .ok (.aload 7, 2) := by decide +kernel
theorem dX5_restOf_43 : decode cX5_restOf 43 = .ok (.getfield 204, 3) := by decide +kernel
theorem dX5_restOf_46 : decode cX5_restOf 46 = .ok (.iload_n 2, 1) := by decide +kernel
theorem dX5_restOf_47 : decode cX5_restOf 47 = .ok (.if_icmp .ne 23, 3) := by decide +kernel
theorem dX5_restOf_50 : decode cX5_restOf 50 = .ok (.aload 7, 2) := by decide +kernel
theorem dX5_restOf_52 : decode cX5_restOf 52 = .ok (.getfield 207, 3) := by decide +kernel
theorem dX5_restOf_55 : decode cX5_restOf 55 = .ok (.iload_n 3, 1) := by decide +kernel
theorem dX5_restOf_56 : decode cX5_restOf 56 = .ok (.if_icmp .ne 14, 3) := by decide +kernel
theorem dX5_restOf_59 : decode cX5_restOf 59 = .ok (.lload 4, 2) := by decide +kernel
theorem dX5_restOf_61 : decode cX5_restOf 61 = .ok (.aload 7, 2) := by decide +kernel
theorem dX5_restOf_63 : decode cX5_restOf 63 = .ok (.getfield 135, 3) := by decide +kernel
theorem dX5_restOf_66 : decode cX5_restOf 66 = .ok (.i2l, 1) := by decide +kernel
theorem dX5_restOf_67 : decode cX5_restOf 67 = .ok (.ladd, 1) := by decide +kernel
theorem dX5_restOf_68 : decode cX5_restOf 68 = .ok (.lstore 4, 2) := by decide +kernel
theorem dX5_restOf_70 : decode cX5_restOf 70 = .ok (.iinc 6 1, 3) := by decide +kernel
theorem dX5_restOf_73 : decode cX5_restOf 73 = .ok (.goto (-67), 3) := by decide +kernel
theorem dX5_restOf_76 : decode cX5_restOf 76 = .ok (.lload 4, 2) := by decide +kernel
theorem dX5_restOf_78 : decode cX5_restOf 78 = .ok (.lreturn, 1) := by decide +kernel
theorem dX5_receiveFromOutside_0 : decode cX5_receiveFromOutside 0 = .ok (.aload_n 0, 1) := by decide +kernel
theorem dX5_receiveFromOutside_1 : decode cX5_receiveFromOutside 1 = .ok (.dup, 1) := by decide +kernel
theorem dX5_receiveFromOutside_2 : decode cX5_receiveFromOutside 2 = .ok (.getfield 94, 3) := by decide +kernel
theorem dX5_receiveFromOutside_5 : decode cX5_receiveFromOutside 5 = .ok (.lload_n 1, 1) := by decide +kernel
theorem dX5_receiveFromOutside_6 : decode cX5_receiveFromOutside 6 = .ok (.ladd, 1) := by decide +kernel
theorem dX5_receiveFromOutside_7 : decode cX5_receiveFromOutside 7 = .ok (.putfield 94, 3) := by decide +kernel
theorem dX5_receiveFromOutside_10 : decode cX5_receiveFromOutside 10 = .ok (.aload_n 0, 1) := by decide +kernel
theorem dX5_receiveFromOutside_11 : decode cX5_receiveFromOutside 11 = .ok (.dup, 1) := by decide +kernel
theorem dX5_receiveFromOutside_12 : decode cX5_receiveFromOutside 12 = .ok (.getfield 177, 3) := by decide +kernel
theorem dX5_receiveFromOutside_15 : decode cX5_receiveFromOutside 15 = .ok (.lload_n 1, 1) := by decide +kernel
theorem dX5_receiveFromOutside_16 : decode cX5_receiveFromOutside 16 = .ok (.ladd, 1) := by decide +kernel
theorem dX5_receiveFromOutside_17 : decode cX5_receiveFromOutside 17 = .ok (.putfield 177, 3) := by decide +kernel
theorem dX5_receiveFromOutside_20 : decode cX5_receiveFromOutside 20 = .ok (.return_, 1) := by decide +kernel
theorem dX5_netPositions_0 : decode cX5_netPositions 0 = .ok (.lconst 0, 1) := by decide +kernel
theorem dX5_netPositions_1 : decode cX5_netPositions 1 = .ok (.lstore_n 2, 1) := by decide +kernel
theorem dX5_netPositions_2 : decode cX5_netPositions 2 = .ok (.iconst 0, 1) := by decide +kernel
theorem dX5_netPositions_3 : decode cX5_netPositions 3 = .ok (.istore 4, 2) := by decide +kernel
theorem dX5_netPositions_5 : decode cX5_netPositions 5 = .ok (.iload 4, 2) := by decide +kernel
theorem dX5_netPositions_7 : decode cX5_netPositions 7 = .ok (.iconst 3, 1) := by decide +kernel
theorem dX5_netPositions_8 : decode cX5_netPositions 8 = .ok (.if_icmp .ge 35, 3) := by decide +kernel
theorem dX5_netPositions_11 : decode cX5_netPositions 11 = .ok (.aload_n 0, 1) := by decide +kernel
theorem dX5_netPositions_12 : decode cX5_netPositions 12 = .ok (.aload_n 1, 1) := by decide +kernel
theorem dX5_netPositions_13 : decode cX5_netPositions 13 = .ok (.iload 4, 2) := by decide +kernel
theorem dX5_netPositions_15 : decode cX5_netPositions 15 = .ok (.invokevirtual 246, 3) := by decide +kernel
theorem dX5_netPositions_18 : decode cX5_netPositions 18 = .ok (.lstore 5, 2) := by decide +kernel
theorem dX5_netPositions_20 : decode cX5_netPositions 20 = .ok (.lload_n 2, 1) := by decide +kernel
theorem dX5_netPositions_21 : decode cX5_netPositions 21 = .ok (.lload 5, 2) := by decide +kernel
theorem dX5_netPositions_23 : decode cX5_netPositions 23 = .ok (.ladd, 1) := by decide +kernel
theorem dX5_netPositions_24 : decode cX5_netPositions 24 = .ok (.lstore_n 2, 1) := by decide +kernel
theorem dX5_netPositions_25 : decode cX5_netPositions 25 = .ok (.aload_n 1, 1) := by decide +kernel
theorem dX5_netPositions_26 : decode cX5_netPositions 26 = .ok (.getfield 243, 3) := by decide +kernel
theorem dX5_netPositions_29 : decode cX5_netPositions 29 = .ok (.iload 4, 2) := by decide +kernel
theorem dX5_netPositions_31 : decode cX5_netPositions 31 = .ok (.dup2, 1) := by decide +kernel
theorem dX5_netPositions_32 : decode cX5_netPositions 32 = .ok (.laload, 1) := by decide +kernel
theorem dX5_netPositions_33 : decode cX5_netPositions 33 = .ok (.lload 5, 2) := by decide +kernel
theorem dX5_netPositions_35 : decode cX5_netPositions 35 = .ok (.ladd, 1) := by decide +kernel
theorem dX5_netPositions_36 : decode cX5_netPositions 36 = .ok (.lastore, 1) := by decide +kernel
theorem dX5_netPositions_37 : decode cX5_netPositions 37 = .ok (.iinc 4 1, 3) := by decide +kernel
theorem dX5_netPositions_40 : decode cX5_netPositions 40 = .ok (.goto (-35), 3) := by decide +kernel
theorem dX5_netPositions_43 : decode cX5_netPositions 43 = .ok (.aload_n 1, 1) := by decide +kernel
theorem dX5_netPositions_44 : decode cX5_netPositions 44 = .ok (.dup, 1) := by decide +kernel
theorem dX5_netPositions_45 : decode cX5_netPositions 45 = .ok (.getfield 94, 3) := by decide +kernel
theorem dX5_netPositions_48 : decode cX5_netPositions 48 = .ok (.lload_n 2, 1) := by decide +kernel
theorem dX5_netPositions_49 : decode cX5_netPositions 49 = .ok (.ladd, 1) := by decide +kernel
theorem dX5_netPositions_50 : decode cX5_netPositions 50 = .ok (.putfield 94, 3) := by decide +kernel
theorem dX5_netPositions_53 : decode cX5_netPositions 53 = .ok (.lload_n 2, 1) := by decide +kernel
theorem dX5_netPositions_54 : decode cX5_netPositions 54 = .ok (.lreturn, 1) := by decide +kernel
theorem dX5_countHour_0 : decode cX5_countHour 0 = .ok (.aload_n 0, 1) := by decide +kernel
theorem dX5_countHour_1 : decode cX5_countHour 1 = .ok (.getfield 11, 3) := by decide +kernel
theorem dX5_countHour_4 : decode cX5_countHour 4 = .ok (.iload_n 1, 1) := by decide +kernel
theorem dX5_countHour_5 : decode cX5_countHour 5 = .ok (.aaload, 1) := by decide +kernel
theorem dX5_countHour_6 : decode cX5_countHour 6 = .ok (.astore_n 2, 1) := by decide +kernel
theorem dX5_countHour_7 : decode cX5_countHour 7 = .ok (.aload_n 0, 1) := by decide +kernel
theorem dX5_countHour_8 : decode cX5_countHour 8 = .ok (.iload_n 1, 1) := by decide +kernel
theorem dX5_countHour_9 : decode cX5_countHour 9 = .ok (.invokevirtual 86, 3) := by decide +kernel
theorem dX5_countHour_12 : decode cX5_countHour 12 = .ok (.lconst 0, 1) := by decide +kernel
theorem dX5_countHour_13 : decode cX5_countHour 13 = .ok (.lcmp, 1) := by decide +kernel
theorem dX5_countHour_14 : decode cX5_countHour 14 = .ok (.ifCond .lt 11, 3) := by decide +kernel
theorem dX5_countHour_17 : decode cX5_countHour 17 = .ok (.aload_n 2, 1) := by decide +kernel
theorem dX5_countHour_18 : decode cX5_countHour 18 = .ok (.iconst (-1), 1) := by decide +kernel
theorem dX5_countHour_19 : decode cX5_countHour 19 = .ok (.putfield 168, 3) := by decide +kernel
theorem dX5_countHour_22 : decode cX5_countHour 22 = .ok (.goto 13, 3) := by decide +kernel
theorem dX5_countHour_25 : decode cX5_countHour 25 = .ok (.aload_n 2, 1) := by decide +kernel
theorem dX5_countHour_26 : decode cX5_countHour 26 = .ok (.dup, 1) := by decide +kernel
theorem dX5_countHour_27 : decode cX5_countHour 27 = .ok (.getfield 168, 3) := by decide +kernel
theorem dX5_countHour_30 : decode cX5_countHour 30 = .ok (.iconst 1, 1) := by decide +kernel
theorem dX5_countHour_31 : decode cX5_countHour 31 = .ok (.iadd, 1) := by decide +kernel
theorem dX5_countHour_32 : decode cX5_countHour 32 = .ok (.putfield 168, 3) := by decide +kernel
theorem dX5_countHour_35 : decode cX5_countHour 35 = .ok (.aload_n 2, 1) := by decide +kernel
theorem dX5_countHour_36 : decode cX5_countHour 36 = .ok (.getfield 168, 3) := by decide +kernel
theorem dX5_countHour_39 : decode cX5_countHour 39 = .ok (.ireturn, 1) := by decide +kernel
theorem dX5_closeOut_0 : decode cX5_closeOut 0 = .ok (.aload_n 0, 1) := by decide +kernel
theorem dX5_closeOut_1 : decode cX5_closeOut 1 = .ok (.getfield 11, 3) := by decide +kernel
theorem dX5_closeOut_4 : decode cX5_closeOut 4 = .ok (.iload_n 1, 1) := by decide +kernel
theorem dX5_closeOut_5 : decode cX5_closeOut 5 = .ok (.aaload, 1) := by decide +kernel
theorem dX5_closeOut_6 : decode cX5_closeOut 6 = .ok (.iconst (-1), 1) := by decide +kernel
theorem dX5_closeOut_7 : decode cX5_closeOut 7 = .ok (.putfield 168, 3) := by decide +kernel
theorem dX5_closeOut_10 : decode cX5_closeOut 10 = .ok (.aload_n 0, 1) := by decide +kernel
theorem dX5_closeOut_11 : decode cX5_closeOut 11 = .ok (.iload_n 1, 1) := by decide +kernel
theorem dX5_closeOut_12 : decode cX5_closeOut 12 = .ok (.invokevirtual 276, 3) := by decide +kernel
theorem dX5_closeOut_15 : decode cX5_closeOut 15 = .ok (.aload_n 0, 1) := by decide +kernel
theorem dX5_closeOut_16 : decode cX5_closeOut 16 = .ok (.iload_n 1, 1) := by decide +kernel
theorem dX5_closeOut_17 : decode cX5_closeOut 17 = .ok (.invokevirtual 279, 3) := by decide +kernel
theorem dX5_closeOut_20 : decode cX5_closeOut 20 = .ok (.astore_n 2, 1) := by decide +kernel
theorem dX5_closeOut_21 : decode cX5_closeOut 21 = .ok (.iconst 0, 1) := by decide +kernel
theorem dX5_closeOut_22 : decode cX5_closeOut 22 = .ok (.istore_n 3, 1) := by decide +kernel
theorem dX5_closeOut_23 : decode cX5_closeOut 23 = .ok (.iload_n 3, 1) := by decide +kernel
theorem dX5_closeOut_24 : decode cX5_closeOut 24 = .ok (.aload_n 2, 1) := by decide +kernel
theorem dX5_closeOut_25 : decode cX5_closeOut 25 = .ok (.arraylength, 1) := by decide +kernel
theorem dX5_closeOut_26 : decode cX5_closeOut 26 = .ok (.if_icmp .ge 27, 3) := by decide +kernel
theorem dX5_closeOut_29 : decode cX5_closeOut 29 = .ok (.aload_n 0, 1) := by decide +kernel
theorem dX5_closeOut_30 : decode cX5_closeOut 30 = .ok (.iload_n 1, 1) := by decide +kernel
theorem dX5_closeOut_31 : decode cX5_closeOut 31 = .ok (.invokevirtual 86, 3) := by decide +kernel
theorem dX5_closeOut_34 : decode cX5_closeOut 34 = .ok (.lconst 0, 1) := by decide +kernel
theorem dX5_closeOut_35 : decode cX5_closeOut 35 = .ok (.lcmp, 1) := by decide +kernel
theorem dX5_closeOut_36 : decode cX5_closeOut 36 = .ok (.ifCond .ge 17, 3) := by decide +kernel
theorem dX5_closeOut_39 : decode cX5_closeOut 39 = .ok (.aload_n 0, 1) := by decide +kernel
theorem dX5_closeOut_40 : decode cX5_closeOut 40 = .ok (.iload_n 1, 1) := by decide +kernel
theorem dX5_closeOut_41 : decode cX5_closeOut 41 = .ok (.aload_n 2, 1) := by decide +kernel
theorem dX5_closeOut_42 : decode cX5_closeOut 42 = .ok (.iload_n 3, 1) := by decide +kernel
theorem dX5_closeOut_43 : decode cX5_closeOut 43 = .ok (.iaload, 1) := by decide +kernel
theorem dX5_closeOut_44 : decode cX5_closeOut 44 = .ok (.invokevirtual 283, 3) := by decide +kernel
theorem dX5_closeOut_47 : decode cX5_closeOut 47 = .ok (.iinc 3 1, 3) := by decide +kernel
theorem dX5_closeOut_50 : decode cX5_closeOut 50 = .ok (.goto (-27), 3) := by decide +kernel
theorem dX5_closeOut_53 : decode cX5_closeOut 53 = .ok (.return_, 1) := by decide +kernel
theorem dX5_productsByRisk_0 : decode cX5_productsByRisk 0 = .ok (.iconst 3, 1) := by decide +kernel
theorem dX5_productsByRisk_1 : decode cX5_productsByRisk 1 = .ok (.newarray .int, 2) := by decide +kernel
theorem dX5_productsByRisk_3 : decode cX5_productsByRisk 3 = .ok (.astore_n 2, 1) := by decide +kernel
theorem dX5_productsByRisk_4 : decode cX5_productsByRisk 4 = .ok (.iconst 0, 1) := by decide +kernel
theorem dX5_productsByRisk_5 : decode cX5_productsByRisk 5 = .ok (.istore_n 3, 1) := by decide +kernel
theorem dX5_productsByRisk_6 : decode cX5_productsByRisk 6 = .ok (.iload_n 3, 1) := by decide +kernel
theorem dX5_productsByRisk_7 : decode cX5_productsByRisk 7 = .ok (.iconst 3, 1) := by decide +kernel
theorem dX5_productsByRisk_8 : decode cX5_productsByRisk 8 = .ok (.if_icmp .ge 59, 3) := by decide +kernel
theorem dX5_productsByRisk_11 : decode cX5_productsByRisk 11 = .ok (.iconst 0, 1) := by decide +kernel
theorem dX5_productsByRisk_12 : decode cX5_productsByRisk 12 = .ok (.istore 4, 2) := by decide +kernel
theorem dX5_productsByRisk_14 : decode cX5_productsByRisk 14 = .ok (.iconst 0, 1) := by decide +kernel
theorem dX5_productsByRisk_15 : decode cX5_productsByRisk 15 = .ok (.istore 5, 2) := by decide +kernel
theorem dX5_productsByRisk_17 : decode cX5_productsByRisk 17 = .ok (.iload 5, 2) := by decide +kernel
theorem dX5_productsByRisk_19 : decode cX5_productsByRisk 19 = .ok (.iconst 3, 1) := by decide +kernel
theorem dX5_productsByRisk_20 : decode cX5_productsByRisk 20 = .ok (.if_icmp .ge 30, 3) := by decide +kernel
theorem dX5_productsByRisk_23 : decode cX5_productsByRisk 23 = .ok (.iload 4, 2) := by decide +kernel
theorem dX5_productsByRisk_25 : decode cX5_productsByRisk 25 = .ok (.aload_n 0, 1) := by decide +kernel
theorem dX5_productsByRisk_26 : decode cX5_productsByRisk 26 = .ok (.iload_n 1, 1) := by decide +kernel
theorem dX5_productsByRisk_27 : decode cX5_productsByRisk 27 = .ok (.iload 5, 2) := by decide +kernel
theorem dX5_productsByRisk_29 : decode cX5_productsByRisk 29 = .ok (.iload_n 3, 1) := by decide +kernel
theorem dX5_productsByRisk_30 : decode cX5_productsByRisk 30 = .ok (.invokevirtual 287, 3) := by decide +kernel
theorem dX5_productsByRisk_33 : decode cX5_productsByRisk 33 = .ok (.ifCond .eq 7, 3) := by decide +kernel
theorem dX5_productsByRisk_36 : decode cX5_productsByRisk 36 = .ok (.iconst 1, 1) := by decide +kernel
theorem dX5_productsByRisk_37 : decode cX5_productsByRisk 37 = .ok (.goto 4, 3) := by decide +kernel
theorem dX5_productsByRisk_40 : decode cX5_productsByRisk 40 = .ok (.iconst 0, 1) := by decide +kernel
theorem dX5_productsByRisk_41 : decode cX5_productsByRisk 41 = .ok (.iadd, 1) := by decide +kernel
theorem dX5_productsByRisk_42 : decode cX5_productsByRisk 42 = .ok (.istore 4, 2) := by decide +kernel
theorem dX5_productsByRisk_44 : decode cX5_productsByRisk 44 = .ok (.iinc 5 1, 3) := by decide +kernel
theorem dX5_productsByRisk_47 : decode cX5_productsByRisk 47 = .ok (.goto (-30), 3) := by decide +kernel
theorem dX5_productsByRisk_50 : decode cX5_productsByRisk 50 = .ok (.iload 4, 2) := by decide +kernel
theorem dX5_productsByRisk_52 : decode cX5_productsByRisk 52 = .ok (.iconst 3, 1) := by decide +kernel
theorem dX5_productsByRisk_53 : decode cX5_productsByRisk 53 = .ok (.if_icmp .ge 8, 3) := by decide +kernel
theorem dX5_productsByRisk_56 : decode cX5_productsByRisk 56 = .ok (.aload_n 2, 1) := by decide +kernel
theorem dX5_productsByRisk_57 : decode cX5_productsByRisk 57 = .ok (.iload 4, 2) := by decide +kernel
theorem dX5_productsByRisk_59 : decode cX5_productsByRisk 59 = .ok (.iload_n 3, 1) := by decide +kernel
theorem dX5_productsByRisk_60 : decode cX5_productsByRisk 60 = .ok (.iastore, 1) := by decide +kernel
theorem dX5_productsByRisk_61 : decode cX5_productsByRisk 61 = .ok (.iinc 3 1, 3) := by decide +kernel
theorem dX5_productsByRisk_64 : decode cX5_productsByRisk 64 = .ok (.goto (-58), 3) := by decide +kernel
theorem dX5_productsByRisk_67 : decode cX5_productsByRisk 67 = .ok (.aload_n 2, 1) := by decide +kernel
theorem dX5_productsByRisk_68 : decode cX5_productsByRisk 68 = .ok (.areturn, 1) := by decide +kernel
theorem dX5_goesAhead_0 : decode cX5_goesAhead 0 = .ok (.aload_n 0, 1) := by decide +kernel
theorem dX5_goesAhead_1 : decode cX5_goesAhead 1 = .ok (.iload_n 1, 1) := by decide +kernel
theorem dX5_goesAhead_2 : decode cX5_goesAhead 2 = .ok (.iload_n 2, 1) := by decide +kernel
theorem dX5_goesAhead_3 : decode cX5_goesAhead 3 = .ok (.invokevirtual 291, 3) := by decide +kernel
theorem dX5_goesAhead_6 : decode cX5_goesAhead 6 = .ok (.lstore 4, 2) := by decide +kernel
theorem dX5_goesAhead_8 : decode cX5_goesAhead 8 = .ok (.aload_n 0, 1) := by decide +kernel
theorem dX5_goesAhead_9 : decode cX5_goesAhead 9 = .ok (.iload_n 1, 1) := by decide +kernel
theorem dX5_goesAhead_10 : decode cX5_goesAhead 10 = .ok (.iload_n 3, 1) := by decide +kernel
theorem dX5_goesAhead_11 : decode cX5_goesAhead 11 = .ok (.invokevirtual 291, 3) := by decide +kernel
theorem dX5_goesAhead_14 : decode cX5_goesAhead 14 = .ok (.lstore 6, 2) := by decide +kernel
theorem dX5_goesAhead_16 : decode cX5_goesAhead 16 = .ok (.lload 4, 2) := by decide +kernel
theorem dX5_goesAhead_18 : decode cX5_goesAhead 18 = .ok (.lload 6, 2) := by decide +kernel
theorem dX5_goesAhead_20 : decode cX5_goesAhead 20 = .ok (.lcmp, 1) := by decide +kernel
theorem dX5_goesAhead_21 : decode cX5_goesAhead 21 = .ok (.ifCond .gt 16, 3) := by decide +kernel
theorem dX5_goesAhead_24 : decode cX5_goesAhead 24 = .ok (.lload 4, 2) := by decide +kernel
theorem dX5_goesAhead_26 : decode cX5_goesAhead 26 = .ok (.lload 6, 2) := by decide +kernel
theorem dX5_goesAhead_28 : decode cX5_goesAhead 28 = .ok (.lcmp, 1) := by decide +kernel
theorem dX5_goesAhead_29 : decode cX5_goesAhead 29 = .ok (.ifCond .ne 12, 3) := by decide +kernel
theorem dX5_goesAhead_32 : decode cX5_goesAhead 32 = .ok (.iload_n 2, 1) := by decide +kernel
theorem dX5_goesAhead_33 : decode cX5_goesAhead 33 = .ok (.iload_n 3, 1) := by decide +kernel
theorem dX5_goesAhead_34 : decode cX5_goesAhead 34 = .ok (.if_icmp .ge 7, 3) := by decide +kernel
theorem dX5_goesAhead_37 : decode cX5_goesAhead 37 = .ok (.iconst 1, 1) := by decide +kernel
theorem dX5_goesAhead_38 : decode cX5_goesAhead 38 = .ok (.goto 4, 3) := by decide +kernel
theorem dX5_goesAhead_41 : decode cX5_goesAhead 41 = .ok (.iconst 0, 1) := by decide +kernel
theorem dX5_goesAhead_42 : decode cX5_goesAhead 42 = .ok (.ireturn, 1) := by decide +kernel
theorem dX5_riskOf_0 : decode cX5_riskOf 0 = .ok (.aload_n 0, 1) := by decide +kernel
theorem dX5_riskOf_1 : decode cX5_riskOf 1 = .ok (.getfield 11, 3) := by decide +kernel
theorem dX5_riskOf_4 : decode cX5_riskOf 4 = .ok (.iload_n 1, 1) := by decide +kernel
theorem dX5_riskOf_5 : decode cX5_riskOf 5 = .ok (.aaload, 1) := by decide +kernel
theorem dX5_riskOf_6 : decode cX5_riskOf 6 = .ok (.getfield 171, 3) := by decide +kernel
theorem dX5_riskOf_9 : decode cX5_riskOf 9 = .ok (.iload_n 2, 1) := by decide +kernel
theorem dX5_riskOf_10 : decode cX5_riskOf 10 = .ok (.iaload, 1) := by decide +kernel
theorem dX5_riskOf_11 : decode cX5_riskOf 11 = .ok (.i2l, 1) := by decide +kernel
theorem dX5_riskOf_12 : decode cX5_riskOf 12 = .ok (.lstore_n 3, 1) := by decide +kernel
theorem dX5_riskOf_13 : decode cX5_riskOf 13 = .ok (.aload_n 0, 1) := by decide +kernel
theorem dX5_riskOf_14 : decode cX5_riskOf 14 = .ok (.getfield 17, 3) := by decide +kernel
theorem dX5_riskOf_17 : decode cX5_riskOf 17 = .ok (.iload_n 2, 1) := by decide +kernel
theorem dX5_riskOf_18 : decode cX5_riskOf 18 = .ok (.aaload, 1) := by decide +kernel
theorem dX5_riskOf_19 : decode cX5_riskOf 19 = .ok (.getfield 56, 3) := by decide +kernel
theorem dX5_riskOf_22 : decode cX5_riskOf 22 = .ok (.astore 5, 2) := by decide +kernel
theorem dX5_riskOf_24 : decode cX5_riskOf 24 = .ok (.lload_n 3, 1) := by decide +kernel
theorem dX5_riskOf_25 : decode cX5_riskOf 25 = .ok (.lneg, 1) := by decide +kernel
theorem dX5_riskOf_26 : decode cX5_riskOf 26 = .ok (.aload 5, 2) := by decide +kernel
theorem dX5_riskOf_28 : decode cX5_riskOf 28 = .ok (.iconst 0, 1) := by decide +kernel
theorem dX5_riskOf_29 : decode cX5_riskOf 29 = .ok (.iaload, 1) := by decide +kernel
theorem dX5_riskOf_30 : decode cX5_riskOf 30 = .ok (.i2l, 1) := by decide +kernel
theorem dX5_riskOf_31 : decode cX5_riskOf 31 = .ok (.lmul, 1) := by decide +kernel
theorem dX5_riskOf_32 : decode cX5_riskOf 32 = .ok (.lstore 6, 2) := by decide +kernel
theorem dX5_riskOf_34 : decode cX5_riskOf 34 = .ok (.iconst 1, 1) := by decide +kernel
theorem dX5_riskOf_35 : decode cX5_riskOf 35 = .ok (.istore 8, 2) := by decide +kernel
theorem dX5_riskOf_37 : decode cX5_riskOf 37 = .ok (.iload 8, 2) := by decide +kernel
theorem dX5_riskOf_39 : decode cX5_riskOf 39 = .ok (.iconst 4, 1) := by decide +kernel
theorem dX5_riskOf_40 : decode cX5_riskOf 40 = .ok (.if_icmp .ge 25, 3) := by decide +kernel
theorem dX5_riskOf_43 : decode cX5_riskOf 43 = .ok (.lload 6, 2) := by decide +kernel
theorem dX5_riskOf_45 : decode cX5_riskOf 45 = .ok (.lload_n 3, 1) := by decide +kernel
theorem dX5_riskOf_46 : decode cX5_riskOf 46 = .ok (.lneg, 1) := by decide +kernel
theorem dX5_riskOf_47 : decode cX5_riskOf 47 = .ok (.aload 5, 2) := by decide +kernel
theorem dX5_riskOf_49 : decode cX5_riskOf 49 = .ok (.iload 8, 2) := by decide +kernel
theorem dX5_riskOf_51 : decode cX5_riskOf 51 = .ok (.iaload, 1) := by decide +kernel
theorem dX5_riskOf_52 : decode cX5_riskOf 52 = .ok (.i2l, 1) := by decide +kernel
theorem dX5_riskOf_53 : decode cX5_riskOf 53 = .ok (.lmul, 1) := by decide +kernel
theorem dX5_riskOf_54 : decode cX5_riskOf 54 = .ok (.invokestatic 273, 3) := by decide +kernel
theorem dX5_riskOf_57 : decode cX5_riskOf 57 = .ok (.lstore 6, 2) := by decide +kernel
theorem dX5_riskOf_59 : decode cX5_riskOf 59 = .ok (.iinc 8 1, 3) := by decide +kernel
theorem dX5_riskOf_62 : decode cX5_riskOf 62 = .ok (.goto (-25), 3) := by decide +kernel
theorem dX5_riskOf_65 : decode cX5_riskOf 65 = .ok (.lload 6, 2) := by decide +kernel
theorem dX5_riskOf_67 : decode cX5_riskOf 67 = .ok (.lreturn, 1) := by decide +kernel
theorem dX5_closePosition_0 : decode cX5_closePosition 0 = .ok (.aload_n 0, 1) := by decide +kernel
theorem dX5_closePosition_1 : decode cX5_closePosition 1 = .ok (.getfield 11, 3) := by decide +kernel
theorem dX5_closePosition_4 : decode cX5_closePosition 4 = .ok (.iload_n 1, 1) := by decide +kernel
theorem dX5_closePosition_5 : decode cX5_closePosition 5 = .ok (.aaload, 1) := by decide +kernel
theorem dX5_closePosition_6 : decode cX5_closePosition 6 = .ok (.getfield 171, 3) := by decide +kernel
theorem dX5_closePosition_9 : decode cX5_closePosition 9 = .ok (.astore_n 3, 1) := by decide +kernel
theorem dX5_closePosition_10 : decode cX5_closePosition 10 = .ok (.iconst 0, 1) := by decide +kernel
theorem dX5_closePosition_11 : decode cX5_closePosition 11 = .ok (.istore 4, 2) := by decide +kernel
theorem dX5_closePosition_13 : decode cX5_closePosition 13 = .ok (.iload 4, 2) := by decide +kernel
theorem dX5_closePosition_15 : decode cX5_closePosition 15 = .ok (.bipush 100, 2) := by decide +kernel
theorem dX5_closePosition_17 : decode cX5_closePosition 17 = .ok (.if_icmp .ge 60, 3) := by decide +kernel
theorem dX5_closePosition_20 : decode cX5_closePosition 20 = .ok (.aload_n 3, 1) := by decide +kernel
theorem dX5_closePosition_21 : decode cX5_closePosition 21 = .ok (.iload_n 2, 1) := by decide +kernel
theorem dX5_closePosition_22 : decode cX5_closePosition 22 = .ok (.iaload, 1) := by decide +kernel
theorem dX5_closePosition_23 : decode cX5_closePosition 23 = .ok (.ifCond .eq 54, 3) := by decide +kernel
theorem dX5_closePosition_26 : decode cX5_closePosition 26 = .ok (.aload_n 0, 1) := by decide +kernel
theorem dX5_closePosition_27 : decode cX5_closePosition 27 = .ok (.iload_n 2, 1) := by decide +kernel
theorem dX5_closePosition_28 : decode cX5_closePosition 28 = .ok (.aload_n 3, 1) := by decide +kernel
theorem dX5_closePosition_29 : decode cX5_closePosition 29 = .ok (.iload_n 2, 1) := by decide +kernel
theorem dX5_closePosition_30 : decode cX5_closePosition 30 = .ok (.iaload, 1) := by decide +kernel
theorem dX5_closePosition_31 : decode cX5_closePosition 31 = .ok (.ifCond .le 7, 3) := by decide +kernel
theorem dX5_closePosition_34 : decode cX5_closePosition 34 = .ok (.iconst 1, 1) := by decide +kernel
theorem dX5_closePosition_35 : decode cX5_closePosition 35 = .ok (.goto 4, 3) := by decide +kernel
theorem dX5_closePosition_38 : decode cX5_closePosition 38 = .ok (.iconst 0, 1) := by decide +kernel
theorem dX5_closePosition_39 : decode cX5_closePosition 39 = .ok (.invokevirtual 142, 3) := by decide +kernel
theorem dX5_closePosition_42 : decode cX5_closePosition 42 = .ok (.astore 5, 2) := by decide +kernel
theorem dX5_closePosition_44 : decode cX5_closePosition 44 = .ok (.aload 5, 2) := by decide +kernel
theorem dX5_closePosition_46 : decode cX5_closePosition 46 = .ok (.ifnonnull 4, 3) := by decide +kernel
theorem dX5_closePosition_49 : decode cX5_closePosition 49 = .ok (.return_, 1) := by decide +kernel
theorem dX5_closePosition_50 : decode cX5_closePosition 50 = .ok (.aload_n 0, 1) := by decide +kernel
theorem dX5_closePosition_51 : decode cX5_closePosition 51 = .ok (.iload_n 1, 1) := by decide +kernel
theorem dX5_closePosition_52 : decode cX5_closePosition 52 = .ok (.aload 5, 2) := by decide +kernel
theorem dX5_closePosition_54 : decode cX5_closePosition 54 = .ok (.aload 5, 2) := by decide +kernel
theorem dX5_closePosition_56 : decode cX5_closePosition 56 = .ok (.getfield 135, 3) := by decide +kernel
theorem dX5_closePosition_59 : decode cX5_closePosition 59 = .ok (.aload_n 3, 1) := by decide +kernel
theorem dX5_closePosition_60 : decode cX5_closePosition 60 = .ok (.iload_n 2, 1) := by decide +kernel
theorem dX5_closePosition_61 : decode cX5_closePosition 61 = .ok (.iaload, 1) := by decide +kernel
theorem dX5_closePosition_62 : decode cX5_closePosition 62 = .ok (.invokestatic 294, 3) := by decide +kernel
theorem dX5_closePosition_65 : decode cX5_closePosition 65 = .ok (.invokestatic 223, 3) := by decide +kernel
theorem dX5_closePosition_68 : decode cX5_closePosition 68 = .ok (.invokevirtual 229, 3) := by decide +kernel
theorem dX5_closePosition_71 : decode cX5_closePosition 71 = .ok (.iinc 4 1, 3) := by decide +kernel
theorem dX5_closePosition_74 : decode cX5_closePosition 74 = .ok (.goto (-61), 3) := by decide +kernel
theorem dX5_closePosition_77 : decode cX5_closePosition 77 = .ok (.return_, 1) := by decide +kernel
theorem dX5_fail_0 : decode cX5_fail 0 = .ok (.aload_n 0, 1) := by decide +kernel
theorem dX5_fail_1 : decode cX5_fail 1 = .ok (.getfield 11, 3) := by decide +kernel
theorem dX5_fail_4 : decode cX5_fail 4 = .ok (.iload_n 1, 1) := by decide +kernel
theorem dX5_fail_5 : decode cX5_fail 5 = .ok (.aaload, 1) := by decide +kernel
theorem dX5_fail_6 : decode cX5_fail 6 = .ok (.astore_n 2, 1) := by decide +kernel
theorem dX5_fail_7 : decode cX5_fail 7 = .ok (.aload_n 2, 1) := by decide +kernel
theorem dX5_fail_8 : decode cX5_fail 8 = .ok (.iconst 1, 1) := by decide +kernel
theorem dX5_fail_9 : decode cX5_fail 9 = .ok (.putfield 78, 3) := by decide +kernel
theorem dX5_fail_12 : decode cX5_fail 12 = .ok (.iconst 0, 1) := by decide +kernel
theorem dX5_fail_13 : decode cX5_fail 13 = .ok (.istore_n 3, 1) := by decide +kernel
theorem dX5_fail_14 : decode cX5_fail 14 = .ok (.iload_n 3, 1) := by decide +kernel
theorem dX5_fail_15 : decode cX5_fail 15 = .ok (.iconst 3, 1) := by decide +kernel
theorem dX5_fail_16 : decode cX5_fail 16 = .ok (.if_icmp .ge 28, 3) := by decide +kernel
theorem dX5_fail_19 : decode cX5_fail 19 = .ok (.aload_n 2, 1) := by decide +kernel
theorem dX5_fail_20 : decode cX5_fail 20 = .ok (.getfield 171, 3) := by decide +kernel
theorem dX5_fail_23 : decode cX5_fail 23 = .ok (.iload_n 3, 1) := by decide +kernel
theorem dX5_fail_24 : decode cX5_fail 24 = .ok (.iaload, 1) := by decide +kernel
theorem dX5_fail_25 : decode cX5_fail 25 = .ok (.ifCond .eq 13, 3) := by decide +kernel
theorem dX5_fail_28 : decode cX5_fail 28 = .ok (.aload_n 0, 1) := by decide +kernel
theorem dX5_fail_29 : decode cX5_fail 29 = .ok (.iload_n 1, 1) := by decide +kernel
theorem dX5_fail_30 : decode cX5_fail 30 = .ok (.aload_n 0, 1) := by decide +kernel
theorem dX5_fail_31 : decode cX5_fail 31 = .ok (.invokevirtual 297, 3) := by decide +kernel
theorem dX5_fail_34 : decode cX5_fail 34 = .ok (.iload_n 3, 1) := by decide +kernel
theorem dX5_fail_35 : decode cX5_fail 35 = .ok (.invokevirtual 300, 3) := by decide +kernel
theorem dX5_fail_38 : decode cX5_fail 38 = .ok (.iinc 3 1, 3) := by decide +kernel
theorem dX5_fail_41 : decode cX5_fail 41 = .ok (.goto (-27), 3) := by decide +kernel
theorem dX5_fail_44 : decode cX5_fail 44 = .ok (.aload_n 0, 1) := by decide +kernel
theorem dX5_fail_45 : decode cX5_fail 45 = .ok (.iload_n 1, 1) := by decide +kernel
theorem dX5_fail_46 : decode cX5_fail 46 = .ok (.invokevirtual 303, 3) := by decide +kernel
theorem dX5_fail_49 : decode cX5_fail 49 = .ok (.aload_n 0, 1) := by decide +kernel
theorem dX5_fail_50 : decode cX5_fail 50 = .ok (.aload_n 2, 1) := by decide +kernel
theorem dX5_fail_51 : decode cX5_fail 51 = .ok (.invokevirtual 164, 3) := by decide +kernel
theorem dX5_fail_54 : decode cX5_fail 54 = .ok (.pop2, 1) := by decide +kernel
theorem dX5_fail_55 : decode cX5_fail 55 = .ok (.aload_n 2, 1) := by decide +kernel
theorem dX5_fail_56 : decode cX5_fail 56 = .ok (.getfield 94, 3) := by decide +kernel
theorem dX5_fail_59 : decode cX5_fail 59 = .ok (.lconst 0, 1) := by decide +kernel
theorem dX5_fail_60 : decode cX5_fail 60 = .ok (.lcmp, 1) := by decide +kernel
theorem dX5_fail_61 : decode cX5_fail 61 = .ok (.ifCond .ge 8, 3) := by decide +kernel
theorem dX5_fail_64 : decode cX5_fail 64 = .ok (.aload_n 0, 1) := by decide +kernel
theorem dX5_fail_65 : decode cX5_fail 65 = .ok (.aload_n 2, 1) := by decide +kernel
theorem dX5_fail_66 : decode cX5_fail 66 = .ok (.invokevirtual 306, 3) := by decide +kernel
theorem dX5_fail_69 : decode cX5_fail 69 = .ok (.return_, 1) := by decide +kernel
theorem dX5_handOver_0 : decode cX5_handOver 0 = .ok (.aload_n 0, 1) := by decide +kernel
theorem dX5_handOver_1 : decode cX5_handOver 1 = .ok (.getfield 11, 3) := by decide +kernel
theorem dX5_handOver_4 : decode cX5_handOver 4 = .ok (.iload_n 1, 1) := by decide +kernel
theorem dX5_handOver_5 : decode cX5_handOver 5 = .ok (.aaload, 1) := by decide +kernel
theorem dX5_handOver_6 : decode cX5_handOver 6 = .ok (.getfield 171, 3) := by decide +kernel
theorem dX5_handOver_9 : decode cX5_handOver 9 = .ok (.iload_n 3, 1) := by decide +kernel
theorem dX5_handOver_10 : decode cX5_handOver 10 = .ok (.iaload, 1) := by decide +kernel
theorem dX5_handOver_11 : decode cX5_handOver 11 = .ok (.istore 4, 2) := by decide +kernel
theorem dX5_handOver_13 : decode cX5_handOver 13 = .ok (.aload_n 0, 1) := by decide +kernel
theorem dX5_handOver_14 : decode cX5_handOver 14 = .ok (.getfield 17, 3) := by decide +kernel
theorem dX5_handOver_17 : decode cX5_handOver 17 = .ok (.iload_n 3, 1) := by decide +kernel
theorem dX5_handOver_18 : decode cX5_handOver 18 = .ok (.aaload, 1) := by decide +kernel
theorem dX5_handOver_19 : decode cX5_handOver 19 = .ok (.getfield 52, 3) := by decide +kernel
theorem dX5_handOver_22 : decode cX5_handOver 22 = .ok (.istore 5, 2) := by decide +kernel
theorem dX5_handOver_24 : decode cX5_handOver 24 = .ok (.iload_n 2, 1) := by decide +kernel
theorem dX5_handOver_25 : decode cX5_handOver 25 = .ok (.iconst (-1), 1) := by decide +kernel
theorem dX5_handOver_26 : decode cX5_handOver 26 = .ok (.if_icmp .ne 16, 3) := by decide +kernel
theorem dX5_handOver_29 : decode cX5_handOver 29 = .ok (.aload_n 0, 1) := by decide +kernel
theorem dX5_handOver_30 : decode cX5_handOver 30 = .ok (.iload_n 1, 1) := by decide +kernel
theorem dX5_handOver_31 : decode cX5_handOver 31 = .ok (.iload_n 3, 1) := by decide +kernel
theorem dX5_handOver_32 : decode cX5_handOver 32 = .ok (.iload 4, 2) := by decide +kernel
theorem dX5_handOver_34 : decode cX5_handOver 34 = .ok (.iload 5, 2) := by decide +kernel
theorem dX5_handOver_36 : decode cX5_handOver 36 = .ok (.invokevirtual 310, 3) := by decide +kernel
theorem dX5_handOver_39 : decode cX5_handOver 39 = .ok (.goto 34, 3) := by decide +kernel
theorem dX5_handOver_42 : decode cX5_handOver 42 = .ok (.iload 4, 2) := by decide +kernel
theorem dX5_handOver_44 : decode cX5_handOver 44 = .ok (.ifCond .le 17, 3) := by decide +kernel
theorem dX5_handOver_47 : decode cX5_handOver 47 = .ok (.aload_n 0, 1) := by decide +kernel
theorem dX5_handOver_48 : decode cX5_handOver 48 = .ok (.iload_n 2, 1) := by decide +kernel
theorem dX5_handOver_49 : decode cX5_handOver 49 = .ok (.iload_n 1, 1) := by decide +kernel
theorem dX5_handOver_50 : decode cX5_handOver 50 = .ok (.iload_n 3, 1) := by decide +kernel
theorem dX5_handOver_51 : decode cX5_handOver 51 = .ok (.iload 4, 2) := by decide +kernel
theorem dX5_handOver_53 : decode cX5_handOver 53 = .ok (.iload 5, 2) := by decide +kernel
theorem dX5_handOver_55 : decode cX5_handOver 55 = .ok (.invokevirtual 233, 3) := by decide +kernel
theorem dX5_handOver_58 : decode cX5_handOver 58 = .ok (.goto 15, 3) := by decide +kernel
theorem dX5_handOver_61 : decode cX5_handOver 61 = .ok (.aload_n 0, 1) := by decide +kernel
theorem dX5_handOver_62 : decode cX5_handOver 62 = .ok (.iload_n 1, 1) := by decide +kernel
theorem dX5_handOver_63 : decode cX5_handOver 63 = .ok (.iload_n 2, 1) := by decide +kernel
theorem dX5_handOver_64 : decode cX5_handOver 64 = .ok (.iload_n 3, 1) := by decide +kernel
theorem dX5_handOver_65 : decode cX5_handOver 65 = .ok (.iload 4, 2) := by decide +kernel
theorem dX5_handOver_67 : decode cX5_handOver 67 = .ok (.ineg, 1) := by decide +kernel
theorem dX5_handOver_68 : decode cX5_handOver 68 = .ok (.iload 5, 2) := by decide +kernel
theorem dX5_handOver_70 : decode cX5_handOver 70 = .ok (.invokevirtual 233, 3) := by decide +kernel
theorem dX5_handOver_73 : decode cX5_handOver 73 = .ok (.return_, 1) := by decide +kernel
theorem dX5_memberWithMostFree_0 : decode cX5_memberWithMostFree 0 = .ok (.iconst (-1), 1) := by decide +kernel
theorem dX5_memberWithMostFree_1 : decode cX5_memberWithMostFree 1 = .ok (.istore_n 1, 1) := by decide +kernel
theorem dX5_memberWithMostFree_2 : decode cX5_memberWithMostFree 2 = .ok (.lconst 0, 1) := by decide +kernel
theorem dX5_memberWithMostFree_3 : decode cX5_memberWithMostFree 3 = .ok (.lstore_n 2, 1) := by decide +kernel
theorem dX5_memberWithMostFree_4 : decode cX5_memberWithMostFree 4 = .ok (.iconst 0, 1) := by decide +kernel
theorem dX5_memberWithMostFree_5 : decode cX5_memberWithMostFree 5 = .ok (.istore 4, 2) := by decide +kernel
theorem dX5_memberWithMostFree_7 : decode cX5_memberWithMostFree 7 = .ok (.iload 4, 2) := by decide +kernel
theorem dX5_memberWithMostFree_9 : decode cX5_memberWithMostFree 9 = .ok (.iconst 5, 1) := by decide +kernel
theorem dX5_memberWithMostFree_10 : decode cX5_memberWithMostFree 10 = .ok (.if_icmp .ge 48, 3) := by decide +kernel
theorem dX5_memberWithMostFree_13 : decode cX5_memberWithMostFree 13 = .ok (.aload_n 0, 1) := by decide +kernel
theorem dX5_memberWithMostFree_14 : decode cX5_memberWithMostFree 14 = .ok (.getfield 11, 3) := by decide +kernel
theorem dX5_memberWithMostFree_17 : decode cX5_memberWithMostFree 17 = .ok (.iload 4, 2) := by decide +kernel
theorem dX5_memberWithMostFree_19 : decode cX5_memberWithMostFree 19 = .ok (.aaload, 1) := by decide +kernel
theorem dX5_memberWithMostFree_20 : decode cX5_memberWithMostFree 20 = .ok (.getfield 78, 3) := by decide +kernel
theorem dX5_memberWithMostFree_23 : decode cX5_memberWithMostFree 23 = .ok (.ifCond .ne 29, 3) := by decide +kernel
theorem dX5_memberWithMostFree_26 : decode cX5_memberWithMostFree 26 = .ok (.aload_n 0, 1) := by decide +kernel
theorem dX5_memberWithMostFree_27 : decode cX5_memberWithMostFree 27 = .ok (.iload 4, 2) := by decide +kernel
theorem dX5_memberWithMostFree_29 : decode cX5_memberWithMostFree 29 = .ok (.invokevirtual 86, 3) := by decide +kernel
theorem dX5_memberWithMostFree_32 : decode cX5_memberWithMostFree 32 = .ok (.lstore 5, 2) := by decide +kernel
theorem dX5_memberWithMostFree_34 : decode cX5_memberWithMostFree 34 = .ok (.iload_n 1, 1) := by decide +kernel
theorem dX5_memberWithMostFree_35 : decode cX5_memberWithMostFree 35 = .ok (.iconst (-1), 1) := by decide +kernel
theorem dX5_memberWithMostFree_36 : decode cX5_memberWithMostFree 36 = .ok (.if_icmp .eq 10, 3) := by decide +kernel
theorem dX5_memberWithMostFree_39 : decode cX5_memberWithMostFree 39 = .ok (.lload 5, 2) := by decide +kernel
theorem dX5_memberWithMostFree_41 : decode cX5_memberWithMostFree 41 = .ok (.lload_n 2, 1) := by decide +kernel
theorem dX5_memberWithMostFree_42 : decode cX5_memberWithMostFree 42 = .ok (.lcmp, 1) := by decide +kernel
theorem dX5_memberWithMostFree_43 : decode cX5_memberWithMostFree 43 = .ok (.ifCond .le 9, 3) := by decide +kernel
theorem dX5_memberWithMostFree_46 : decode cX5_memberWithMostFree 46 = .ok (.iload 4, 2) := by decide +kernel
theorem dX5_memberWithMostFree_48 : decode cX5_memberWithMostFree 48 = .ok (.istore_n 1, 1) := by decide +kernel
theorem dX5_memberWithMostFree_49 : decode cX5_memberWithMostFree 49 = .ok (.lload 5, 2) := by decide +kernel
theorem dX5_memberWithMostFree_51 : decode cX5_memberWithMostFree 51 = .ok (.lstore_n 2, 1) := by decide +kernel
theorem dX5_memberWithMostFree_52 : decode cX5_memberWithMostFree 52 = .ok (.iinc 4 1, 3) := by decide +kernel
theorem dX5_memberWithMostFree_55 : decode cX5_memberWithMostFree 55 = .ok (.goto (-48), 3) := by decide +kernel
theorem dX5_memberWithMostFree_58 : decode cX5_memberWithMostFree 58 = .ok (.iload_n 1, 1) := by decide +kernel
theorem dX5_memberWithMostFree_59 : decode cX5_memberWithMostFree 59 = .ok (.ireturn, 1) := by decide +kernel
theorem dX5_drop_0 : decode cX5_drop 0 = .ok (.aload_n 0, 1) := by decide +kernel
theorem dX5_drop_1 : decode cX5_drop 1 = .ok (.getfield 11, 3) := by decide +kernel
theorem dX5_drop_4 : decode cX5_drop 4 = .ok (.iload_n 1, 1) := by decide +kernel
theorem dX5_drop_5 : decode cX5_drop 5 = .ok (.aaload, 1) := by decide +kernel
theorem dX5_drop_6 : decode cX5_drop 6 = .ok (.iload_n 2, 1) := by decide +kernel
theorem dX5_drop_7 : decode cX5_drop 7 = .ok (.iload_n 3, 1) := by decide +kernel
theorem dX5_drop_8 : decode cX5_drop 8 = .ok (.ineg, 1) := by decide +kernel
theorem dX5_drop_9 : decode cX5_drop 9 = .ok (.iload 4, 2) := by decide +kernel
theorem dX5_drop_11 : decode cX5_drop 11 = .ok (.invokestatic 237, 3) := by decide +kernel
theorem dX5_drop_14 : decode cX5_drop 14 = .ok (.aload_n 0, 1) := by decide +kernel
theorem dX5_drop_15 : decode cX5_drop 15 = .ok (.getfield 34, 3) := by decide +kernel
theorem dX5_drop_18 : decode cX5_drop 18 = .ok (.new 180, 3) := by decide +kernel
theorem dX5_drop_21 : decode cX5_drop 21 = .ok (.dup, 1) := by decide +kernel
theorem dX5_drop_22 : decode cX5_drop 22 = .ok (.iconst (-1), 1) := by decide +kernel
theorem dX5_drop_23 : decode cX5_drop 23 = .ok (.iload_n 1, 1) := by decide +kernel
theorem dX5_drop_24 : decode cX5_drop 24 = .ok (.iload_n 2, 1) := by decide +kernel
theorem dX5_drop_25 : decode cX5_drop 25 = .ok (.iload_n 3, 1) := by decide +kernel
theorem dX5_drop_26 : decode cX5_drop 26 = .ok (.iload 4, 2) := by decide +kernel
theorem dX5_drop_28 : decode cX5_drop 28 = .ok (.invokespecial 241, 3) := by decide +kernel
theorem dX5_drop_31 : decode cX5_drop 31 = .ok (.invokevirtual 120, 3) := by decide +kernel
theorem dX5_drop_34 : decode cX5_drop 34 = .ok (.pop, 1) := by decide +kernel
theorem dX5_drop_35 : decode cX5_drop 35 = .ok (.return_, 1) := by decide +kernel
theorem dX5_sellCollateral_0 : decode cX5_sellCollateral 0 = .ok (.aload_n 0, 1) := by decide +kernel
theorem dX5_sellCollateral_1 : decode cX5_sellCollateral 1 = .ok (.getfield 11, 3) := by decide +kernel
theorem dX5_sellCollateral_4 : decode cX5_sellCollateral 4 = .ok (.iload_n 1, 1) := by decide +kernel
theorem dX5_sellCollateral_5 : decode cX5_sellCollateral 5 = .ok (.aaload, 1) := by decide +kernel
theorem dX5_sellCollateral_6 : decode cX5_sellCollateral 6 = .ok (.astore_n 2, 1) := by decide +kernel
theorem dX5_sellCollateral_7 : decode cX5_sellCollateral 7 = .ok (.aload_n 2, 1) := by decide +kernel
theorem dX5_sellCollateral_8 : decode cX5_sellCollateral 8 = .ok (.aload_n 0, 1) := by decide +kernel
theorem dX5_sellCollateral_9 : decode cX5_sellCollateral 9 = .ok (.iload_n 1, 1) := by decide +kernel
theorem dX5_sellCollateral_10 : decode cX5_sellCollateral 10 = .ok (.invokevirtual 189, 3) := by decide +kernel
theorem dX5_sellCollateral_13 : decode cX5_sellCollateral 13 = .ok (.invokestatic 90, 3) := by decide +kernel
theorem dX5_sellCollateral_16 : decode cX5_sellCollateral 16 = .ok (.iconst 0, 1) := by decide +kernel
theorem dX5_sellCollateral_17 : decode cX5_sellCollateral 17 = .ok (.istore_n 3, 1) := by decide +kernel
theorem dX5_sellCollateral_18 : decode cX5_sellCollateral 18 = .ok (.iload_n 3, 1) := by decide +kernel
theorem dX5_sellCollateral_19 : decode cX5_sellCollateral 19 = .ok (.iconst 2, 1) := by decide +kernel
theorem dX5_sellCollateral_20 : decode cX5_sellCollateral 20 = .ok (.if_icmp .ge 16, 3) := by decide +kernel
theorem dX5_sellCollateral_23 : decode cX5_sellCollateral 23 = .ok (.aload_n 2, 1) := by decide +kernel
theorem dX5_sellCollateral_24 : decode cX5_sellCollateral 24 = .ok (.getfield 98, 3) := by decide +kernel
theorem dX5_sellCollateral_27 : decode cX5_sellCollateral 27 = .ok (.iload_n 3, 1) := by decide +kernel
theorem dX5_sellCollateral_28 : decode cX5_sellCollateral 28 = .ok (.iconst 0, 1) := by decide +kernel
theorem dX5_sellCollateral_29 : decode cX5_sellCollateral 29 = .ok (.iastore, 1) := by decide +kernel
theorem dX5_sellCollateral_30 : decode cX5_sellCollateral 30 = .ok (.iinc 3 1, 3) := by decide +kernel
theorem dX5_sellCollateral_33 : decode cX5_sellCollateral 33 = .ok (.goto (-15), 3) := by decide +kernel
theorem dX5_sellCollateral_36 : decode cX5_sellCollateral 36 = .ok (.return_, 1) := by decide +kernel
theorem dX5_coverLoss_0 : decode cX5_coverLoss 0 = .ok (.aload_n 1, 1) := by decide +kernel
theorem dX5_coverLoss_1 : decode cX5_coverLoss 1 = .ok (.getfield 94, 3) := by decide +kernel
theorem dX5_coverLoss_4 : decode cX5_coverLoss 4 = .ok (.lneg, 1) := by decide +kernel
theorem dX5_coverLoss_5 : decode cX5_coverLoss 5 = .ok (.lstore_n 2, 1) := by decide +kernel
theorem dX5_coverLoss_6 : decode cX5_coverLoss 6 = .ok (.aload_n 1, 1) := by decide +kernel
theorem dX5_coverLoss_7 : decode cX5_coverLoss 7 = .ok (.lload_n 2, 1) := by decide +kernel
theorem dX5_coverLoss_8 : decode cX5_coverLoss 8 = .ok (.invokestatic 90, 3) := by decide +kernel
theorem dX5_coverLoss_11 : decode cX5_coverLoss 11 = .ok (.lload_n 2, 1) := by decide +kernel
theorem dX5_coverLoss_12 : decode cX5_coverLoss 12 = .ok (.aload_n 1, 1) := by decide +kernel
theorem dX5_coverLoss_13 : decode cX5_coverLoss 13 = .ok (.lload_n 2, 1) := by decide +kernel
theorem dX5_coverLoss_14 : decode cX5_coverLoss 14 = .ok (.invokestatic 314, 3) := by decide +kernel
theorem dX5_coverLoss_17 : decode cX5_coverLoss 17 = .ok (.lsub, 1) := by decide +kernel
theorem dX5_coverLoss_18 : decode cX5_coverLoss 18 = .ok (.lstore 4, 2) := by decide +kernel
theorem dX5_coverLoss_20 : decode cX5_coverLoss 20 = .ok (.aload_n 0, 1) := by decide +kernel
theorem dX5_coverLoss_21 : decode cX5_coverLoss 21 = .ok (.dup, 1) := by decide +kernel
theorem dX5_coverLoss_22 : decode cX5_coverLoss 22 = .ok (.getfield 192, 3) := by decide +kernel
theorem dX5_coverLoss_25 : decode cX5_coverLoss 25 = .ok (.lload 4, 2) := by decide +kernel
theorem dX5_coverLoss_27 : decode cX5_coverLoss 27 = .ok (.aload_n 0, 1) := by decide +kernel
theorem dX5_coverLoss_28 : decode cX5_coverLoss 28 = .ok (.lload 4, 2) := by decide +kernel
theorem dX5_coverLoss_30 : decode cX5_coverLoss 30 = .ok (.invokevirtual 318, 3) := by decide +kernel
theorem dX5_coverLoss_33 : decode cX5_coverLoss 33 = .ok (.lsub, 1) := by decide +kernel
theorem dX5_coverLoss_34 : decode cX5_coverLoss 34 = .ok (.ladd, 1) := by decide +kernel
theorem dX5_coverLoss_35 : decode cX5_coverLoss 35 = .ok (.putfield 192, 3) := by decide +kernel
theorem dX5_coverLoss_38 : decode cX5_coverLoss 38 = .ok (.return_, 1) := by decide +kernel
theorem dX5_takeFromShare_0 : decode cX5_takeFromShare 0 = .ok (.lload_n 1, 1) := by decide +kernel
theorem dX5_takeFromShare_1 : decode cX5_takeFromShare 1 = .ok (.aload_n 0, 1) := by decide +kernel
theorem dX5_takeFromShare_2 : decode cX5_takeFromShare 2 = .ok (.getfield 105, 3) := by decide +kernel
theorem dX5_takeFromShare_5 : decode cX5_takeFromShare 5 = .ok (.invokestatic 322, 3) := by decide +kernel
theorem dX5_takeFromShare_8 : decode cX5_takeFromShare 8 = .ok (.lstore_n 3, 1) := by decide +kernel
theorem dX5_takeFromShare_9 : decode cX5_takeFromShare 9 = .ok (.aload_n 0, 1) := by decide +kernel
theorem dX5_takeFromShare_10 : decode cX5_takeFromShare 10 = .ok (.dup, 1) := by decide +kernel
theorem dX5_takeFromShare_11 : decode cX5_takeFromShare 11 = .ok (.getfield 105, 3) := by decide +kernel
theorem dX5_takeFromShare_14 : decode cX5_takeFromShare 14 = .ok (.lload_n 3, 1) := by decide +kernel
theorem dX5_takeFromShare_15 : decode cX5_takeFromShare 15 = .ok (.lsub, 1) := by decide +kernel
theorem dX5_takeFromShare_16 : decode cX5_takeFromShare 16 = .ok (.putfield 105, 3) := by decide +kernel
theorem dX5_takeFromShare_19 : decode cX5_takeFromShare 19 = .ok (.lload_n 3, 1) := by decide +kernel
theorem dX5_takeFromShare_20 : decode cX5_takeFromShare 20 = .ok (.lreturn, 1) := by decide +kernel
theorem dX5_takeFromOthers_0 : decode cX5_takeFromOthers 0 = .ok (.aload_n 0, 1) := by decide +kernel
theorem dX5_takeFromOthers_1 : decode cX5_takeFromOthers 1 = .ok (.invokevirtual 324, 3) := by decide +kernel
theorem dX5_takeFromOthers_4 : decode cX5_takeFromOthers 4 = .ok (.lstore_n 3, 1) := by decide +kernel
theorem dX5_takeFromOthers_5 : decode cX5_takeFromOthers 5 = .ok (.lconst 0, 1) := by decide +kernel
theorem dX5_takeFromOthers_6 : decode cX5_takeFromOthers 6 = .ok (.lstore 5, 2) := by decide +kernel
theorem dX5_takeFromOthers_8 : decode cX5_takeFromOthers 8 = .ok (.iconst 0, 1) := by decide +kernel
theorem dX5_takeFromOthers_9 : decode cX5_takeFromOthers 9 = .ok (.istore 7, 2) := by decide +kernel
theorem dX5_takeFromOthers_11 : decode cX5_takeFromOthers 11 = .ok (.iload 7, 2) := by decide +kernel
theorem dX5_takeFromOthers_13 : decode cX5_takeFromOthers 13 = .ok (.iconst 5, 1) := by decide +kernel
theorem dX5_takeFromOthers_14 : decode cX5_takeFromOthers 14 = .ok (.if_icmp .ge 46, 3) := by decide +kernel
theorem dX5_takeFromOthers_17 : decode cX5_takeFromOthers 17 = .ok (.aload_n 0, 1) := by decide +kernel
theorem dX5_takeFromOthers_18 : decode cX5_takeFromOthers 18 = .ok (.getfield 11, 3) := by decide +kernel
theorem dX5_takeFromOthers_21 : decode cX5_takeFromOthers 21 = .ok (.iload 7, 2) := by decide +kernel
theorem dX5_takeFromOthers_23 : decode cX5_takeFromOthers 23 = .ok (.aaload, 1) := by decide +kernel
theorem dX5_takeFromOthers_24 : decode cX5_takeFromOthers 24 = .ok (.astore 8, 2) := by decide +kernel
theorem dX5_takeFromOthers_26 : decode cX5_takeFromOthers 26 = .ok (.aload 8, 2) := by decide +kernel
theorem dX5_takeFromOthers_28 : decode cX5_takeFromOthers 28 = .ok (.getfield 78, 3) := by decide +kernel
theorem dX5_takeFromOthers_31 : decode cX5_takeFromOthers 31 = .ok (.ifCond .ne 23, 3) := by decide +kernel
theorem dX5_takeFromOthers_34 : decode cX5_takeFromOthers 34 = .ok (.lload 5, 2) := by decide +kernel
theorem dX5_takeFromOthers_36 : decode cX5_takeFromOthers 36 = .ok (.aload 8, 2) := by decide +kernel
theorem dX5_takeFromOthers_38 : decode cX5_takeFromOthers 38 = .ok (.lload_n 1, 1) := by decide +kernel
theorem dX5_takeFromOthers_39 : decode cX5_takeFromOthers 39 = .ok (.aload 8, 2) := by decide +kernel
theorem dX5_takeFromOthers_41 : decode cX5_takeFromOthers 41 = .ok (.getfield 105, 3) := by decide +kernel
theorem dX5_takeFromOthers_44 : decode cX5_takeFromOthers 44 = .ok (.lload_n 3, 1) := by decide +kernel
theorem dX5_takeFromOthers_45 : decode cX5_takeFromOthers 45 = .ok (.invokestatic 328, 3) := by decide +kernel
theorem dX5_takeFromOthers_48 : decode cX5_takeFromOthers 48 = .ok (.invokestatic 314, 3) := by decide +kernel
theorem dX5_takeFromOthers_51 : decode cX5_takeFromOthers 51 = .ok (.ladd, 1) := by decide +kernel
theorem dX5_takeFromOthers_52 : decode cX5_takeFromOthers 52 = .ok (.lstore 5, 2) := by decide +kernel
theorem dX5_takeFromOthers_54 : decode cX5_takeFromOthers 54 = .ok (.iinc 7 1, 3) := by decide +kernel
theorem dX5_takeFromOthers_57 : decode cX5_takeFromOthers 57 = .ok (.goto (-46), 3) := by decide +kernel
theorem dX5_takeFromOthers_60 : decode cX5_takeFromOthers 60 = .ok (.iconst 0, 1) := by decide +kernel
theorem dX5_takeFromOthers_61 : decode cX5_takeFromOthers 61 = .ok (.istore 7, 2) := by decide +kernel
theorem dX5_takeFromOthers_63 : decode cX5_takeFromOthers 63 = .ok (.iload 7, 2) := by decide +kernel
theorem dX5_takeFromOthers_65 : decode cX5_takeFromOthers 65 = .ok (.iconst 5, 1) := by decide +kernel
theorem dX5_takeFromOthers_66 : decode cX5_takeFromOthers 66 = .ok (.if_icmp .ge 41, 3) := by decide +kernel
theorem dX5_takeFromOthers_69 : decode cX5_takeFromOthers 69 = .ok (.aload_n 0, 1) := by decide +kernel
theorem dX5_takeFromOthers_70 : decode cX5_takeFromOthers 70 = .ok (.getfield 11, 3) := by decide +kernel
theorem dX5_takeFromOthers_73 : decode cX5_takeFromOthers 73 = .ok (.iload 7, 2) := by decide +kernel
theorem dX5_takeFromOthers_75 : decode cX5_takeFromOthers 75 = .ok (.aaload, 1) := by decide +kernel
theorem dX5_takeFromOthers_76 : decode cX5_takeFromOthers 76 = .ok (.getfield 78, 3) := by decide +kernel
theorem dX5_takeFromOthers_79 : decode cX5_takeFromOthers 79 = .ok (.ifCond .ne 22, 3) := by decide +kernel
theorem dX5_takeFromOthers_82 : decode cX5_takeFromOthers 82 = .ok (.lload 5, 2) := by decide +kernel
theorem dX5_takeFromOthers_84 : decode cX5_takeFromOthers 84 = .ok (.aload_n 0, 1) := by decide +kernel
theorem dX5_takeFromOthers_85 : decode cX5_takeFromOthers 85 = .ok (.getfield 11, 3) := by decide +kernel
theorem dX5_takeFromOthers_88 : decode cX5_takeFromOthers 88 = .ok (.iload 7, 2) := by decide +kernel
theorem dX5_takeFromOthers_90 : decode cX5_takeFromOthers 90 = .ok (.aaload, 1) := by decide +kernel
theorem dX5_takeFromOthers_91 : decode cX5_takeFromOthers 91 = .ok (.lload_n 1, 1) := by decide +kernel
theorem dX5_takeFromOthers_92 : decode cX5_takeFromOthers 92 = .ok (.lload 5, 2) := by decide +kernel
theorem dX5_takeFromOthers_94 : decode cX5_takeFromOthers 94 = .ok (.lsub, 1) := by decide +kernel
theorem dX5_takeFromOthers_95 : decode cX5_takeFromOthers 95 = .ok (.invokestatic 314, 3) := by decide +kernel
theorem dX5_takeFromOthers_98 : decode cX5_takeFromOthers 98 = .ok (.ladd, 1) := by decide +kernel
theorem dX5_takeFromOthers_99 : decode cX5_takeFromOthers 99 = .ok (.lstore 5, 2) := by decide +kernel
theorem dX5_takeFromOthers_101 : decode cX5_takeFromOthers 101 = .ok (.iinc 7 1, 3) := by decide +kernel
theorem dX5_takeFromOthers_104 : decode cX5_takeFromOthers 104 = .ok (.goto (-41), 3) := by decide +kernel
theorem dX5_takeFromOthers_107 : decode cX5_takeFromOthers 107 = .ok (.lload 5, 2) := by decide +kernel
theorem dX5_takeFromOthers_109 : decode cX5_takeFromOthers 109 = .ok (.lreturn, 1) := by decide +kernel
theorem dX5_sharesOfOthers_0 : decode cX5_sharesOfOthers 0 = .ok (.lconst 0, 1) := by decide +kernel
theorem dX5_sharesOfOthers_1 : decode cX5_sharesOfOthers 1 = .ok (.lstore_n 1, 1) := by decide +kernel
theorem dX5_sharesOfOthers_2 : decode cX5_sharesOfOthers 2 = .ok (.iconst 0, 1) := by decide +kernel
theorem dX5_sharesOfOthers_3 : decode cX5_sharesOfOthers 3 = .ok (.istore_n 3, 1) := by decide +kernel
theorem dX5_sharesOfOthers_4 : decode cX5_sharesOfOthers 4 = .ok (.iload_n 3, 1) := by decide +kernel
theorem dX5_sharesOfOthers_5 : decode cX5_sharesOfOthers 5 = .ok (.iconst 5, 1) := by decide +kernel
theorem dX5_sharesOfOthers_6 : decode cX5_sharesOfOthers 6 = .ok (.if_icmp .ge 37, 3) := by decide +kernel
theorem dX5_sharesOfOthers_9 : decode cX5_sharesOfOthers 9 = .ok (.lload_n 1, 1) := by decide +kernel
theorem dX5_sharesOfOthers_10 : decode cX5_sharesOfOthers 10 = .ok (.aload_n 0, 1) := by decide +kernel
theorem dX5_sharesOfOthers_11 : decode cX5_sharesOfOthers 11 = .ok (.getfield 11, 3) := by decide +kernel
theorem dX5_sharesOfOthers_14 : decode cX5_sharesOfOthers 14 = .ok (.iload_n 3, 1) := by decide +kernel
theorem dX5_sharesOfOthers_15 : decode cX5_sharesOfOthers 15 = .ok (.aaload, 1) := by decide +kernel
theorem dX5_sharesOfOthers_16 : decode cX5_sharesOfOthers 16 = .ok (.getfield 78, 3) := by decide +kernel
theorem dX5_sharesOfOthers_19 : decode cX5_sharesOfOthers 19 = .ok (.ifCond .eq 7, 3) := by decide +kernel
theorem dX5_sharesOfOthers_22 : decode cX5_sharesOfOthers 22 = .ok (.lconst 0, 1) := by decide +kernel
theorem dX5_sharesOfOthers_23 : decode cX5_sharesOfOthers 23 = .ok (.goto 12, 3) := by decide +kernel
theorem dX5_sharesOfOthers_26 : decode cX5_sharesOfOthers 26 = .ok (.aload_n 0, 1) := by decide +kernel
theorem dX5_sharesOfOthers_27 : decode cX5_sharesOfOthers 27 = .ok (.getfield 11, 3) := by decide +kernel
theorem dX5_sharesOfOthers_30 : decode cX5_sharesOfOthers 30 = .ok (.iload_n 3, 1) := by decide +kernel
theorem dX5_sharesOfOthers_31 : decode cX5_sharesOfOthers 31 = .ok (.aaload, 1) := by decide +kernel
theorem dX5_sharesOfOthers_32 : decode cX5_sharesOfOthers 32 = .ok (.getfield 105, 3) := by decide +kernel
theorem dX5_sharesOfOthers_35 : decode cX5_sharesOfOthers 35 = .ok (.ladd, 1) := by decide +kernel
theorem dX5_sharesOfOthers_36 : decode cX5_sharesOfOthers 36 = .ok (.lstore_n 1, 1) := by decide +kernel
theorem dX5_sharesOfOthers_37 : decode cX5_sharesOfOthers 37 = .ok (.iinc 3 1, 3) := by decide +kernel
theorem dX5_sharesOfOthers_40 : decode cX5_sharesOfOthers 40 = .ok (.goto (-36), 3) := by decide +kernel
theorem dX5_sharesOfOthers_43 : decode cX5_sharesOfOthers 43 = .ok (.lload_n 1, 1) := by decide +kernel
theorem dX5_sharesOfOthers_44 : decode cX5_sharesOfOthers 44 = .ok (.lreturn, 1) := by decide +kernel
theorem dX5_partOf_0 : decode cX5_partOf 0 = .ok (.lload 4, 2) := by decide +kernel
theorem dX5_partOf_2 : decode cX5_partOf 2 = .ok (.lload_n 0, 1) := by decide +kernel
theorem dX5_partOf_3 : decode cX5_partOf 3 = .ok (.lcmp, 1) := by decide +kernel
theorem dX5_partOf_4 : decode cX5_partOf 4 = .ok (.ifCond .le 10, 3) := by decide +kernel
theorem dX5_partOf_7 : decode cX5_partOf 7 = .ok (.lload 4, 2) := by decide +kernel
theorem dX5_partOf_9 : decode cX5_partOf 9 = .ok (.lconst 1, 1) := by decide +kernel
theorem dX5_partOf_10 : decode cX5_partOf 10 = .ok (.lcmp, 1) := by decide +kernel
theorem dX5_partOf_11 : decode cX5_partOf 11 = .ok (.ifCond .ge 5, 3) := by decide +kernel
theorem dX5_partOf_14 : decode cX5_partOf 14 = .ok (.lload_n 2, 1) := by decide +kernel
theorem dX5_partOf_15 : decode cX5_partOf 15 = .ok (.lreturn, 1) := by decide +kernel
theorem dX5_partOf_16 : decode cX5_partOf 16 = .ok (.lload_n 0, 1) := by decide +kernel
theorem dX5_partOf_17 : decode cX5_partOf 17 = .ok (.lload_n 2, 1) := by decide +kernel
theorem dX5_partOf_18 : decode cX5_partOf 18 = .ok (.lmul, 1) := by decide +kernel
theorem dX5_partOf_19 : decode cX5_partOf 19 = .ok (.lload 4, 2) := by decide +kernel
theorem dX5_partOf_21 : decode cX5_partOf 21 = .ok (.ldiv, 1) := by decide +kernel
theorem dX5_partOf_22 : decode cX5_partOf 22 = .ok (.lreturn, 1) := by decide +kernel
theorem dX6_init_0 : decode cX6_init 0 = .ok (.aload_n 0, 1) := by decide +kernel
theorem dX6_init_1 : decode cX6_init 1 = .ok (.invokespecial 1, 3) := by decide +kernel
theorem dX6_init_4 : decode cX6_init 4 = .ok (.aload_n 0, 1) := by decide +kernel
theorem dX6_init_5 : decode cX6_init 5 = .ok (.iconst 3, 1) := by decide +kernel
theorem dX6_init_6 : decode cX6_init 6 = .ok (.newarray .int, 2) := by decide +kernel
theorem dX6_init_8 : decode cX6_init 8 = .ok (.putfield 7, 3) := by decide +kernel
theorem dX6_init_11 : decode cX6_init 11 = .ok (.aload_n 0, 1) := by decide +kernel
theorem dX6_init_12 : decode cX6_init 12 = .ok (.bipush 12, 2) := by decide +kernel
theorem dX6_init_14 : decode cX6_init 14 = .ok (.newarray .int, 2) := by decide +kernel
theorem dX6_init_16 : decode cX6_init 16 = .ok (.putfield 13, 3) := by decide +kernel
theorem dX6_init_19 : decode cX6_init 19 = .ok (.aload_n 0, 1) := by decide +kernel
theorem dX6_init_20 : decode cX6_init 20 = .ok (.bipush 8, 2) := by decide +kernel
theorem dX6_init_22 : decode cX6_init 22 = .ok (.newarray .int, 2) := by decide +kernel
theorem dX6_init_24 : decode cX6_init 24 = .ok (.putfield 16, 3) := by decide +kernel
theorem dX6_init_27 : decode cX6_init 27 = .ok (.aload_n 0, 1) := by decide +kernel
theorem dX6_init_28 : decode cX6_init 28 = .ok (.bipush 15, 2) := by decide +kernel
theorem dX6_init_30 : decode cX6_init 30 = .ok (.newarray .int, 2) := by decide +kernel
theorem dX6_init_32 : decode cX6_init 32 = .ok (.putfield 19, 3) := by decide +kernel
theorem dX6_init_35 : decode cX6_init 35 = .ok (.aload_n 0, 1) := by decide +kernel
theorem dX6_init_36 : decode cX6_init 36 = .ok (.bipush 15, 2) := by decide +kernel
theorem dX6_init_38 : decode cX6_init 38 = .ok (.newarray .long, 2) := by decide +kernel
theorem dX6_init_40 : decode cX6_init 40 = .ok (.putfield 22, 3) := by decide +kernel
theorem dX6_init_43 : decode cX6_init 43 = .ok (.aload_n 0, 1) := by decide +kernel
theorem dX6_init_44 : decode cX6_init 44 = .ok (.iconst 5, 1) := by decide +kernel
theorem dX6_init_45 : decode cX6_init 45 = .ok (.newarray .long, 2) := by decide +kernel
theorem dX6_init_47 : decode cX6_init 47 = .ok (.putfield 26, 3) := by decide +kernel
theorem dX6_init_50 : decode cX6_init 50 = .ok (.aload_n 0, 1) := by decide +kernel
theorem dX6_init_51 : decode cX6_init 51 = .ok (.bipush 10, 2) := by decide +kernel
theorem dX6_init_53 : decode cX6_init 53 = .ok (.newarray .int, 2) := by decide +kernel
theorem dX6_init_55 : decode cX6_init 55 = .ok (.putfield 29, 3) := by decide +kernel
theorem dX6_init_58 : decode cX6_init 58 = .ok (.aload_n 0, 1) := by decide +kernel
theorem dX6_init_59 : decode cX6_init 59 = .ok (.iconst 5, 1) := by decide +kernel
theorem dX6_init_60 : decode cX6_init 60 = .ok (.newarray .long, 2) := by decide +kernel
theorem dX6_init_62 : decode cX6_init 62 = .ok (.putfield 32, 3) := by decide +kernel
theorem dX6_init_65 : decode cX6_init 65 = .ok (.aload_n 0, 1) := by decide +kernel
theorem dX6_init_66 : decode cX6_init 66 = .ok (.iconst 5, 1) := by decide +kernel
theorem dX6_init_67 : decode cX6_init 67 = .ok (.newarray .int, 2) := by decide +kernel
theorem dX6_init_69 : decode cX6_init 69 = .ok (.putfield 35, 3) := by decide +kernel
theorem dX6_init_72 : decode cX6_init 72 = .ok (.aload_n 0, 1) := by decide +kernel
theorem dX6_init_73 : decode cX6_init 73 = .ok (.iconst 5, 1) := by decide +kernel
theorem dX6_init_74 : decode cX6_init 74 = .ok (.newarray .boolean, 2) := by decide +kernel
theorem dX6_init_76 : decode cX6_init 76 = .ok (.putfield 38, 3) := by decide +kernel
theorem dX6_init_79 : decode cX6_init 79 = .ok (.aload_n 0, 1) := by decide +kernel
theorem dX6_init_80 : decode cX6_init 80 = .ok (.bipush 100, 2) := by decide +kernel
theorem dX6_init_82 : decode cX6_init 82 = .ok (.newarray .int, 2) := by decide +kernel
theorem dX6_init_84 : decode cX6_init 84 = .ok (.putfield 42, 3) := by decide +kernel
theorem dX6_init_87 : decode cX6_init 87 = .ok (.aload_n 0, 1) := by decide +kernel
theorem dX6_init_88 : decode cX6_init 88 = .ok (.bipush 100, 2) := by decide +kernel
theorem dX6_init_90 : decode cX6_init 90 = .ok (.newarray .int, 2) := by decide +kernel
theorem dX6_init_92 : decode cX6_init 92 = .ok (.putfield 45, 3) := by decide +kernel
theorem dX6_init_95 : decode cX6_init 95 = .ok (.aload_n 0, 1) := by decide +kernel
theorem dX6_init_96 : decode cX6_init 96 = .ok (.bipush 100, 2) := by decide +kernel
theorem dX6_init_98 : decode cX6_init 98 = .ok (.newarray .boolean, 2) := by decide +kernel
theorem dX6_init_100 : decode cX6_init 100 = .ok (.putfield 48, 3) := by decide +kernel
theorem dX6_init_103 : decode cX6_init 103 = .ok (.aload_n 0, 1) := by decide +kernel
theorem dX6_init_104 : decode cX6_init 104 = .ok (.bipush 100, 2) := by decide +kernel
theorem dX6_init_106 : decode cX6_init 106 = .ok (.newarray .int, 2) := by decide +kernel
theorem dX6_init_108 : decode cX6_init 108 = .ok (.putfield 51, 3) := by decide +kernel
theorem dX6_init_111 : decode cX6_init 111 = .ok (.aload_n 0, 1) := by decide +kernel
theorem dX6_init_112 : decode cX6_init 112 = .ok (.bipush 100, 2) := by decide +kernel
theorem dX6_init_114 : decode cX6_init 114 = .ok (.newarray .int, 2) := by decide +kernel
theorem dX6_init_116 : decode cX6_init 116 = .ok (.putfield 54, 3) := by decide +kernel
theorem dX6_init_119 : decode cX6_init 119 = .ok (.aload_n 0, 1) := by decide +kernel
theorem dX6_init_120 : decode cX6_init 120 = .ok (.iconst 3, 1) := by decide +kernel
theorem dX6_init_121 : decode cX6_init 121 = .ok (.newarray .boolean, 2) := by decide +kernel
theorem dX6_init_123 : decode cX6_init 123 = .ok (.putfield 57, 3) := by decide +kernel
theorem dX6_init_126 : decode cX6_init 126 = .ok (.aload_n 0, 1) := by decide +kernel
theorem dX6_init_127 : decode cX6_init 127 = .ok (.iconst 3, 1) := by decide +kernel
theorem dX6_init_128 : decode cX6_init 128 = .ok (.newarray .int, 2) := by decide +kernel
theorem dX6_init_130 : decode cX6_init 130 = .ok (.putfield 60, 3) := by decide +kernel
theorem dX6_init_133 : decode cX6_init 133 = .ok (.aload_n 0, 1) := by decide +kernel
theorem dX6_init_134 : decode cX6_init 134 = .ok (.iconst 3, 1) := by decide +kernel
theorem dX6_init_135 : decode cX6_init 135 = .ok (.newarray .boolean, 2) := by decide +kernel
theorem dX6_init_137 : decode cX6_init 137 = .ok (.putfield 63, 3) := by decide +kernel
theorem dX6_init_140 : decode cX6_init 140 = .ok (.iconst 0, 1) := by decide +kernel
theorem dX6_init_141 : decode cX6_init 141 = .ok (.istore_n 1, 1) := by decide +kernel
theorem dX6_init_142 : decode cX6_init 142 = .ok (.iload_n 1, 1) := by decide +kernel
theorem dX6_init_143 : decode cX6_init 143 = .ok (.iconst 3, 1) := by decide +kernel
theorem dX6_init_144 : decode cX6_init 144 = .ok (.if_icmp .ge 17, 3) := by decide +kernel
theorem dX6_init_147 : decode cX6_init 147 = .ok (.aload_n 0, 1) := by decide +kernel
theorem dX6_init_148 : decode cX6_init 148 = .ok (.getfield 7, 3) := by decide +kernel
theorem dX6_init_151 : decode cX6_init 151 = .ok (.iload_n 1, 1) := by decide +kernel
theorem dX6_init_152 : decode cX6_init 152 = .ok (.bipush 100, 2) := by decide +kernel
theorem dX6_init_154 : decode cX6_init 154 = .ok (.iastore, 1) := by decide +kernel
theorem dX6_init_155 : decode cX6_init 155 = .ok (.iinc 1 1, 3) := by decide +kernel
theorem dX6_init_158 : decode cX6_init 158 = .ok (.goto (-16), 3) := by decide +kernel
theorem dX6_init_161 : decode cX6_init 161 = .ok (.aload_n 0, 1) := by decide +kernel
theorem dX6_init_162 : decode cX6_init 162 = .ok (.getfield 16, 3) := by decide +kernel
theorem dX6_init_165 : decode cX6_init 165 = .ok (.iconst 0, 1) := by decide +kernel
theorem dX6_init_166 : decode cX6_init 166 = .ok (.bipush 100, 2) := by decide +kernel
theorem dX6_init_168 : decode cX6_init 168 = .ok (.iastore, 1) := by decide +kernel
theorem dX6_init_169 : decode cX6_init 169 = .ok (.aload_n 0, 1) := by decide +kernel
theorem dX6_init_170 : decode cX6_init 170 = .ok (.getfield 16, 3) := by decide +kernel
theorem dX6_init_173 : decode cX6_init 173 = .ok (.iconst 4, 1) := by decide +kernel
theorem dX6_init_174 : decode cX6_init 174 = .ok (.bipush 100, 2) := by decide +kernel
theorem dX6_init_176 : decode cX6_init 176 = .ok (.iastore, 1) := by decide +kernel
theorem dX6_init_177 : decode cX6_init 177 = .ok (.iconst 0, 1) := by decide +kernel
theorem dX6_init_178 : decode cX6_init 178 = .ok (.istore_n 1, 1) := by decide +kernel
theorem dX6_init_179 : decode cX6_init 179 = .ok (.iload_n 1, 1) := by decide +kernel
theorem dX6_init_180 : decode cX6_init 180 = .ok (.iconst 5, 1) := by decide +kernel
theorem dX6_init_181 : decode cX6_init 181 = .ok (.if_icmp .ge 16, 3) := by decide +kernel
theorem dX6_init_184 : decode cX6_init 184 = .ok (.aload_n 0, 1) := by decide +kernel
theorem dX6_init_185 : decode cX6_init 185 = .ok (.getfield 35, 3) := by decide +kernel
theorem dX6_init_188 : decode cX6_init 188 = .ok (.iload_n 1, 1) := by decide +kernel
theorem dX6_init_189 : decode cX6_init 189 = .ok (.iconst (-1), 1) := by decide +kernel
theorem dX6_init_190 : decode cX6_init 190 = .ok (.iastore, 1) := by decide +kernel
theorem dX6_init_191 : decode cX6_init 191 = .ok (.iinc 1 1, 3) := by decide +kernel
theorem dX6_init_194 : decode cX6_init 194 = .ok (.goto (-15), 3) := by decide +kernel
theorem dX6_init_197 : decode cX6_init 197 = .ok (.return_, 1) := by decide +kernel
theorem dX6_thrown_0 : decode cX6_thrown 0 = .ok (.aload_n 0, 1) := by decide +kernel
theorem dX6_thrown_1 : decode cX6_thrown 1 = .ok (.getfield 66, 3) := by decide +kernel
theorem dX6_thrown_4 : decode cX6_thrown 4 = .ok (.ireturn, 1) := by decide +kernel
theorem dX6_fails_0 : decode cX6_fails 0 = .ok (.aload_n 0, 1) := by decide +kernel
theorem dX6_fails_1 : decode cX6_fails 1 = .ok (.iload_n 1, 1) := by decide +kernel
theorem dX6_fails_2 : decode cX6_fails 2 = .ok (.putfield 66, 3) := by decide +kernel
theorem dX6_fails_5 : decode cX6_fails 5 = .ok (.iconst 0, 1) := by decide +kernel
theorem dX6_fails_6 : decode cX6_fails 6 = .ok (.ireturn, 1) := by decide +kernel
theorem dX6_asks_0 : decode cX6_asks 0 = .ok (.aload_n 0, 1) := by decide +kernel
theorem dX6_asks_1 : decode cX6_asks 1 = .ok (.iload_n 1, 1) := by decide +kernel
theorem dX6_asks_2 : decode cX6_asks 2 = .ok (.ifCond .eq 7, 3) := by decide +kernel
theorem dX6_asks_5 : decode cX6_asks 5 = .ok (.iconst 0, 1) := by decide +kernel
theorem dX6_asks_6 : decode cX6_asks 6 = .ok (.goto 4, 3) := by decide +kernel
theorem dX6_asks_9 : decode cX6_asks 9 = .ok (.iconst 1, 1) := by decide +kernel
theorem dX6_asks_10 : decode cX6_asks 10 = .ok (.putfield 66, 3) := by decide +kernel
theorem dX6_asks_13 : decode cX6_asks 13 = .ok (.iload_n 1, 1) := by decide +kernel
theorem dX6_asks_14 : decode cX6_asks 14 = .ok (.ireturn, 1) := by decide +kernel
theorem dX6_in_0 : decode cX6_in 0 = .ok (.iload_n 0, 1) := by decide +kernel
theorem dX6_in_1 : decode cX6_in 1 = .ok (.iload_n 1, 1) := by decide +kernel
theorem dX6_in_2 : decode cX6_in 2 = .ok (.if_icmp .lt 12, 3) := by decide +kernel
theorem dX6_in_5 : decode cX6_in 5 = .ok (.iload_n 0, 1) := by decide +kernel
theorem dX6_in_6 : decode cX6_in 6 = .ok (.iload_n 2, 1) := by decide +kernel
theorem dX6_in_7 : decode cX6_in 7 = .ok (.if_icmp .gt 7, 3) := by decide +kernel
theorem dX6_in_10 : decode cX6_in 10 = .ok (.iconst 1, 1) := by decide +kernel
theorem dX6_in_11 : decode cX6_in 11 = .ok (.goto 4, 3) := by decide +kernel
theorem dX6_in_14 : decode cX6_in 14 = .ok (.iconst 0, 1) := by decide +kernel
theorem dX6_in_15 : decode cX6_in 15 = .ok (.ireturn, 1) := by decide +kernel
theorem dX6_isMember_0 : decode cX6_isMember 0 = .ok (.iload_n 0, 1) := by decide +kernel
theorem dX6_isMember_1 : decode cX6_isMember 1 = .ok (.ifCond .lt 12, 3) := by decide +kernel
theorem dX6_isMember_4 : decode cX6_isMember 4 = .ok (.iload_n 0, 1) := by decide +kernel
theorem dX6_isMember_5 : decode cX6_isMember 5 = .ok (.iconst 5, 1) := by decide +kernel
theorem dX6_isMember_6 : decode cX6_isMember 6 = .ok (.if_icmp .ge 7, 3) := by decide +kernel
theorem dX6_isMember_9 : decode cX6_isMember 9 = .ok (.iconst 1, 1) := by decide +kernel
theorem dX6_isMember_10 : decode cX6_isMember 10 = .ok (.goto 4, 3) := by decide +kernel
theorem dX6_isMember_13 : decode cX6_isMember 13 = .ok (.iconst 0, 1) := by decide +kernel
theorem dX6_isMember_14 : decode cX6_isMember 14 = .ok (.ireturn, 1) := by decide +kernel
theorem dX6_isProduct_0 : decode cX6_isProduct 0 = .ok (.iload_n 0, 1) := by decide +kernel
theorem dX6_isProduct_1 : decode cX6_isProduct 1 = .ok (.ifCond .lt 12, 3) := by decide +kernel
theorem dX6_isProduct_4 : decode cX6_isProduct 4 = .ok (.iload_n 0, 1) := by decide +kernel
theorem dX6_isProduct_5 : decode cX6_isProduct 5 = .ok (.iconst 3, 1) := by decide +kernel
theorem dX6_isProduct_6 : decode cX6_isProduct 6 = .ok (.if_icmp .ge 7, 3) := by decide +kernel
theorem dX6_isProduct_9 : decode cX6_isProduct 9 = .ok (.iconst 1, 1) := by decide +kernel
theorem dX6_isProduct_10 : decode cX6_isProduct 10 = .ok (.goto 4, 3) := by decide +kernel
theorem dX6_isProduct_13 : decode cX6_isProduct 13 = .ok (.iconst 0, 1) := by decide +kernel
theorem dX6_isProduct_14 : decode cX6_isProduct 14 = .ok (.ireturn, 1) := by decide +kernel
theorem dX6_tell_0 : decode cX6_tell 0 = .ok (.aload_n 0, 1) := by decide +kernel
theorem dX6_tell_1 : decode cX6_tell 1 = .ok (.iload_n 1, 1) := by decide +kernel
theorem dX6_tell_2 : decode cX6_tell 2 = .ok (.invokestatic 70, 3) := by decide +kernel
theorem dX6_tell_5 : decode cX6_tell 5 = .ok (.ifCond .eq 18, 3) := by decide +kernel
theorem dX6_tell_8 : decode cX6_tell 8 = .ok (.iload_n 2, 1) := by decide +kernel
theorem dX6_tell_9 : decode cX6_tell 9 = .ok (.iconst 1, 1) := by decide +kernel
theorem dX6_tell_10 : decode cX6_tell 10 = .ok (.sipush 9999, 3) := by decide +kernel
theorem dX6_tell_13 : decode cX6_tell 13 = .ok (.invokestatic 74, 3) := by decide +kernel
theorem dX6_tell_16 : decode cX6_tell 16 = .ok (.ifCond .eq 7, 3) := by decide +kernel
theorem dX6_tell_19 : decode cX6_tell 19 = .ok (.iconst 1, 1) := by decide +kernel
theorem dX6_tell_20 : decode cX6_tell 20 = .ok (.goto 4, 3) := by decide +kernel
theorem dX6_tell_23 : decode cX6_tell 23 = .ok (.iconst 0, 1) := by decide +kernel
theorem dX6_tell_24 : decode cX6_tell 24 = .ok (.invokevirtual 78, 3) := by decide +kernel
theorem dX6_tell_27 : decode cX6_tell 27 = .ok (.ifCond .ne 5, 3) := by decide +kernel
theorem dX6_tell_30 : decode cX6_tell 30 = .ok (.iconst 0, 1) := by decide +kernel
theorem dX6_tell_31 : decode cX6_tell 31 = .ok (.ireturn, 1) := by decide +kernel
theorem dX6_tell_32 : decode cX6_tell 32 = .ok (.aload_n 0, 1) := by decide +kernel
theorem dX6_tell_33 : decode cX6_tell 33 = .ok (.getfield 7, 3) := by decide +kernel
theorem dX6_tell_36 : decode cX6_tell 36 = .ok (.iload_n 1, 1) := by decide +kernel
theorem dX6_tell_37 : decode cX6_tell 37 = .ok (.iaload, 1) := by decide +kernel
theorem dX6_tell_38 : decode cX6_tell 38 = .ok (.istore_n 3, 1) := by decide +kernel
theorem dX6_tell_39 : decode cX6_tell 39 = .ok (.aload_n 0, 1) := by decide +kernel
theorem dX6_tell_40 : decode cX6_tell 40 = .ok (.getfield 7, 3) := by decide +kernel
theorem dX6_tell_43 : decode cX6_tell 43 = .ok (.iload_n 1, 1) := by decide +kernel
theorem dX6_tell_44 : decode cX6_tell 44 = .ok (.iload_n 2, 1) := by decide +kernel
theorem dX6_tell_45 : decode cX6_tell 45 = .ok (.iastore, 1) := by decide +kernel
theorem dX6_tell_46 : decode cX6_tell 46 = .ok (.iload_n 3, 1) := by decide +kernel
theorem dX6_tell_47 : decode cX6_tell 47 = .ok (.ireturn, 1) := by decide +kernel
theorem dX6_setMove_0 : decode cX6_setMove 0 = .ok (.aload_n 0, 1) := by decide +kernel
theorem dX6_setMove_1 : decode cX6_setMove 1 = .ok (.iload_n 1, 1) := by decide +kernel
theorem dX6_setMove_2 : decode cX6_setMove 2 = .ok (.iconst 0, 1) := by decide +kernel
theorem dX6_setMove_3 : decode cX6_setMove 3 = .ok (.iconst 3, 1) := by decide +kernel
theorem dX6_setMove_4 : decode cX6_setMove 4 = .ok (.invokestatic 74, 3) := by decide +kernel
theorem dX6_setMove_7 : decode cX6_setMove 7 = .ok (.ifCond .eq 27, 3) := by decide +kernel
theorem dX6_setMove_10 : decode cX6_setMove 10 = .ok (.iload_n 2, 1) := by decide +kernel
theorem dX6_setMove_11 : decode cX6_setMove 11 = .ok (.invokestatic 70, 3) := by decide +kernel
theorem dX6_setMove_14 : decode cX6_setMove 14 = .ok (.ifCond .eq 20, 3) := by decide +kernel
theorem dX6_setMove_17 : decode cX6_setMove 17 = .ok (.iload_n 3, 1) := by decide +kernel
theorem dX6_setMove_18 : decode cX6_setMove 18 = .ok (.sipush (-500), 3) := by decide +kernel
theorem dX6_setMove_21 : decode cX6_setMove 21 = .ok (.sipush 500, 3) := by decide +kernel
theorem dX6_setMove_24 : decode cX6_setMove 24 = .ok (.invokestatic 74, 3) := by decide +kernel
theorem dX6_setMove_27 : decode cX6_setMove 27 = .ok (.ifCond .eq 7, 3) := by decide +kernel
theorem dX6_setMove_30 : decode cX6_setMove 30 = .ok (.iconst 1, 1) := by decide +kernel
theorem dX6_setMove_31 : decode cX6_setMove 31 = .ok (.goto 4, 3) := by decide +kernel
theorem dX6_setMove_34 : decode cX6_setMove 34 = .ok (.iconst 0, 1) := by decide +kernel
theorem dX6_setMove_35 : decode cX6_setMove 35 = .ok (.invokevirtual 78, 3) := by decide +kernel
theorem dX6_setMove_38 : decode cX6_setMove 38 = .ok (.ifCond .ne 5, 3) := by decide +kernel
theorem dX6_setMove_41 : decode cX6_setMove 41 = .ok (.iconst 0, 1) := by decide +kernel
theorem dX6_setMove_42 : decode cX6_setMove 42 = .ok (.ireturn, 1) := by decide +kernel
theorem dX6_setMove_43 : decode cX6_setMove 43 = .ok (.aload_n 0, 1) := by decide +kernel
theorem dX6_setMove_44 : decode cX6_setMove 44 = .ok (.getfield 13, 3) := by decide +kernel
theorem dX6_setMove_47 : decode cX6_setMove 47 = .ok (.iconst 3, 1) := by decide +kernel
theorem dX6_setMove_48 : decode cX6_setMove 48 = .ok (.iload_n 1, 1) := by decide +kernel
theorem dX6_setMove_49 : decode cX6_setMove 49 = .ok (.imul, 1) := by decide +kernel
theorem dX6_setMove_50 : decode cX6_setMove 50 = .ok (.iload_n 2, 1) := by decide +kernel
theorem dX6_setMove_51 : decode cX6_setMove 51 = .ok (.iadd, 1) := by decide +kernel
theorem dX6_setMove_52 : decode cX6_setMove 52 = .ok (.iaload, 1) := by decide +kernel
theorem dX6_setMove_53 : decode cX6_setMove 53 = .ok (.istore 4, 2) := by decide +kernel
theorem dX6_setMove_55 : decode cX6_setMove 55 = .ok (.aload_n 0, 1) := by decide +kernel
theorem dX6_setMove_56 : decode cX6_setMove 56 = .ok (.getfield 13, 3) := by decide +kernel
theorem dX6_setMove_59 : decode cX6_setMove 59 = .ok (.iconst 3, 1) := by decide +kernel
theorem dX6_setMove_60 : decode cX6_setMove 60 = .ok (.iload_n 1, 1) := by decide +kernel
theorem dX6_setMove_61 : decode cX6_setMove 61 = .ok (.imul, 1) := by decide +kernel
theorem dX6_setMove_62 : decode cX6_setMove 62 = .ok (.iload_n 2, 1) := by decide +kernel
theorem dX6_setMove_63 : decode cX6_setMove 63 = .ok (.iadd, 1) := by decide +kernel
theorem dX6_setMove_64 : decode cX6_setMove 64 = .ok (.iload_n 3, 1) := by decide +kernel
theorem dX6_setMove_65 : decode cX6_setMove 65 = .ok (.iastore, 1) := by decide +kernel
theorem dX6_setMove_66 : decode cX6_setMove 66 = .ok (.iload 4, 2) := by decide +kernel
theorem dX6_setMove_68 : decode cX6_setMove 68 = .ok (.ireturn, 1) := by decide +kernel
theorem dX6_haircutOf_0 : decode cX6_haircutOf 0 = .ok (.aload_n 0, 1) := by decide +kernel
theorem dX6_haircutOf_1 : decode cX6_haircutOf 1 = .ok (.getfield 16, 3) := by decide +kernel
theorem dX6_haircutOf_4 : decode cX6_haircutOf 4 = .ok (.iconst 4, 1) := by decide +kernel
theorem dX6_haircutOf_5 : decode cX6_haircutOf 5 = .ok (.iload_n 1, 1) := by decide +kernel
theorem dX6_haircutOf_6 : decode cX6_haircutOf 6 = .ok (.imul, 1) := by decide +kernel
theorem dX6_haircutOf_7 : decode cX6_haircutOf 7 = .ok (.iaload, 1) := by decide +kernel
theorem dX6_haircutOf_8 : decode cX6_haircutOf 8 = .ok (.istore_n 2, 1) := by decide +kernel
theorem dX6_haircutOf_9 : decode cX6_haircutOf 9 = .ok (.iload_n 2, 1) := by decide +kernel
theorem dX6_haircutOf_10 : decode cX6_haircutOf 10 = .ok (.istore_n 3, 1) := by decide +kernel
theorem dX6_haircutOf_11 : decode cX6_haircutOf 11 = .ok (.iconst 1, 1) := by decide +kernel
theorem dX6_haircutOf_12 : decode cX6_haircutOf 12 = .ok (.istore 4, 2) := by decide +kernel
theorem dX6_haircutOf_14 : decode cX6_haircutOf 14 = .ok (.iload 4, 2) := by decide +kernel
theorem dX6_haircutOf_16 : decode cX6_haircutOf 16 = .ok (.iconst 4, 1) := by decide +kernel
theorem dX6_haircutOf_17 : decode cX6_haircutOf 17 = .ok (.if_icmp .ge 53, 3) := by decide +kernel
theorem dX6_haircutOf_20 : decode cX6_haircutOf 20 = .ok (.aload_n 0, 1) := by decide +kernel
theorem dX6_haircutOf_21 : decode cX6_haircutOf 21 = .ok (.getfield 16, 3) := by decide +kernel
theorem dX6_haircutOf_24 : decode cX6_haircutOf 24 = .ok (.iconst 4, 1) := by decide +kernel
theorem dX6_haircutOf_25 : decode cX6_haircutOf 25 = .ok (.iload_n 1, 1) := by decide +kernel
theorem dX6_haircutOf_26 : decode cX6_haircutOf 26 = .ok (.imul, 1) := by decide +kernel
theorem dX6_haircutOf_27 : decode cX6_haircutOf 27 = .ok (.iload 4, 2) := by decide +kernel
theorem dX6_haircutOf_29 : decode cX6_haircutOf 29 = .ok (.iadd, 1) := by decide +kernel
theorem dX6_haircutOf_30 : decode cX6_haircutOf 30 = .ok (.iaload, 1) := by decide +kernel
theorem dX6_haircutOf_31 : decode cX6_haircutOf 31 = .ok (.istore 5, 2) := by decide +kernel
theorem dX6_haircutOf_33 : decode cX6_haircutOf 33 = .ok (.iload 5, 2) := by decide +kernel
theorem dX6_haircutOf_35 : decode cX6_haircutOf 35 = .ok (.ifCond .le 14, 3) := by decide +kernel
theorem dX6_haircutOf_38 : decode cX6_haircutOf 38 = .ok (.iload 5, 2) := by decide +kernel
theorem dX6_haircutOf_40 : decode cX6_haircutOf 40 = .ok (.iload_n 2, 1) := by decide +kernel
theorem dX6_haircutOf_41 : decode cX6_haircutOf 41 = .ok (.if_icmp .ge 8, 3) := by decide +kernel
theorem dX6_haircutOf_44 : decode cX6_haircutOf 44 = .ok (.iload 5, 2) := by decide +kernel
theorem dX6_haircutOf_46 : decode cX6_haircutOf 46 = .ok (.goto 4, 3) := by decide +kernel
theorem dX6_haircutOf_49 : decode cX6_haircutOf 49 = .ok (.iload_n 2, 1) := by decide +kernel
theorem dX6_haircutOf_50 : decode cX6_haircutOf 50 = .ok (.istore_n 2, 1) := by decide +kernel
theorem dX6_haircutOf_51 : decode cX6_haircutOf 51 = .ok (.iload 5, 2) := by decide +kernel
theorem dX6_haircutOf_53 : decode cX6_haircutOf 53 = .ok (.iload_n 3, 1) := by decide +kernel
theorem dX6_haircutOf_54 : decode cX6_haircutOf 54 = .ok (.if_icmp .le 8, 3) := by decide +kernel
theorem dX6_haircutOf_57 : decode cX6_haircutOf 57 = .ok (.iload 5, 2) := by decide +kernel
theorem dX6_haircutOf_59 : decode cX6_haircutOf 59 = .ok (.goto 4, 3) := by decide +kernel
theorem dX6_haircutOf_62 : decode cX6_haircutOf 62 = .ok (.iload_n 3, 1) := by decide +kernel
theorem dX6_haircutOf_63 : decode cX6_haircutOf 63 = .ok (.istore_n 3, 1) := by decide +kernel
theorem dX6_haircutOf_64 : decode cX6_haircutOf 64 = .ok (.iinc 4 1, 3) := by decide +kernel
theorem dX6_haircutOf_67 : decode cX6_haircutOf 67 = .ok (.goto (-53), 3) := by decide +kernel
theorem dX6_haircutOf_70 : decode cX6_haircutOf 70 = .ok (.aload_n 0, 1) := by decide +kernel
theorem dX6_haircutOf_71 : decode cX6_haircutOf 71 = .ok (.getfield 16, 3) := by decide +kernel
theorem dX6_haircutOf_74 : decode cX6_haircutOf 74 = .ok (.iconst 4, 1) := by decide +kernel
theorem dX6_haircutOf_75 : decode cX6_haircutOf 75 = .ok (.iload_n 1, 1) := by decide +kernel
theorem dX6_haircutOf_76 : decode cX6_haircutOf 76 = .ok (.imul, 1) := by decide +kernel
theorem dX6_haircutOf_77 : decode cX6_haircutOf 77 = .ok (.iaload, 1) := by decide +kernel
theorem dX6_haircutOf_78 : decode cX6_haircutOf 78 = .ok (.istore 4, 2) := by decide +kernel
theorem dX6_haircutOf_80 : decode cX6_haircutOf 80 = .ok (.bipush 10, 2) := by decide +kernel
theorem dX6_haircutOf_82 : decode cX6_haircutOf 82 = .ok (.iload_n 3, 1) := by decide +kernel
theorem dX6_haircutOf_83 : decode cX6_haircutOf 83 = .ok (.iload_n 2, 1) := by decide +kernel
theorem dX6_haircutOf_84 : decode cX6_haircutOf 84 = .ok (.isub, 1) := by decide +kernel
theorem dX6_haircutOf_85 : decode cX6_haircutOf 85 = .ok (.bipush 100, 2) := by decide +kernel
theorem dX6_haircutOf_87 : decode cX6_haircutOf 87 = .ok (.imul, 1) := by decide +kernel
theorem dX6_haircutOf_88 : decode cX6_haircutOf 88 = .ok (.iload 4, 2) := by decide +kernel
theorem dX6_haircutOf_90 : decode cX6_haircutOf 90 = .ok (.iadd, 1) := by decide +kernel
theorem dX6_haircutOf_91 : decode cX6_haircutOf 91 = .ok (.iconst 1, 1) := by decide +kernel
theorem dX6_haircutOf_92 : decode cX6_haircutOf 92 = .ok (.isub, 1) := by decide +kernel
theorem dX6_haircutOf_93 : decode cX6_haircutOf 93 = .ok (.iload 4, 2) := by decide +kernel
theorem dX6_haircutOf_95 : decode cX6_haircutOf 95 = .ok (.idiv, 1) := by decide +kernel
theorem dX6_haircutOf_96 : decode cX6_haircutOf 96 = .ok (.iadd, 1) := by decide +kernel
theorem dX6_haircutOf_97 : decode cX6_haircutOf 97 = .ok (.istore 5, 2) := by decide +kernel
theorem dX6_haircutOf_99 : decode cX6_haircutOf 99 = .ok (.iload 5, 2) := by decide +kernel
theorem dX6_haircutOf_101 : decode cX6_haircutOf 101 = .ok (.bipush 90, 2) := by decide +kernel
theorem dX6_haircutOf_103 : decode cX6_haircutOf 103 = .ok (.if_icmp .ge 8, 3) := by decide +kernel
theorem dX6_haircutOf_106 : decode cX6_haircutOf 106 = .ok (.iload 5, 2) := by decide +kernel
theorem dX6_haircutOf_108 : decode cX6_haircutOf 108 = .ok (.goto 5, 3) := by decide +kernel
theorem dX6_haircutOf_111 : decode cX6_haircutOf 111 = .ok (.bipush 90, 2) := by decide +kernel
theorem dX6_haircutOf_113 : decode cX6_haircutOf 113 = .ok (.ireturn, 1) := by decide +kernel
theorem dX6_tellKind_0 : decode cX6_tellKind 0 = .ok (.aload_n 0, 1) := by decide +kernel
theorem dX6_tellKind_1 : decode cX6_tellKind 1 = .ok (.iload_n 1, 1) := by decide +kernel
theorem dX6_tellKind_2 : decode cX6_tellKind 2 = .ok (.iconst 0, 1) := by decide +kernel
theorem dX6_tellKind_3 : decode cX6_tellKind 3 = .ok (.iconst 1, 1) := by decide +kernel
theorem dX6_tellKind_4 : decode cX6_tellKind 4 = .ok (.invokestatic 74, 3) := by decide +kernel
theorem dX6_tellKind_7 : decode cX6_tellKind 7 = .ok (.ifCond .eq 18, 3) := by decide +kernel
theorem dX6_tellKind_10 : decode cX6_tellKind 10 = .ok (.iload_n 2, 1) := by decide +kernel
theorem dX6_tellKind_11 : decode cX6_tellKind 11 = .ok (.iconst 1, 1) := by decide +kernel
theorem dX6_tellKind_12 : decode cX6_tellKind 12 = .ok (.sipush 9999, 3) := by decide +kernel
theorem dX6_tellKind_15 : decode cX6_tellKind 15 = .ok (.invokestatic 74, 3) := by decide +kernel
theorem dX6_tellKind_18 : decode cX6_tellKind 18 = .ok (.ifCond .eq 7, 3) := by decide +kernel
theorem dX6_tellKind_21 : decode cX6_tellKind 21 = .ok (.iconst 1, 1) := by decide +kernel
theorem dX6_tellKind_22 : decode cX6_tellKind 22 = .ok (.goto 4, 3) := by decide +kernel
theorem dX6_tellKind_25 : decode cX6_tellKind 25 = .ok (.iconst 0, 1) := by decide +kernel
theorem dX6_tellKind_26 : decode cX6_tellKind 26 = .ok (.invokevirtual 78, 3) := by decide +kernel
theorem dX6_tellKind_29 : decode cX6_tellKind 29 = .ok (.ifCond .ne 5, 3) := by decide +kernel
theorem dX6_tellKind_32 : decode cX6_tellKind 32 = .ok (.iconst 0, 1) := by decide +kernel
theorem dX6_tellKind_33 : decode cX6_tellKind 33 = .ok (.ireturn, 1) := by decide +kernel
theorem dX6_tellKind_34 : decode cX6_tellKind 34 = .ok (.iconst 3, 1) := by decide +kernel
theorem dX6_tellKind_35 : decode cX6_tellKind 35 = .ok (.istore_n 3, 1) := by decide +kernel
theorem dX6_tellKind_36 : decode cX6_tellKind 36 = .ok (.iload_n 3, 1) := by decide +kernel
theorem dX6_tellKind_37 : decode cX6_tellKind 37 = .ok (.ifCond .le 31, 3) := by decide +kernel
theorem dX6_tellKind_40 : decode cX6_tellKind 40 = .ok (.aload_n 0, 1) := by decide +kernel
theorem dX6_tellKind_41 : decode cX6_tellKind 41 = .ok (.getfield 16, 3) := by decide +kernel
theorem dX6_tellKind_44 : decode cX6_tellKind 44 = .ok (.iconst 4, 1) := by decide +kernel
theorem dX6_tellKind_45 : decode cX6_tellKind 45 = .ok (.iload_n 1, 1) := by decide +kernel
theorem dX6_tellKind_46 : decode cX6_tellKind 46 = .ok (.imul, 1) := by decide +kernel
theorem dX6_tellKind_47 : decode cX6_tellKind 47 = .ok (.iload_n 3, 1) := by decide +kernel
theorem dX6_tellKind_48 : decode cX6_tellKind 48 = .ok (.iadd, 1) := by decide +kernel
theorem dX6_tellKind_49 : decode cX6_tellKind 49 = .ok (.aload_n 0, 1) := by decide +kernel
theorem dX6_tellKind_50 : decode cX6_tellKind 50 = .ok (.getfield 16, 3) := by decide +kernel
theorem dX6_tellKind_53 : decode cX6_tellKind 53 = .ok (.iconst 4, 1) := by decide +kernel
theorem dX6_tellKind_54 : decode cX6_tellKind 54 = .ok (.iload_n 1, 1) := by decide +kernel
theorem dX6_tellKind_55 : decode cX6_tellKind 55 = .ok (.imul, 1) := by decide +kernel
theorem dX6_tellKind_56 : decode cX6_tellKind 56 = .ok (.iload_n 3, 1) := by decide +kernel
theorem dX6_tellKind_57 : decode cX6_tellKind 57 = .ok (.iadd, 1) := by decide +kernel
theorem dX6_tellKind_58 : decode cX6_tellKind 58 = .ok (.iconst 1, 1) := by decide +kernel
theorem dX6_tellKind_59 : decode cX6_tellKind 59 = .ok (.isub, 1) := by decide +kernel
theorem dX6_tellKind_60 : decode cX6_tellKind 60 = .ok (.iaload, 1) := by decide +kernel
theorem dX6_tellKind_61 : decode cX6_tellKind 61 = .ok (.iastore, 1) := by decide +kernel
theorem dX6_tellKind_62 : decode cX6_tellKind 62 = .ok (.iinc 3 (-1), 3) := by decide +kernel
theorem dX6_tellKind_65 : decode cX6_tellKind 65 = .ok (.goto (-29), 3) := by decide +kernel
theorem dX6_tellKind_68 : decode cX6_tellKind 68 = .ok (.aload_n 0, 1) := by decide +kernel
theorem dX6_tellKind_69 : decode cX6_tellKind 69 = .ok (.getfield 16, 3) := by decide +kernel
theorem dX6_tellKind_72 : decode cX6_tellKind 72 = .ok (.iconst 4, 1) := by decide +kernel
theorem dX6_tellKind_73 : decode cX6_tellKind 73 = .ok (.iload_n 1, 1) := by decide +kernel
theorem dX6_tellKind_74 : decode cX6_tellKind 74 = .ok (.imul, 1) := by decide +kernel
theorem dX6_tellKind_75 : decode cX6_tellKind 75 = .ok (.iload_n 2, 1) := by decide +kernel
theorem dX6_tellKind_76 : decode cX6_tellKind 76 = .ok (.iastore, 1) := by decide +kernel
theorem dX6_tellKind_77 : decode cX6_tellKind 77 = .ok (.aload_n 0, 1) := by decide +kernel
theorem dX6_tellKind_78 : decode cX6_tellKind 78 = .ok (.iload_n 1, 1) := by decide +kernel
theorem dX6_tellKind_79 : decode cX6_tellKind 79 = .ok (.invokevirtual 82, 3) := by decide +kernel
theorem dX6_tellKind_82 : decode cX6_tellKind 82 = .ok (.ireturn, 1) := by decide +kernel
theorem dX6_worth_0 : decode cX6_worth 0 = .ok (.aload_n 0, 1) := by decide +kernel
theorem dX6_worth_1 : decode cX6_worth 1 = .ok (.getfield 19, 3) := by decide +kernel
theorem dX6_worth_4 : decode cX6_worth 4 = .ok (.iconst 3, 1) := by decide +kernel
theorem dX6_worth_5 : decode cX6_worth 5 = .ok (.iload_n 1, 1) := by decide +kernel
theorem dX6_worth_6 : decode cX6_worth 6 = .ok (.imul, 1) := by decide +kernel
theorem dX6_worth_7 : decode cX6_worth 7 = .ok (.iload_n 2, 1) := by decide +kernel
theorem dX6_worth_8 : decode cX6_worth 8 = .ok (.iadd, 1) := by decide +kernel
theorem dX6_worth_9 : decode cX6_worth 9 = .ok (.iaload, 1) := by decide +kernel
theorem dX6_worth_10 : decode cX6_worth 10 = .ok (.i2l, 1) := by decide +kernel
theorem dX6_worth_11 : decode cX6_worth 11 = .ok (.aload_n 0, 1) := by decide +kernel
theorem dX6_worth_12 : decode cX6_worth 12 = .ok (.getfield 7, 3) := by decide +kernel
theorem dX6_worth_15 : decode cX6_worth 15 = .ok (.iload_n 2, 1) := by decide +kernel
theorem dX6_worth_16 : decode cX6_worth 16 = .ok (.iaload, 1) := by decide +kernel
theorem dX6_worth_17 : decode cX6_worth 17 = .ok (.i2l, 1) := by decide +kernel
theorem dX6_worth_18 : decode cX6_worth 18 = .ok (.lmul, 1) := by decide +kernel
theorem dX6_worth_19 : decode cX6_worth 19 = .ok (.lreturn, 1) := by decide +kernel
theorem dX6_equityOf_0 : decode cX6_equityOf 0 = .ok (.aload_n 0, 1) := by decide +kernel
theorem dX6_equityOf_1 : decode cX6_equityOf 1 = .ok (.getfield 26, 3) := by decide +kernel
theorem dX6_equityOf_4 : decode cX6_equityOf 4 = .ok (.iload_n 1, 1) := by decide +kernel
theorem dX6_equityOf_5 : decode cX6_equityOf 5 = .ok (.laload, 1) := by decide +kernel
theorem dX6_equityOf_6 : decode cX6_equityOf 6 = .ok (.lstore_n 2, 1) := by decide +kernel
theorem dX6_equityOf_7 : decode cX6_equityOf 7 = .ok (.iconst 0, 1) := by decide +kernel
theorem dX6_equityOf_8 : decode cX6_equityOf 8 = .ok (.istore 4, 2) := by decide +kernel
theorem dX6_equityOf_10 : decode cX6_equityOf 10 = .ok (.iload 4, 2) := by decide +kernel
theorem dX6_equityOf_12 : decode cX6_equityOf 12 = .ok (.iconst 3, 1) := by decide +kernel
theorem dX6_equityOf_13 : decode cX6_equityOf 13 = .ok (.if_icmp .ge 31, 3) := by decide +kernel
theorem dX6_equityOf_16 : decode cX6_equityOf 16 = .ok (.lload_n 2, 1) := by decide +kernel
theorem dX6_equityOf_17 : decode cX6_equityOf 17 = .ok (.aload_n 0, 1) := by decide +kernel
theorem dX6_equityOf_18 : decode cX6_equityOf 18 = .ok (.iload_n 1, 1) := by decide +kernel
theorem dX6_equityOf_19 : decode cX6_equityOf 19 = .ok (.iload 4, 2) := by decide +kernel
theorem dX6_equityOf_21 : decode cX6_equityOf 21 = .ok (.invokevirtual 86, 3) := by decide +kernel
theorem dX6_equityOf_24 : decode cX6_equityOf 24 = .ok (.aload_n 0, 1) := by decide +kernel
theorem dX6_equityOf_25 : decode cX6_equityOf 25 = .ok (.getfield 22, 3) := by decide +kernel
theorem dX6_equityOf_28 : decode cX6_equityOf 28 = .ok (.iconst 3, 1) := by decide +kernel
theorem dX6_equityOf_29 : decode cX6_equityOf 29 = .ok (.iload_n 1, 1) := by decide +kernel
theorem dX6_equityOf_30 : decode cX6_equityOf 30 = .ok (.imul, 1) := by decide +kernel
theorem dX6_equityOf_31 : decode cX6_equityOf 31 = .ok (.iload 4, 2) := by decide +kernel
theorem dX6_equityOf_33 : decode cX6_equityOf 33 = .ok (.iadd, 1) := by decide +kernel
theorem dX6_equityOf_34 : decode cX6_equityOf 34 = .ok (.laload, 1) := by decide +kernel
theorem dX6_equityOf_35 : decode cX6_equityOf 35 = .ok (.lsub, 1) := by decide +kernel
theorem dX6_equityOf_36 : decode cX6_equityOf 36 = .ok (.ladd, 1) := by decide +kernel
theorem dX6_equityOf_37 : decode cX6_equityOf 37 = .ok (.lstore_n 2, 1) := by decide +kernel
theorem dX6_equityOf_38 : decode cX6_equityOf 38 = .ok (.iinc 4 1, 3) := by decide +kernel
theorem dX6_equityOf_41 : decode cX6_equityOf 41 = .ok (.goto (-31), 3) := by decide +kernel
theorem dX6_equityOf_44 : decode cX6_equityOf 44 = .ok (.lload_n 2, 1) := by decide +kernel
theorem dX6_equityOf_45 : decode cX6_equityOf 45 = .ok (.lreturn, 1) := by decide +kernel
theorem dX6_resting_0 : decode cX6_resting 0 = .ok (.iconst 0, 1) := by decide +kernel
theorem dX6_resting_1 : decode cX6_resting 1 = .ok (.istore 4, 2) := by decide +kernel
theorem dX6_resting_3 : decode cX6_resting 3 = .ok (.iconst 0, 1) := by decide +kernel
theorem dX6_resting_4 : decode cX6_resting 4 = .ok (.istore 5, 2) := by decide +kernel
theorem dX6_resting_6 : decode cX6_resting 6 = .ok (.iload 5, 2) := by decide +kernel
theorem dX6_resting_8 : decode cX6_resting 8 = .ok (.aload_n 0, 1) := by decide +kernel
theorem dX6_resting_9 : decode cX6_resting 9 = .ok (.getfield 90, 3) := by decide +kernel
theorem dX6_resting_12 : decode cX6_resting 12 = .ok (.if_icmp .ge 58, 3) := by decide +kernel
theorem dX6_resting_15 : decode cX6_resting 15 = .ok (.iload 4, 2) := by decide +kernel
theorem dX6_resting_17 : decode cX6_resting 17 = .ok (.aload_n 0, 1) := by decide +kernel
theorem dX6_resting_18 : decode cX6_resting 18 = .ok (.getfield 42, 3) := by decide +kernel
theorem dX6_resting_21 : decode cX6_resting 21 = .ok (.iload 5, 2) := by decide +kernel
theorem dX6_resting_23 : decode cX6_resting 23 = .ok (.iaload, 1) := by decide +kernel
theorem dX6_resting_24 : decode cX6_resting 24 = .ok (.iload_n 1, 1) := by decide +kernel
theorem dX6_resting_25 : decode cX6_resting 25 = .ok (.if_icmp .ne 35, 3) := by decide +kernel
theorem dX6_resting_28 : decode cX6_resting 28 = .ok (.aload_n 0, 1) := by decide +kernel
theorem dX6_resting_29 : decode cX6_resting 29 = .ok (.getfield 45, 3) := by decide +kernel
theorem dX6_resting_32 : decode cX6_resting 32 = .ok (.iload 5, 2) := by decide +kernel
theorem dX6_resting_34 : decode cX6_resting 34 = .ok (.iaload, 1) := by decide +kernel
theorem dX6_resting_35 : decode cX6_resting 35 = .ok (.iload_n 2, 1) := by decide +kernel
theorem dX6_resting_36 : decode cX6_resting 36 = .ok (.if_icmp .ne 24, 3) := by decide +kernel
theorem dX6_resting_39 : decode cX6_resting 39 = .ok (.aload_n 0, 1) := by decide +kernel
theorem dX6_resting_40 : decode cX6_resting 40 = .ok (.getfield 48, 3) := by decide +kernel
theorem dX6_resting_43 : decode cX6_resting 43 = .ok (.iload 5, 2) := by decide +kernel
theorem dX6_resting_45 : decode cX6_resting 45 = .ok (.baload, 1) := by decide +kernel
theorem dX6_resting_46 : decode cX6_resting 46 = .ok (.iload_n 3, 1) := by decide +kernel
theorem dX6_resting_47 : decode cX6_resting 47 = .ok (.if_icmp .ne 13, 3) := by decide +kernel
theorem dX6_resting_50 : decode cX6_resting 50 = .ok (.aload_n 0, 1) := by decide +kernel
theorem dX6_resting_51 : decode cX6_resting 51 = .ok (.getfield 54, 3) := by decide +kernel
theorem dX6_resting_54 : decode cX6_resting 54 = .ok (.iload 5, 2) := by decide +kernel
theorem dX6_resting_56 : decode cX6_resting 56 = .ok (.iaload, 1) := by decide +kernel
theorem dX6_resting_57 : decode cX6_resting 57 = .ok (.goto 4, 3) := by decide +kernel
theorem dX6_resting_60 : decode cX6_resting 60 = .ok (.iconst 0, 1) := by decide +kernel
theorem dX6_resting_61 : decode cX6_resting 61 = .ok (.iadd, 1) := by decide +kernel
theorem dX6_resting_62 : decode cX6_resting 62 = .ok (.istore 4, 2) := by decide +kernel
theorem dX6_resting_64 : decode cX6_resting 64 = .ok (.iinc 5 1, 3) := by decide +kernel
theorem dX6_resting_67 : decode cX6_resting 67 = .ok (.goto (-61), 3) := by decide +kernel
theorem dX6_resting_70 : decode cX6_resting 70 = .ok (.iload 4, 2) := by decide +kernel
theorem dX6_resting_72 : decode cX6_resting 72 = .ok (.ireturn, 1) := by decide +kernel
theorem dX6_marginOf_0 : decode cX6_marginOf 0 = .ok (.iconst 0, 1) := by decide +kernel
theorem dX6_marginOf_1 : decode cX6_marginOf 1 = .ok (.istore_n 2, 1) := by decide +kernel
theorem dX6_marginOf_2 : decode cX6_marginOf 2 = .ok (.iconst 0, 1) := by decide +kernel
theorem dX6_marginOf_3 : decode cX6_marginOf 3 = .ok (.istore_n 3, 1) := by decide +kernel
theorem dX6_marginOf_4 : decode cX6_marginOf 4 = .ok (.iload_n 3, 1) := by decide +kernel
theorem dX6_marginOf_5 : decode cX6_marginOf 5 = .ok (.iconst 4, 1) := by decide +kernel
theorem dX6_marginOf_6 : decode cX6_marginOf 6 = .ok (.if_icmp .ge 124, 3) := by decide +kernel
theorem dX6_marginOf_9 : decode cX6_marginOf 9 = .ok (.iconst 0, 1) := by decide +kernel
theorem dX6_marginOf_10 : decode cX6_marginOf 10 = .ok (.istore 4, 2) := by decide +kernel
theorem dX6_marginOf_12 : decode cX6_marginOf 12 = .ok (.iconst 0, 1) := by decide +kernel
theorem dX6_marginOf_13 : decode cX6_marginOf 13 = .ok (.istore 5, 2) := by decide +kernel
theorem dX6_marginOf_15 : decode cX6_marginOf 15 = .ok (.iload 5, 2) := by decide +kernel
theorem dX6_marginOf_17 : decode cX6_marginOf 17 = .ok (.iconst 3, 1) := by decide +kernel
theorem dX6_marginOf_18 : decode cX6_marginOf 18 = .ok (.if_icmp .ge 93, 3) := by decide +kernel
theorem dX6_marginOf_21 : decode cX6_marginOf 21 = .ok (.aload_n 0, 1) := by decide +kernel
theorem dX6_marginOf_22 : decode cX6_marginOf 22 = .ok (.getfield 13, 3) := by decide +kernel
theorem dX6_marginOf_25 : decode cX6_marginOf 25 = .ok (.iconst 3, 1) := by decide +kernel
theorem dX6_marginOf_26 : decode cX6_marginOf 26 = .ok (.iload_n 3, 1) := by decide +kernel
theorem dX6_marginOf_27 : decode cX6_marginOf 27 = .ok (.imul, 1) := by decide +kernel
theorem dX6_marginOf_28 : decode cX6_marginOf 28 = .ok (.iload 5, 2) := by decide +kernel
theorem dX6_marginOf_30 : decode cX6_marginOf 30 = .ok (.iadd, 1) := by decide +kernel
theorem dX6_marginOf_31 : decode cX6_marginOf 31 = .ok (.iaload, 1) := by decide +kernel
theorem dX6_marginOf_32 : decode cX6_marginOf 32 = .ok (.istore 6, 2) := by decide +kernel
theorem dX6_marginOf_34 : decode cX6_marginOf 34 = .ok (.iload 6, 2) := by decide +kernel
theorem dX6_marginOf_36 : decode cX6_marginOf 36 = .ok (.ineg, 1) := by decide +kernel
theorem dX6_marginOf_37 : decode cX6_marginOf 37 = .ok (.aload_n 0, 1) := by decide +kernel
theorem dX6_marginOf_38 : decode cX6_marginOf 38 = .ok (.getfield 19, 3) := by decide +kernel
theorem dX6_marginOf_41 : decode cX6_marginOf 41 = .ok (.iconst 3, 1) := by decide +kernel
theorem dX6_marginOf_42 : decode cX6_marginOf 42 = .ok (.iload_n 1, 1) := by decide +kernel
theorem dX6_marginOf_43 : decode cX6_marginOf 43 = .ok (.imul, 1) := by decide +kernel
theorem dX6_marginOf_44 : decode cX6_marginOf 44 = .ok (.iload 5, 2) := by decide +kernel
theorem dX6_marginOf_46 : decode cX6_marginOf 46 = .ok (.iadd, 1) := by decide +kernel
theorem dX6_marginOf_47 : decode cX6_marginOf 47 = .ok (.iaload, 1) := by decide +kernel
theorem dX6_marginOf_48 : decode cX6_marginOf 48 = .ok (.aload_n 0, 1) := by decide +kernel
theorem dX6_marginOf_49 : decode cX6_marginOf 49 = .ok (.iload_n 1, 1) := by decide +kernel
theorem dX6_marginOf_50 : decode cX6_marginOf 50 = .ok (.iload 5, 2) := by decide +kernel
theorem dX6_marginOf_52 : decode cX6_marginOf 52 = .ok (.iconst 1, 1) := by decide +kernel
theorem dX6_marginOf_53 : decode cX6_marginOf 53 = .ok (.invokevirtual 93, 3) := by decide +kernel
theorem dX6_marginOf_56 : decode cX6_marginOf 56 = .ok (.iadd, 1) := by decide +kernel
theorem dX6_marginOf_57 : decode cX6_marginOf 57 = .ok (.imul, 1) := by decide +kernel
theorem dX6_marginOf_58 : decode cX6_marginOf 58 = .ok (.istore 7, 2) := by decide +kernel
theorem dX6_marginOf_60 : decode cX6_marginOf 60 = .ok (.iload 6, 2) := by decide +kernel
theorem dX6_marginOf_62 : decode cX6_marginOf 62 = .ok (.ineg, 1) := by decide +kernel
theorem dX6_marginOf_63 : decode cX6_marginOf 63 = .ok (.aload_n 0, 1) := by decide +kernel
theorem dX6_marginOf_64 : decode cX6_marginOf 64 = .ok (.getfield 19, 3) := by decide +kernel
theorem dX6_marginOf_67 : decode cX6_marginOf 67 = .ok (.iconst 3, 1) := by decide +kernel
theorem dX6_marginOf_68 : decode cX6_marginOf 68 = .ok (.iload_n 1, 1) := by decide +kernel
theorem dX6_marginOf_69 : decode cX6_marginOf 69 = .ok (.imul, 1) := by decide +kernel
theorem dX6_marginOf_70 : decode cX6_marginOf 70 = .ok (.iload 5, 2) := by decide +kernel
theorem dX6_marginOf_72 : decode cX6_marginOf 72 = .ok (.iadd, 1) := by decide +kernel
theorem dX6_marginOf_73 : decode cX6_marginOf 73 = .ok (.iaload, 1) := by decide +kernel
theorem dX6_marginOf_74 : decode cX6_marginOf 74 = .ok (.aload_n 0, 1) := by decide +kernel
theorem dX6_marginOf_75 : decode cX6_marginOf 75 = .ok (.iload_n 1, 1) := by decide +kernel
theorem dX6_marginOf_76 : decode cX6_marginOf 76 = .ok (.iload 5, 2) := by decide +kernel
theorem dX6_marginOf_78 : decode cX6_marginOf 78 = .ok (.iconst 0, 1) := by decide +kernel
theorem dX6_marginOf_79 : decode cX6_marginOf 79 = .ok (.invokevirtual 93, 3) := by decide +kernel
theorem dX6_marginOf_82 : decode cX6_marginOf 82 = .ok (.isub, 1) := by decide +kernel
theorem dX6_marginOf_83 : decode cX6_marginOf 83 = .ok (.imul, 1) := by decide +kernel
theorem dX6_marginOf_84 : decode cX6_marginOf 84 = .ok (.istore 8, 2) := by decide +kernel
theorem dX6_marginOf_86 : decode cX6_marginOf 86 = .ok (.iload 4, 2) := by decide +kernel
theorem dX6_marginOf_88 : decode cX6_marginOf 88 = .ok (.iload 7, 2) := by decide +kernel
theorem dX6_marginOf_90 : decode cX6_marginOf 90 = .ok (.iload 8, 2) := by decide +kernel
theorem dX6_marginOf_92 : decode cX6_marginOf 92 = .ok (.if_icmp .le 8, 3) := by decide +kernel
theorem dX6_marginOf_95 : decode cX6_marginOf 95 = .ok (.iload 7, 2) := by decide +kernel
theorem dX6_marginOf_97 : decode cX6_marginOf 97 = .ok (.goto 5, 3) := by decide +kernel
theorem dX6_marginOf_100 : decode cX6_marginOf 100 = .ok (.iload 8, 2) := by decide +kernel
theorem dX6_marginOf_102 : decode cX6_marginOf 102 = .ok (.iadd, 1) := by decide +kernel
theorem dX6_marginOf_103 : decode cX6_marginOf 103 = .ok (.istore 4, 2) := by decide +kernel
theorem dX6_marginOf_105 : decode cX6_marginOf 105 = .ok (.iinc 5 1, 3) := by decide +kernel
theorem dX6_marginOf_108 : decode cX6_marginOf 108 = .ok (.goto (-93), 3) := by decide +kernel
theorem dX6_marginOf_111 : decode cX6_marginOf 111 = .ok (.iload 4, 2) := by decide +kernel
theorem dX6_marginOf_113 : decode cX6_marginOf 113 = .ok (.iload_n 2, 1) := by decide +kernel
theorem dX6_marginOf_114 : decode cX6_marginOf 114 = .ok (.if_icmp .le 8, 3) := by decide +kernel
theorem dX6_marginOf_117 : decode cX6_marginOf 117 = .ok (.iload 4, 2) := by decide +kernel
theorem dX6_marginOf_119 : decode cX6_marginOf 119 = .ok (.goto 4, 3) := by decide +kernel
theorem dX6_marginOf_122 : decode cX6_marginOf 122 = .ok (.iload_n 2, 1) := by decide +kernel
theorem dX6_marginOf_123 : decode cX6_marginOf 123 = .ok (.istore_n 2, 1) := by decide +kernel
theorem dX6_marginOf_124 : decode cX6_marginOf 124 = .ok (.iinc 3 1, 3) := by decide +kernel
theorem dX6_marginOf_127 : decode cX6_marginOf 127 = .ok (.goto (-123), 3) := by decide +kernel
theorem dX6_marginOf_130 : decode cX6_marginOf 130 = .ok (.iload_n 2, 1) := by decide +kernel
theorem dX6_marginOf_131 : decode cX6_marginOf 131 = .ok (.ireturn, 1) := by decide +kernel
theorem dX6_collateralOf_0 : decode cX6_collateralOf 0 = .ok (.lconst 0, 1) := by decide +kernel
theorem dX6_collateralOf_1 : decode cX6_collateralOf 1 = .ok (.lstore_n 2, 1) := by decide +kernel
theorem dX6_collateralOf_2 : decode cX6_collateralOf 2 = .ok (.iconst 0, 1) := by decide +kernel
theorem dX6_collateralOf_3 : decode cX6_collateralOf 3 = .ok (.istore 4, 2) := by decide +kernel
theorem dX6_collateralOf_5 : decode cX6_collateralOf 5 = .ok (.iload 4, 2) := by decide +kernel
theorem dX6_collateralOf_7 : decode cX6_collateralOf 7 = .ok (.iconst 2, 1) := by decide +kernel
theorem dX6_collateralOf_8 : decode cX6_collateralOf 8 = .ok (.if_icmp .ge 50, 3) := by decide +kernel
theorem dX6_collateralOf_11 : decode cX6_collateralOf 11 = .ok (.lload_n 2, 1) := by decide +kernel
theorem dX6_collateralOf_12 : decode cX6_collateralOf 12 = .ok (.aload_n 0, 1) := by decide +kernel
theorem dX6_collateralOf_13 : decode cX6_collateralOf 13 = .ok (.getfield 29, 3) := by decide +kernel
theorem dX6_collateralOf_16 : decode cX6_collateralOf 16 = .ok (.iconst 2, 1) := by decide +kernel
theorem dX6_collateralOf_17 : decode cX6_collateralOf 17 = .ok (.iload_n 1, 1) := by decide +kernel
theorem dX6_collateralOf_18 : decode cX6_collateralOf 18 = .ok (.imul, 1) := by decide +kernel
theorem dX6_collateralOf_19 : decode cX6_collateralOf 19 = .ok (.iload 4, 2) := by decide +kernel
theorem dX6_collateralOf_21 : decode cX6_collateralOf 21 = .ok (.iadd, 1) := by decide +kernel
theorem dX6_collateralOf_22 : decode cX6_collateralOf 22 = .ok (.iaload, 1) := by decide +kernel
theorem dX6_collateralOf_23 : decode cX6_collateralOf 23 = .ok (.i2l, 1) := by decide +kernel
theorem dX6_collateralOf_24 : decode cX6_collateralOf 24 = .ok (.aload_n 0, 1) := by decide +kernel
theorem dX6_collateralOf_25 : decode cX6_collateralOf 25 = .ok (.getfield 16, 3) := by decide +kernel
theorem dX6_collateralOf_28 : decode cX6_collateralOf 28 = .ok (.iconst 4, 1) := by decide +kernel
theorem dX6_collateralOf_29 : decode cX6_collateralOf 29 = .ok (.iload 4, 2) := by decide +kernel
theorem dX6_collateralOf_31 : decode cX6_collateralOf 31 = .ok (.imul, 1) := by decide +kernel
theorem dX6_collateralOf_32 : decode cX6_collateralOf 32 = .ok (.iaload, 1) := by decide +kernel
theorem dX6_collateralOf_33 : decode cX6_collateralOf 33 = .ok (.i2l, 1) := by decide +kernel
theorem dX6_collateralOf_34 : decode cX6_collateralOf 34 = .ok (.lmul, 1) := by decide +kernel
theorem dX6_collateralOf_35 : decode cX6_collateralOf 35 = .ok (.bipush 100, 2) := by decide +kernel
theorem dX6_collateralOf_37 : decode cX6_collateralOf 37 = .ok (.aload_n 0, 1) := by decide +kernel
theorem dX6_collateralOf_38 : decode cX6_collateralOf 38 = .ok (.iload 4, 2) := by decide +kernel
theorem dX6_collateralOf_40 : decode cX6_collateralOf 40 = .ok (.invokevirtual 82, 3) := by decide +kernel
theorem dX6_collateralOf_43 : decode cX6_collateralOf 43 = .ok (.isub, 1) := by decide +kernel
theorem dX6_collateralOf_44 : decode cX6_collateralOf 44 = .ok (.i2l, 1) := by decide +kernel
theorem dX6_collateralOf_45 : decode cX6_collateralOf 45 = .ok (.lmul, 1) := by decide +kernel
theorem dX6_collateralOf_46 : decode cX6_collateralOf 46 = .ok (.ldc2_w 97, 3) := by decide +kernel
theorem dX6_collateralOf_49 : decode cX6_collateralOf 49 = .ok (.ldiv, 1) := by decide +kernel
theorem dX6_collateralOf_50 : decode cX6_collateralOf 50 = .ok (.ladd, 1) := by decide +kernel
theorem dX6_collateralOf_51 : decode cX6_collateralOf 51 = .ok (.lstore_n 2, 1) := by decide +kernel
theorem dX6_collateralOf_52 : decode cX6_collateralOf 52 = .ok (.iinc 4 1, 3) := by decide +kernel
theorem dX6_collateralOf_55 : decode cX6_collateralOf 55 = .ok (.goto (-50), 3) := by decide +kernel
theorem dX6_collateralOf_58 : decode cX6_collateralOf 58 = .ok (.lload_n 2, 1) := by decide +kernel
theorem dX6_collateralOf_59 : decode cX6_collateralOf 59 = .ok (.lreturn, 1) := by decide +kernel
theorem dX6_freeOf_0 : decode cX6_freeOf 0 = .ok (.aload_n 0, 1) := by decide +kernel
theorem dX6_freeOf_1 : decode cX6_freeOf 1 = .ok (.iload_n 1, 1) := by decide +kernel
theorem dX6_freeOf_2 : decode cX6_freeOf 2 = .ok (.invokevirtual 99, 3) := by decide +kernel
theorem dX6_freeOf_5 : decode cX6_freeOf 5 = .ok (.aload_n 0, 1) := by decide +kernel
theorem dX6_freeOf_6 : decode cX6_freeOf 6 = .ok (.iload_n 1, 1) := by decide +kernel
theorem dX6_freeOf_7 : decode cX6_freeOf 7 = .ok (.invokevirtual 103, 3) := by decide +kernel
theorem dX6_freeOf_10 : decode cX6_freeOf 10 = .ok (.ladd, 1) := by decide +kernel
theorem dX6_freeOf_11 : decode cX6_freeOf 11 = .ok (.aload_n 0, 1) := by decide +kernel
theorem dX6_freeOf_12 : decode cX6_freeOf 12 = .ok (.iload_n 1, 1) := by decide +kernel
theorem dX6_freeOf_13 : decode cX6_freeOf 13 = .ok (.invokevirtual 106, 3) := by decide +kernel
theorem dX6_freeOf_16 : decode cX6_freeOf 16 = .ok (.i2l, 1) := by decide +kernel
theorem dX6_freeOf_17 : decode cX6_freeOf 17 = .ok (.lsub, 1) := by decide +kernel
theorem dX6_freeOf_18 : decode cX6_freeOf 18 = .ok (.lreturn, 1) := by decide +kernel
theorem dX6_pay_0 : decode cX6_pay 0 = .ok (.aload_n 0, 1) := by decide +kernel
theorem dX6_pay_1 : decode cX6_pay 1 = .ok (.iload_n 1, 1) := by decide +kernel
theorem dX6_pay_2 : decode cX6_pay 2 = .ok (.invokestatic 109, 3) := by decide +kernel
theorem dX6_pay_5 : decode cX6_pay 5 = .ok (.ifCond .eq 18, 3) := by decide +kernel
theorem dX6_pay_8 : decode cX6_pay 8 = .ok (.iload_n 2, 1) := by decide +kernel
theorem dX6_pay_9 : decode cX6_pay 9 = .ok (.ldc 112, 2) := by decide +kernel
theorem dX6_pay_11 : decode cX6_pay 11 = .ok (.ldc 113, 2) := by decide +kernel
theorem dX6_pay_13 : decode cX6_pay 13 = .ok (.invokestatic 74, 3) := by decide +kernel
theorem dX6_pay_16 : decode cX6_pay 16 = .ok (.ifCond .eq 7, 3) := by decide +kernel
theorem dX6_pay_19 : decode cX6_pay 19 = .ok (.iconst 1, 1) := by decide +kernel
theorem dX6_pay_20 : decode cX6_pay 20 = .ok (.goto 4, 3) := by decide +kernel
theorem dX6_pay_23 : decode cX6_pay 23 = .ok (.iconst 0, 1) := by decide +kernel
theorem dX6_pay_24 : decode cX6_pay 24 = .ok (.invokevirtual 78, 3) := by decide +kernel
theorem dX6_pay_27 : decode cX6_pay 27 = .ok (.ifCond .ne 5, 3) := by decide +kernel
theorem dX6_pay_30 : decode cX6_pay 30 = .ok (.iconst 0, 1) := by decide +kernel
theorem dX6_pay_31 : decode cX6_pay 31 = .ok (.ireturn, 1) := by decide +kernel
theorem dX6_pay_32 : decode cX6_pay 32 = .ok (.aload_n 0, 1) := by decide +kernel
theorem dX6_pay_33 : decode cX6_pay 33 = .ok (.getfield 38, 3) := by decide +kernel
theorem dX6_pay_36 : decode cX6_pay 36 = .ok (.iload_n 1, 1) := by decide +kernel
theorem dX6_pay_37 : decode cX6_pay 37 = .ok (.baload, 1) := by decide +kernel
theorem dX6_pay_38 : decode cX6_pay 38 = .ok (.ifCond .ne 20, 3) := by decide +kernel
theorem dX6_pay_41 : decode cX6_pay 41 = .ok (.iload_n 2, 1) := by decide +kernel
theorem dX6_pay_42 : decode cX6_pay 42 = .ok (.ifCond .ge 22, 3) := by decide +kernel
theorem dX6_pay_45 : decode cX6_pay 45 = .ok (.aload_n 0, 1) := by decide +kernel
theorem dX6_pay_46 : decode cX6_pay 46 = .ok (.iload_n 1, 1) := by decide +kernel
theorem dX6_pay_47 : decode cX6_pay 47 = .ok (.invokevirtual 114, 3) := by decide +kernel
theorem dX6_pay_50 : decode cX6_pay 50 = .ok (.iload_n 2, 1) := by decide +kernel
theorem dX6_pay_51 : decode cX6_pay 51 = .ok (.i2l, 1) := by decide +kernel
theorem dX6_pay_52 : decode cX6_pay 52 = .ok (.ladd, 1) := by decide +kernel
theorem dX6_pay_53 : decode cX6_pay 53 = .ok (.lconst 0, 1) := by decide +kernel
theorem dX6_pay_54 : decode cX6_pay 54 = .ok (.lcmp, 1) := by decide +kernel
theorem dX6_pay_55 : decode cX6_pay 55 = .ok (.ifCond .ge 9, 3) := by decide +kernel
theorem dX6_pay_58 : decode cX6_pay 58 = .ok (.aload_n 0, 1) := by decide +kernel
theorem dX6_pay_59 : decode cX6_pay 59 = .ok (.iconst 2, 1) := by decide +kernel
theorem dX6_pay_60 : decode cX6_pay 60 = .ok (.invokevirtual 117, 3) := by decide +kernel
theorem dX6_pay_63 : decode cX6_pay 63 = .ok (.ireturn, 1) := by decide +kernel
theorem dX6_pay_64 : decode cX6_pay 64 = .ok (.aload_n 0, 1) := by decide +kernel
theorem dX6_pay_65 : decode cX6_pay 65 = .ok (.getfield 26, 3) := by decide +kernel
theorem dX6_pay_68 : decode cX6_pay 68 = .ok (.iload_n 1, 1) := by decide +kernel
theorem dX6_pay_69 : decode cX6_pay 69 = .ok (.dup2, 1) := by decide +kernel
theorem dX6_pay_70 : decode cX6_pay 70 = .ok (.laload, 1) := by decide +kernel
theorem dX6_pay_71 : decode cX6_pay 71 = .ok (.iload_n 2, 1) := by decide +kernel
theorem dX6_pay_72 : decode cX6_pay 72 = .ok (.i2l, 1) := by decide +kernel
theorem dX6_pay_73 : decode cX6_pay 73 = .ok (.ladd, 1) := by decide +kernel
theorem dX6_pay_74 : decode cX6_pay 74 = .ok (.lastore, 1) := by decide +kernel
theorem dX6_pay_75 : decode cX6_pay 75 = .ok (.aload_n 0, 1) := by decide +kernel
theorem dX6_pay_76 : decode cX6_pay 76 = .ok (.getfield 26, 3) := by decide +kernel
theorem dX6_pay_79 : decode cX6_pay 79 = .ok (.iload_n 1, 1) := by decide +kernel
theorem dX6_pay_80 : decode cX6_pay 80 = .ok (.laload, 1) := by decide +kernel
theorem dX6_pay_81 : decode cX6_pay 81 = .ok (.l2i, 1) := by decide +kernel
theorem dX6_pay_82 : decode cX6_pay 82 = .ok (.ireturn, 1) := by decide +kernel
theorem dX6_bring_0 : decode cX6_bring 0 = .ok (.aload_n 0, 1) := by decide +kernel
theorem dX6_bring_1 : decode cX6_bring 1 = .ok (.iload_n 1, 1) := by decide +kernel
theorem dX6_bring_2 : decode cX6_bring 2 = .ok (.invokestatic 109, 3) := by decide +kernel
theorem dX6_bring_5 : decode cX6_bring 5 = .ok (.ifCond .eq 29, 3) := by decide +kernel
theorem dX6_bring_8 : decode cX6_bring 8 = .ok (.iload_n 2, 1) := by decide +kernel
theorem dX6_bring_9 : decode cX6_bring 9 = .ok (.iconst 0, 1) := by decide +kernel
theorem dX6_bring_10 : decode cX6_bring 10 = .ok (.iconst 1, 1) := by decide +kernel
theorem dX6_bring_11 : decode cX6_bring 11 = .ok (.invokestatic 74, 3) := by decide +kernel
theorem dX6_bring_14 : decode cX6_bring 14 = .ok (.ifCond .eq 20, 3) := by decide +kernel
theorem dX6_bring_17 : decode cX6_bring 17 = .ok (.iload_n 3, 1) := by decide +kernel
theorem dX6_bring_18 : decode cX6_bring 18 = .ok (.sipush (-1000), 3) := by decide +kernel
theorem dX6_bring_21 : decode cX6_bring 21 = .ok (.sipush 1000, 3) := by decide +kernel
theorem dX6_bring_24 : decode cX6_bring 24 = .ok (.invokestatic 74, 3) := by decide +kernel
theorem dX6_bring_27 : decode cX6_bring 27 = .ok (.ifCond .eq 7, 3) := by decide +kernel
theorem dX6_bring_30 : decode cX6_bring 30 = .ok (.iconst 1, 1) := by decide +kernel
theorem dX6_bring_31 : decode cX6_bring 31 = .ok (.goto 4, 3) := by decide +kernel
theorem dX6_bring_34 : decode cX6_bring 34 = .ok (.iconst 0, 1) := by decide +kernel
theorem dX6_bring_35 : decode cX6_bring 35 = .ok (.invokevirtual 78, 3) := by decide +kernel
theorem dX6_bring_38 : decode cX6_bring 38 = .ok (.ifCond .ne 5, 3) := by decide +kernel
theorem dX6_bring_41 : decode cX6_bring 41 = .ok (.iconst 0, 1) := by decide +kernel
theorem dX6_bring_42 : decode cX6_bring 42 = .ok (.ireturn, 1) := by decide +kernel
theorem dX6_bring_43 : decode cX6_bring 43 = .ok (.aload_n 0, 1) := by decide +kernel
theorem dX6_bring_44 : decode cX6_bring 44 = .ok (.getfield 29, 3) := by decide +kernel
theorem dX6_bring_47 : decode cX6_bring 47 = .ok (.iconst 2, 1) := by decide +kernel
theorem dX6_bring_48 : decode cX6_bring 48 = .ok (.iload_n 1, 1) := by decide +kernel
theorem dX6_bring_49 : decode cX6_bring 49 = .ok (.imul, 1) := by decide +kernel
theorem dX6_bring_50 : decode cX6_bring 50 = .ok (.iload_n 2, 1) := by decide +kernel
theorem dX6_bring_51 : decode cX6_bring 51 = .ok (.iadd, 1) := by decide +kernel
theorem dX6_bring_52 : decode cX6_bring 52 = .ok (.iaload, 1) := by decide +kernel
theorem dX6_bring_53 : decode cX6_bring 53 = .ok (.istore 4, 2) := by decide +kernel
theorem dX6_bring_55 : decode cX6_bring 55 = .ok (.aload_n 0, 1) := by decide +kernel
theorem dX6_bring_56 : decode cX6_bring 56 = .ok (.getfield 38, 3) := by decide +kernel
theorem dX6_bring_59 : decode cX6_bring 59 = .ok (.iload_n 1, 1) := by decide +kernel
theorem dX6_bring_60 : decode cX6_bring 60 = .ok (.baload, 1) := by decide +kernel
theorem dX6_bring_61 : decode cX6_bring 61 = .ok (.ifCond .ne 17, 3) := by decide +kernel
theorem dX6_bring_64 : decode cX6_bring 64 = .ok (.iload 4, 2) := by decide +kernel
theorem dX6_bring_66 : decode cX6_bring 66 = .ok (.iload_n 3, 1) := by decide +kernel
theorem dX6_bring_67 : decode cX6_bring 67 = .ok (.iadd, 1) := by decide +kernel
theorem dX6_bring_68 : decode cX6_bring 68 = .ok (.iconst 0, 1) := by decide +kernel
theorem dX6_bring_69 : decode cX6_bring 69 = .ok (.sipush 1000, 3) := by decide +kernel
theorem dX6_bring_72 : decode cX6_bring 72 = .ok (.invokestatic 74, 3) := by decide +kernel
theorem dX6_bring_75 : decode cX6_bring 75 = .ok (.ifCond .ne 9, 3) := by decide +kernel
theorem dX6_bring_78 : decode cX6_bring 78 = .ok (.aload_n 0, 1) := by decide +kernel
theorem dX6_bring_79 : decode cX6_bring 79 = .ok (.iconst 2, 1) := by decide +kernel
theorem dX6_bring_80 : decode cX6_bring 80 = .ok (.invokevirtual 117, 3) := by decide +kernel
theorem dX6_bring_83 : decode cX6_bring 83 = .ok (.ireturn, 1) := by decide +kernel
theorem dX6_bring_84 : decode cX6_bring 84 = .ok (.aload_n 0, 1) := by decide +kernel
theorem dX6_bring_85 : decode cX6_bring 85 = .ok (.getfield 29, 3) := by decide +kernel
theorem dX6_bring_88 : decode cX6_bring 88 = .ok (.iconst 2, 1) := by decide +kernel
theorem dX6_bring_89 : decode cX6_bring 89 = .ok (.iload_n 1, 1) := by decide +kernel
theorem dX6_bring_90 : decode cX6_bring 90 = .ok (.imul, 1) := by decide +kernel
theorem dX6_bring_91 : decode cX6_bring 91 = .ok (.iload_n 2, 1) := by decide +kernel
theorem dX6_bring_92 : decode cX6_bring 92 = .ok (.iadd, 1) := by decide +kernel
theorem dX6_bring_93 : decode cX6_bring 93 = .ok (.iload 4, 2) := by decide +kernel
theorem dX6_bring_95 : decode cX6_bring 95 = .ok (.iload_n 3, 1) := by decide +kernel
theorem dX6_bring_96 : decode cX6_bring 96 = .ok (.iadd, 1) := by decide +kernel
theorem dX6_bring_97 : decode cX6_bring 97 = .ok (.iastore, 1) := by decide +kernel
theorem dX6_bring_98 : decode cX6_bring 98 = .ok (.iload_n 3, 1) := by decide +kernel
theorem dX6_bring_99 : decode cX6_bring 99 = .ok (.ifCond .ge 31, 3) := by decide +kernel
theorem dX6_bring_102 : decode cX6_bring 102 = .ok (.aload_n 0, 1) := by decide +kernel
theorem dX6_bring_103 : decode cX6_bring 103 = .ok (.iload_n 1, 1) := by decide +kernel
theorem dX6_bring_104 : decode cX6_bring 104 = .ok (.invokevirtual 114, 3) := by decide +kernel
theorem dX6_bring_107 : decode cX6_bring 107 = .ok (.lconst 0, 1) := by decide +kernel
theorem dX6_bring_108 : decode cX6_bring 108 = .ok (.lcmp, 1) := by decide +kernel
theorem dX6_bring_109 : decode cX6_bring 109 = .ok (.ifCond .ge 21, 3) := by decide +kernel
theorem dX6_bring_112 : decode cX6_bring 112 = .ok (.aload_n 0, 1) := by decide +kernel
theorem dX6_bring_113 : decode cX6_bring 113 = .ok (.getfield 29, 3) := by decide +kernel
theorem dX6_bring_116 : decode cX6_bring 116 = .ok (.iconst 2, 1) := by decide +kernel
theorem dX6_bring_117 : decode cX6_bring 117 = .ok (.iload_n 1, 1) := by decide +kernel
theorem dX6_bring_118 : decode cX6_bring 118 = .ok (.imul, 1) := by decide +kernel
theorem dX6_bring_119 : decode cX6_bring 119 = .ok (.iload_n 2, 1) := by decide +kernel
theorem dX6_bring_120 : decode cX6_bring 120 = .ok (.iadd, 1) := by decide +kernel
theorem dX6_bring_121 : decode cX6_bring 121 = .ok (.iload 4, 2) := by decide +kernel
theorem dX6_bring_123 : decode cX6_bring 123 = .ok (.iastore, 1) := by decide +kernel
theorem dX6_bring_124 : decode cX6_bring 124 = .ok (.aload_n 0, 1) := by decide +kernel
theorem dX6_bring_125 : decode cX6_bring 125 = .ok (.iconst 2, 1) := by decide +kernel
theorem dX6_bring_126 : decode cX6_bring 126 = .ok (.invokevirtual 117, 3) := by decide +kernel
theorem dX6_bring_129 : decode cX6_bring 129 = .ok (.ireturn, 1) := by decide +kernel
theorem dX6_bring_130 : decode cX6_bring 130 = .ok (.iload 4, 2) := by decide +kernel
theorem dX6_bring_132 : decode cX6_bring 132 = .ok (.iload_n 3, 1) := by decide +kernel
theorem dX6_bring_133 : decode cX6_bring 133 = .ok (.iadd, 1) := by decide +kernel
theorem dX6_bring_134 : decode cX6_bring 134 = .ok (.ireturn, 1) := by decide +kernel
theorem dX6_contribute_0 : decode cX6_contribute 0 = .ok (.aload_n 0, 1) := by decide +kernel
theorem dX6_contribute_1 : decode cX6_contribute 1 = .ok (.iload_n 1, 1) := by decide +kernel
theorem dX6_contribute_2 : decode cX6_contribute 2 = .ok (.invokestatic 109, 3) := by decide +kernel
theorem dX6_contribute_5 : decode cX6_contribute 5 = .ok (.ifCond .eq 17, 3) := by decide +kernel
theorem dX6_contribute_8 : decode cX6_contribute 8 = .ok (.iload_n 2, 1) := by decide +kernel
theorem dX6_contribute_9 : decode cX6_contribute 9 = .ok (.iconst 1, 1) := by decide +kernel
theorem dX6_contribute_10 : decode cX6_contribute 10 = .ok (.ldc 113, 2) := by decide +kernel
theorem dX6_contribute_12 : decode cX6_contribute 12 = .ok (.invokestatic 74, 3) := by decide +kernel
theorem dX6_contribute_15 : decode cX6_contribute 15 = .ok (.ifCond .eq 7, 3) := by decide +kernel
theorem dX6_contribute_18 : decode cX6_contribute 18 = .ok (.iconst 1, 1) := by decide +kernel
theorem dX6_contribute_19 : decode cX6_contribute 19 = .ok (.goto 4, 3) := by decide +kernel
theorem dX6_contribute_22 : decode cX6_contribute 22 = .ok (.iconst 0, 1) := by decide +kernel
theorem dX6_contribute_23 : decode cX6_contribute 23 = .ok (.invokevirtual 78, 3) := by decide +kernel
theorem dX6_contribute_26 : decode cX6_contribute 26 = .ok (.ifCond .ne 5, 3) := by decide +kernel
theorem dX6_contribute_29 : decode cX6_contribute 29 = .ok (.iconst 0, 1) := by decide +kernel
theorem dX6_contribute_30 : decode cX6_contribute 30 = .ok (.ireturn, 1) := by decide +kernel
theorem dX6_contribute_31 : decode cX6_contribute 31 = .ok (.aload_n 0, 1) := by decide +kernel
theorem dX6_contribute_32 : decode cX6_contribute 32 = .ok (.getfield 38, 3) := by decide +kernel
theorem dX6_contribute_35 : decode cX6_contribute 35 = .ok (.iload_n 1, 1) := by decide +kernel
theorem dX6_contribute_36 : decode cX6_contribute 36 = .ok (.baload, 1) := by decide +kernel
theorem dX6_contribute_37 : decode cX6_contribute 37 = .ok (.ifCond .eq 9, 3) := by decide +kernel
theorem dX6_contribute_40 : decode cX6_contribute 40 = .ok (.aload_n 0, 1) := by decide +kernel
theorem dX6_contribute_41 : decode cX6_contribute 41 = .ok (.iconst 2, 1) := by decide +kernel
theorem dX6_contribute_42 : decode cX6_contribute 42 = .ok (.invokevirtual 117, 3) := by decide +kernel
theorem dX6_contribute_45 : decode cX6_contribute 45 = .ok (.ireturn, 1) := by decide +kernel
theorem dX6_contribute_46 : decode cX6_contribute 46 = .ok (.aload_n 0, 1) := by decide +kernel
theorem dX6_contribute_47 : decode cX6_contribute 47 = .ok (.getfield 32, 3) := by decide +kernel
theorem dX6_contribute_50 : decode cX6_contribute 50 = .ok (.iload_n 1, 1) := by decide +kernel
theorem dX6_contribute_51 : decode cX6_contribute 51 = .ok (.dup2, 1) := by decide +kernel
theorem dX6_contribute_52 : decode cX6_contribute 52 = .ok (.laload, 1) := by decide +kernel
theorem dX6_contribute_53 : decode cX6_contribute 53 = .ok (.iload_n 2, 1) := by decide +kernel
theorem dX6_contribute_54 : decode cX6_contribute 54 = .ok (.i2l, 1) := by decide +kernel
theorem dX6_contribute_55 : decode cX6_contribute 55 = .ok (.ladd, 1) := by decide +kernel
theorem dX6_contribute_56 : decode cX6_contribute 56 = .ok (.lastore, 1) := by decide +kernel
theorem dX6_contribute_57 : decode cX6_contribute 57 = .ok (.aload_n 0, 1) := by decide +kernel
theorem dX6_contribute_58 : decode cX6_contribute 58 = .ok (.getfield 32, 3) := by decide +kernel
theorem dX6_contribute_61 : decode cX6_contribute 61 = .ok (.iload_n 1, 1) := by decide +kernel
theorem dX6_contribute_62 : decode cX6_contribute 62 = .ok (.laload, 1) := by decide +kernel
theorem dX6_contribute_63 : decode cX6_contribute 63 = .ok (.l2i, 1) := by decide +kernel
theorem dX6_contribute_64 : decode cX6_contribute 64 = .ok (.ireturn, 1) := by decide +kernel
theorem dX6_bestOf_0 : decode cX6_bestOf 0 = .ok (.iconst (-1), 1) := by decide +kernel
theorem dX6_bestOf_1 : decode cX6_bestOf 1 = .ok (.istore_n 3, 1) := by decide +kernel
theorem dX6_bestOf_2 : decode cX6_bestOf 2 = .ok (.iconst 0, 1) := by decide +kernel
theorem dX6_bestOf_3 : decode cX6_bestOf 3 = .ok (.istore 4, 2) := by decide +kernel
theorem dX6_bestOf_5 : decode cX6_bestOf 5 = .ok (.iload 4, 2) := by decide +kernel
theorem dX6_bestOf_7 : decode cX6_bestOf 7 = .ok (.aload_n 0, 1) := by decide +kernel
theorem dX6_bestOf_8 : decode cX6_bestOf 8 = .ok (.getfield 90, 3) := by decide +kernel
theorem dX6_bestOf_11 : decode cX6_bestOf 11 = .ok (.if_icmp .ge 104, 3) := by decide +kernel
theorem dX6_bestOf_14 : decode cX6_bestOf 14 = .ok (.aload_n 0, 1) := by decide +kernel
theorem dX6_bestOf_15 : decode cX6_bestOf 15 = .ok (.getfield 45, 3) := by decide +kernel
theorem dX6_bestOf_18 : decode cX6_bestOf 18 = .ok (.iload 4, 2) := by decide +kernel
theorem dX6_bestOf_20 : decode cX6_bestOf 20 = .ok (.iaload, 1) := by decide +kernel
theorem dX6_bestOf_21 : decode cX6_bestOf 21 = .ok (.iload_n 1, 1) := by decide +kernel
theorem dX6_bestOf_22 : decode cX6_bestOf 22 = .ok (.if_icmp .ne 28, 3) := by decide +kernel
theorem dX6_bestOf_25 : decode cX6_bestOf 25 = .ok (.aload_n 0, 1) := by decide +kernel
theorem dX6_bestOf_26 : decode cX6_bestOf 26 = .ok (.getfield 48, 3) := by decide +kernel
theorem dX6_bestOf_29 : decode cX6_bestOf 29 = .ok (.iload 4, 2) := by decide +kernel
theorem dX6_bestOf_31 : decode cX6_bestOf 31 = .ok (.baload, 1) := by decide +kernel
theorem dX6_bestOf_32 : decode cX6_bestOf 32 = .ok (.iload_n 2, 1) := by decide +kernel
theorem dX6_bestOf_33 : decode cX6_bestOf 33 = .ok (.if_icmp .ne 17, 3) := by decide +kernel
theorem dX6_bestOf_36 : decode cX6_bestOf 36 = .ok (.aload_n 0, 1) := by decide +kernel
theorem dX6_bestOf_37 : decode cX6_bestOf 37 = .ok (.getfield 54, 3) := by decide +kernel
theorem dX6_bestOf_40 : decode cX6_bestOf 40 = .ok (.iload 4, 2) := by decide +kernel
theorem dX6_bestOf_42 : decode cX6_bestOf 42 = .ok (.iaload, 1) := by decide +kernel
theorem dX6_bestOf_43 : decode cX6_bestOf 43 = .ok (.ifCond .le 7, 3) := by decide +kernel
theorem dX6_bestOf_46 : decode cX6_bestOf 46 = .ok (.iconst 1, 1) := by decide +kernel
theorem dX6_bestOf_47 : decode cX6_bestOf 47 = .ok (.goto 4, 3) := by decide +kernel
theorem dX6_bestOf_50 : decode cX6_bestOf 50 = .ok (.iconst 0, 1) := by decide +kernel
theorem dX6_bestOf_51 : decode cX6_bestOf 51 = .ok (.istore 5, 2) := by decide +kernel
theorem dX6_bestOf_53 : decode cX6_bestOf 53 = .ok (.iload 5, 2) := by decide +kernel
theorem dX6_bestOf_55 : decode cX6_bestOf 55 = .ok (.ifCond .eq 52, 3) := by decide +kernel
theorem dX6_bestOf_58 : decode cX6_bestOf 58 = .ok (.iload_n 3, 1) := by decide +kernel
theorem dX6_bestOf_59 : decode cX6_bestOf 59 = .ok (.iconst (-1), 1) := by decide +kernel
theorem dX6_bestOf_60 : decode cX6_bestOf 60 = .ok (.if_icmp .eq 42, 3) := by decide +kernel
theorem dX6_bestOf_63 : decode cX6_bestOf 63 = .ok (.iload_n 2, 1) := by decide +kernel
theorem dX6_bestOf_64 : decode cX6_bestOf 64 = .ok (.ifCond .eq 22, 3) := by decide +kernel
theorem dX6_bestOf_67 : decode cX6_bestOf 67 = .ok (.aload_n 0, 1) := by decide +kernel
theorem dX6_bestOf_68 : decode cX6_bestOf 68 = .ok (.getfield 51, 3) := by decide +kernel
theorem dX6_bestOf_71 : decode cX6_bestOf 71 = .ok (.iload 4, 2) := by decide +kernel
theorem dX6_bestOf_73 : decode cX6_bestOf 73 = .ok (.iaload, 1) := by decide +kernel
theorem dX6_bestOf_74 : decode cX6_bestOf 74 = .ok (.aload_n 0, 1) := by decide +kernel
theorem dX6_bestOf_75 : decode cX6_bestOf 75 = .ok (.getfield 51, 3) := by decide +kernel
theorem dX6_bestOf_78 : decode cX6_bestOf 78 = .ok (.iload_n 3, 1) := by decide +kernel
theorem dX6_bestOf_79 : decode cX6_bestOf 79 = .ok (.iaload, 1) := by decide +kernel
theorem dX6_bestOf_80 : decode cX6_bestOf 80 = .ok (.if_icmp .le 27, 3) := by decide +kernel
theorem dX6_bestOf_83 : decode cX6_bestOf 83 = .ok (.goto 19, 3) := by decide +kernel
theorem dX6_bestOf_86 : decode cX6_bestOf 86 = .ok (.aload_n 0, 1) := by decide +kernel
theorem dX6_bestOf_87 : decode cX6_bestOf 87 = .ok (.getfield 51, 3) := by decide +kernel
theorem dX6_bestOf_90 : decode cX6_bestOf 90 = .ok (.iload 4, 2) := by decide +kernel
theorem dX6_bestOf_92 : decode cX6_bestOf 92 = .ok (.iaload, 1) := by decide +kernel
theorem dX6_bestOf_93 : decode cX6_bestOf 93 = .ok (.aload_n 0, 1) := by decide +kernel
theorem dX6_bestOf_94 : decode cX6_bestOf 94 = .ok (.getfield 51, 3) := by decide +kernel
theorem dX6_bestOf_97 : decode cX6_bestOf 97 = .ok (.iload_n 3, 1) := by decide +kernel
theorem dX6_bestOf_98 : decode cX6_bestOf 98 = .ok (.iaload, 1) := by decide +kernel
theorem dX6_bestOf_99 : decode cX6_bestOf 99 = .ok (.if_icmp .ge 8, 3) := by decide +kernel
theorem dX6_bestOf_102 : decode cX6_bestOf 102 = .ok (.iload 4, 2) := by decide +kernel
theorem dX6_bestOf_104 : decode cX6_bestOf 104 = .ok (.goto 4, 3) := by decide +kernel
theorem dX6_bestOf_107 : decode cX6_bestOf 107 = .ok (.iload_n 3, 1) := by decide +kernel
theorem dX6_bestOf_108 : decode cX6_bestOf 108 = .ok (.istore_n 3, 1) := by decide +kernel
theorem dX6_bestOf_109 : decode cX6_bestOf 109 = .ok (.iinc 4 1, 3) := by decide +kernel
theorem dX6_bestOf_112 : decode cX6_bestOf 112 = .ok (.goto (-107), 3) := by decide +kernel
theorem dX6_bestOf_115 : decode cX6_bestOf 115 = .ok (.iload_n 3, 1) := by decide +kernel
theorem dX6_bestOf_116 : decode cX6_bestOf 116 = .ok (.ireturn, 1) := by decide +kernel
theorem dX6_trade_0 : decode cX6_trade 0 = .ok (.aload_n 0, 1) := by decide +kernel
theorem dX6_trade_1 : decode cX6_trade 1 = .ok (.getfield 19, 3) := by decide +kernel
theorem dX6_trade_4 : decode cX6_trade 4 = .ok (.iconst 3, 1) := by decide +kernel
theorem dX6_trade_5 : decode cX6_trade 5 = .ok (.iload_n 1, 1) := by decide +kernel
theorem dX6_trade_6 : decode cX6_trade 6 = .ok (.imul, 1) := by decide +kernel
theorem dX6_trade_7 : decode cX6_trade 7 = .ok (.iload_n 3, 1) := by decide +kernel
theorem dX6_trade_8 : decode cX6_trade 8 = .ok (.iadd, 1) := by decide +kernel
theorem dX6_trade_9 : decode cX6_trade 9 = .ok (.dup2, 1) := by decide +kernel
theorem dX6_trade_10 : decode cX6_trade 10 = .ok (.iaload, 1) := by decide +kernel
theorem dX6_trade_11 : decode cX6_trade 11 = .ok (.iload 4, 2) := by decide +kernel
theorem dX6_trade_13 : decode cX6_trade 13 = .ok (.iadd, 1) := by decide +kernel
theorem dX6_trade_14 : decode cX6_trade 14 = .ok (.iastore, 1) := by decide +kernel
theorem dX6_trade_15 : decode cX6_trade 15 = .ok (.aload_n 0, 1) := by decide +kernel
theorem dX6_trade_16 : decode cX6_trade 16 = .ok (.getfield 19, 3) := by decide +kernel
theorem dX6_trade_19 : decode cX6_trade 19 = .ok (.iconst 3, 1) := by decide +kernel
theorem dX6_trade_20 : decode cX6_trade 20 = .ok (.iload_n 2, 1) := by decide +kernel
theorem dX6_trade_21 : decode cX6_trade 21 = .ok (.imul, 1) := by decide +kernel
theorem dX6_trade_22 : decode cX6_trade 22 = .ok (.iload_n 3, 1) := by decide +kernel
theorem dX6_trade_23 : decode cX6_trade 23 = .ok (.iadd, 1) := by decide +kernel
theorem dX6_trade_24 : decode cX6_trade 24 = .ok (.dup2, 1) := by decide +kernel
theorem dX6_trade_25 : decode cX6_trade 25 = .ok (.iaload, 1) := by decide +kernel
theorem dX6_trade_26 : decode cX6_trade 26 = .ok (.iload 4, 2) := by decide +kernel
theorem dX6_trade_28 : decode cX6_trade 28 = .ok (.isub, 1) := by decide +kernel
theorem dX6_trade_29 : decode cX6_trade 29 = .ok (.iastore, 1) := by decide +kernel
theorem dX6_trade_30 : decode cX6_trade 30 = .ok (.aload_n 0, 1) := by decide +kernel
theorem dX6_trade_31 : decode cX6_trade 31 = .ok (.getfield 22, 3) := by decide +kernel
theorem dX6_trade_34 : decode cX6_trade 34 = .ok (.iconst 3, 1) := by decide +kernel
theorem dX6_trade_35 : decode cX6_trade 35 = .ok (.iload_n 1, 1) := by decide +kernel
theorem dX6_trade_36 : decode cX6_trade 36 = .ok (.imul, 1) := by decide +kernel
theorem dX6_trade_37 : decode cX6_trade 37 = .ok (.iload_n 3, 1) := by decide +kernel
theorem dX6_trade_38 : decode cX6_trade 38 = .ok (.iadd, 1) := by decide +kernel
theorem dX6_trade_39 : decode cX6_trade 39 = .ok (.dup2, 1) := by decide +kernel
theorem dX6_trade_40 : decode cX6_trade 40 = .ok (.laload, 1) := by decide +kernel
theorem dX6_trade_41 : decode cX6_trade 41 = .ok (.iload 4, 2) := by decide +kernel
theorem dX6_trade_43 : decode cX6_trade 43 = .ok (.i2l, 1) := by decide +kernel
theorem dX6_trade_44 : decode cX6_trade 44 = .ok (.iload 5, 2) := by decide +kernel
theorem dX6_trade_46 : decode cX6_trade 46 = .ok (.i2l, 1) := by decide +kernel
theorem dX6_trade_47 : decode cX6_trade 47 = .ok (.lmul, 1) := by decide +kernel
theorem dX6_trade_48 : decode cX6_trade 48 = .ok (.ladd, 1) := by decide +kernel
theorem dX6_trade_49 : decode cX6_trade 49 = .ok (.lastore, 1) := by decide +kernel
theorem dX6_trade_50 : decode cX6_trade 50 = .ok (.aload_n 0, 1) := by decide +kernel
theorem dX6_trade_51 : decode cX6_trade 51 = .ok (.getfield 22, 3) := by decide +kernel
theorem dX6_trade_54 : decode cX6_trade 54 = .ok (.iconst 3, 1) := by decide +kernel
theorem dX6_trade_55 : decode cX6_trade 55 = .ok (.iload_n 2, 1) := by decide +kernel
theorem dX6_trade_56 : decode cX6_trade 56 = .ok (.imul, 1) := by decide +kernel
theorem dX6_trade_57 : decode cX6_trade 57 = .ok (.iload_n 3, 1) := by decide +kernel
theorem dX6_trade_58 : decode cX6_trade 58 = .ok (.iadd, 1) := by decide +kernel
theorem dX6_trade_59 : decode cX6_trade 59 = .ok (.dup2, 1) := by decide +kernel
theorem dX6_trade_60 : decode cX6_trade 60 = .ok (.laload, 1) := by decide +kernel
theorem dX6_trade_61 : decode cX6_trade 61 = .ok (.iload 4, 2) := by decide +kernel
theorem dX6_trade_63 : decode cX6_trade 63 = .ok (.i2l, 1) := by decide +kernel
theorem dX6_trade_64 : decode cX6_trade 64 = .ok (.iload 5, 2) := by decide +kernel
theorem dX6_trade_66 : decode cX6_trade 66 = .ok (.i2l, 1) := by decide +kernel
theorem dX6_trade_67 : decode cX6_trade 67 = .ok (.lmul, 1) := by decide +kernel
theorem dX6_trade_68 : decode cX6_trade 68 = .ok (.lsub, 1) := by decide +kernel
theorem dX6_trade_69 : decode cX6_trade 69 = .ok (.lastore, 1) := by decide +kernel
theorem dX6_trade_70 : decode cX6_trade 70 = .ok (.aload_n 0, 1) := by decide +kernel
theorem dX6_trade_71 : decode cX6_trade 71 = .ok (.dup, 1) := by decide +kernel
theorem dX6_trade_72 : decode cX6_trade 72 = .ok (.getfield 120, 3) := by decide +kernel
theorem dX6_trade_75 : decode cX6_trade 75 = .ok (.iconst 1, 1) := by decide +kernel
theorem dX6_trade_76 : decode cX6_trade 76 = .ok (.iadd, 1) := by decide +kernel
theorem dX6_trade_77 : decode cX6_trade 77 = .ok (.putfield 120, 3) := by decide +kernel
theorem dX6_trade_80 : decode cX6_trade 80 = .ok (.return_, 1) := by decide +kernel
theorem dX6_matches_0 : decode cX6_matches 0 = .ok (.aload_n 0, 1) := by decide +kernel
theorem dX6_matches_1 : decode cX6_matches 1 = .ok (.getfield 45, 3) := by decide +kernel
theorem dX6_matches_4 : decode cX6_matches 4 = .ok (.iload_n 1, 1) := by decide +kernel
theorem dX6_matches_5 : decode cX6_matches 5 = .ok (.iaload, 1) := by decide +kernel
theorem dX6_matches_6 : decode cX6_matches 6 = .ok (.istore_n 2, 1) := by decide +kernel
theorem dX6_matches_7 : decode cX6_matches 7 = .ok (.iconst 0, 1) := by decide +kernel
theorem dX6_matches_8 : decode cX6_matches 8 = .ok (.istore_n 3, 1) := by decide +kernel
theorem dX6_matches_9 : decode cX6_matches 9 = .ok (.aload_n 0, 1) := by decide +kernel
theorem dX6_matches_10 : decode cX6_matches 10 = .ok (.getfield 54, 3) := by decide +kernel
theorem dX6_matches_13 : decode cX6_matches 13 = .ok (.iload_n 1, 1) := by decide +kernel
theorem dX6_matches_14 : decode cX6_matches 14 = .ok (.iaload, 1) := by decide +kernel
theorem dX6_matches_15 : decode cX6_matches 15 = .ok (.ifCond .le 243, 3) := by decide +kernel
theorem dX6_matches_18 : decode cX6_matches 18 = .ok (.iload_n 3, 1) := by decide +kernel
theorem dX6_matches_19 : decode cX6_matches 19 = .ok (.ifCond .ne 239, 3) := by decide +kernel
theorem dX6_matches_22 : decode cX6_matches 22 = .ok (.aload_n 0, 1) := by decide +kernel
theorem dX6_matches_23 : decode cX6_matches 23 = .ok (.iload_n 2, 1) := by decide +kernel
theorem dX6_matches_24 : decode cX6_matches 24 = .ok (.aload_n 0, 1) := by decide +kernel
theorem dX6_matches_25 : decode cX6_matches 25 = .ok (.getfield 48, 3) := by decide +kernel
theorem dX6_matches_28 : decode cX6_matches 28 = .ok (.iload_n 1, 1) := by decide +kernel
theorem dX6_matches_29 : decode cX6_matches 29 = .ok (.baload, 1) := by decide +kernel
theorem dX6_matches_30 : decode cX6_matches 30 = .ok (.ifCond .ne 7, 3) := by decide +kernel
theorem dX6_matches_33 : decode cX6_matches 33 = .ok (.iconst 1, 1) := by decide +kernel
theorem dX6_matches_34 : decode cX6_matches 34 = .ok (.goto 4, 3) := by decide +kernel
theorem dX6_matches_37 : decode cX6_matches 37 = .ok (.iconst 0, 1) := by decide +kernel
theorem dX6_matches_38 : decode cX6_matches 38 = .ok (.invokevirtual 123, 3) := by decide +kernel
theorem dX6_matches_41 : decode cX6_matches 41 = .ok (.istore 4, 2) := by decide +kernel
theorem dX6_matches_43 : decode cX6_matches 43 = .ok (.iload 4, 2) := by decide +kernel
theorem dX6_matches_45 : decode cX6_matches 45 = .ok (.iconst (-1), 1) := by decide +kernel
theorem dX6_matches_46 : decode cX6_matches 46 = .ok (.if_icmp .eq 47, 3) := by decide +kernel
theorem dX6_matches_49 : decode cX6_matches 49 = .ok (.aload_n 0, 1) := by decide +kernel
theorem dX6_matches_50 : decode cX6_matches 50 = .ok (.getfield 48, 3) := by decide +kernel
theorem dX6_matches_53 : decode cX6_matches 53 = .ok (.iload_n 1, 1) := by decide +kernel
theorem dX6_matches_54 : decode cX6_matches 54 = .ok (.baload, 1) := by decide +kernel
theorem dX6_matches_55 : decode cX6_matches 55 = .ok (.ifCond .eq 22, 3) := by decide +kernel
theorem dX6_matches_58 : decode cX6_matches 58 = .ok (.aload_n 0, 1) := by decide +kernel
theorem dX6_matches_59 : decode cX6_matches 59 = .ok (.getfield 51, 3) := by decide +kernel
theorem dX6_matches_62 : decode cX6_matches 62 = .ok (.iload_n 1, 1) := by decide +kernel
theorem dX6_matches_63 : decode cX6_matches 63 = .ok (.iaload, 1) := by decide +kernel
theorem dX6_matches_64 : decode cX6_matches 64 = .ok (.aload_n 0, 1) := by decide +kernel
theorem dX6_matches_65 : decode cX6_matches 65 = .ok (.getfield 51, 3) := by decide +kernel
theorem dX6_matches_68 : decode cX6_matches 68 = .ok (.iload 4, 2) := by decide +kernel
theorem dX6_matches_70 : decode cX6_matches 70 = .ok (.iaload, 1) := by decide +kernel
theorem dX6_matches_71 : decode cX6_matches 71 = .ok (.if_icmp .ge 26, 3) := by decide +kernel
theorem dX6_matches_74 : decode cX6_matches 74 = .ok (.goto 19, 3) := by decide +kernel
theorem dX6_matches_77 : decode cX6_matches 77 = .ok (.aload_n 0, 1) := by decide +kernel
theorem dX6_matches_78 : decode cX6_matches 78 = .ok (.getfield 51, 3) := by decide +kernel
theorem dX6_matches_81 : decode cX6_matches 81 = .ok (.iload 4, 2) := by decide +kernel
theorem dX6_matches_83 : decode cX6_matches 83 = .ok (.iaload, 1) := by decide +kernel
theorem dX6_matches_84 : decode cX6_matches 84 = .ok (.aload_n 0, 1) := by decide +kernel
theorem dX6_matches_85 : decode cX6_matches 85 = .ok (.getfield 51, 3) := by decide +kernel
theorem dX6_matches_88 : decode cX6_matches 88 = .ok (.iload_n 1, 1) := by decide +kernel
theorem dX6_matches_89 : decode cX6_matches 89 = .ok (.iaload, 1) := by decide +kernel
theorem dX6_matches_90 : decode cX6_matches 90 = .ok (.if_icmp .ge 7, 3) := by decide +kernel
theorem dX6_matches_93 : decode cX6_matches 93 = .ok (.iconst 1, 1) := by decide +kernel
theorem dX6_matches_94 : decode cX6_matches 94 = .ok (.goto 4, 3) := by decide +kernel
theorem dX6_matches_97 : decode cX6_matches 97 = .ok (.iconst 0, 1) := by decide +kernel
theorem dX6_matches_98 : decode cX6_matches 98 = .ok (.istore_n 3, 1) := by decide +kernel
theorem dX6_matches_99 : decode cX6_matches 99 = .ok (.iload_n 3, 1) := by decide +kernel
theorem dX6_matches_100 : decode cX6_matches 100 = .ok (.ifCond .ne 30, 3) := by decide +kernel
theorem dX6_matches_103 : decode cX6_matches 103 = .ok (.aload_n 0, 1) := by decide +kernel
theorem dX6_matches_104 : decode cX6_matches 104 = .ok (.getfield 42, 3) := by decide +kernel
theorem dX6_matches_107 : decode cX6_matches 107 = .ok (.iload 4, 2) := by decide +kernel
theorem dX6_matches_109 : decode cX6_matches 109 = .ok (.iaload, 1) := by decide +kernel
theorem dX6_matches_110 : decode cX6_matches 110 = .ok (.aload_n 0, 1) := by decide +kernel
theorem dX6_matches_111 : decode cX6_matches 111 = .ok (.getfield 42, 3) := by decide +kernel
theorem dX6_matches_114 : decode cX6_matches 114 = .ok (.iload_n 1, 1) := by decide +kernel
theorem dX6_matches_115 : decode cX6_matches 115 = .ok (.iaload, 1) := by decide +kernel
theorem dX6_matches_116 : decode cX6_matches 116 = .ok (.if_icmp .ne 14, 3) := by decide +kernel
theorem dX6_matches_119 : decode cX6_matches 119 = .ok (.aload_n 0, 1) := by decide +kernel
theorem dX6_matches_120 : decode cX6_matches 120 = .ok (.getfield 54, 3) := by decide +kernel
theorem dX6_matches_123 : decode cX6_matches 123 = .ok (.iload 4, 2) := by decide +kernel
theorem dX6_matches_125 : decode cX6_matches 125 = .ok (.iconst 0, 1) := by decide +kernel
theorem dX6_matches_126 : decode cX6_matches 126 = .ok (.iastore, 1) := by decide +kernel
theorem dX6_matches_127 : decode cX6_matches 127 = .ok (.goto 128, 3) := by decide +kernel
theorem dX6_matches_130 : decode cX6_matches 130 = .ok (.iload_n 3, 1) := by decide +kernel
theorem dX6_matches_131 : decode cX6_matches 131 = .ok (.ifCond .ne 124, 3) := by decide +kernel
theorem dX6_matches_134 : decode cX6_matches 134 = .ok (.aload_n 0, 1) := by decide +kernel
theorem dX6_matches_135 : decode cX6_matches 135 = .ok (.getfield 54, 3) := by decide +kernel
theorem dX6_matches_138 : decode cX6_matches 138 = .ok (.iload 4, 2) := by decide +kernel
theorem dX6_matches_140 : decode cX6_matches 140 = .ok (.iaload, 1) := by decide +kernel
theorem dX6_matches_141 : decode cX6_matches 141 = .ok (.aload_n 0, 1) := by decide +kernel
theorem dX6_matches_142 : decode cX6_matches 142 = .ok (.getfield 54, 3) := by decide +kernel
theorem dX6_matches_145 : decode cX6_matches 145 = .ok (.iload_n 1, 1) := by decide +kernel
theorem dX6_matches_146 : decode cX6_matches 146 = .ok (.iaload, 1) := by decide +kernel
theorem dX6_matches_147 : decode cX6_matches 147 = .ok (.if_icmp .ge 13, 3) := by decide +kernel
theorem dX6_matches_150 : decode cX6_matches 150 = .ok (.aload_n 0, 1) := by decide +kernel
theorem dX6_matches_151 : decode cX6_matches 151 = .ok (.getfield 54, 3) := by decide +kernel
theorem dX6_matches_154 : decode cX6_matches 154 = .ok (.iload 4, 2) := by decide +kernel
theorem dX6_matches_156 : decode cX6_matches 156 = .ok (.iaload, 1) := by decide +kernel
theorem dX6_matches_157 : decode cX6_matches 157 = .ok (.goto 9, 3) := by decide +kernel
theorem dX6_matches_160 : decode cX6_matches 160 = .ok (.aload_n 0, 1) := by decide +kernel
theorem dX6_matches_161 : decode cX6_matches 161 = .ok (.getfield 54, 3) := by decide +kernel
theorem dX6_matches_164 : decode cX6_matches 164 = .ok (.iload_n 1, 1) := by decide +kernel
theorem dX6_matches_165 : decode cX6_matches 165 = .ok (.iaload, 1) := by decide +kernel
theorem dX6_matches_166 : decode cX6_matches 166 = .ok (.istore 5, 2) := by decide +kernel
theorem dX6_matches_168 : decode cX6_matches 168 = .ok (.aload_n 0, 1) := by decide +kernel
theorem dX6_matches_169 : decode cX6_matches 169 = .ok (.aload_n 0, 1) := by decide +kernel
theorem dX6_matches_170 : decode cX6_matches 170 = .ok (.getfield 48, 3) := by decide +kernel
theorem dX6_matches_173 : decode cX6_matches 173 = .ok (.iload_n 1, 1) := by decide +kernel
theorem dX6_matches_174 : decode cX6_matches 174 = .ok (.baload, 1) := by decide +kernel
theorem dX6_matches_175 : decode cX6_matches 175 = .ok (.ifCond .eq 12, 3) := by decide +kernel
theorem dX6_matches_178 : decode cX6_matches 178 = .ok (.aload_n 0, 1) := by decide +kernel
theorem dX6_matches_179 : decode cX6_matches 179 = .ok (.getfield 42, 3) := by decide +kernel
theorem dX6_matches_182 : decode cX6_matches 182 = .ok (.iload_n 1, 1) := by decide +kernel
theorem dX6_matches_183 : decode cX6_matches 183 = .ok (.iaload, 1) := by decide +kernel
theorem dX6_matches_184 : decode cX6_matches 184 = .ok (.goto 10, 3) := by decide +kernel
theorem dX6_matches_187 : decode cX6_matches 187 = .ok (.aload_n 0, 1) := by decide +kernel
theorem dX6_matches_188 : decode cX6_matches 188 = .ok (.getfield 42, 3) := by decide +kernel
theorem dX6_matches_191 : decode cX6_matches 191 = .ok (.iload 4, 2) := by decide +kernel
theorem dX6_matches_193 : decode cX6_matches 193 = .ok (.iaload, 1) := by decide +kernel
theorem dX6_matches_194 : decode cX6_matches 194 = .ok (.aload_n 0, 1) := by decide +kernel
theorem dX6_matches_195 : decode cX6_matches 195 = .ok (.getfield 48, 3) := by decide +kernel
theorem dX6_matches_198 : decode cX6_matches 198 = .ok (.iload_n 1, 1) := by decide +kernel
theorem dX6_matches_199 : decode cX6_matches 199 = .ok (.baload, 1) := by decide +kernel
theorem dX6_matches_200 : decode cX6_matches 200 = .ok (.ifCond .eq 13, 3) := by decide +kernel
theorem dX6_matches_203 : decode cX6_matches 203 = .ok (.aload_n 0, 1) := by decide +kernel
theorem dX6_matches_204 : decode cX6_matches 204 = .ok (.getfield 42, 3) := by decide +kernel
theorem dX6_matches_207 : decode cX6_matches 207 = .ok (.iload 4, 2) := by decide +kernel
theorem dX6_matches_209 : decode cX6_matches 209 = .ok (.iaload, 1) := by decide +kernel
theorem dX6_matches_210 : decode cX6_matches 210 = .ok (.goto 9, 3) := by decide +kernel
theorem dX6_matches_213 : decode cX6_matches 213 = .ok (.aload_n 0, 1) := by decide +kernel
theorem dX6_matches_214 : decode cX6_matches 214 = .ok (.getfield 42, 3) := by decide +kernel
theorem dX6_matches_217 : decode cX6_matches 217 = .ok (.iload_n 1, 1) := by decide +kernel
theorem dX6_matches_218 : decode cX6_matches 218 = .ok (.iaload, 1) := by decide +kernel
theorem dX6_matches_219 : decode cX6_matches 219 = .ok (.iload_n 2, 1) := by decide +kernel
theorem dX6_matches_220 : decode cX6_matches 220 = .ok (.iload 5, 2) := by decide +kernel
theorem dX6_matches_222 : decode cX6_matches 222 = .ok (.aload_n 0, 1) := by decide +kernel
theorem dX6_matches_223 : decode cX6_matches 223 = .ok (.getfield 51, 3) := by decide +kernel
theorem dX6_matches_226 : decode cX6_matches 226 = .ok (.iload 4, 2) := by decide +kernel
theorem dX6_matches_228 : decode cX6_matches 228 = .ok (.iaload, 1) := by decide +kernel
theorem dX6_matches_229 : decode cX6_matches 229 = .ok (.invokevirtual 127, 3) := by decide +kernel
theorem dX6_matches_232 : decode cX6_matches 232 = .ok (.aload_n 0, 1) := by decide +kernel
theorem dX6_matches_233 : decode cX6_matches 233 = .ok (.getfield 54, 3) := by decide +kernel
theorem dX6_matches_236 : decode cX6_matches 236 = .ok (.iload 4, 2) := by decide +kernel
theorem dX6_matches_238 : decode cX6_matches 238 = .ok (.dup2, 1) := by decide +kernel
theorem dX6_matches_239 : decode cX6_matches 239 = .ok (.iaload, 1) := by decide +kernel
theorem dX6_matches_240 : decode cX6_matches 240 = .ok (.iload 5, 2) := by decide +kernel
theorem dX6_matches_242 : decode cX6_matches 242 = .ok (.isub, 1) := by decide +kernel
theorem dX6_matches_243 : decode cX6_matches 243 = .ok (.iastore, 1) := by decide +kernel
theorem dX6_matches_244 : decode cX6_matches 244 = .ok (.aload_n 0, 1) := by decide +kernel
theorem dX6_matches_245 : decode cX6_matches 245 = .ok (.getfield 54, 3) := by decide +kernel
theorem dX6_matches_248 : decode cX6_matches 248 = .ok (.iload_n 1, 1) := by decide +kernel
theorem dX6_matches_249 : decode cX6_matches 249 = .ok (.dup2, 1) := by decide +kernel
theorem dX6_matches_250 : decode cX6_matches 250 = .ok (.iaload, 1) := by decide +kernel
theorem dX6_matches_251 : decode cX6_matches 251 = .ok (.iload 5, 2) := by decide +kernel
theorem dX6_matches_253 : decode cX6_matches 253 = .ok (.isub, 1) := by decide +kernel
theorem dX6_matches_254 : decode cX6_matches 254 = .ok (.iastore, 1) := by decide +kernel
theorem dX6_matches_255 : decode cX6_matches 255 = .ok (.goto (-246), 3) := by decide +kernel
theorem dX6_matches_258 : decode cX6_matches 258 = .ok (.return_, 1) := by decide +kernel
theorem dX6_place_0 : decode cX6_place 0 = .ok (.aload_n 0, 1) := by decide +kernel
theorem dX6_place_1 : decode cX6_place 1 = .ok (.iload_n 1, 1) := by decide +kernel
theorem dX6_place_2 : decode cX6_place 2 = .ok (.invokestatic 109, 3) := by decide +kernel
theorem dX6_place_5 : decode cX6_place 5 = .ok (.ifCond .eq 37, 3) := by decide +kernel
theorem dX6_place_8 : decode cX6_place 8 = .ok (.iload_n 2, 1) := by decide +kernel
theorem dX6_place_9 : decode cX6_place 9 = .ok (.invokestatic 70, 3) := by decide +kernel
theorem dX6_place_12 : decode cX6_place 12 = .ok (.ifCond .eq 30, 3) := by decide +kernel
theorem dX6_place_15 : decode cX6_place 15 = .ok (.iload 4, 2) := by decide +kernel
theorem dX6_place_17 : decode cX6_place 17 = .ok (.iconst 1, 1) := by decide +kernel
theorem dX6_place_18 : decode cX6_place 18 = .ok (.sipush 9999, 3) := by decide +kernel
theorem dX6_place_21 : decode cX6_place 21 = .ok (.invokestatic 74, 3) := by decide +kernel
theorem dX6_place_24 : decode cX6_place 24 = .ok (.ifCond .eq 18, 3) := by decide +kernel
theorem dX6_place_27 : decode cX6_place 27 = .ok (.iload 5, 2) := by decide +kernel
theorem dX6_place_29 : decode cX6_place 29 = .ok (.iconst 1, 1) := by decide +kernel
theorem dX6_place_30 : decode cX6_place 30 = .ok (.bipush 100, 2) := by decide +kernel
theorem dX6_place_32 : decode cX6_place 32 = .ok (.invokestatic 74, 3) := by decide +kernel
theorem dX6_place_35 : decode cX6_place 35 = .ok (.ifCond .eq 7, 3) := by decide +kernel
theorem dX6_place_38 : decode cX6_place 38 = .ok (.iconst 1, 1) := by decide +kernel
theorem dX6_place_39 : decode cX6_place 39 = .ok (.goto 4, 3) := by decide +kernel
theorem dX6_place_42 : decode cX6_place 42 = .ok (.iconst 0, 1) := by decide +kernel
theorem dX6_place_43 : decode cX6_place 43 = .ok (.invokevirtual 78, 3) := by decide +kernel
theorem dX6_place_46 : decode cX6_place 46 = .ok (.ifCond .ne 5, 3) := by decide +kernel
theorem dX6_place_49 : decode cX6_place 49 = .ok (.iconst 0, 1) := by decide +kernel
theorem dX6_place_50 : decode cX6_place 50 = .ok (.ireturn, 1) := by decide +kernel
theorem dX6_place_51 : decode cX6_place 51 = .ok (.aload_n 0, 1) := by decide +kernel
theorem dX6_place_52 : decode cX6_place 52 = .ok (.getfield 38, 3) := by decide +kernel
theorem dX6_place_55 : decode cX6_place 55 = .ok (.iload_n 1, 1) := by decide +kernel
theorem dX6_place_56 : decode cX6_place 56 = .ok (.baload, 1) := by decide +kernel
theorem dX6_place_57 : decode cX6_place 57 = .ok (.ifCond .ne 21, 3) := by decide +kernel
theorem dX6_place_60 : decode cX6_place 60 = .ok (.aload_n 0, 1) := by decide +kernel
theorem dX6_place_61 : decode cX6_place 61 = .ok (.getfield 57, 3) := by decide +kernel
theorem dX6_place_64 : decode cX6_place 64 = .ok (.iload_n 2, 1) := by decide +kernel
theorem dX6_place_65 : decode cX6_place 65 = .ok (.baload, 1) := by decide +kernel
theorem dX6_place_66 : decode cX6_place 66 = .ok (.ifCond .ne 12, 3) := by decide +kernel
theorem dX6_place_69 : decode cX6_place 69 = .ok (.aload_n 0, 1) := by decide +kernel
theorem dX6_place_70 : decode cX6_place 70 = .ok (.getfield 90, 3) := by decide +kernel
theorem dX6_place_73 : decode cX6_place 73 = .ok (.bipush 100, 2) := by decide +kernel
theorem dX6_place_75 : decode cX6_place 75 = .ok (.if_icmp .ne 9, 3) := by decide +kernel
theorem dX6_place_78 : decode cX6_place 78 = .ok (.aload_n 0, 1) := by decide +kernel
theorem dX6_place_79 : decode cX6_place 79 = .ok (.iconst 2, 1) := by decide +kernel
theorem dX6_place_80 : decode cX6_place 80 = .ok (.invokevirtual 117, 3) := by decide +kernel
theorem dX6_place_83 : decode cX6_place 83 = .ok (.ireturn, 1) := by decide +kernel
theorem dX6_place_84 : decode cX6_place 84 = .ok (.aload_n 0, 1) := by decide +kernel
theorem dX6_place_85 : decode cX6_place 85 = .ok (.getfield 42, 3) := by decide +kernel
theorem dX6_place_88 : decode cX6_place 88 = .ok (.aload_n 0, 1) := by decide +kernel
theorem dX6_place_89 : decode cX6_place 89 = .ok (.getfield 90, 3) := by decide +kernel
theorem dX6_place_92 : decode cX6_place 92 = .ok (.iload_n 1, 1) := by decide +kernel
theorem dX6_place_93 : decode cX6_place 93 = .ok (.iastore, 1) := by decide +kernel
theorem dX6_place_94 : decode cX6_place 94 = .ok (.aload_n 0, 1) := by decide +kernel
theorem dX6_place_95 : decode cX6_place 95 = .ok (.getfield 45, 3) := by decide +kernel
theorem dX6_place_98 : decode cX6_place 98 = .ok (.aload_n 0, 1) := by decide +kernel
theorem dX6_place_99 : decode cX6_place 99 = .ok (.getfield 90, 3) := by decide +kernel
theorem dX6_place_102 : decode cX6_place 102 = .ok (.iload_n 2, 1) := by decide +kernel
theorem dX6_place_103 : decode cX6_place 103 = .ok (.iastore, 1) := by decide +kernel
theorem dX6_place_104 : decode cX6_place 104 = .ok (.aload_n 0, 1) := by decide +kernel
theorem dX6_place_105 : decode cX6_place 105 = .ok (.getfield 48, 3) := by decide +kernel
theorem dX6_place_108 : decode cX6_place 108 = .ok (.aload_n 0, 1) := by decide +kernel
theorem dX6_place_109 : decode cX6_place 109 = .ok (.getfield 90, 3) := by decide +kernel
theorem dX6_place_112 : decode cX6_place 112 = .ok (.iload_n 3, 1) := by decide +kernel
theorem dX6_place_113 : decode cX6_place 113 = .ok (.bastore, 1) := by decide +kernel
theorem dX6_place_114 : decode cX6_place 114 = .ok (.aload_n 0, 1) := by decide +kernel
theorem dX6_place_115 : decode cX6_place 115 = .ok (.getfield 51, 3) := by decide +kernel
theorem dX6_place_118 : decode cX6_place 118 = .ok (.aload_n 0, 1) := by decide +kernel
theorem dX6_place_119 : decode cX6_place 119 = .ok (.getfield 90, 3) := by decide +kernel
theorem dX6_place_122 : decode cX6_place 122 = .ok (.iload 4, 2) := by decide +kernel
theorem dX6_place_124 : decode cX6_place 124 = .ok (.iastore, 1) := by decide +kernel
theorem dX6_place_125 : decode cX6_place 125 = .ok (.aload_n 0, 1) := by decide +kernel
theorem dX6_place_126 : decode cX6_place 126 = .ok (.getfield 54, 3) := by decide +kernel
theorem dX6_place_129 : decode cX6_place 129 = .ok (.aload_n 0, 1) := by decide +kernel
theorem dX6_place_130 : decode cX6_place 130 = .ok (.getfield 90, 3) := by decide +kernel
theorem dX6_place_133 : decode cX6_place 133 = .ok (.iload 5, 2) := by decide +kernel
theorem dX6_place_135 : decode cX6_place 135 = .ok (.iastore, 1) := by decide +kernel
theorem dX6_place_136 : decode cX6_place 136 = .ok (.aload_n 0, 1) := by decide +kernel
theorem dX6_place_137 : decode cX6_place 137 = .ok (.dup, 1) := by decide +kernel
theorem dX6_place_138 : decode cX6_place 138 = .ok (.getfield 90, 3) := by decide +kernel
theorem dX6_place_141 : decode cX6_place 141 = .ok (.iconst 1, 1) := by decide +kernel
theorem dX6_place_142 : decode cX6_place 142 = .ok (.iadd, 1) := by decide +kernel
theorem dX6_place_143 : decode cX6_place 143 = .ok (.putfield 90, 3) := by decide +kernel
theorem dX6_place_146 : decode cX6_place 146 = .ok (.aload_n 0, 1) := by decide +kernel
theorem dX6_place_147 : decode cX6_place 147 = .ok (.aload_n 0, 1) := by decide +kernel
theorem dX6_place_148 : decode cX6_place 148 = .ok (.getfield 90, 3) := by decide +kernel
theorem dX6_place_151 : decode cX6_place 151 = .ok (.iconst 1, 1) := by decide +kernel
theorem dX6_place_152 : decode cX6_place 152 = .ok (.isub, 1) := by decide +kernel
theorem dX6_place_153 : decode cX6_place 153 = .ok (.invokevirtual 131, 3) := by decide +kernel
theorem dX6_place_156 : decode cX6_place 156 = .ok (.aload_n 0, 1) := by decide +kernel
theorem dX6_place_157 : decode cX6_place 157 = .ok (.getfield 90, 3) := by decide +kernel
theorem dX6_place_160 : decode cX6_place 160 = .ok (.iconst 1, 1) := by decide +kernel
theorem dX6_place_161 : decode cX6_place 161 = .ok (.isub, 1) := by decide +kernel
theorem dX6_place_162 : decode cX6_place 162 = .ok (.ireturn, 1) := by decide +kernel
theorem dX6_isOrder_0 : decode cX6_isOrder 0 = .ok (.iload_n 1, 1) := by decide +kernel
theorem dX6_isOrder_1 : decode cX6_isOrder 1 = .ok (.ifCond .lt 15, 3) := by decide +kernel
theorem dX6_isOrder_4 : decode cX6_isOrder 4 = .ok (.iload_n 1, 1) := by decide +kernel
theorem dX6_isOrder_5 : decode cX6_isOrder 5 = .ok (.aload_n 0, 1) := by decide +kernel
theorem dX6_isOrder_6 : decode cX6_isOrder 6 = .ok (.getfield 90, 3) := by decide +kernel
theorem dX6_isOrder_9 : decode cX6_isOrder 9 = .ok (.if_icmp .ge 7, 3) := by decide +kernel
theorem dX6_isOrder_12 : decode cX6_isOrder 12 = .ok (.iconst 1, 1) := by decide +kernel
theorem dX6_isOrder_13 : decode cX6_isOrder 13 = .ok (.goto 4, 3) := by decide +kernel
theorem dX6_isOrder_16 : decode cX6_isOrder 16 = .ok (.iconst 0, 1) := by decide +kernel
theorem dX6_isOrder_17 : decode cX6_isOrder 17 = .ok (.ireturn, 1) := by decide +kernel
theorem dX6_cancel_0 : decode cX6_cancel 0 = .ok (.aload_n 0, 1) := by decide +kernel
theorem dX6_cancel_1 : decode cX6_cancel 1 = .ok (.aload_n 0, 1) := by decide +kernel
theorem dX6_cancel_2 : decode cX6_cancel 2 = .ok (.iload_n 1, 1) := by decide +kernel
theorem dX6_cancel_3 : decode cX6_cancel 3 = .ok (.invokevirtual 135, 3) := by decide +kernel
theorem dX6_cancel_6 : decode cX6_cancel 6 = .ok (.invokevirtual 78, 3) := by decide +kernel
theorem dX6_cancel_9 : decode cX6_cancel 9 = .ok (.ifCond .ne 5, 3) := by decide +kernel
theorem dX6_cancel_12 : decode cX6_cancel 12 = .ok (.iconst 0, 1) := by decide +kernel
theorem dX6_cancel_13 : decode cX6_cancel 13 = .ok (.ireturn, 1) := by decide +kernel
theorem dX6_cancel_14 : decode cX6_cancel 14 = .ok (.aload_n 0, 1) := by decide +kernel
theorem dX6_cancel_15 : decode cX6_cancel 15 = .ok (.getfield 54, 3) := by decide +kernel
theorem dX6_cancel_18 : decode cX6_cancel 18 = .ok (.iload_n 1, 1) := by decide +kernel
theorem dX6_cancel_19 : decode cX6_cancel 19 = .ok (.iaload, 1) := by decide +kernel
theorem dX6_cancel_20 : decode cX6_cancel 20 = .ok (.ifCond .ne 9, 3) := by decide +kernel
theorem dX6_cancel_23 : decode cX6_cancel 23 = .ok (.aload_n 0, 1) := by decide +kernel
theorem dX6_cancel_24 : decode cX6_cancel 24 = .ok (.iconst 2, 1) := by decide +kernel
theorem dX6_cancel_25 : decode cX6_cancel 25 = .ok (.invokevirtual 117, 3) := by decide +kernel
theorem dX6_cancel_28 : decode cX6_cancel 28 = .ok (.ireturn, 1) := by decide +kernel
theorem dX6_cancel_29 : decode cX6_cancel 29 = .ok (.aload_n 0, 1) := by decide +kernel
theorem dX6_cancel_30 : decode cX6_cancel 30 = .ok (.getfield 54, 3) := by decide +kernel
theorem dX6_cancel_33 : decode cX6_cancel 33 = .ok (.iload_n 1, 1) := by decide +kernel
theorem dX6_cancel_34 : decode cX6_cancel 34 = .ok (.iaload, 1) := by decide +kernel
theorem dX6_cancel_35 : decode cX6_cancel 35 = .ok (.istore_n 2, 1) := by decide +kernel
theorem dX6_cancel_36 : decode cX6_cancel 36 = .ok (.aload_n 0, 1) := by decide +kernel
theorem dX6_cancel_37 : decode cX6_cancel 37 = .ok (.getfield 54, 3) := by decide +kernel
theorem dX6_cancel_40 : decode cX6_cancel 40 = .ok (.iload_n 1, 1) := by decide +kernel
theorem dX6_cancel_41 : decode cX6_cancel 41 = .ok (.iconst 0, 1) := by decide +kernel
theorem dX6_cancel_42 : decode cX6_cancel 42 = .ok (.iastore, 1) := by decide +kernel
theorem dX6_cancel_43 : decode cX6_cancel 43 = .ok (.iload_n 2, 1) := by decide +kernel
theorem dX6_cancel_44 : decode cX6_cancel 44 = .ok (.ireturn, 1) := by decide +kernel
theorem dX6_halt_0 : decode cX6_halt 0 = .ok (.aload_n 0, 1) := by decide +kernel
theorem dX6_halt_1 : decode cX6_halt 1 = .ok (.iload_n 1, 1) := by decide +kernel
theorem dX6_halt_2 : decode cX6_halt 2 = .ok (.invokestatic 70, 3) := by decide +kernel
theorem dX6_halt_5 : decode cX6_halt 5 = .ok (.invokevirtual 78, 3) := by decide +kernel
theorem dX6_halt_8 : decode cX6_halt 8 = .ok (.ifCond .ne 5, 3) := by decide +kernel
theorem dX6_halt_11 : decode cX6_halt 11 = .ok (.iconst 0, 1) := by decide +kernel
theorem dX6_halt_12 : decode cX6_halt 12 = .ok (.ireturn, 1) := by decide +kernel
theorem dX6_halt_13 : decode cX6_halt 13 = .ok (.iconst 0, 1) := by decide +kernel
theorem dX6_halt_14 : decode cX6_halt 14 = .ok (.istore_n 3, 1) := by decide +kernel
theorem dX6_halt_15 : decode cX6_halt 15 = .ok (.iconst 0, 1) := by decide +kernel
theorem dX6_halt_16 : decode cX6_halt 16 = .ok (.istore 4, 2) := by decide +kernel
theorem dX6_halt_18 : decode cX6_halt 18 = .ok (.iload 4, 2) := by decide +kernel
theorem dX6_halt_20 : decode cX6_halt 20 = .ok (.aload_n 0, 1) := by decide +kernel
theorem dX6_halt_21 : decode cX6_halt 21 = .ok (.getfield 90, 3) := by decide +kernel
theorem dX6_halt_24 : decode cX6_halt 24 = .ok (.if_icmp .ge 45, 3) := by decide +kernel
theorem dX6_halt_27 : decode cX6_halt 27 = .ok (.iload_n 2, 1) := by decide +kernel
theorem dX6_halt_28 : decode cX6_halt 28 = .ok (.ifCond .eq 41, 3) := by decide +kernel
theorem dX6_halt_31 : decode cX6_halt 31 = .ok (.aload_n 0, 1) := by decide +kernel
theorem dX6_halt_32 : decode cX6_halt 32 = .ok (.getfield 45, 3) := by decide +kernel
theorem dX6_halt_35 : decode cX6_halt 35 = .ok (.iload 4, 2) := by decide +kernel
theorem dX6_halt_37 : decode cX6_halt 37 = .ok (.iaload, 1) := by decide +kernel
theorem dX6_halt_38 : decode cX6_halt 38 = .ok (.iload_n 1, 1) := by decide +kernel
theorem dX6_halt_39 : decode cX6_halt 39 = .ok (.if_icmp .ne 24, 3) := by decide +kernel
theorem dX6_halt_42 : decode cX6_halt 42 = .ok (.aload_n 0, 1) := by decide +kernel
theorem dX6_halt_43 : decode cX6_halt 43 = .ok (.getfield 54, 3) := by decide +kernel
theorem dX6_halt_46 : decode cX6_halt 46 = .ok (.iload 4, 2) := by decide +kernel
theorem dX6_halt_48 : decode cX6_halt 48 = .ok (.iaload, 1) := by decide +kernel
theorem dX6_halt_49 : decode cX6_halt 49 = .ok (.ifCond .le 14, 3) := by decide +kernel
theorem dX6_halt_52 : decode cX6_halt 52 = .ok (.aload_n 0, 1) := by decide +kernel
theorem dX6_halt_53 : decode cX6_halt 53 = .ok (.getfield 54, 3) := by decide +kernel
theorem dX6_halt_56 : decode cX6_halt 56 = .ok (.iload 4, 2) := by decide +kernel
theorem dX6_halt_58 : decode cX6_halt 58 = .ok (.iconst 0, 1) := by decide +kernel
theorem dX6_halt_59 : decode cX6_halt 59 = .ok (.iastore, 1) := by decide +kernel
theorem dX6_halt_60 : decode cX6_halt 60 = .ok (.iinc 3 1, 3) := by decide +kernel
theorem dX6_halt_63 : decode cX6_halt 63 = .ok (.iinc 4 1, 3) := by decide +kernel
theorem dX6_halt_66 : decode cX6_halt 66 = .ok (.goto (-48), 3) := by decide +kernel
theorem dX6_halt_69 : decode cX6_halt 69 = .ok (.aload_n 0, 1) := by decide +kernel
theorem dX6_halt_70 : decode cX6_halt 70 = .ok (.getfield 57, 3) := by decide +kernel
theorem dX6_halt_73 : decode cX6_halt 73 = .ok (.iload_n 1, 1) := by decide +kernel
theorem dX6_halt_74 : decode cX6_halt 74 = .ok (.iload_n 2, 1) := by decide +kernel
theorem dX6_halt_75 : decode cX6_halt 75 = .ok (.bastore, 1) := by decide +kernel
theorem dX6_halt_76 : decode cX6_halt 76 = .ok (.iload_n 3, 1) := by decide +kernel
theorem dX6_halt_77 : decode cX6_halt 77 = .ok (.ireturn, 1) := by decide +kernel
theorem dX6_left_0 : decode cX6_left 0 = .ok (.aload_n 0, 1) := by decide +kernel
theorem dX6_left_1 : decode cX6_left 1 = .ok (.aload_n 0, 1) := by decide +kernel
theorem dX6_left_2 : decode cX6_left 2 = .ok (.iload_n 1, 1) := by decide +kernel
theorem dX6_left_3 : decode cX6_left 3 = .ok (.invokevirtual 135, 3) := by decide +kernel
theorem dX6_left_6 : decode cX6_left 6 = .ok (.invokevirtual 78, 3) := by decide +kernel
theorem dX6_left_9 : decode cX6_left 9 = .ok (.ifCond .eq 12, 3) := by decide +kernel
theorem dX6_left_12 : decode cX6_left 12 = .ok (.aload_n 0, 1) := by decide +kernel
theorem dX6_left_13 : decode cX6_left 13 = .ok (.getfield 54, 3) := by decide +kernel
theorem dX6_left_16 : decode cX6_left 16 = .ok (.iload_n 1, 1) := by decide +kernel
theorem dX6_left_17 : decode cX6_left 17 = .ok (.iaload, 1) := by decide +kernel
theorem dX6_left_18 : decode cX6_left 18 = .ok (.goto 4, 3) := by decide +kernel
theorem dX6_left_21 : decode cX6_left 21 = .ok (.iconst 0, 1) := by decide +kernel
theorem dX6_left_22 : decode cX6_left 22 = .ok (.ireturn, 1) := by decide +kernel
theorem dX6_best_0 : decode cX6_best 0 = .ok (.aload_n 0, 1) := by decide +kernel
theorem dX6_best_1 : decode cX6_best 1 = .ok (.iload_n 1, 1) := by decide +kernel
theorem dX6_best_2 : decode cX6_best 2 = .ok (.invokestatic 70, 3) := by decide +kernel
theorem dX6_best_5 : decode cX6_best 5 = .ok (.invokevirtual 78, 3) := by decide +kernel
theorem dX6_best_8 : decode cX6_best 8 = .ok (.ifCond .ne 5, 3) := by decide +kernel
theorem dX6_best_11 : decode cX6_best 11 = .ok (.iconst 0, 1) := by decide +kernel
theorem dX6_best_12 : decode cX6_best 12 = .ok (.ireturn, 1) := by decide +kernel
theorem dX6_best_13 : decode cX6_best 13 = .ok (.aload_n 0, 1) := by decide +kernel
theorem dX6_best_14 : decode cX6_best 14 = .ok (.iload_n 1, 1) := by decide +kernel
theorem dX6_best_15 : decode cX6_best 15 = .ok (.iload_n 2, 1) := by decide +kernel
theorem dX6_best_16 : decode cX6_best 16 = .ok (.invokevirtual 123, 3) := by decide +kernel
theorem dX6_best_19 : decode cX6_best 19 = .ok (.istore_n 3, 1) := by decide +kernel
theorem dX6_best_20 : decode cX6_best 20 = .ok (.iload_n 3, 1) := by decide +kernel
theorem dX6_best_21 : decode cX6_best 21 = .ok (.iconst (-1), 1) := by decide +kernel
theorem dX6_best_22 : decode cX6_best 22 = .ok (.if_icmp .ne 11, 3) := by decide +kernel
theorem dX6_best_25 : decode cX6_best 25 = .ok (.aload_n 0, 1) := by decide +kernel
theorem dX6_best_26 : decode cX6_best 26 = .ok (.iconst 2, 1) := by decide +kernel
theorem dX6_best_27 : decode cX6_best 27 = .ok (.invokevirtual 117, 3) := by decide +kernel
theorem dX6_best_30 : decode cX6_best 30 = .ok (.goto 4, 3) := by decide +kernel
theorem dX6_best_33 : decode cX6_best 33 = .ok (.iload_n 3, 1) := by decide +kernel
theorem dX6_best_34 : decode cX6_best 34 = .ok (.ireturn, 1) := by decide +kernel
theorem dX6_trades_0 : decode cX6_trades 0 = .ok (.aload_n 0, 1) := by decide +kernel
theorem dX6_trades_1 : decode cX6_trades 1 = .ok (.iconst 0, 1) := by decide +kernel
theorem dX6_trades_2 : decode cX6_trades 2 = .ok (.putfield 66, 3) := by decide +kernel
theorem dX6_trades_5 : decode cX6_trades 5 = .ok (.aload_n 0, 1) := by decide +kernel
theorem dX6_trades_6 : decode cX6_trades 6 = .ok (.getfield 120, 3) := by decide +kernel
theorem dX6_trades_9 : decode cX6_trades 9 = .ok (.ireturn, 1) := by decide +kernel
theorem dX6_riskOf_0 : decode cX6_riskOf 0 = .ok (.aload_n 0, 1) := by decide +kernel
theorem dX6_riskOf_1 : decode cX6_riskOf 1 = .ok (.getfield 13, 3) := by decide +kernel
theorem dX6_riskOf_4 : decode cX6_riskOf 4 = .ok (.iload_n 2, 1) := by decide +kernel
theorem dX6_riskOf_5 : decode cX6_riskOf 5 = .ok (.iaload, 1) := by decide +kernel
theorem dX6_riskOf_6 : decode cX6_riskOf 6 = .ok (.ineg, 1) := by decide +kernel
theorem dX6_riskOf_7 : decode cX6_riskOf 7 = .ok (.aload_n 0, 1) := by decide +kernel
theorem dX6_riskOf_8 : decode cX6_riskOf 8 = .ok (.getfield 19, 3) := by decide +kernel
theorem dX6_riskOf_11 : decode cX6_riskOf 11 = .ok (.iconst 3, 1) := by decide +kernel
theorem dX6_riskOf_12 : decode cX6_riskOf 12 = .ok (.iload_n 1, 1) := by decide +kernel
theorem dX6_riskOf_13 : decode cX6_riskOf 13 = .ok (.imul, 1) := by decide +kernel
theorem dX6_riskOf_14 : decode cX6_riskOf 14 = .ok (.iload_n 2, 1) := by decide +kernel
theorem dX6_riskOf_15 : decode cX6_riskOf 15 = .ok (.iadd, 1) := by decide +kernel
theorem dX6_riskOf_16 : decode cX6_riskOf 16 = .ok (.iaload, 1) := by decide +kernel
theorem dX6_riskOf_17 : decode cX6_riskOf 17 = .ok (.imul, 1) := by decide +kernel
theorem dX6_riskOf_18 : decode cX6_riskOf 18 = .ok (.istore_n 3, 1) := by decide +kernel
theorem dX6_riskOf_19 : decode cX6_riskOf 19 = .ok (.iconst 1, 1) := by decide +kernel
theorem dX6_riskOf_20 : decode cX6_riskOf 20 = .ok (.istore 4, 2) := by decide +kernel
theorem dX6_riskOf_22 : decode cX6_riskOf 22 = .ok (.iload 4, 2) := by decide +kernel
theorem dX6_riskOf_24 : decode cX6_riskOf 24 = .ok (.iconst 4, 1) := by decide +kernel
theorem dX6_riskOf_25 : decode cX6_riskOf 25 = .ok (.if_icmp .ge 47, 3) := by decide +kernel
theorem dX6_riskOf_28 : decode cX6_riskOf 28 = .ok (.aload_n 0, 1) := by decide +kernel
theorem dX6_riskOf_29 : decode cX6_riskOf 29 = .ok (.getfield 13, 3) := by decide +kernel
theorem dX6_riskOf_32 : decode cX6_riskOf 32 = .ok (.iconst 3, 1) := by decide +kernel
theorem dX6_riskOf_33 : decode cX6_riskOf 33 = .ok (.iload 4, 2) := by decide +kernel
theorem dX6_riskOf_35 : decode cX6_riskOf 35 = .ok (.imul, 1) := by decide +kernel
theorem dX6_riskOf_36 : decode cX6_riskOf 36 = .ok (.iload_n 2, 1) := by decide +kernel
theorem dX6_riskOf_37 : decode cX6_riskOf 37 = .ok (.iadd, 1) := by decide +kernel
theorem dX6_riskOf_38 : decode cX6_riskOf 38 = .ok (.iaload, 1) := by decide +kernel
theorem dX6_riskOf_39 : decode cX6_riskOf 39 = .ok (.ineg, 1) := by decide +kernel
theorem dX6_riskOf_40 : decode cX6_riskOf 40 = .ok (.aload_n 0, 1) := by decide +kernel
theorem dX6_riskOf_41 : decode cX6_riskOf 41 = .ok (.getfield 19, 3) := by decide +kernel
theorem dX6_riskOf_44 : decode cX6_riskOf 44 = .ok (.iconst 3, 1) := by decide +kernel
theorem dX6_riskOf_45 : decode cX6_riskOf 45 = .ok (.iload_n 1, 1) := by decide +kernel
theorem dX6_riskOf_46 : decode cX6_riskOf 46 = .ok (.imul, 1) := by decide +kernel
theorem dX6_riskOf_47 : decode cX6_riskOf 47 = .ok (.iload_n 2, 1) := by decide +kernel
theorem dX6_riskOf_48 : decode cX6_riskOf 48 = .ok (.iadd, 1) := by decide +kernel
theorem dX6_riskOf_49 : decode cX6_riskOf 49 = .ok (.iaload, 1) := by decide +kernel
theorem dX6_riskOf_50 : decode cX6_riskOf 50 = .ok (.imul, 1) := by decide +kernel
theorem dX6_riskOf_51 : decode cX6_riskOf 51 = .ok (.istore 5, 2) := by decide +kernel
theorem dX6_riskOf_53 : decode cX6_riskOf 53 = .ok (.iload 5, 2) := by decide +kernel
theorem dX6_riskOf_55 : decode cX6_riskOf 55 = .ok (.iload_n 3, 1) := by decide +kernel
theorem dX6_riskOf_56 : decode cX6_riskOf 56 = .ok (.if_icmp .le 8, 3) := by decide +kernel
theorem dX6_riskOf_59 : decode cX6_riskOf 59 = .ok (.iload 5, 2) := by decide +kernel
theorem dX6_riskOf_61 : decode cX6_riskOf 61 = .ok (.goto 4, 3) := by decide +kernel
theorem dX6_riskOf_64 : decode cX6_riskOf 64 = .ok (.iload_n 3, 1) := by decide +kernel
theorem dX6_riskOf_65 : decode cX6_riskOf 65 = .ok (.istore_n 3, 1) := by decide +kernel
theorem dX6_riskOf_66 : decode cX6_riskOf 66 = .ok (.iinc 4 1, 3) := by decide +kernel
theorem dX6_riskOf_69 : decode cX6_riskOf 69 = .ok (.goto (-47), 3) := by decide +kernel
theorem dX6_riskOf_72 : decode cX6_riskOf 72 = .ok (.iload_n 3, 1) := by decide +kernel
theorem dX6_riskOf_73 : decode cX6_riskOf 73 = .ok (.ireturn, 1) := by decide +kernel
theorem dX6_closes_0 : decode cX6_closes 0 = .ok (.aload_n 0, 1) := by decide +kernel
theorem dX6_closes_1 : decode cX6_closes 1 = .ok (.getfield 19, 3) := by decide +kernel
theorem dX6_closes_4 : decode cX6_closes 4 = .ok (.iconst 3, 1) := by decide +kernel
theorem dX6_closes_5 : decode cX6_closes 5 = .ok (.iload_n 1, 1) := by decide +kernel
theorem dX6_closes_6 : decode cX6_closes 6 = .ok (.imul, 1) := by decide +kernel
theorem dX6_closes_7 : decode cX6_closes 7 = .ok (.iload_n 2, 1) := by decide +kernel
theorem dX6_closes_8 : decode cX6_closes 8 = .ok (.iadd, 1) := by decide +kernel
theorem dX6_closes_9 : decode cX6_closes 9 = .ok (.iaload, 1) := by decide +kernel
theorem dX6_closes_10 : decode cX6_closes 10 = .ok (.ifCond .le 7, 3) := by decide +kernel
theorem dX6_closes_13 : decode cX6_closes 13 = .ok (.iconst 1, 1) := by decide +kernel
theorem dX6_closes_14 : decode cX6_closes 14 = .ok (.goto 4, 3) := by decide +kernel
theorem dX6_closes_17 : decode cX6_closes 17 = .ok (.iconst 0, 1) := by decide +kernel
theorem dX6_closes_18 : decode cX6_closes 18 = .ok (.istore_n 3, 1) := by decide +kernel
theorem dX6_closes_19 : decode cX6_closes 19 = .ok (.aload_n 0, 1) := by decide +kernel
theorem dX6_closes_20 : decode cX6_closes 20 = .ok (.iload_n 2, 1) := by decide +kernel
theorem dX6_closes_21 : decode cX6_closes 21 = .ok (.iload_n 3, 1) := by decide +kernel
theorem dX6_closes_22 : decode cX6_closes 22 = .ok (.invokevirtual 123, 3) := by decide +kernel
theorem dX6_closes_25 : decode cX6_closes 25 = .ok (.istore 4, 2) := by decide +kernel
theorem dX6_closes_27 : decode cX6_closes 27 = .ok (.aload_n 0, 1) := by decide +kernel
theorem dX6_closes_28 : decode cX6_closes 28 = .ok (.getfield 19, 3) := by decide +kernel
theorem dX6_closes_31 : decode cX6_closes 31 = .ok (.iconst 3, 1) := by decide +kernel
theorem dX6_closes_32 : decode cX6_closes 32 = .ok (.iload_n 1, 1) := by decide +kernel
theorem dX6_closes_33 : decode cX6_closes 33 = .ok (.imul, 1) := by decide +kernel
theorem dX6_closes_34 : decode cX6_closes 34 = .ok (.iload_n 2, 1) := by decide +kernel
theorem dX6_closes_35 : decode cX6_closes 35 = .ok (.iadd, 1) := by decide +kernel
theorem dX6_closes_36 : decode cX6_closes 36 = .ok (.iaload, 1) := by decide +kernel
theorem dX6_closes_37 : decode cX6_closes 37 = .ok (.ifCond .eq 132, 3) := by decide +kernel
theorem dX6_closes_40 : decode cX6_closes 40 = .ok (.iload 4, 2) := by decide +kernel
theorem dX6_closes_42 : decode cX6_closes 42 = .ok (.iconst (-1), 1) := by decide +kernel
theorem dX6_closes_43 : decode cX6_closes 43 = .ok (.if_icmp .eq 126, 3) := by decide +kernel
theorem dX6_closes_46 : decode cX6_closes 46 = .ok (.iload_n 3, 1) := by decide +kernel
theorem dX6_closes_47 : decode cX6_closes 47 = .ok (.ifCond .eq 16, 3) := by decide +kernel
theorem dX6_closes_50 : decode cX6_closes 50 = .ok (.aload_n 0, 1) := by decide +kernel
theorem dX6_closes_51 : decode cX6_closes 51 = .ok (.getfield 19, 3) := by decide +kernel
theorem dX6_closes_54 : decode cX6_closes 54 = .ok (.iconst 3, 1) := by decide +kernel
theorem dX6_closes_55 : decode cX6_closes 55 = .ok (.iload_n 1, 1) := by decide +kernel
theorem dX6_closes_56 : decode cX6_closes 56 = .ok (.imul, 1) := by decide +kernel
theorem dX6_closes_57 : decode cX6_closes 57 = .ok (.iload_n 2, 1) := by decide +kernel
theorem dX6_closes_58 : decode cX6_closes 58 = .ok (.iadd, 1) := by decide +kernel
theorem dX6_closes_59 : decode cX6_closes 59 = .ok (.iaload, 1) := by decide +kernel
theorem dX6_closes_60 : decode cX6_closes 60 = .ok (.goto 14, 3) := by decide +kernel
theorem dX6_closes_63 : decode cX6_closes 63 = .ok (.aload_n 0, 1) := by decide +kernel
theorem dX6_closes_64 : decode cX6_closes 64 = .ok (.getfield 19, 3) := by decide +kernel
theorem dX6_closes_67 : decode cX6_closes 67 = .ok (.iconst 3, 1) := by decide +kernel
theorem dX6_closes_68 : decode cX6_closes 68 = .ok (.iload_n 1, 1) := by decide +kernel
theorem dX6_closes_69 : decode cX6_closes 69 = .ok (.imul, 1) := by decide +kernel
theorem dX6_closes_70 : decode cX6_closes 70 = .ok (.iload_n 2, 1) := by decide +kernel
theorem dX6_closes_71 : decode cX6_closes 71 = .ok (.iadd, 1) := by decide +kernel
theorem dX6_closes_72 : decode cX6_closes 72 = .ok (.iaload, 1) := by decide +kernel
theorem dX6_closes_73 : decode cX6_closes 73 = .ok (.ineg, 1) := by decide +kernel
theorem dX6_closes_74 : decode cX6_closes 74 = .ok (.istore 5, 2) := by decide +kernel
theorem dX6_closes_76 : decode cX6_closes 76 = .ok (.aload_n 0, 1) := by decide +kernel
theorem dX6_closes_77 : decode cX6_closes 77 = .ok (.getfield 54, 3) := by decide +kernel
theorem dX6_closes_80 : decode cX6_closes 80 = .ok (.iload 4, 2) := by decide +kernel
theorem dX6_closes_82 : decode cX6_closes 82 = .ok (.iaload, 1) := by decide +kernel
theorem dX6_closes_83 : decode cX6_closes 83 = .ok (.iload 5, 2) := by decide +kernel
theorem dX6_closes_85 : decode cX6_closes 85 = .ok (.if_icmp .ge 13, 3) := by decide +kernel
theorem dX6_closes_88 : decode cX6_closes 88 = .ok (.aload_n 0, 1) := by decide +kernel
theorem dX6_closes_89 : decode cX6_closes 89 = .ok (.getfield 54, 3) := by decide +kernel
theorem dX6_closes_92 : decode cX6_closes 92 = .ok (.iload 4, 2) := by decide +kernel
theorem dX6_closes_94 : decode cX6_closes 94 = .ok (.iaload, 1) := by decide +kernel
theorem dX6_closes_95 : decode cX6_closes 95 = .ok (.goto 5, 3) := by decide +kernel
theorem dX6_closes_98 : decode cX6_closes 98 = .ok (.iload 5, 2) := by decide +kernel
theorem dX6_closes_100 : decode cX6_closes 100 = .ok (.istore 6, 2) := by decide +kernel
theorem dX6_closes_102 : decode cX6_closes 102 = .ok (.aload_n 0, 1) := by decide +kernel
theorem dX6_closes_103 : decode cX6_closes 103 = .ok (.iload_n 3, 1) := by decide +kernel
theorem dX6_closes_104 : decode cX6_closes 104 = .ok (.ifCond .eq 13, 3) := by decide +kernel
theorem dX6_closes_107 : decode cX6_closes 107 = .ok (.aload_n 0, 1) := by decide +kernel
theorem dX6_closes_108 : decode cX6_closes 108 = .ok (.getfield 42, 3) := by decide +kernel
theorem dX6_closes_111 : decode cX6_closes 111 = .ok (.iload 4, 2) := by decide +kernel
theorem dX6_closes_113 : decode cX6_closes 113 = .ok (.iaload, 1) := by decide +kernel
theorem dX6_closes_114 : decode cX6_closes 114 = .ok (.goto 4, 3) := by decide +kernel
theorem dX6_closes_117 : decode cX6_closes 117 = .ok (.iload_n 1, 1) := by decide +kernel
theorem dX6_closes_118 : decode cX6_closes 118 = .ok (.iload_n 3, 1) := by decide +kernel
theorem dX6_closes_119 : decode cX6_closes 119 = .ok (.ifCond .eq 7, 3) := by decide +kernel
theorem dX6_closes_122 : decode cX6_closes 122 = .ok (.iload_n 1, 1) := by decide +kernel
theorem dX6_closes_123 : decode cX6_closes 123 = .ok (.goto 10, 3) := by decide +kernel
theorem dX6_closes_126 : decode cX6_closes 126 = .ok (.aload_n 0, 1) := by decide +kernel
theorem dX6_closes_127 : decode cX6_closes 127 = .ok (.getfield 42, 3) := by decide +kernel
theorem dX6_closes_130 : decode cX6_closes 130 = .ok (.iload 4, 2) := by decide +kernel
theorem dX6_closes_132 : decode cX6_closes 132 = .ok (.iaload, 1) := by decide +kernel
theorem dX6_closes_133 : decode cX6_closes 133 = .ok (.iload_n 2, 1) := by decide +kernel
theorem dX6_closes_134 : decode cX6_closes 134 = .ok (.iload 6, 2) := by decide +kernel
theorem dX6_closes_136 : decode cX6_closes 136 = .ok (.aload_n 0, 1) := by decide +kernel
theorem dX6_closes_137 : decode cX6_closes 137 = .ok (.getfield 51, 3) := by decide +kernel
theorem dX6_closes_140 : decode cX6_closes 140 = .ok (.iload 4, 2) := by decide +kernel
theorem dX6_closes_142 : decode cX6_closes 142 = .ok (.iaload, 1) := by decide +kernel
theorem dX6_closes_143 : decode cX6_closes 143 = .ok (.invokevirtual 127, 3) := by decide +kernel
theorem dX6_closes_146 : decode cX6_closes 146 = .ok (.aload_n 0, 1) := by decide +kernel
theorem dX6_closes_147 : decode cX6_closes 147 = .ok (.getfield 54, 3) := by decide +kernel
theorem dX6_closes_150 : decode cX6_closes 150 = .ok (.iload 4, 2) := by decide +kernel
theorem dX6_closes_152 : decode cX6_closes 152 = .ok (.dup2, 1) := by decide +kernel
theorem dX6_closes_153 : decode cX6_closes 153 = .ok (.iaload, 1) := by decide +kernel
theorem dX6_closes_154 : decode cX6_closes 154 = .ok (.iload 6, 2) := by decide +kernel
theorem dX6_closes_156 : decode cX6_closes 156 = .ok (.isub, 1) := by decide +kernel
theorem dX6_closes_157 : decode cX6_closes 157 = .ok (.iastore, 1) := by decide +kernel
theorem dX6_closes_158 : decode cX6_closes 158 = .ok (.aload_n 0, 1) := by decide +kernel
theorem dX6_closes_159 : decode cX6_closes 159 = .ok (.iload_n 2, 1) := by decide +kernel
theorem dX6_closes_160 : decode cX6_closes 160 = .ok (.iload_n 3, 1) := by decide +kernel
theorem dX6_closes_161 : decode cX6_closes 161 = .ok (.invokevirtual 123, 3) := by decide +kernel
theorem dX6_closes_164 : decode cX6_closes 164 = .ok (.istore 4, 2) := by decide +kernel
theorem dX6_closes_166 : decode cX6_closes 166 = .ok (.goto (-139), 3) := by decide +kernel
theorem dX6_closes_169 : decode cX6_closes 169 = .ok (.return_, 1) := by decide +kernel
theorem dX6_nextOpen_0 : decode cX6_nextOpen 0 = .ok (.iconst (-1), 1) := by decide +kernel
theorem dX6_nextOpen_1 : decode cX6_nextOpen 1 = .ok (.istore_n 1, 1) := by decide +kernel
theorem dX6_nextOpen_2 : decode cX6_nextOpen 2 = .ok (.iconst 0, 1) := by decide +kernel
theorem dX6_nextOpen_3 : decode cX6_nextOpen 3 = .ok (.istore_n 2, 1) := by decide +kernel
theorem dX6_nextOpen_4 : decode cX6_nextOpen 4 = .ok (.iload_n 2, 1) := by decide +kernel
theorem dX6_nextOpen_5 : decode cX6_nextOpen 5 = .ok (.iconst 3, 1) := by decide +kernel
theorem dX6_nextOpen_6 : decode cX6_nextOpen 6 = .ok (.if_icmp .ge 44, 3) := by decide +kernel
theorem dX6_nextOpen_9 : decode cX6_nextOpen 9 = .ok (.aload_n 0, 1) := by decide +kernel
theorem dX6_nextOpen_10 : decode cX6_nextOpen 10 = .ok (.getfield 63, 3) := by decide +kernel
theorem dX6_nextOpen_13 : decode cX6_nextOpen 13 = .ok (.iload_n 2, 1) := by decide +kernel
theorem dX6_nextOpen_14 : decode cX6_nextOpen 14 = .ok (.baload, 1) := by decide +kernel
theorem dX6_nextOpen_15 : decode cX6_nextOpen 15 = .ok (.ifCond .eq 27, 3) := by decide +kernel
theorem dX6_nextOpen_18 : decode cX6_nextOpen 18 = .ok (.iload_n 1, 1) := by decide +kernel
theorem dX6_nextOpen_19 : decode cX6_nextOpen 19 = .ok (.iconst (-1), 1) := by decide +kernel
theorem dX6_nextOpen_20 : decode cX6_nextOpen 20 = .ok (.if_icmp .eq 18, 3) := by decide +kernel
theorem dX6_nextOpen_23 : decode cX6_nextOpen 23 = .ok (.aload_n 0, 1) := by decide +kernel
theorem dX6_nextOpen_24 : decode cX6_nextOpen 24 = .ok (.getfield 60, 3) := by decide +kernel
theorem dX6_nextOpen_27 : decode cX6_nextOpen 27 = .ok (.iload_n 2, 1) := by decide +kernel
theorem dX6_nextOpen_28 : decode cX6_nextOpen 28 = .ok (.iaload, 1) := by decide +kernel
theorem dX6_nextOpen_29 : decode cX6_nextOpen 29 = .ok (.aload_n 0, 1) := by decide +kernel
theorem dX6_nextOpen_30 : decode cX6_nextOpen 30 = .ok (.getfield 60, 3) := by decide +kernel
theorem dX6_nextOpen_33 : decode cX6_nextOpen 33 = .ok (.iload_n 1, 1) := by decide +kernel
theorem dX6_nextOpen_34 : decode cX6_nextOpen 34 = .ok (.iaload, 1) := by decide +kernel
theorem dX6_nextOpen_35 : decode cX6_nextOpen 35 = .ok (.if_icmp .le 7, 3) := by decide +kernel
theorem dX6_nextOpen_38 : decode cX6_nextOpen 38 = .ok (.iload_n 2, 1) := by decide +kernel
theorem dX6_nextOpen_39 : decode cX6_nextOpen 39 = .ok (.goto 4, 3) := by decide +kernel
theorem dX6_nextOpen_42 : decode cX6_nextOpen 42 = .ok (.iload_n 1, 1) := by decide +kernel
theorem dX6_nextOpen_43 : decode cX6_nextOpen 43 = .ok (.istore_n 1, 1) := by decide +kernel
theorem dX6_nextOpen_44 : decode cX6_nextOpen 44 = .ok (.iinc 2 1, 3) := by decide +kernel
theorem dX6_nextOpen_47 : decode cX6_nextOpen 47 = .ok (.goto (-43), 3) := by decide +kernel
theorem dX6_nextOpen_50 : decode cX6_nextOpen 50 = .ok (.iload_n 1, 1) := by decide +kernel
theorem dX6_nextOpen_51 : decode cX6_nextOpen 51 = .ok (.ireturn, 1) := by decide +kernel
theorem dX6_closesOut_0 : decode cX6_closesOut 0 = .ok (.iconst 0, 1) := by decide +kernel
theorem dX6_closesOut_1 : decode cX6_closesOut 1 = .ok (.istore_n 2, 1) := by decide +kernel
theorem dX6_closesOut_2 : decode cX6_closesOut 2 = .ok (.iload_n 2, 1) := by decide +kernel
theorem dX6_closesOut_3 : decode cX6_closesOut 3 = .ok (.aload_n 0, 1) := by decide +kernel
theorem dX6_closesOut_4 : decode cX6_closesOut 4 = .ok (.getfield 90, 3) := by decide +kernel
theorem dX6_closesOut_7 : decode cX6_closesOut 7 = .ok (.if_icmp .ge 35, 3) := by decide +kernel
theorem dX6_closesOut_10 : decode cX6_closesOut 10 = .ok (.aload_n 0, 1) := by decide +kernel
theorem dX6_closesOut_11 : decode cX6_closesOut 11 = .ok (.getfield 54, 3) := by decide +kernel
theorem dX6_closesOut_14 : decode cX6_closesOut 14 = .ok (.iload_n 2, 1) := by decide +kernel
theorem dX6_closesOut_15 : decode cX6_closesOut 15 = .ok (.aload_n 0, 1) := by decide +kernel
theorem dX6_closesOut_16 : decode cX6_closesOut 16 = .ok (.getfield 42, 3) := by decide +kernel
theorem dX6_closesOut_19 : decode cX6_closesOut 19 = .ok (.iload_n 2, 1) := by decide +kernel
theorem dX6_closesOut_20 : decode cX6_closesOut 20 = .ok (.iaload, 1) := by decide +kernel
theorem dX6_closesOut_21 : decode cX6_closesOut 21 = .ok (.iload_n 1, 1) := by decide +kernel
theorem dX6_closesOut_22 : decode cX6_closesOut 22 = .ok (.if_icmp .ne 7, 3) := by decide +kernel
theorem dX6_closesOut_25 : decode cX6_closesOut 25 = .ok (.iconst 0, 1) := by decide +kernel
theorem dX6_closesOut_26 : decode cX6_closesOut 26 = .ok (.goto 9, 3) := by decide +kernel
theorem dX6_closesOut_29 : decode cX6_closesOut 29 = .ok (.aload_n 0, 1) := by decide +kernel
theorem dX6_closesOut_30 : decode cX6_closesOut 30 = .ok (.getfield 54, 3) := by decide +kernel
theorem dX6_closesOut_33 : decode cX6_closesOut 33 = .ok (.iload_n 2, 1) := by decide +kernel
theorem dX6_closesOut_34 : decode cX6_closesOut 34 = .ok (.iaload, 1) := by decide +kernel
theorem dX6_closesOut_35 : decode cX6_closesOut 35 = .ok (.iastore, 1) := by decide +kernel
theorem dX6_closesOut_36 : decode cX6_closesOut 36 = .ok (.iinc 2 1, 3) := by decide +kernel
theorem dX6_closesOut_39 : decode cX6_closesOut 39 = .ok (.goto (-37), 3) := by decide +kernel
theorem dX6_closesOut_42 : decode cX6_closesOut 42 = .ok (.iconst 0, 1) := by decide +kernel
theorem dX6_closesOut_43 : decode cX6_closesOut 43 = .ok (.istore_n 2, 1) := by decide +kernel
theorem dX6_closesOut_44 : decode cX6_closesOut 44 = .ok (.iload_n 2, 1) := by decide +kernel
theorem dX6_closesOut_45 : decode cX6_closesOut 45 = .ok (.iconst 3, 1) := by decide +kernel
theorem dX6_closesOut_46 : decode cX6_closesOut 46 = .ok (.if_icmp .ge 45, 3) := by decide +kernel
theorem dX6_closesOut_49 : decode cX6_closesOut 49 = .ok (.aload_n 0, 1) := by decide +kernel
theorem dX6_closesOut_50 : decode cX6_closesOut 50 = .ok (.getfield 63, 3) := by decide +kernel
theorem dX6_closesOut_53 : decode cX6_closesOut 53 = .ok (.iload_n 2, 1) := by decide +kernel
theorem dX6_closesOut_54 : decode cX6_closesOut 54 = .ok (.aload_n 0, 1) := by decide +kernel
theorem dX6_closesOut_55 : decode cX6_closesOut 55 = .ok (.getfield 19, 3) := by decide +kernel
theorem dX6_closesOut_58 : decode cX6_closesOut 58 = .ok (.iconst 3, 1) := by decide +kernel
theorem dX6_closesOut_59 : decode cX6_closesOut 59 = .ok (.iload_n 1, 1) := by decide +kernel
theorem dX6_closesOut_60 : decode cX6_closesOut 60 = .ok (.imul, 1) := by decide +kernel
theorem dX6_closesOut_61 : decode cX6_closesOut 61 = .ok (.iload_n 2, 1) := by decide +kernel
theorem dX6_closesOut_62 : decode cX6_closesOut 62 = .ok (.iadd, 1) := by decide +kernel
theorem dX6_closesOut_63 : decode cX6_closesOut 63 = .ok (.iaload, 1) := by decide +kernel
theorem dX6_closesOut_64 : decode cX6_closesOut 64 = .ok (.ifCond .eq 7, 3) := by decide +kernel
theorem dX6_closesOut_67 : decode cX6_closesOut 67 = .ok (.iconst 1, 1) := by decide +kernel
theorem dX6_closesOut_68 : decode cX6_closesOut 68 = .ok (.goto 4, 3) := by decide +kernel
theorem dX6_closesOut_71 : decode cX6_closesOut 71 = .ok (.iconst 0, 1) := by decide +kernel
theorem dX6_closesOut_72 : decode cX6_closesOut 72 = .ok (.bastore, 1) := by decide +kernel
theorem dX6_closesOut_73 : decode cX6_closesOut 73 = .ok (.aload_n 0, 1) := by decide +kernel
theorem dX6_closesOut_74 : decode cX6_closesOut 74 = .ok (.getfield 60, 3) := by decide +kernel
theorem dX6_closesOut_77 : decode cX6_closesOut 77 = .ok (.iload_n 2, 1) := by decide +kernel
theorem dX6_closesOut_78 : decode cX6_closesOut 78 = .ok (.aload_n 0, 1) := by decide +kernel
theorem dX6_closesOut_79 : decode cX6_closesOut 79 = .ok (.iload_n 1, 1) := by decide +kernel
theorem dX6_closesOut_80 : decode cX6_closesOut 80 = .ok (.iload_n 2, 1) := by decide +kernel
theorem dX6_closesOut_81 : decode cX6_closesOut 81 = .ok (.invokevirtual 138, 3) := by decide +kernel
theorem dX6_closesOut_84 : decode cX6_closesOut 84 = .ok (.iastore, 1) := by decide +kernel
theorem dX6_closesOut_85 : decode cX6_closesOut 85 = .ok (.iinc 2 1, 3) := by decide +kernel
theorem dX6_closesOut_88 : decode cX6_closesOut 88 = .ok (.goto (-44), 3) := by decide +kernel
theorem dX6_closesOut_91 : decode cX6_closesOut 91 = .ok (.aload_n 0, 1) := by decide +kernel
theorem dX6_closesOut_92 : decode cX6_closesOut 92 = .ok (.invokevirtual 142, 3) := by decide +kernel
theorem dX6_closesOut_95 : decode cX6_closesOut 95 = .ok (.istore_n 2, 1) := by decide +kernel
theorem dX6_closesOut_96 : decode cX6_closesOut 96 = .ok (.iload_n 2, 1) := by decide +kernel
theorem dX6_closesOut_97 : decode cX6_closesOut 97 = .ok (.iconst (-1), 1) := by decide +kernel
theorem dX6_closesOut_98 : decode cX6_closesOut 98 = .ok (.if_icmp .eq 34, 3) := by decide +kernel
theorem dX6_closesOut_101 : decode cX6_closesOut 101 = .ok (.aload_n 0, 1) := by decide +kernel
theorem dX6_closesOut_102 : decode cX6_closesOut 102 = .ok (.iload_n 1, 1) := by decide +kernel
theorem dX6_closesOut_103 : decode cX6_closesOut 103 = .ok (.invokevirtual 114, 3) := by decide +kernel
theorem dX6_closesOut_106 : decode cX6_closesOut 106 = .ok (.lconst 0, 1) := by decide +kernel
theorem dX6_closesOut_107 : decode cX6_closesOut 107 = .ok (.lcmp, 1) := by decide +kernel
theorem dX6_closesOut_108 : decode cX6_closesOut 108 = .ok (.ifCond .ge 24, 3) := by decide +kernel
theorem dX6_closesOut_111 : decode cX6_closesOut 111 = .ok (.aload_n 0, 1) := by decide +kernel
theorem dX6_closesOut_112 : decode cX6_closesOut 112 = .ok (.iload_n 1, 1) := by decide +kernel
theorem dX6_closesOut_113 : decode cX6_closesOut 113 = .ok (.iload_n 2, 1) := by decide +kernel
theorem dX6_closesOut_114 : decode cX6_closesOut 114 = .ok (.invokevirtual 146, 3) := by decide +kernel
theorem dX6_closesOut_117 : decode cX6_closesOut 117 = .ok (.aload_n 0, 1) := by decide +kernel
theorem dX6_closesOut_118 : decode cX6_closesOut 118 = .ok (.getfield 63, 3) := by decide +kernel
theorem dX6_closesOut_121 : decode cX6_closesOut 121 = .ok (.iload_n 2, 1) := by decide +kernel
theorem dX6_closesOut_122 : decode cX6_closesOut 122 = .ok (.iconst 0, 1) := by decide +kernel
theorem dX6_closesOut_123 : decode cX6_closesOut 123 = .ok (.bastore, 1) := by decide +kernel
theorem dX6_closesOut_124 : decode cX6_closesOut 124 = .ok (.aload_n 0, 1) := by decide +kernel
theorem dX6_closesOut_125 : decode cX6_closesOut 125 = .ok (.invokevirtual 142, 3) := by decide +kernel
theorem dX6_closesOut_128 : decode cX6_closesOut 128 = .ok (.istore_n 2, 1) := by decide +kernel
theorem dX6_closesOut_129 : decode cX6_closesOut 129 = .ok (.goto (-33), 3) := by decide +kernel
theorem dX6_closesOut_132 : decode cX6_closesOut 132 = .ok (.aload_n 0, 1) := by decide +kernel
theorem dX6_closesOut_133 : decode cX6_closesOut 133 = .ok (.getfield 35, 3) := by decide +kernel
theorem dX6_closesOut_136 : decode cX6_closesOut 136 = .ok (.iload_n 1, 1) := by decide +kernel
theorem dX6_closesOut_137 : decode cX6_closesOut 137 = .ok (.iconst (-1), 1) := by decide +kernel
theorem dX6_closesOut_138 : decode cX6_closesOut 138 = .ok (.iastore, 1) := by decide +kernel
theorem dX6_closesOut_139 : decode cX6_closesOut 139 = .ok (.aload_n 0, 1) := by decide +kernel
theorem dX6_closesOut_140 : decode cX6_closesOut 140 = .ok (.iload_n 1, 1) := by decide +kernel
theorem dX6_closesOut_141 : decode cX6_closesOut 141 = .ok (.invokevirtual 114, 3) := by decide +kernel
theorem dX6_closesOut_144 : decode cX6_closesOut 144 = .ok (.lconst 0, 1) := by decide +kernel
theorem dX6_closesOut_145 : decode cX6_closesOut 145 = .ok (.lcmp, 1) := by decide +kernel
theorem dX6_closesOut_146 : decode cX6_closesOut 146 = .ok (.ifCond .ge 7, 3) := by decide +kernel
theorem dX6_closesOut_149 : decode cX6_closesOut 149 = .ok (.iconst 1, 1) := by decide +kernel
theorem dX6_closesOut_150 : decode cX6_closesOut 150 = .ok (.goto 4, 3) := by decide +kernel
theorem dX6_closesOut_153 : decode cX6_closesOut 153 = .ok (.iconst 0, 1) := by decide +kernel
theorem dX6_closesOut_154 : decode cX6_closesOut 154 = .ok (.ireturn, 1) := by decide +kernel
theorem dX6_richest_0 : decode cX6_richest 0 = .ok (.iconst (-1), 1) := by decide +kernel
theorem dX6_richest_1 : decode cX6_richest 1 = .ok (.istore_n 2, 1) := by decide +kernel
theorem dX6_richest_2 : decode cX6_richest 2 = .ok (.iconst 0, 1) := by decide +kernel
theorem dX6_richest_3 : decode cX6_richest 3 = .ok (.istore_n 3, 1) := by decide +kernel
theorem dX6_richest_4 : decode cX6_richest 4 = .ok (.iload_n 3, 1) := by decide +kernel
theorem dX6_richest_5 : decode cX6_richest 5 = .ok (.iconst 5, 1) := by decide +kernel
theorem dX6_richest_6 : decode cX6_richest 6 = .ok (.if_icmp .ge 60, 3) := by decide +kernel
theorem dX6_richest_9 : decode cX6_richest 9 = .ok (.iload_n 3, 1) := by decide +kernel
theorem dX6_richest_10 : decode cX6_richest 10 = .ok (.iload_n 1, 1) := by decide +kernel
theorem dX6_richest_11 : decode cX6_richest 11 = .ok (.if_icmp .eq 16, 3) := by decide +kernel
theorem dX6_richest_14 : decode cX6_richest 14 = .ok (.aload_n 0, 1) := by decide +kernel
theorem dX6_richest_15 : decode cX6_richest 15 = .ok (.getfield 38, 3) := by decide +kernel
theorem dX6_richest_18 : decode cX6_richest 18 = .ok (.iload_n 3, 1) := by decide +kernel
theorem dX6_richest_19 : decode cX6_richest 19 = .ok (.baload, 1) := by decide +kernel
theorem dX6_richest_20 : decode cX6_richest 20 = .ok (.ifCond .ne 7, 3) := by decide +kernel
theorem dX6_richest_23 : decode cX6_richest 23 = .ok (.iconst 1, 1) := by decide +kernel
theorem dX6_richest_24 : decode cX6_richest 24 = .ok (.goto 4, 3) := by decide +kernel
theorem dX6_richest_27 : decode cX6_richest 27 = .ok (.iconst 0, 1) := by decide +kernel
theorem dX6_richest_28 : decode cX6_richest 28 = .ok (.istore 4, 2) := by decide +kernel
theorem dX6_richest_30 : decode cX6_richest 30 = .ok (.iload 4, 2) := by decide +kernel
theorem dX6_richest_32 : decode cX6_richest 32 = .ok (.ifCond .eq 26, 3) := by decide +kernel
theorem dX6_richest_35 : decode cX6_richest 35 = .ok (.iload_n 2, 1) := by decide +kernel
theorem dX6_richest_36 : decode cX6_richest 36 = .ok (.iconst (-1), 1) := by decide +kernel
theorem dX6_richest_37 : decode cX6_richest 37 = .ok (.if_icmp .eq 17, 3) := by decide +kernel
theorem dX6_richest_40 : decode cX6_richest 40 = .ok (.aload_n 0, 1) := by decide +kernel
theorem dX6_richest_41 : decode cX6_richest 41 = .ok (.iload_n 3, 1) := by decide +kernel
theorem dX6_richest_42 : decode cX6_richest 42 = .ok (.invokevirtual 114, 3) := by decide +kernel
theorem dX6_richest_45 : decode cX6_richest 45 = .ok (.aload_n 0, 1) := by decide +kernel
theorem dX6_richest_46 : decode cX6_richest 46 = .ok (.iload_n 2, 1) := by decide +kernel
theorem dX6_richest_47 : decode cX6_richest 47 = .ok (.invokevirtual 114, 3) := by decide +kernel
theorem dX6_richest_50 : decode cX6_richest 50 = .ok (.lcmp, 1) := by decide +kernel
theorem dX6_richest_51 : decode cX6_richest 51 = .ok (.ifCond .le 7, 3) := by decide +kernel
theorem dX6_richest_54 : decode cX6_richest 54 = .ok (.iload_n 3, 1) := by decide +kernel
theorem dX6_richest_55 : decode cX6_richest 55 = .ok (.goto 4, 3) := by decide +kernel
theorem dX6_richest_58 : decode cX6_richest 58 = .ok (.iload_n 2, 1) := by decide +kernel
theorem dX6_richest_59 : decode cX6_richest 59 = .ok (.istore_n 2, 1) := by decide +kernel
theorem dX6_richest_60 : decode cX6_richest 60 = .ok (.iinc 3 1, 3) := by decide +kernel
theorem dX6_richest_63 : decode cX6_richest 63 = .ok (.goto (-59), 3) := by decide +kernel
theorem dX6_richest_66 : decode cX6_richest 66 = .ok (.iload_n 2, 1) := by decide +kernel
theorem dX6_richest_67 : decode cX6_richest 67 = .ok (.ireturn, 1) := by decide +kernel
theorem dX6_breaks_0 : decode cX6_breaks 0 = .ok (.aload_n 0, 1) := by decide +kernel
theorem dX6_breaks_1 : decode cX6_breaks 1 = .ok (.getfield 38, 3) := by decide +kernel
theorem dX6_breaks_4 : decode cX6_breaks 4 = .ok (.iload_n 1, 1) := by decide +kernel
theorem dX6_breaks_5 : decode cX6_breaks 5 = .ok (.iconst 1, 1) := by decide +kernel
theorem dX6_breaks_6 : decode cX6_breaks 6 = .ok (.bastore, 1) := by decide +kernel
theorem dX6_breaks_7 : decode cX6_breaks 7 = .ok (.iconst 0, 1) := by decide +kernel
theorem dX6_breaks_8 : decode cX6_breaks 8 = .ok (.istore_n 2, 1) := by decide +kernel
theorem dX6_breaks_9 : decode cX6_breaks 9 = .ok (.iload_n 2, 1) := by decide +kernel
theorem dX6_breaks_10 : decode cX6_breaks 10 = .ok (.iconst 3, 1) := by decide +kernel
theorem dX6_breaks_11 : decode cX6_breaks 11 = .ok (.if_icmp .ge 115, 3) := by decide +kernel
theorem dX6_breaks_14 : decode cX6_breaks 14 = .ok (.aload_n 0, 1) := by decide +kernel
theorem dX6_breaks_15 : decode cX6_breaks 15 = .ok (.getfield 19, 3) := by decide +kernel
theorem dX6_breaks_18 : decode cX6_breaks 18 = .ok (.iconst 3, 1) := by decide +kernel
theorem dX6_breaks_19 : decode cX6_breaks 19 = .ok (.iload_n 1, 1) := by decide +kernel
theorem dX6_breaks_20 : decode cX6_breaks 20 = .ok (.imul, 1) := by decide +kernel
theorem dX6_breaks_21 : decode cX6_breaks 21 = .ok (.iload_n 2, 1) := by decide +kernel
theorem dX6_breaks_22 : decode cX6_breaks 22 = .ok (.iadd, 1) := by decide +kernel
theorem dX6_breaks_23 : decode cX6_breaks 23 = .ok (.iaload, 1) := by decide +kernel
theorem dX6_breaks_24 : decode cX6_breaks 24 = .ok (.istore_n 3, 1) := by decide +kernel
theorem dX6_breaks_25 : decode cX6_breaks 25 = .ok (.iload_n 3, 1) := by decide +kernel
theorem dX6_breaks_26 : decode cX6_breaks 26 = .ok (.ifCond .ne 7, 3) := by decide +kernel
theorem dX6_breaks_29 : decode cX6_breaks 29 = .ok (.iconst (-1), 1) := by decide +kernel
theorem dX6_breaks_30 : decode cX6_breaks 30 = .ok (.goto 8, 3) := by decide +kernel
theorem dX6_breaks_33 : decode cX6_breaks 33 = .ok (.aload_n 0, 1) := by decide +kernel
theorem dX6_breaks_34 : decode cX6_breaks 34 = .ok (.iload_n 1, 1) := by decide +kernel
theorem dX6_breaks_35 : decode cX6_breaks 35 = .ok (.invokevirtual 150, 3) := by decide +kernel
theorem dX6_breaks_38 : decode cX6_breaks 38 = .ok (.istore 4, 2) := by decide +kernel
theorem dX6_breaks_40 : decode cX6_breaks 40 = .ok (.iload 4, 2) := by decide +kernel
theorem dX6_breaks_42 : decode cX6_breaks 42 = .ok (.iconst (-1), 1) := by decide +kernel
theorem dX6_breaks_43 : decode cX6_breaks 43 = .ok (.if_icmp .eq 47, 3) := by decide +kernel
theorem dX6_breaks_46 : decode cX6_breaks 46 = .ok (.aload_n 0, 1) := by decide +kernel
theorem dX6_breaks_47 : decode cX6_breaks 47 = .ok (.iload_n 3, 1) := by decide +kernel
theorem dX6_breaks_48 : decode cX6_breaks 48 = .ok (.ifCond .le 8, 3) := by decide +kernel
theorem dX6_breaks_51 : decode cX6_breaks 51 = .ok (.iload 4, 2) := by decide +kernel
theorem dX6_breaks_53 : decode cX6_breaks 53 = .ok (.goto 4, 3) := by decide +kernel
theorem dX6_breaks_56 : decode cX6_breaks 56 = .ok (.iload_n 1, 1) := by decide +kernel
theorem dX6_breaks_57 : decode cX6_breaks 57 = .ok (.iload_n 3, 1) := by decide +kernel
theorem dX6_breaks_58 : decode cX6_breaks 58 = .ok (.ifCond .le 7, 3) := by decide +kernel
theorem dX6_breaks_61 : decode cX6_breaks 61 = .ok (.iload_n 1, 1) := by decide +kernel
theorem dX6_breaks_62 : decode cX6_breaks 62 = .ok (.goto 5, 3) := by decide +kernel
theorem dX6_breaks_65 : decode cX6_breaks 65 = .ok (.iload 4, 2) := by decide +kernel
theorem dX6_breaks_67 : decode cX6_breaks 67 = .ok (.iload_n 2, 1) := by decide +kernel
theorem dX6_breaks_68 : decode cX6_breaks 68 = .ok (.iload_n 3, 1) := by decide +kernel
theorem dX6_breaks_69 : decode cX6_breaks 69 = .ok (.ifCond .le 7, 3) := by decide +kernel
theorem dX6_breaks_72 : decode cX6_breaks 72 = .ok (.iload_n 3, 1) := by decide +kernel
theorem dX6_breaks_73 : decode cX6_breaks 73 = .ok (.goto 5, 3) := by decide +kernel
theorem dX6_breaks_76 : decode cX6_breaks 76 = .ok (.iload_n 3, 1) := by decide +kernel
theorem dX6_breaks_77 : decode cX6_breaks 77 = .ok (.ineg, 1) := by decide +kernel
theorem dX6_breaks_78 : decode cX6_breaks 78 = .ok (.aload_n 0, 1) := by decide +kernel
theorem dX6_breaks_79 : decode cX6_breaks 79 = .ok (.getfield 7, 3) := by decide +kernel
theorem dX6_breaks_82 : decode cX6_breaks 82 = .ok (.iload_n 2, 1) := by decide +kernel
theorem dX6_breaks_83 : decode cX6_breaks 83 = .ok (.iaload, 1) := by decide +kernel
theorem dX6_breaks_84 : decode cX6_breaks 84 = .ok (.invokevirtual 127, 3) := by decide +kernel
theorem dX6_breaks_87 : decode cX6_breaks 87 = .ok (.goto 33, 3) := by decide +kernel
theorem dX6_breaks_90 : decode cX6_breaks 90 = .ok (.aload_n 0, 1) := by decide +kernel
theorem dX6_breaks_91 : decode cX6_breaks 91 = .ok (.getfield 22, 3) := by decide +kernel
theorem dX6_breaks_94 : decode cX6_breaks 94 = .ok (.iconst 3, 1) := by decide +kernel
theorem dX6_breaks_95 : decode cX6_breaks 95 = .ok (.iload_n 1, 1) := by decide +kernel
theorem dX6_breaks_96 : decode cX6_breaks 96 = .ok (.imul, 1) := by decide +kernel
theorem dX6_breaks_97 : decode cX6_breaks 97 = .ok (.iload_n 2, 1) := by decide +kernel
theorem dX6_breaks_98 : decode cX6_breaks 98 = .ok (.iadd, 1) := by decide +kernel
theorem dX6_breaks_99 : decode cX6_breaks 99 = .ok (.dup2, 1) := by decide +kernel
theorem dX6_breaks_100 : decode cX6_breaks 100 = .ok (.laload, 1) := by decide +kernel
theorem dX6_breaks_101 : decode cX6_breaks 101 = .ok (.aload_n 0, 1) := by decide +kernel
theorem dX6_breaks_102 : decode cX6_breaks 102 = .ok (.iload_n 1, 1) := by decide +kernel
theorem dX6_breaks_103 : decode cX6_breaks 103 = .ok (.iload_n 2, 1) := by decide +kernel
theorem dX6_breaks_104 : decode cX6_breaks 104 = .ok (.invokevirtual 86, 3) := by decide +kernel
theorem dX6_breaks_107 : decode cX6_breaks 107 = .ok (.lsub, 1) := by decide +kernel
theorem dX6_breaks_108 : decode cX6_breaks 108 = .ok (.lastore, 1) := by decide +kernel
theorem dX6_breaks_109 : decode cX6_breaks 109 = .ok (.aload_n 0, 1) := by decide +kernel
theorem dX6_breaks_110 : decode cX6_breaks 110 = .ok (.getfield 19, 3) := by decide +kernel
theorem dX6_breaks_113 : decode cX6_breaks 113 = .ok (.iconst 3, 1) := by decide +kernel
theorem dX6_breaks_114 : decode cX6_breaks 114 = .ok (.iload_n 1, 1) := by decide +kernel
theorem dX6_breaks_115 : decode cX6_breaks 115 = .ok (.imul, 1) := by decide +kernel
theorem dX6_breaks_116 : decode cX6_breaks 116 = .ok (.iload_n 2, 1) := by decide +kernel
theorem dX6_breaks_117 : decode cX6_breaks 117 = .ok (.iadd, 1) := by decide +kernel
theorem dX6_breaks_118 : decode cX6_breaks 118 = .ok (.iconst 0, 1) := by decide +kernel
theorem dX6_breaks_119 : decode cX6_breaks 119 = .ok (.iastore, 1) := by decide +kernel
theorem dX6_breaks_120 : decode cX6_breaks 120 = .ok (.iinc 2 1, 3) := by decide +kernel
theorem dX6_breaks_123 : decode cX6_breaks 123 = .ok (.goto (-114), 3) := by decide +kernel
theorem dX6_breaks_126 : decode cX6_breaks 126 = .ok (.aload_n 0, 1) := by decide +kernel
theorem dX6_breaks_127 : decode cX6_breaks 127 = .ok (.getfield 26, 3) := by decide +kernel
theorem dX6_breaks_130 : decode cX6_breaks 130 = .ok (.iload_n 1, 1) := by decide +kernel
theorem dX6_breaks_131 : decode cX6_breaks 131 = .ok (.dup2, 1) := by decide +kernel
theorem dX6_breaks_132 : decode cX6_breaks 132 = .ok (.laload, 1) := by decide +kernel
theorem dX6_breaks_133 : decode cX6_breaks 133 = .ok (.aload_n 0, 1) := by decide +kernel
theorem dX6_breaks_134 : decode cX6_breaks 134 = .ok (.iload_n 1, 1) := by decide +kernel
theorem dX6_breaks_135 : decode cX6_breaks 135 = .ok (.invokevirtual 103, 3) := by decide +kernel
theorem dX6_breaks_138 : decode cX6_breaks 138 = .ok (.ladd, 1) := by decide +kernel
theorem dX6_breaks_139 : decode cX6_breaks 139 = .ok (.lastore, 1) := by decide +kernel
theorem dX6_breaks_140 : decode cX6_breaks 140 = .ok (.aload_n 0, 1) := by decide +kernel
theorem dX6_breaks_141 : decode cX6_breaks 141 = .ok (.getfield 29, 3) := by decide +kernel
theorem dX6_breaks_144 : decode cX6_breaks 144 = .ok (.iconst 2, 1) := by decide +kernel
theorem dX6_breaks_145 : decode cX6_breaks 145 = .ok (.iload_n 1, 1) := by decide +kernel
theorem dX6_breaks_146 : decode cX6_breaks 146 = .ok (.imul, 1) := by decide +kernel
theorem dX6_breaks_147 : decode cX6_breaks 147 = .ok (.iconst 0, 1) := by decide +kernel
theorem dX6_breaks_148 : decode cX6_breaks 148 = .ok (.iastore, 1) := by decide +kernel
theorem dX6_breaks_149 : decode cX6_breaks 149 = .ok (.aload_n 0, 1) := by decide +kernel
theorem dX6_breaks_150 : decode cX6_breaks 150 = .ok (.getfield 29, 3) := by decide +kernel
theorem dX6_breaks_153 : decode cX6_breaks 153 = .ok (.iconst 2, 1) := by decide +kernel
theorem dX6_breaks_154 : decode cX6_breaks 154 = .ok (.iload_n 1, 1) := by decide +kernel
theorem dX6_breaks_155 : decode cX6_breaks 155 = .ok (.imul, 1) := by decide +kernel
theorem dX6_breaks_156 : decode cX6_breaks 156 = .ok (.iconst 1, 1) := by decide +kernel
theorem dX6_breaks_157 : decode cX6_breaks 157 = .ok (.iadd, 1) := by decide +kernel
theorem dX6_breaks_158 : decode cX6_breaks 158 = .ok (.iconst 0, 1) := by decide +kernel
theorem dX6_breaks_159 : decode cX6_breaks 159 = .ok (.iastore, 1) := by decide +kernel
theorem dX6_breaks_160 : decode cX6_breaks 160 = .ok (.aload_n 0, 1) := by decide +kernel
theorem dX6_breaks_161 : decode cX6_breaks 161 = .ok (.iload_n 1, 1) := by decide +kernel
theorem dX6_breaks_162 : decode cX6_breaks 162 = .ok (.invokevirtual 153, 3) := by decide +kernel
theorem dX6_breaks_165 : decode cX6_breaks 165 = .ok (.pop2, 1) := by decide +kernel
theorem dX6_breaks_166 : decode cX6_breaks 166 = .ok (.aload_n 0, 1) := by decide +kernel
theorem dX6_breaks_167 : decode cX6_breaks 167 = .ok (.getfield 26, 3) := by decide +kernel
theorem dX6_breaks_170 : decode cX6_breaks 170 = .ok (.iload_n 1, 1) := by decide +kernel
theorem dX6_breaks_171 : decode cX6_breaks 171 = .ok (.laload, 1) := by decide +kernel
theorem dX6_breaks_172 : decode cX6_breaks 172 = .ok (.lconst 0, 1) := by decide +kernel
theorem dX6_breaks_173 : decode cX6_breaks 173 = .ok (.lcmp, 1) := by decide +kernel
theorem dX6_breaks_174 : decode cX6_breaks 174 = .ok (.ifCond .ge 22, 3) := by decide +kernel
theorem dX6_breaks_177 : decode cX6_breaks 177 = .ok (.aload_n 0, 1) := by decide +kernel
theorem dX6_breaks_178 : decode cX6_breaks 178 = .ok (.iload_n 1, 1) := by decide +kernel
theorem dX6_breaks_179 : decode cX6_breaks 179 = .ok (.aload_n 0, 1) := by decide +kernel
theorem dX6_breaks_180 : decode cX6_breaks 180 = .ok (.getfield 26, 3) := by decide +kernel
theorem dX6_breaks_183 : decode cX6_breaks 183 = .ok (.iload_n 1, 1) := by decide +kernel
theorem dX6_breaks_184 : decode cX6_breaks 184 = .ok (.laload, 1) := by decide +kernel
theorem dX6_breaks_185 : decode cX6_breaks 185 = .ok (.lneg, 1) := by decide +kernel
theorem dX6_breaks_186 : decode cX6_breaks 186 = .ok (.invokevirtual 156, 3) := by decide +kernel
theorem dX6_breaks_189 : decode cX6_breaks 189 = .ok (.aload_n 0, 1) := by decide +kernel
theorem dX6_breaks_190 : decode cX6_breaks 190 = .ok (.getfield 26, 3) := by decide +kernel
theorem dX6_breaks_193 : decode cX6_breaks 193 = .ok (.iload_n 1, 1) := by decide +kernel
theorem dX6_breaks_194 : decode cX6_breaks 194 = .ok (.lconst 0, 1) := by decide +kernel
theorem dX6_breaks_195 : decode cX6_breaks 195 = .ok (.lastore, 1) := by decide +kernel
theorem dX6_breaks_196 : decode cX6_breaks 196 = .ok (.return_, 1) := by decide +kernel
theorem dX6_nets_0 : decode cX6_nets 0 = .ok (.lconst 0, 1) := by decide +kernel
theorem dX6_nets_1 : decode cX6_nets 1 = .ok (.lstore_n 2, 1) := by decide +kernel
theorem dX6_nets_2 : decode cX6_nets 2 = .ok (.iconst 0, 1) := by decide +kernel
theorem dX6_nets_3 : decode cX6_nets 3 = .ok (.istore 4, 2) := by decide +kernel
theorem dX6_nets_5 : decode cX6_nets 5 = .ok (.iload 4, 2) := by decide +kernel
theorem dX6_nets_7 : decode cX6_nets 7 = .ok (.iconst 3, 1) := by decide +kernel
theorem dX6_nets_8 : decode cX6_nets 8 = .ok (.if_icmp .ge 49, 3) := by decide +kernel
theorem dX6_nets_11 : decode cX6_nets 11 = .ok (.lload_n 2, 1) := by decide +kernel
theorem dX6_nets_12 : decode cX6_nets 12 = .ok (.aload_n 0, 1) := by decide +kernel
theorem dX6_nets_13 : decode cX6_nets 13 = .ok (.iload_n 1, 1) := by decide +kernel
theorem dX6_nets_14 : decode cX6_nets 14 = .ok (.iload 4, 2) := by decide +kernel
theorem dX6_nets_16 : decode cX6_nets 16 = .ok (.invokevirtual 86, 3) := by decide +kernel
theorem dX6_nets_19 : decode cX6_nets 19 = .ok (.aload_n 0, 1) := by decide +kernel
theorem dX6_nets_20 : decode cX6_nets 20 = .ok (.getfield 22, 3) := by decide +kernel
theorem dX6_nets_23 : decode cX6_nets 23 = .ok (.iconst 3, 1) := by decide +kernel
theorem dX6_nets_24 : decode cX6_nets 24 = .ok (.iload_n 1, 1) := by decide +kernel
theorem dX6_nets_25 : decode cX6_nets 25 = .ok (.imul, 1) := by decide +kernel
theorem dX6_nets_26 : decode cX6_nets 26 = .ok (.iload 4, 2) := by decide +kernel
theorem dX6_nets_28 : decode cX6_nets 28 = .ok (.iadd, 1) := by decide +kernel
theorem dX6_nets_29 : decode cX6_nets 29 = .ok (.laload, 1) := by decide +kernel
theorem dX6_nets_30 : decode cX6_nets 30 = .ok (.lsub, 1) := by decide +kernel
theorem dX6_nets_31 : decode cX6_nets 31 = .ok (.ladd, 1) := by decide +kernel
theorem dX6_nets_32 : decode cX6_nets 32 = .ok (.lstore_n 2, 1) := by decide +kernel
theorem dX6_nets_33 : decode cX6_nets 33 = .ok (.aload_n 0, 1) := by decide +kernel
theorem dX6_nets_34 : decode cX6_nets 34 = .ok (.getfield 22, 3) := by decide +kernel
theorem dX6_nets_37 : decode cX6_nets 37 = .ok (.iconst 3, 1) := by decide +kernel
theorem dX6_nets_38 : decode cX6_nets 38 = .ok (.iload_n 1, 1) := by decide +kernel
theorem dX6_nets_39 : decode cX6_nets 39 = .ok (.imul, 1) := by decide +kernel
theorem dX6_nets_40 : decode cX6_nets 40 = .ok (.iload 4, 2) := by decide +kernel
theorem dX6_nets_42 : decode cX6_nets 42 = .ok (.iadd, 1) := by decide +kernel
theorem dX6_nets_43 : decode cX6_nets 43 = .ok (.aload_n 0, 1) := by decide +kernel
theorem dX6_nets_44 : decode cX6_nets 44 = .ok (.iload_n 1, 1) := by decide +kernel
theorem dX6_nets_45 : decode cX6_nets 45 = .ok (.iload 4, 2) := by decide +kernel
theorem dX6_nets_47 : decode cX6_nets 47 = .ok (.invokevirtual 86, 3) := by decide +kernel
theorem dX6_nets_50 : decode cX6_nets 50 = .ok (.lastore, 1) := by decide +kernel
theorem dX6_nets_51 : decode cX6_nets 51 = .ok (.iinc 4 1, 3) := by decide +kernel
theorem dX6_nets_54 : decode cX6_nets 54 = .ok (.goto (-49), 3) := by decide +kernel
theorem dX6_nets_57 : decode cX6_nets 57 = .ok (.aload_n 0, 1) := by decide +kernel
theorem dX6_nets_58 : decode cX6_nets 58 = .ok (.getfield 26, 3) := by decide +kernel
theorem dX6_nets_61 : decode cX6_nets 61 = .ok (.iload_n 1, 1) := by decide +kernel
theorem dX6_nets_62 : decode cX6_nets 62 = .ok (.dup2, 1) := by decide +kernel
theorem dX6_nets_63 : decode cX6_nets 63 = .ok (.laload, 1) := by decide +kernel
theorem dX6_nets_64 : decode cX6_nets 64 = .ok (.lload_n 2, 1) := by decide +kernel
theorem dX6_nets_65 : decode cX6_nets 65 = .ok (.ladd, 1) := by decide +kernel
theorem dX6_nets_66 : decode cX6_nets 66 = .ok (.lastore, 1) := by decide +kernel
theorem dX6_nets_67 : decode cX6_nets 67 = .ok (.lload_n 2, 1) := by decide +kernel
theorem dX6_nets_68 : decode cX6_nets 68 = .ok (.lreturn, 1) := by decide +kernel
theorem dX6_covers_0 : decode cX6_covers 0 = .ok (.aload_n 0, 1) := by decide +kernel
theorem dX6_covers_1 : decode cX6_covers 1 = .ok (.getfield 32, 3) := by decide +kernel
theorem dX6_covers_4 : decode cX6_covers 4 = .ok (.iload_n 1, 1) := by decide +kernel
theorem dX6_covers_5 : decode cX6_covers 5 = .ok (.laload, 1) := by decide +kernel
theorem dX6_covers_6 : decode cX6_covers 6 = .ok (.lload_n 2, 1) := by decide +kernel
theorem dX6_covers_7 : decode cX6_covers 7 = .ok (.lcmp, 1) := by decide +kernel
theorem dX6_covers_8 : decode cX6_covers 8 = .ok (.ifCond .ge 12, 3) := by decide +kernel
theorem dX6_covers_11 : decode cX6_covers 11 = .ok (.aload_n 0, 1) := by decide +kernel
theorem dX6_covers_12 : decode cX6_covers 12 = .ok (.getfield 32, 3) := by decide +kernel
theorem dX6_covers_15 : decode cX6_covers 15 = .ok (.iload_n 1, 1) := by decide +kernel
theorem dX6_covers_16 : decode cX6_covers 16 = .ok (.laload, 1) := by decide +kernel
theorem dX6_covers_17 : decode cX6_covers 17 = .ok (.goto 4, 3) := by decide +kernel
theorem dX6_covers_20 : decode cX6_covers 20 = .ok (.lload_n 2, 1) := by decide +kernel
theorem dX6_covers_21 : decode cX6_covers 21 = .ok (.lstore 4, 2) := by decide +kernel
theorem dX6_covers_23 : decode cX6_covers 23 = .ok (.aload_n 0, 1) := by decide +kernel
theorem dX6_covers_24 : decode cX6_covers 24 = .ok (.getfield 32, 3) := by decide +kernel
theorem dX6_covers_27 : decode cX6_covers 27 = .ok (.iload_n 1, 1) := by decide +kernel
theorem dX6_covers_28 : decode cX6_covers 28 = .ok (.dup2, 1) := by decide +kernel
theorem dX6_covers_29 : decode cX6_covers 29 = .ok (.laload, 1) := by decide +kernel
theorem dX6_covers_30 : decode cX6_covers 30 = .ok (.lload 4, 2) := by decide +kernel
theorem dX6_covers_32 : decode cX6_covers 32 = .ok (.lsub, 1) := by decide +kernel
theorem dX6_covers_33 : decode cX6_covers 33 = .ok (.lastore, 1) := by decide +kernel
theorem dX6_covers_34 : decode cX6_covers 34 = .ok (.lload_n 2, 1) := by decide +kernel
theorem dX6_covers_35 : decode cX6_covers 35 = .ok (.lload 4, 2) := by decide +kernel
theorem dX6_covers_37 : decode cX6_covers 37 = .ok (.lsub, 1) := by decide +kernel
theorem dX6_covers_38 : decode cX6_covers 38 = .ok (.lstore 6, 2) := by decide +kernel
theorem dX6_covers_40 : decode cX6_covers 40 = .ok (.lconst 0, 1) := by decide +kernel
theorem dX6_covers_41 : decode cX6_covers 41 = .ok (.lstore 8, 2) := by decide +kernel
theorem dX6_covers_43 : decode cX6_covers 43 = .ok (.iconst 0, 1) := by decide +kernel
theorem dX6_covers_44 : decode cX6_covers 44 = .ok (.istore 10, 2) := by decide +kernel
theorem dX6_covers_46 : decode cX6_covers 46 = .ok (.iload 10, 2) := by decide +kernel
theorem dX6_covers_48 : decode cX6_covers 48 = .ok (.iconst 5, 1) := by decide +kernel
theorem dX6_covers_49 : decode cX6_covers 49 = .ok (.if_icmp .ge 35, 3) := by decide +kernel
theorem dX6_covers_52 : decode cX6_covers 52 = .ok (.lload 8, 2) := by decide +kernel
theorem dX6_covers_54 : decode cX6_covers 54 = .ok (.aload_n 0, 1) := by decide +kernel
theorem dX6_covers_55 : decode cX6_covers 55 = .ok (.getfield 38, 3) := by decide +kernel
theorem dX6_covers_58 : decode cX6_covers 58 = .ok (.iload 10, 2) := by decide +kernel
theorem dX6_covers_60 : decode cX6_covers 60 = .ok (.baload, 1) := by decide +kernel
theorem dX6_covers_61 : decode cX6_covers 61 = .ok (.ifCond .eq 7, 3) := by decide +kernel
theorem dX6_covers_64 : decode cX6_covers 64 = .ok (.lconst 0, 1) := by decide +kernel
theorem dX6_covers_65 : decode cX6_covers 65 = .ok (.goto 10, 3) := by decide +kernel
theorem dX6_covers_68 : decode cX6_covers 68 = .ok (.aload_n 0, 1) := by decide +kernel
theorem dX6_covers_69 : decode cX6_covers 69 = .ok (.getfield 32, 3) := by decide +kernel
theorem dX6_covers_72 : decode cX6_covers 72 = .ok (.iload 10, 2) := by decide +kernel
theorem dX6_covers_74 : decode cX6_covers 74 = .ok (.laload, 1) := by decide +kernel
theorem dX6_covers_75 : decode cX6_covers 75 = .ok (.ladd, 1) := by decide +kernel
theorem dX6_covers_76 : decode cX6_covers 76 = .ok (.lstore 8, 2) := by decide +kernel
theorem dX6_covers_78 : decode cX6_covers 78 = .ok (.iinc 10 1, 3) := by decide +kernel
theorem dX6_covers_81 : decode cX6_covers 81 = .ok (.goto (-35), 3) := by decide +kernel
theorem dX6_covers_84 : decode cX6_covers 84 = .ok (.lload 6, 2) := by decide +kernel
theorem dX6_covers_86 : decode cX6_covers 86 = .ok (.lstore 10, 2) := by decide +kernel
theorem dX6_covers_88 : decode cX6_covers 88 = .ok (.iconst 0, 1) := by decide +kernel
theorem dX6_covers_89 : decode cX6_covers 89 = .ok (.istore 12, 2) := by decide +kernel
theorem dX6_covers_91 : decode cX6_covers 91 = .ok (.iload 12, 2) := by decide +kernel
theorem dX6_covers_93 : decode cX6_covers 93 = .ok (.iconst 5, 1) := by decide +kernel
theorem dX6_covers_94 : decode cX6_covers 94 = .ok (.if_icmp .ge 99, 3) := by decide +kernel
theorem dX6_covers_97 : decode cX6_covers 97 = .ok (.aload_n 0, 1) := by decide +kernel
theorem dX6_covers_98 : decode cX6_covers 98 = .ok (.getfield 38, 3) := by decide +kernel
theorem dX6_covers_101 : decode cX6_covers 101 = .ok (.iload 12, 2) := by decide +kernel
theorem dX6_covers_103 : decode cX6_covers 103 = .ok (.baload, 1) := by decide +kernel
theorem dX6_covers_104 : decode cX6_covers 104 = .ok (.ifCond .ne 19, 3) := by decide +kernel
theorem dX6_covers_107 : decode cX6_covers 107 = .ok (.aload_n 0, 1) := by decide +kernel
theorem dX6_covers_108 : decode cX6_covers 108 = .ok (.getfield 32, 3) := by decide +kernel
theorem dX6_covers_111 : decode cX6_covers 111 = .ok (.iload 12, 2) := by decide +kernel
theorem dX6_covers_113 : decode cX6_covers 113 = .ok (.laload, 1) := by decide +kernel
theorem dX6_covers_114 : decode cX6_covers 114 = .ok (.lconst 0, 1) := by decide +kernel
theorem dX6_covers_115 : decode cX6_covers 115 = .ok (.lcmp, 1) := by decide +kernel
theorem dX6_covers_116 : decode cX6_covers 116 = .ok (.ifCond .le 7, 3) := by decide +kernel
theorem dX6_covers_119 : decode cX6_covers 119 = .ok (.iconst 1, 1) := by decide +kernel
theorem dX6_covers_120 : decode cX6_covers 120 = .ok (.goto 4, 3) := by decide +kernel
theorem dX6_covers_123 : decode cX6_covers 123 = .ok (.iconst 0, 1) := by decide +kernel
theorem dX6_covers_124 : decode cX6_covers 124 = .ok (.istore 13, 2) := by decide +kernel
theorem dX6_covers_126 : decode cX6_covers 126 = .ok (.iload 13, 2) := by decide +kernel
theorem dX6_covers_128 : decode cX6_covers 128 = .ok (.ifCond .ne 7, 3) := by decide +kernel
theorem dX6_covers_131 : decode cX6_covers 131 = .ok (.lconst 0, 1) := by decide +kernel
theorem dX6_covers_132 : decode cX6_covers 132 = .ok (.goto 34, 3) := by decide +kernel
theorem dX6_covers_135 : decode cX6_covers 135 = .ok (.lload 8, 2) := by decide +kernel
theorem dX6_covers_137 : decode cX6_covers 137 = .ok (.lload 10, 2) := by decide +kernel
theorem dX6_covers_139 : decode cX6_covers 139 = .ok (.lcmp, 1) := by decide +kernel
theorem dX6_covers_140 : decode cX6_covers 140 = .ok (.ifCond .gt 13, 3) := by decide +kernel
theorem dX6_covers_143 : decode cX6_covers 143 = .ok (.aload_n 0, 1) := by decide +kernel
theorem dX6_covers_144 : decode cX6_covers 144 = .ok (.getfield 32, 3) := by decide +kernel
theorem dX6_covers_147 : decode cX6_covers 147 = .ok (.iload 12, 2) := by decide +kernel
theorem dX6_covers_149 : decode cX6_covers 149 = .ok (.laload, 1) := by decide +kernel
theorem dX6_covers_150 : decode cX6_covers 150 = .ok (.goto 16, 3) := by decide +kernel
theorem dX6_covers_153 : decode cX6_covers 153 = .ok (.lload 10, 2) := by decide +kernel
theorem dX6_covers_155 : decode cX6_covers 155 = .ok (.aload_n 0, 1) := by decide +kernel
theorem dX6_covers_156 : decode cX6_covers 156 = .ok (.getfield 32, 3) := by decide +kernel
theorem dX6_covers_159 : decode cX6_covers 159 = .ok (.iload 12, 2) := by decide +kernel
theorem dX6_covers_161 : decode cX6_covers 161 = .ok (.laload, 1) := by decide +kernel
theorem dX6_covers_162 : decode cX6_covers 162 = .ok (.lmul, 1) := by decide +kernel
theorem dX6_covers_163 : decode cX6_covers 163 = .ok (.lload 8, 2) := by decide +kernel
theorem dX6_covers_165 : decode cX6_covers 165 = .ok (.ldiv, 1) := by decide +kernel
theorem dX6_covers_166 : decode cX6_covers 166 = .ok (.lstore 14, 2) := by decide +kernel
theorem dX6_covers_168 : decode cX6_covers 168 = .ok (.aload_n 0, 1) := by decide +kernel
theorem dX6_covers_169 : decode cX6_covers 169 = .ok (.getfield 32, 3) := by decide +kernel
theorem dX6_covers_172 : decode cX6_covers 172 = .ok (.iload 12, 2) := by decide +kernel
theorem dX6_covers_174 : decode cX6_covers 174 = .ok (.dup2, 1) := by decide +kernel
theorem dX6_covers_175 : decode cX6_covers 175 = .ok (.laload, 1) := by decide +kernel
theorem dX6_covers_176 : decode cX6_covers 176 = .ok (.lload 14, 2) := by decide +kernel
theorem dX6_covers_178 : decode cX6_covers 178 = .ok (.lsub, 1) := by decide +kernel
theorem dX6_covers_179 : decode cX6_covers 179 = .ok (.lastore, 1) := by decide +kernel
theorem dX6_covers_180 : decode cX6_covers 180 = .ok (.lload 6, 2) := by decide +kernel
theorem dX6_covers_182 : decode cX6_covers 182 = .ok (.lload 14, 2) := by decide +kernel
theorem dX6_covers_184 : decode cX6_covers 184 = .ok (.lsub, 1) := by decide +kernel
theorem dX6_covers_185 : decode cX6_covers 185 = .ok (.lstore 6, 2) := by decide +kernel
theorem dX6_covers_187 : decode cX6_covers 187 = .ok (.iinc 12 1, 3) := by decide +kernel
theorem dX6_covers_190 : decode cX6_covers 190 = .ok (.goto (-99), 3) := by decide +kernel
theorem dX6_covers_193 : decode cX6_covers 193 = .ok (.iconst 0, 1) := by decide +kernel
theorem dX6_covers_194 : decode cX6_covers 194 = .ok (.istore 12, 2) := by decide +kernel
theorem dX6_covers_196 : decode cX6_covers 196 = .ok (.iload 12, 2) := by decide +kernel
theorem dX6_covers_198 : decode cX6_covers 198 = .ok (.iconst 5, 1) := by decide +kernel
theorem dX6_covers_199 : decode cX6_covers 199 = .ok (.if_icmp .ge 69, 3) := by decide +kernel
theorem dX6_covers_202 : decode cX6_covers 202 = .ok (.aload_n 0, 1) := by decide +kernel
theorem dX6_covers_203 : decode cX6_covers 203 = .ok (.getfield 38, 3) := by decide +kernel
theorem dX6_covers_206 : decode cX6_covers 206 = .ok (.iload 12, 2) := by decide +kernel
theorem dX6_covers_208 : decode cX6_covers 208 = .ok (.baload, 1) := by decide +kernel
theorem dX6_covers_209 : decode cX6_covers 209 = .ok (.ifCond .eq 7, 3) := by decide +kernel
theorem dX6_covers_212 : decode cX6_covers 212 = .ok (.lconst 0, 1) := by decide +kernel
theorem dX6_covers_213 : decode cX6_covers 213 = .ok (.goto 28, 3) := by decide +kernel
theorem dX6_covers_216 : decode cX6_covers 216 = .ok (.aload_n 0, 1) := by decide +kernel
theorem dX6_covers_217 : decode cX6_covers 217 = .ok (.getfield 32, 3) := by decide +kernel
theorem dX6_covers_220 : decode cX6_covers 220 = .ok (.iload 12, 2) := by decide +kernel
theorem dX6_covers_222 : decode cX6_covers 222 = .ok (.laload, 1) := by decide +kernel
theorem dX6_covers_223 : decode cX6_covers 223 = .ok (.lload 6, 2) := by decide +kernel
theorem dX6_covers_225 : decode cX6_covers 225 = .ok (.lcmp, 1) := by decide +kernel
theorem dX6_covers_226 : decode cX6_covers 226 = .ok (.ifCond .ge 13, 3) := by decide +kernel
theorem dX6_covers_229 : decode cX6_covers 229 = .ok (.aload_n 0, 1) := by decide +kernel
theorem dX6_covers_230 : decode cX6_covers 230 = .ok (.getfield 32, 3) := by decide +kernel
theorem dX6_covers_233 : decode cX6_covers 233 = .ok (.iload 12, 2) := by decide +kernel
theorem dX6_covers_235 : decode cX6_covers 235 = .ok (.laload, 1) := by decide +kernel
theorem dX6_covers_236 : decode cX6_covers 236 = .ok (.goto 5, 3) := by decide +kernel
theorem dX6_covers_239 : decode cX6_covers 239 = .ok (.lload 6, 2) := by decide +kernel
theorem dX6_covers_241 : decode cX6_covers 241 = .ok (.lstore 13, 2) := by decide +kernel
theorem dX6_covers_243 : decode cX6_covers 243 = .ok (.aload_n 0, 1) := by decide +kernel
theorem dX6_covers_244 : decode cX6_covers 244 = .ok (.getfield 32, 3) := by decide +kernel
theorem dX6_covers_247 : decode cX6_covers 247 = .ok (.iload 12, 2) := by decide +kernel
theorem dX6_covers_249 : decode cX6_covers 249 = .ok (.dup2, 1) := by decide +kernel
theorem dX6_covers_250 : decode cX6_covers 250 = .ok (.laload, 1) := by decide +kernel
theorem dX6_covers_251 : decode cX6_covers 251 = .ok (.lload 13, 2) := by decide +kernel
theorem dX6_covers_253 : decode cX6_covers 253 = .ok (.lsub, 1) := by decide +kernel
theorem dX6_covers_254 : decode cX6_covers 254 = .ok (.lastore, 1) := by decide +kernel
theorem dX6_covers_255 : decode cX6_covers 255 = .ok (.lload 6, 2) := by decide +kernel
theorem dX6_covers_257 : decode cX6_covers 257 = .ok (.lload 13, 2) := by decide +kernel
theorem dX6_covers_259 : decode cX6_covers 259 = .ok (.lsub, 1) := by decide +kernel
theorem dX6_covers_260 : decode cX6_covers 260 = .ok (.lstore 6, 2) := by decide +kernel
theorem dX6_covers_262 : decode cX6_covers 262 = .ok (.iinc 12 1, 3) := by decide +kernel
theorem dX6_covers_265 : decode cX6_covers 265 = .ok (.goto (-69), 3) := by decide +kernel
theorem dX6_covers_268 : decode cX6_covers 268 = .ok (.aload_n 0, 1) := by decide +kernel
theorem dX6_covers_269 : decode cX6_covers 269 = .ok (.dup, 1) := by decide +kernel
theorem dX6_covers_270 : decode cX6_covers 270 = .ok (.getfield 160, 3) := by decide +kernel
theorem dX6_covers_273 : decode cX6_covers 273 = .ok (.lload 6, 2) := by decide +kernel
theorem dX6_covers_275 : decode cX6_covers 275 = .ok (.ladd, 1) := by decide +kernel
theorem dX6_covers_276 : decode cX6_covers 276 = .ok (.putfield 160, 3) := by decide +kernel
theorem dX6_covers_279 : decode cX6_covers 279 = .ok (.return_, 1) := by decide +kernel
theorem dX6_hour_0 : decode cX6_hour 0 = .ok (.aload_n 0, 1) := by decide +kernel
theorem dX6_hour_1 : decode cX6_hour 1 = .ok (.iconst 0, 1) := by decide +kernel
theorem dX6_hour_2 : decode cX6_hour 2 = .ok (.putfield 66, 3) := by decide +kernel
theorem dX6_hour_5 : decode cX6_hour 5 = .ok (.iconst 0, 1) := by decide +kernel
theorem dX6_hour_6 : decode cX6_hour 6 = .ok (.istore_n 1, 1) := by decide +kernel
theorem dX6_hour_7 : decode cX6_hour 7 = .ok (.iconst 0, 1) := by decide +kernel
theorem dX6_hour_8 : decode cX6_hour 8 = .ok (.istore_n 2, 1) := by decide +kernel
theorem dX6_hour_9 : decode cX6_hour 9 = .ok (.iload_n 2, 1) := by decide +kernel
theorem dX6_hour_10 : decode cX6_hour 10 = .ok (.iconst 5, 1) := by decide +kernel
theorem dX6_hour_11 : decode cX6_hour 11 = .ok (.if_icmp .ge 72, 3) := by decide +kernel
theorem dX6_hour_14 : decode cX6_hour 14 = .ok (.aload_n 0, 1) := by decide +kernel
theorem dX6_hour_15 : decode cX6_hour 15 = .ok (.getfield 38, 3) := by decide +kernel
theorem dX6_hour_18 : decode cX6_hour 18 = .ok (.iload_n 2, 1) := by decide +kernel
theorem dX6_hour_19 : decode cX6_hour 19 = .ok (.baload, 1) := by decide +kernel
theorem dX6_hour_20 : decode cX6_hour 20 = .ok (.ifCond .ne 57, 3) := by decide +kernel
theorem dX6_hour_23 : decode cX6_hour 23 = .ok (.aload_n 0, 1) := by decide +kernel
theorem dX6_hour_24 : decode cX6_hour 24 = .ok (.getfield 35, 3) := by decide +kernel
theorem dX6_hour_27 : decode cX6_hour 27 = .ok (.iload_n 2, 1) := by decide +kernel
theorem dX6_hour_28 : decode cX6_hour 28 = .ok (.aload_n 0, 1) := by decide +kernel
theorem dX6_hour_29 : decode cX6_hour 29 = .ok (.iload_n 2, 1) := by decide +kernel
theorem dX6_hour_30 : decode cX6_hour 30 = .ok (.invokevirtual 114, 3) := by decide +kernel
theorem dX6_hour_33 : decode cX6_hour 33 = .ok (.lconst 0, 1) := by decide +kernel
theorem dX6_hour_34 : decode cX6_hour 34 = .ok (.lcmp, 1) := by decide +kernel
theorem dX6_hour_35 : decode cX6_hour 35 = .ok (.ifCond .lt 7, 3) := by decide +kernel
theorem dX6_hour_38 : decode cX6_hour 38 = .ok (.iconst (-1), 1) := by decide +kernel
theorem dX6_hour_39 : decode cX6_hour 39 = .ok (.goto 11, 3) := by decide +kernel
theorem dX6_hour_42 : decode cX6_hour 42 = .ok (.aload_n 0, 1) := by decide +kernel
theorem dX6_hour_43 : decode cX6_hour 43 = .ok (.getfield 35, 3) := by decide +kernel
theorem dX6_hour_46 : decode cX6_hour 46 = .ok (.iload_n 2, 1) := by decide +kernel
theorem dX6_hour_47 : decode cX6_hour 47 = .ok (.iaload, 1) := by decide +kernel
theorem dX6_hour_48 : decode cX6_hour 48 = .ok (.iconst 1, 1) := by decide +kernel
theorem dX6_hour_49 : decode cX6_hour 49 = .ok (.iadd, 1) := by decide +kernel
theorem dX6_hour_50 : decode cX6_hour 50 = .ok (.iastore, 1) := by decide +kernel
theorem dX6_hour_51 : decode cX6_hour 51 = .ok (.aload_n 0, 1) := by decide +kernel
theorem dX6_hour_52 : decode cX6_hour 52 = .ok (.getfield 35, 3) := by decide +kernel
theorem dX6_hour_55 : decode cX6_hour 55 = .ok (.iload_n 2, 1) := by decide +kernel
theorem dX6_hour_56 : decode cX6_hour 56 = .ok (.iaload, 1) := by decide +kernel
theorem dX6_hour_57 : decode cX6_hour 57 = .ok (.iconst 2, 1) := by decide +kernel
theorem dX6_hour_58 : decode cX6_hour 58 = .ok (.if_icmp .ne 19, 3) := by decide +kernel
theorem dX6_hour_61 : decode cX6_hour 61 = .ok (.aload_n 0, 1) := by decide +kernel
theorem dX6_hour_62 : decode cX6_hour 62 = .ok (.iload_n 2, 1) := by decide +kernel
theorem dX6_hour_63 : decode cX6_hour 63 = .ok (.invokevirtual 164, 3) := by decide +kernel
theorem dX6_hour_66 : decode cX6_hour 66 = .ok (.ifCond .eq 11, 3) := by decide +kernel
theorem dX6_hour_69 : decode cX6_hour 69 = .ok (.aload_n 0, 1) := by decide +kernel
theorem dX6_hour_70 : decode cX6_hour 70 = .ok (.iload_n 2, 1) := by decide +kernel
theorem dX6_hour_71 : decode cX6_hour 71 = .ok (.invokevirtual 167, 3) := by decide +kernel
theorem dX6_hour_74 : decode cX6_hour 74 = .ok (.iinc 1 1, 3) := by decide +kernel
theorem dX6_hour_77 : decode cX6_hour 77 = .ok (.iinc 2 1, 3) := by decide +kernel
theorem dX6_hour_80 : decode cX6_hour 80 = .ok (.goto (-71), 3) := by decide +kernel
theorem dX6_hour_83 : decode cX6_hour 83 = .ok (.iload_n 1, 1) := by decide +kernel
theorem dX6_hour_84 : decode cX6_hour 84 = .ok (.ireturn, 1) := by decide +kernel
theorem dX6_evening_0 : decode cX6_evening 0 = .ok (.aload_n 0, 1) := by decide +kernel
theorem dX6_evening_1 : decode cX6_evening 1 = .ok (.iconst 0, 1) := by decide +kernel
theorem dX6_evening_2 : decode cX6_evening 2 = .ok (.putfield 66, 3) := by decide +kernel
theorem dX6_evening_5 : decode cX6_evening 5 = .ok (.lconst 0, 1) := by decide +kernel
theorem dX6_evening_6 : decode cX6_evening 6 = .ok (.lstore_n 1, 1) := by decide +kernel
theorem dX6_evening_7 : decode cX6_evening 7 = .ok (.iconst 0, 1) := by decide +kernel
theorem dX6_evening_8 : decode cX6_evening 8 = .ok (.istore_n 3, 1) := by decide +kernel
theorem dX6_evening_9 : decode cX6_evening 9 = .ok (.iload_n 3, 1) := by decide +kernel
theorem dX6_evening_10 : decode cX6_evening 10 = .ok (.iconst 5, 1) := by decide +kernel
theorem dX6_evening_11 : decode cX6_evening 11 = .ok (.if_icmp .ge 17, 3) := by decide +kernel
theorem dX6_evening_14 : decode cX6_evening 14 = .ok (.lload_n 1, 1) := by decide +kernel
theorem dX6_evening_15 : decode cX6_evening 15 = .ok (.aload_n 0, 1) := by decide +kernel
theorem dX6_evening_16 : decode cX6_evening 16 = .ok (.iload_n 3, 1) := by decide +kernel
theorem dX6_evening_17 : decode cX6_evening 17 = .ok (.invokevirtual 153, 3) := by decide +kernel
theorem dX6_evening_20 : decode cX6_evening 20 = .ok (.ladd, 1) := by decide +kernel
theorem dX6_evening_21 : decode cX6_evening 21 = .ok (.lstore_n 1, 1) := by decide +kernel
theorem dX6_evening_22 : decode cX6_evening 22 = .ok (.iinc 3 1, 3) := by decide +kernel
theorem dX6_evening_25 : decode cX6_evening 25 = .ok (.goto (-16), 3) := by decide +kernel
theorem dX6_evening_28 : decode cX6_evening 28 = .ok (.lload_n 1, 1) := by decide +kernel
theorem dX6_evening_29 : decode cX6_evening 29 = .ok (.l2i, 1) := by decide +kernel
theorem dX6_evening_30 : decode cX6_evening 30 = .ok (.ireturn, 1) := by decide +kernel
theorem dX6_called_0 : decode cX6_called 0 = .ok (.aload_n 0, 1) := by decide +kernel
theorem dX6_called_1 : decode cX6_called 1 = .ok (.iload_n 1, 1) := by decide +kernel
theorem dX6_called_2 : decode cX6_called 2 = .ok (.invokestatic 109, 3) := by decide +kernel
theorem dX6_called_5 : decode cX6_called 5 = .ok (.invokevirtual 78, 3) := by decide +kernel
theorem dX6_called_8 : decode cX6_called 8 = .ok (.ifCond .eq 12, 3) := by decide +kernel
theorem dX6_called_11 : decode cX6_called 11 = .ok (.aload_n 0, 1) := by decide +kernel
theorem dX6_called_12 : decode cX6_called 12 = .ok (.getfield 35, 3) := by decide +kernel
theorem dX6_called_15 : decode cX6_called 15 = .ok (.iload_n 1, 1) := by decide +kernel
theorem dX6_called_16 : decode cX6_called 16 = .ok (.iaload, 1) := by decide +kernel
theorem dX6_called_17 : decode cX6_called 17 = .ok (.goto 4, 3) := by decide +kernel
theorem dX6_called_20 : decode cX6_called 20 = .ok (.iconst 0, 1) := by decide +kernel
theorem dX6_called_21 : decode cX6_called 21 = .ok (.ireturn, 1) := by decide +kernel
theorem dX6_hasFailed_0 : decode cX6_hasFailed 0 = .ok (.aload_n 0, 1) := by decide +kernel
theorem dX6_hasFailed_1 : decode cX6_hasFailed 1 = .ok (.iload_n 1, 1) := by decide +kernel
theorem dX6_hasFailed_2 : decode cX6_hasFailed 2 = .ok (.invokestatic 109, 3) := by decide +kernel
theorem dX6_hasFailed_5 : decode cX6_hasFailed 5 = .ok (.invokevirtual 78, 3) := by decide +kernel
theorem dX6_hasFailed_8 : decode cX6_hasFailed 8 = .ok (.ifCond .eq 16, 3) := by decide +kernel
theorem dX6_hasFailed_11 : decode cX6_hasFailed 11 = .ok (.aload_n 0, 1) := by decide +kernel
theorem dX6_hasFailed_12 : decode cX6_hasFailed 12 = .ok (.getfield 38, 3) := by decide +kernel
theorem dX6_hasFailed_15 : decode cX6_hasFailed 15 = .ok (.iload_n 1, 1) := by decide +kernel
theorem dX6_hasFailed_16 : decode cX6_hasFailed 16 = .ok (.baload, 1) := by decide +kernel
theorem dX6_hasFailed_17 : decode cX6_hasFailed 17 = .ok (.ifCond .eq 7, 3) := by decide +kernel
theorem dX6_hasFailed_20 : decode cX6_hasFailed 20 = .ok (.iconst 1, 1) := by decide +kernel
theorem dX6_hasFailed_21 : decode cX6_hasFailed 21 = .ok (.goto 4, 3) := by decide +kernel
theorem dX6_hasFailed_24 : decode cX6_hasFailed 24 = .ok (.iconst 0, 1) := by decide +kernel
theorem dX6_hasFailed_25 : decode cX6_hasFailed 25 = .ok (.ireturn, 1) := by decide +kernel
theorem dX6_position_0 : decode cX6_position 0 = .ok (.aload_n 0, 1) := by decide +kernel
theorem dX6_position_1 : decode cX6_position 1 = .ok (.iload_n 1, 1) := by decide +kernel
theorem dX6_position_2 : decode cX6_position 2 = .ok (.invokestatic 109, 3) := by decide +kernel
theorem dX6_position_5 : decode cX6_position 5 = .ok (.ifCond .eq 14, 3) := by decide +kernel
theorem dX6_position_8 : decode cX6_position 8 = .ok (.iload_n 2, 1) := by decide +kernel
theorem dX6_position_9 : decode cX6_position 9 = .ok (.invokestatic 70, 3) := by decide +kernel
theorem dX6_position_12 : decode cX6_position 12 = .ok (.ifCond .eq 7, 3) := by decide +kernel
theorem dX6_position_15 : decode cX6_position 15 = .ok (.iconst 1, 1) := by decide +kernel
theorem dX6_position_16 : decode cX6_position 16 = .ok (.goto 4, 3) := by decide +kernel
theorem dX6_position_19 : decode cX6_position 19 = .ok (.iconst 0, 1) := by decide +kernel
theorem dX6_position_20 : decode cX6_position 20 = .ok (.invokevirtual 78, 3) := by decide +kernel
theorem dX6_position_23 : decode cX6_position 23 = .ok (.ifCond .eq 16, 3) := by decide +kernel
theorem dX6_position_26 : decode cX6_position 26 = .ok (.aload_n 0, 1) := by decide +kernel
theorem dX6_position_27 : decode cX6_position 27 = .ok (.getfield 19, 3) := by decide +kernel
theorem dX6_position_30 : decode cX6_position 30 = .ok (.iconst 3, 1) := by decide +kernel
theorem dX6_position_31 : decode cX6_position 31 = .ok (.iload_n 1, 1) := by decide +kernel
theorem dX6_position_32 : decode cX6_position 32 = .ok (.imul, 1) := by decide +kernel
theorem dX6_position_33 : decode cX6_position 33 = .ok (.iload_n 2, 1) := by decide +kernel
theorem dX6_position_34 : decode cX6_position 34 = .ok (.iadd, 1) := by decide +kernel
theorem dX6_position_35 : decode cX6_position 35 = .ok (.iaload, 1) := by decide +kernel
theorem dX6_position_36 : decode cX6_position 36 = .ok (.goto 4, 3) := by decide +kernel
theorem dX6_position_39 : decode cX6_position 39 = .ok (.iconst 0, 1) := by decide +kernel
theorem dX6_position_40 : decode cX6_position 40 = .ok (.ireturn, 1) := by decide +kernel
theorem dX6_cash_0 : decode cX6_cash 0 = .ok (.aload_n 0, 1) := by decide +kernel
theorem dX6_cash_1 : decode cX6_cash 1 = .ok (.iload_n 1, 1) := by decide +kernel
theorem dX6_cash_2 : decode cX6_cash 2 = .ok (.invokestatic 109, 3) := by decide +kernel
theorem dX6_cash_5 : decode cX6_cash 5 = .ok (.invokevirtual 78, 3) := by decide +kernel
theorem dX6_cash_8 : decode cX6_cash 8 = .ok (.ifCond .eq 13, 3) := by decide +kernel
theorem dX6_cash_11 : decode cX6_cash 11 = .ok (.aload_n 0, 1) := by decide +kernel
theorem dX6_cash_12 : decode cX6_cash 12 = .ok (.getfield 26, 3) := by decide +kernel
theorem dX6_cash_15 : decode cX6_cash 15 = .ok (.iload_n 1, 1) := by decide +kernel
theorem dX6_cash_16 : decode cX6_cash 16 = .ok (.laload, 1) := by decide +kernel
theorem dX6_cash_17 : decode cX6_cash 17 = .ok (.l2i, 1) := by decide +kernel
theorem dX6_cash_18 : decode cX6_cash 18 = .ok (.goto 4, 3) := by decide +kernel
theorem dX6_cash_21 : decode cX6_cash 21 = .ok (.iconst 0, 1) := by decide +kernel
theorem dX6_cash_22 : decode cX6_cash 22 = .ok (.ireturn, 1) := by decide +kernel
theorem dX6_equity_0 : decode cX6_equity 0 = .ok (.aload_n 0, 1) := by decide +kernel
theorem dX6_equity_1 : decode cX6_equity 1 = .ok (.iload_n 1, 1) := by decide +kernel
theorem dX6_equity_2 : decode cX6_equity 2 = .ok (.invokestatic 109, 3) := by decide +kernel
theorem dX6_equity_5 : decode cX6_equity 5 = .ok (.invokevirtual 78, 3) := by decide +kernel
theorem dX6_equity_8 : decode cX6_equity 8 = .ok (.ifCond .eq 12, 3) := by decide +kernel
theorem dX6_equity_11 : decode cX6_equity 11 = .ok (.aload_n 0, 1) := by decide +kernel
theorem dX6_equity_12 : decode cX6_equity 12 = .ok (.iload_n 1, 1) := by decide +kernel
theorem dX6_equity_13 : decode cX6_equity 13 = .ok (.invokevirtual 99, 3) := by decide +kernel
theorem dX6_equity_16 : decode cX6_equity 16 = .ok (.l2i, 1) := by decide +kernel
theorem dX6_equity_17 : decode cX6_equity 17 = .ok (.goto 4, 3) := by decide +kernel
theorem dX6_equity_20 : decode cX6_equity 20 = .ok (.iconst 0, 1) := by decide +kernel
theorem dX6_equity_21 : decode cX6_equity 21 = .ok (.ireturn, 1) := by decide +kernel
theorem dX6_equityByTrades_0 : decode cX6_equityByTrades 0 = .ok (.aload_n 0, 1) := by decide +kernel
theorem dX6_equityByTrades_1 : decode cX6_equityByTrades 1 = .ok (.iload_n 1, 1) := by decide +kernel
theorem dX6_equityByTrades_2 : decode cX6_equityByTrades 2 = .ok (.invokestatic 109, 3) := by decide +kernel
theorem dX6_equityByTrades_5 : decode cX6_equityByTrades 5 = .ok (.invokevirtual 78, 3) := by decide +kernel
theorem dX6_equityByTrades_8 : decode cX6_equityByTrades 8 = .ok (.ifCond .eq 12, 3) := by decide +kernel
theorem dX6_equityByTrades_11 : decode cX6_equityByTrades 11 = .ok (.aload_n 0, 1) := by decide +kernel
theorem dX6_equityByTrades_12 : decode cX6_equityByTrades 12 = .ok (.iload_n 1, 1) := by decide +kernel
theorem dX6_equityByTrades_13 : decode cX6_equityByTrades 13 = .ok (.invokevirtual 99, 3) := by decide +kernel
theorem dX6_equityByTrades_16 : decode cX6_equityByTrades 16 = .ok (.l2i, 1) := by decide +kernel
theorem dX6_equityByTrades_17 : decode cX6_equityByTrades 17 = .ok (.goto 4, 3) := by decide +kernel
theorem dX6_equityByTrades_20 : decode cX6_equityByTrades 20 = .ok (.iconst 0, 1) := by decide +kernel
theorem dX6_equityByTrades_21 : decode cX6_equityByTrades 21 = .ok (.ireturn, 1) := by decide +kernel
theorem dX6_margin_0 : decode cX6_margin 0 = .ok (.aload_n 0, 1) := by decide +kernel
theorem dX6_margin_1 : decode cX6_margin 1 = .ok (.iload_n 1, 1) := by decide +kernel
theorem dX6_margin_2 : decode cX6_margin 2 = .ok (.invokestatic 109, 3) := by decide +kernel
theorem dX6_margin_5 : decode cX6_margin 5 = .ok (.invokevirtual 78, 3) := by decide +kernel
theorem dX6_margin_8 : decode cX6_margin 8 = .ok (.ifCond .eq 11, 3) := by decide +kernel
theorem dX6_margin_11 : decode cX6_margin 11 = .ok (.aload_n 0, 1) := by decide +kernel
theorem dX6_margin_12 : decode cX6_margin 12 = .ok (.iload_n 1, 1) := by decide +kernel
theorem dX6_margin_13 : decode cX6_margin 13 = .ok (.invokevirtual 106, 3) := by decide +kernel
theorem dX6_margin_16 : decode cX6_margin 16 = .ok (.goto 4, 3) := by decide +kernel
theorem dX6_margin_19 : decode cX6_margin 19 = .ok (.iconst 0, 1) := by decide +kernel
theorem dX6_margin_20 : decode cX6_margin 20 = .ok (.ireturn, 1) := by decide +kernel
theorem dX6_haircut_0 : decode cX6_haircut 0 = .ok (.aload_n 0, 1) := by decide +kernel
theorem dX6_haircut_1 : decode cX6_haircut 1 = .ok (.iload_n 1, 1) := by decide +kernel
theorem dX6_haircut_2 : decode cX6_haircut 2 = .ok (.iconst 0, 1) := by decide +kernel
theorem dX6_haircut_3 : decode cX6_haircut 3 = .ok (.iconst 1, 1) := by decide +kernel
theorem dX6_haircut_4 : decode cX6_haircut 4 = .ok (.invokestatic 74, 3) := by decide +kernel
theorem dX6_haircut_7 : decode cX6_haircut 7 = .ok (.invokevirtual 78, 3) := by decide +kernel
theorem dX6_haircut_10 : decode cX6_haircut 10 = .ok (.ifCond .eq 11, 3) := by decide +kernel
theorem dX6_haircut_13 : decode cX6_haircut 13 = .ok (.aload_n 0, 1) := by decide +kernel
theorem dX6_haircut_14 : decode cX6_haircut 14 = .ok (.iload_n 1, 1) := by decide +kernel
theorem dX6_haircut_15 : decode cX6_haircut 15 = .ok (.invokevirtual 82, 3) := by decide +kernel
theorem dX6_haircut_18 : decode cX6_haircut 18 = .ok (.goto 4, 3) := by decide +kernel
theorem dX6_haircut_21 : decode cX6_haircut 21 = .ok (.iconst 0, 1) := by decide +kernel
theorem dX6_haircut_22 : decode cX6_haircut 22 = .ok (.ireturn, 1) := by decide +kernel
theorem dX6_collateral_0 : decode cX6_collateral 0 = .ok (.aload_n 0, 1) := by decide +kernel
theorem dX6_collateral_1 : decode cX6_collateral 1 = .ok (.iload_n 1, 1) := by decide +kernel
theorem dX6_collateral_2 : decode cX6_collateral 2 = .ok (.invokestatic 109, 3) := by decide +kernel
theorem dX6_collateral_5 : decode cX6_collateral 5 = .ok (.invokevirtual 78, 3) := by decide +kernel
theorem dX6_collateral_8 : decode cX6_collateral 8 = .ok (.ifCond .eq 12, 3) := by decide +kernel
theorem dX6_collateral_11 : decode cX6_collateral 11 = .ok (.aload_n 0, 1) := by decide +kernel
theorem dX6_collateral_12 : decode cX6_collateral 12 = .ok (.iload_n 1, 1) := by decide +kernel
theorem dX6_collateral_13 : decode cX6_collateral 13 = .ok (.invokevirtual 103, 3) := by decide +kernel
theorem dX6_collateral_16 : decode cX6_collateral 16 = .ok (.l2i, 1) := by decide +kernel
theorem dX6_collateral_17 : decode cX6_collateral 17 = .ok (.goto 4, 3) := by decide +kernel
theorem dX6_collateral_20 : decode cX6_collateral 20 = .ok (.iconst 0, 1) := by decide +kernel
theorem dX6_collateral_21 : decode cX6_collateral 21 = .ok (.ireturn, 1) := by decide +kernel
theorem dX6_free_0 : decode cX6_free 0 = .ok (.aload_n 0, 1) := by decide +kernel
theorem dX6_free_1 : decode cX6_free 1 = .ok (.iload_n 1, 1) := by decide +kernel
theorem dX6_free_2 : decode cX6_free 2 = .ok (.invokestatic 109, 3) := by decide +kernel
theorem dX6_free_5 : decode cX6_free 5 = .ok (.invokevirtual 78, 3) := by decide +kernel
theorem dX6_free_8 : decode cX6_free 8 = .ok (.ifCond .eq 12, 3) := by decide +kernel
theorem dX6_free_11 : decode cX6_free 11 = .ok (.aload_n 0, 1) := by decide +kernel
theorem dX6_free_12 : decode cX6_free 12 = .ok (.iload_n 1, 1) := by decide +kernel
theorem dX6_free_13 : decode cX6_free 13 = .ok (.invokevirtual 114, 3) := by decide +kernel
theorem dX6_free_16 : decode cX6_free 16 = .ok (.l2i, 1) := by decide +kernel
theorem dX6_free_17 : decode cX6_free 17 = .ok (.goto 4, 3) := by decide +kernel
theorem dX6_free_20 : decode cX6_free 20 = .ok (.iconst 0, 1) := by decide +kernel
theorem dX6_free_21 : decode cX6_free 21 = .ok (.ireturn, 1) := by decide +kernel
theorem dX6_share_0 : decode cX6_share 0 = .ok (.aload_n 0, 1) := by decide +kernel
theorem dX6_share_1 : decode cX6_share 1 = .ok (.iload_n 1, 1) := by decide +kernel
theorem dX6_share_2 : decode cX6_share 2 = .ok (.invokestatic 109, 3) := by decide +kernel
theorem dX6_share_5 : decode cX6_share 5 = .ok (.invokevirtual 78, 3) := by decide +kernel
theorem dX6_share_8 : decode cX6_share 8 = .ok (.ifCond .eq 13, 3) := by decide +kernel
theorem dX6_share_11 : decode cX6_share 11 = .ok (.aload_n 0, 1) := by decide +kernel
theorem dX6_share_12 : decode cX6_share 12 = .ok (.getfield 32, 3) := by decide +kernel
theorem dX6_share_15 : decode cX6_share 15 = .ok (.iload_n 1, 1) := by decide +kernel
theorem dX6_share_16 : decode cX6_share 16 = .ok (.laload, 1) := by decide +kernel
theorem dX6_share_17 : decode cX6_share 17 = .ok (.l2i, 1) := by decide +kernel
theorem dX6_share_18 : decode cX6_share 18 = .ok (.goto 4, 3) := by decide +kernel
theorem dX6_share_21 : decode cX6_share 21 = .ok (.iconst 0, 1) := by decide +kernel
theorem dX6_share_22 : decode cX6_share 22 = .ok (.ireturn, 1) := by decide +kernel
theorem dX6_unpaid_0 : decode cX6_unpaid 0 = .ok (.aload_n 0, 1) := by decide +kernel
theorem dX6_unpaid_1 : decode cX6_unpaid 1 = .ok (.iconst 0, 1) := by decide +kernel
theorem dX6_unpaid_2 : decode cX6_unpaid 2 = .ok (.putfield 66, 3) := by decide +kernel
theorem dX6_unpaid_5 : decode cX6_unpaid 5 = .ok (.aload_n 0, 1) := by decide +kernel
theorem dX6_unpaid_6 : decode cX6_unpaid 6 = .ok (.getfield 160, 3) := by decide +kernel
theorem dX6_unpaid_9 : decode cX6_unpaid 9 = .ok (.l2i, 1) := by decide +kernel
theorem dX6_unpaid_10 : decode cX6_unpaid 10 = .ok (.ireturn, 1) := by decide +kernel
theorem dJ9_abs_0f7a4_0 : decode cJ9_abs_0f7a4 0 = .ok (.iload_n 0, 1) := by decide +kernel
theorem dJ9_abs_0f7a4_1 : decode cJ9_abs_0f7a4 1 = .ok (.ifCond .ge 8, 3) := by decide +kernel
theorem dJ9_abs_0f7a4_4 : decode cJ9_abs_0f7a4 4 = .ok (.iload_n 0, 1) := by decide +kernel
theorem dJ9_abs_0f7a4_5 : decode cJ9_abs_0f7a4 5 = .ok (.ineg, 1) := by decide +kernel
theorem dJ9_abs_0f7a4_6 : decode cJ9_abs_0f7a4 6 = .ok (.goto 4, 3) := by decide +kernel
theorem dJ9_abs_0f7a4_9 : decode cJ9_abs_0f7a4 9 = .ok (.iload_n 0, 1) := by decide +kernel
theorem dJ9_abs_0f7a4_10 : decode cJ9_abs_0f7a4 10 = .ok (.ireturn, 1) := by decide +kernel
theorem dJ9_max_7cf53_0 : decode cJ9_max_7cf53 0 = .ok (.iload_n 0, 1) := by decide +kernel
theorem dJ9_max_7cf53_1 : decode cJ9_max_7cf53 1 = .ok (.iload_n 1, 1) := by decide +kernel
theorem dJ9_max_7cf53_2 : decode cJ9_max_7cf53 2 = .ok (.if_icmp .lt 7, 3) := by decide +kernel
theorem dJ9_max_7cf53_5 : decode cJ9_max_7cf53 5 = .ok (.iload_n 0, 1) := by decide +kernel
theorem dJ9_max_7cf53_6 : decode cJ9_max_7cf53 6 = .ok (.goto 4, 3) := by decide +kernel
theorem dJ9_max_7cf53_9 : decode cJ9_max_7cf53 9 = .ok (.iload_n 1, 1) := by decide +kernel
theorem dJ9_max_7cf53_10 : decode cJ9_max_7cf53 10 = .ok (.ireturn, 1) := by decide +kernel
theorem dJ9_max_f86c9_0 : decode cJ9_max_f86c9 0 = .ok (.lload_n 0, 1) := by decide +kernel
theorem dJ9_max_f86c9_1 : decode cJ9_max_f86c9 1 = .ok (.lload_n 2, 1) := by decide +kernel
theorem dJ9_max_f86c9_2 : decode cJ9_max_f86c9 2 = .ok (.lcmp, 1) := by decide +kernel
theorem dJ9_max_f86c9_3 : decode cJ9_max_f86c9 3 = .ok (.ifCond .lt 7, 3) := by decide +kernel
theorem dJ9_max_f86c9_6 : decode cJ9_max_f86c9 6 = .ok (.lload_n 0, 1) := by decide +kernel
theorem dJ9_max_f86c9_7 : decode cJ9_max_f86c9 7 = .ok (.goto 4, 3) := by decide +kernel
theorem dJ9_max_f86c9_10 : decode cJ9_max_f86c9 10 = .ok (.lload_n 2, 1) := by decide +kernel
theorem dJ9_max_f86c9_11 : decode cJ9_max_f86c9 11 = .ok (.lreturn, 1) := by decide +kernel
theorem dJ9_min_7cf53_0 : decode cJ9_min_7cf53 0 = .ok (.iload_n 0, 1) := by decide +kernel
theorem dJ9_min_7cf53_1 : decode cJ9_min_7cf53 1 = .ok (.iload_n 1, 1) := by decide +kernel
theorem dJ9_min_7cf53_2 : decode cJ9_min_7cf53 2 = .ok (.if_icmp .gt 7, 3) := by decide +kernel
theorem dJ9_min_7cf53_5 : decode cJ9_min_7cf53 5 = .ok (.iload_n 0, 1) := by decide +kernel
theorem dJ9_min_7cf53_6 : decode cJ9_min_7cf53 6 = .ok (.goto 4, 3) := by decide +kernel
theorem dJ9_min_7cf53_9 : decode cJ9_min_7cf53 9 = .ok (.iload_n 1, 1) := by decide +kernel
theorem dJ9_min_7cf53_10 : decode cJ9_min_7cf53 10 = .ok (.ireturn, 1) := by decide +kernel
theorem dJ9_min_f86c9_0 : decode cJ9_min_f86c9 0 = .ok (.lload_n 0, 1) := by decide +kernel
theorem dJ9_min_f86c9_1 : decode cJ9_min_f86c9 1 = .ok (.lload_n 2, 1) := by decide +kernel
theorem dJ9_min_f86c9_2 : decode cJ9_min_f86c9 2 = .ok (.lcmp, 1) := by decide +kernel
theorem dJ9_min_f86c9_3 : decode cJ9_min_f86c9 3 = .ok (.ifCond .gt 7, 3) := by decide +kernel
theorem dJ9_min_f86c9_6 : decode cJ9_min_f86c9 6 = .ok (.lload_n 0, 1) := by decide +kernel
theorem dJ9_min_f86c9_7 : decode cJ9_min_f86c9 7 = .ok (.goto 4, 3) := by decide +kernel
theorem dJ9_min_f86c9_10 : decode cJ9_min_f86c9 10 = .ok (.lload_n 2, 1) := by decide +kernel
theorem dJ9_min_f86c9_11 : decode cJ9_min_f86c9 11 = .ok (.lreturn, 1) := by decide +kernel
theorem dJxa1e45_init_da8c8_0 : decode cJxa1e45_init_da8c8 0 = .ok (.aload_n 0, 1) := by decide +kernel
theorem dJxa1e45_init_da8c8_1 : decode cJxa1e45_init_da8c8 1 = .ok (.invokespecial 1, 3) := by decide +kernel
theorem dJxa1e45_init_da8c8_4 : decode cJxa1e45_init_da8c8 4 = .ok (.return_, 1) := by decide +kernel
theorem dJxc12de_init_da8c8_0 : decode cJxc12de_init_da8c8 0 = .ok (.aload_n 0, 1) := by decide +kernel
theorem dJxc12de_init_da8c8_1 : decode cJxc12de_init_da8c8 1 = .ok (.invokespecial 1, 3) := by decide +kernel
theorem dJxc12de_init_da8c8_4 : decode cJxc12de_init_da8c8 4 = .ok (.aload_n 0, 1) := by decide +kernel
theorem dJxc12de_init_da8c8_5 : decode cJxc12de_init_da8c8 5 = .ok (.iconst 0, 1) := by decide +kernel
theorem dJxc12de_init_da8c8_6 : decode cJxc12de_init_da8c8 6 = .ok (.putfield 7, 3) := by decide +kernel
theorem dJxc12de_init_da8c8_9 : decode cJxc12de_init_da8c8 9 = .ok (.return_, 1) := by decide +kernel
theorem dJx4a65c_init_da8c8_0 : decode cJx4a65c_init_da8c8 0 = .ok (.aload_n 0, 1) := by decide +kernel
theorem dJx4a65c_init_da8c8_1 : decode cJx4a65c_init_da8c8 1 = .ok (.invokespecial 1, 3) := by decide +kernel
theorem dJx4a65c_init_da8c8_4 : decode cJx4a65c_init_da8c8 4 = .ok (.aload_n 0, 1) := by decide +kernel
theorem dJx4a65c_init_da8c8_5 : decode cJx4a65c_init_da8c8 5 = .ok (.getstatic 39, 3) := by decide +kernel
theorem dJx4a65c_init_da8c8_8 : decode cJx4a65c_init_da8c8 8 = .ok (.putfield 9, 3) := by decide +kernel
theorem dJx4a65c_init_da8c8_11 : decode cJx4a65c_init_da8c8 11 = .ok (.return_, 1) := by decide +kernel
theorem dJx4a65c_grow_92f84_0 : decode cJx4a65c_grow_92f84 0 = .ok (.aload_n 0, 1) := by decide +kernel
theorem dJx4a65c_grow_92f84_1 : decode cJx4a65c_grow_92f84 1 = .ok (.getfield 9, 3) := by decide +kernel
theorem dJx4a65c_grow_92f84_4 : decode cJx4a65c_grow_92f84 4 = .ok (.arraylength, 1) := by decide +kernel
theorem dJx4a65c_grow_92f84_5 : decode cJx4a65c_grow_92f84 5 = .ok (.istore_n 2, 1) := by decide +kernel
theorem dJx4a65c_grow_92f84_6 : decode cJx4a65c_grow_92f84 6 = .ok (.iload_n 2, 1) := by decide +kernel
theorem dJx4a65c_grow_92f84_7 : decode cJx4a65c_grow_92f84 7 = .ok (.ifCond .gt 13, 3) := by decide +kernel
theorem dJx4a65c_grow_92f84_10 : decode cJx4a65c_grow_92f84 10 = .ok (.aload_n 0, 1) := by decide +kernel
theorem dJx4a65c_grow_92f84_11 : decode cJx4a65c_grow_92f84 11 = .ok (.getfield 9, 3) := by decide +kernel
theorem dJx4a65c_grow_92f84_14 : decode cJx4a65c_grow_92f84 14 = .ok (.getstatic 39, 3) := by decide +kernel
theorem dJx4a65c_grow_92f84_17 : decode cJx4a65c_grow_92f84 17 = .ok (.if_acmp .eq 28, 3) := by decide +kernel
theorem dJx4a65c_grow_92f84_20 : decode cJx4a65c_grow_92f84 20 = .ok (.iload_n 2, 1) := by decide +kernel
theorem dJx4a65c_grow_92f84_21 : decode cJx4a65c_grow_92f84 21 = .ok (.iload_n 1, 1) := by decide +kernel
theorem dJx4a65c_grow_92f84_22 : decode cJx4a65c_grow_92f84 22 = .ok (.iload_n 2, 1) := by decide +kernel
theorem dJx4a65c_grow_92f84_23 : decode cJx4a65c_grow_92f84 23 = .ok (.isub, 1) := by decide +kernel
theorem dJx4a65c_grow_92f84_24 : decode cJx4a65c_grow_92f84 24 = .ok (.iload_n 2, 1) := by decide +kernel
theorem dJx4a65c_grow_92f84_25 : decode cJx4a65c_grow_92f84 25 = .ok (.iconst 1, 1) := by decide +kernel
theorem dJx4a65c_grow_92f84_26 : decode cJx4a65c_grow_92f84 26 = .ok (.ishr, 1) := by decide +kernel
theorem dJx4a65c_grow_92f84_27 : decode cJx4a65c_grow_92f84 27 = .ok (.invokestatic 73, 3) := by decide +kernel
theorem dJx4a65c_grow_92f84_30 : decode cJx4a65c_grow_92f84 30 = .ok (.istore_n 3, 1) := by decide +kernel
theorem dJx4a65c_grow_92f84_31 : decode cJx4a65c_grow_92f84 31 = .ok (.aload_n 0, 1) := by decide +kernel
theorem dJx4a65c_grow_92f84_32 : decode cJx4a65c_grow_92f84 32 = .ok (.aload_n 0, 1) := by decide +kernel
theorem dJx4a65c_grow_92f84_33 : decode cJx4a65c_grow_92f84 33 = .ok (.getfield 9, 3) := by decide +kernel
theorem dJx4a65c_grow_92f84_36 : decode cJx4a65c_grow_92f84 36 = .ok (.iload_n 3, 1) := by decide +kernel
theorem dJx4a65c_grow_92f84_37 : decode cJx4a65c_grow_92f84 37 = .ok (.invokestatic 66, 3) := by decide +kernel
theorem dJx4a65c_grow_92f84_40 : decode cJx4a65c_grow_92f84 40 = .ok (.dup_x1, 1) := by decide +kernel
theorem dJx4a65c_grow_92f84_41 : decode cJx4a65c_grow_92f84 41 = .ok (.putfield 9, 3) := by decide +kernel
theorem dJx4a65c_grow_92f84_44 : decode cJx4a65c_grow_92f84 44 = .ok (.areturn, 1) := by decide +kernel
theorem dJx4a65c_grow_92f84_45 : decode cJx4a65c_grow_92f84 45 = .ok (.aload_n 0, 1) := by decide +kernel
theorem dJx4a65c_grow_92f84_46 : decode cJx4a65c_grow_92f84 46 = .ok (.bipush 10, 2) := by decide +kernel
theorem dJx4a65c_grow_92f84_48 : decode cJx4a65c_grow_92f84 48 = .ok (.iload_n 1, 1) := by decide +kernel
theorem dJx4a65c_grow_92f84_49 : decode cJx4a65c_grow_92f84 49 = .ok (.invokestatic 79, 3) := by decide +kernel
theorem dJx4a65c_grow_92f84_52 : decode cJx4a65c_grow_92f84 52 = .ok (.anewarray 7, 3) := by decide +kernel
theorem dJx4a65c_grow_92f84_55 : decode cJx4a65c_grow_92f84 55 = .ok (.dup_x1, 1) := by decide +kernel
theorem dJx4a65c_grow_92f84_56 : decode cJx4a65c_grow_92f84 56 = .ok (.putfield 9, 3) := by decide +kernel
theorem dJx4a65c_grow_92f84_59 : decode cJx4a65c_grow_92f84 59 = .ok (.areturn, 1) := by decide +kernel
theorem dJx4a65c_grow_d5877_0 : decode cJx4a65c_grow_d5877 0 = .ok (.aload_n 0, 1) := by decide +kernel
theorem dJx4a65c_grow_d5877_1 : decode cJx4a65c_grow_d5877 1 = .ok (.aload_n 0, 1) := by decide +kernel
theorem dJx4a65c_grow_d5877_2 : decode cJx4a65c_grow_d5877 2 = .ok (.getfield 48, 3) := by decide +kernel
theorem dJx4a65c_grow_d5877_5 : decode cJx4a65c_grow_d5877 5 = .ok (.iconst 1, 1) := by decide +kernel
theorem dJx4a65c_grow_d5877_6 : decode cJx4a65c_grow_d5877 6 = .ok (.iadd, 1) := by decide +kernel
theorem dJx4a65c_grow_d5877_7 : decode cJx4a65c_grow_d5877 7 = .ok (.invokevirtual 69, 3) := by decide +kernel
theorem dJx4a65c_grow_d5877_10 : decode cJx4a65c_grow_d5877 10 = .ok (.areturn, 1) := by decide +kernel
theorem dJx4a65c_size_8abf5_0 : decode cJx4a65c_size_8abf5 0 = .ok (.aload_n 0, 1) := by decide +kernel
theorem dJx4a65c_size_8abf5_1 : decode cJx4a65c_size_8abf5 1 = .ok (.getfield 48, 3) := by decide +kernel
theorem dJx4a65c_size_8abf5_4 : decode cJx4a65c_size_8abf5 4 = .ok (.ireturn, 1) := by decide +kernel
theorem dJx4a65c_elementData_915e3_0 : decode cJx4a65c_elementData_915e3 0 = .ok (.aload_n 0, 1) := by decide +kernel
theorem dJx4a65c_elementData_915e3_1 : decode cJx4a65c_elementData_915e3 1 = .ok (.getfield 9, 3) := by decide +kernel
theorem dJx4a65c_elementData_915e3_4 : decode cJx4a65c_elementData_915e3 4 = .ok (.iload_n 1, 1) := by decide +kernel
theorem dJx4a65c_elementData_915e3_5 : decode cJx4a65c_elementData_915e3 5 = .ok (.aaload, 1) := by decide +kernel
theorem dJx4a65c_elementData_915e3_6 : decode cJx4a65c_elementData_915e3 6 = .ok (.areturn, 1) := by decide +kernel
theorem dJx4a65c_get_915e3_0 : decode cJx4a65c_get_915e3 0 = .ok (.iload_n 1, 1) := by decide +kernel
theorem dJx4a65c_get_915e3_1 : decode cJx4a65c_get_915e3 1 = .ok (.aload_n 0, 1) := by decide +kernel
theorem dJx4a65c_get_915e3_2 : decode cJx4a65c_get_915e3 2 = .ok (.getfield 48, 3) := by decide +kernel
theorem dJx4a65c_get_915e3_5 : decode cJx4a65c_get_915e3 5 = .ok (.invokestatic 118, 3) := by decide +kernel
theorem dJx4a65c_get_915e3_8 : decode cJx4a65c_get_915e3 8 = .ok (.pop, 1) := by decide +kernel
theorem dJx4a65c_get_915e3_9 : decode cJx4a65c_get_915e3 9 = .ok (.aload_n 0, 1) := by decide +kernel
theorem dJx4a65c_get_915e3_10 : decode cJx4a65c_get_915e3 10 = .ok (.iload_n 1, 1) := by decide +kernel
theorem dJx4a65c_get_915e3_11 : decode cJx4a65c_get_915e3 11 = .ok (.invokevirtual 123, 3) := by decide +kernel
theorem dJx4a65c_get_915e3_14 : decode cJx4a65c_get_915e3 14 = .ok (.areturn, 1) := by decide +kernel
theorem dJx4a65c_add_72be8_0 : decode cJx4a65c_add_72be8 0 = .ok (.iload_n 3, 1) := by decide +kernel
theorem dJx4a65c_add_72be8_1 : decode cJx4a65c_add_72be8 1 = .ok (.aload_n 2, 1) := by decide +kernel
theorem dJx4a65c_add_72be8_2 : decode cJx4a65c_add_72be8 2 = .ok (.arraylength, 1) := by decide +kernel
theorem dJx4a65c_add_72be8_3 : decode cJx4a65c_add_72be8 3 = .ok (.if_icmp .ne 8, 3) := by decide +kernel
theorem dJx4a65c_add_72be8_6 : decode cJx4a65c_add_72be8 6 = .ok (.aload_n 0, 1) := by decide +kernel
theorem dJx4a65c_add_72be8_7 : decode cJx4a65c_add_72be8 7 = .ok (.invokevirtual 129, 3) := by decide +kernel
theorem dJx4a65c_add_72be8_10 : decode cJx4a65c_add_72be8 10 = .ok (.astore_n 2, 1) := by decide +kernel
theorem dJx4a65c_add_72be8_11 : decode cJx4a65c_add_72be8 11 = .ok (.aload_n 2, 1) := by decide +kernel
theorem dJx4a65c_add_72be8_12 : decode cJx4a65c_add_72be8 12 = .ok (.iload_n 3, 1) := by decide +kernel
theorem dJx4a65c_add_72be8_13 : decode cJx4a65c_add_72be8 13 = .ok (.aload_n 1, 1) := by decide +kernel
theorem dJx4a65c_add_72be8_14 : decode cJx4a65c_add_72be8 14 = .ok (.aastore, 1) := by decide +kernel
theorem dJx4a65c_add_72be8_15 : decode cJx4a65c_add_72be8 15 = .ok (.aload_n 0, 1) := by decide +kernel
theorem dJx4a65c_add_72be8_16 : decode cJx4a65c_add_72be8 16 = .ok (.iload_n 3, 1) := by decide +kernel
theorem dJx4a65c_add_72be8_17 : decode cJx4a65c_add_72be8 17 = .ok (.iconst 1, 1) := by decide +kernel
theorem dJx4a65c_add_72be8_18 : decode cJx4a65c_add_72be8 18 = .ok (.iadd, 1) := by decide +kernel
theorem dJx4a65c_add_72be8_19 : decode cJx4a65c_add_72be8 19 = .ok (.putfield 48, 3) := by decide +kernel
theorem dJx4a65c_add_72be8_22 : decode cJx4a65c_add_72be8 22 = .ok (.return_, 1) := by decide +kernel
theorem dJx4a65c_add_9ea2d_0 : decode cJx4a65c_add_9ea2d 0 = .ok (.aload_n 0, 1) := by decide +kernel
theorem dJx4a65c_add_9ea2d_1 : decode cJx4a65c_add_9ea2d 1 = .ok (.dup, 1) := by decide +kernel
theorem dJx4a65c_add_9ea2d_2 : decode cJx4a65c_add_9ea2d 2 = .ok (.getfield 63, 3) := by decide +kernel
theorem dJx4a65c_add_9ea2d_5 : decode cJx4a65c_add_9ea2d 5 = .ok (.iconst 1, 1) := by decide +kernel
theorem dJx4a65c_add_9ea2d_6 : decode cJx4a65c_add_9ea2d 6 = .ok (.iadd, 1) := by decide +kernel
theorem dJx4a65c_add_9ea2d_7 : decode cJx4a65c_add_9ea2d 7 = .ok (.putfield 63, 3) := by decide +kernel
theorem dJx4a65c_add_9ea2d_10 : decode cJx4a65c_add_9ea2d 10 = .ok (.aload_n 0, 1) := by decide +kernel
theorem dJx4a65c_add_9ea2d_11 : decode cJx4a65c_add_9ea2d 11 = .ok (.aload_n 1, 1) := by decide +kernel
theorem dJx4a65c_add_9ea2d_12 : decode cJx4a65c_add_9ea2d 12 = .ok (.aload_n 0, 1) := by decide +kernel
theorem dJx4a65c_add_9ea2d_13 : decode cJx4a65c_add_9ea2d 13 = .ok (.getfield 9, 3) := by decide +kernel
theorem dJx4a65c_add_9ea2d_16 : decode cJx4a65c_add_9ea2d 16 = .ok (.aload_n 0, 1) := by decide +kernel
theorem dJx4a65c_add_9ea2d_17 : decode cJx4a65c_add_9ea2d 17 = .ok (.getfield 48, 3) := by decide +kernel
theorem dJx4a65c_add_9ea2d_20 : decode cJx4a65c_add_9ea2d 20 = .ok (.invokevirtual 131, 3) := by decide +kernel
theorem dJx4a65c_add_9ea2d_23 : decode cJx4a65c_add_9ea2d 23 = .ok (.iconst 1, 1) := by decide +kernel
theorem dJx4a65c_add_9ea2d_24 : decode cJx4a65c_add_9ea2d 24 = .ok (.ireturn, 1) := by decide +kernel
theorem dJ7_copyOf_1904c_0 : decode cJ7_copyOf_1904c 0 = .ok (.aload_n 0, 1) := by decide +kernel
theorem dJ7_copyOf_1904c_1 : decode cJ7_copyOf_1904c 1 = .ok (.iload_n 1, 1) := by decide +kernel
theorem dJ7_copyOf_1904c_2 : decode cJ7_copyOf_1904c 2 = .ok (.aload_n 0, 1) := by decide +kernel
theorem dJ7_copyOf_1904c_3 : decode cJ7_copyOf_1904c 3 = .ok (.invokevirtual 86, 3) := by decide +kernel
theorem dJ7_copyOf_1904c_6 : decode cJ7_copyOf_1904c 6 = .ok (.invokestatic 300, 3) := by decide +kernel
theorem dJ7_copyOf_1904c_9 : decode cJ7_copyOf_1904c 9 = .ok (.areturn, 1) := by decide +kernel
theorem dJ7_copyOf_6403c_0 : decode cJ7_copyOf_6403c 0 = .ok (.aload_n 2, 1) := by decide +kernel
theorem dJ7_copyOf_6403c_1 : decode cJ7_copyOf_6403c 1 = .ok (.ldc 110, 2) := by decide +kernel
theorem dJ7_copyOf_6403c_3 : decode cJ7_copyOf_6403c 3 = .ok (.if_acmp .ne 10, 3) := by decide +kernel
theorem dJ7_copyOf_6403c_6 : decode cJ7_copyOf_6403c 6 = .ok (.iload_n 1, 1) := by decide +kernel
theorem dJ7_copyOf_6403c_7 : decode cJ7_copyOf_6403c 7 = .ok (.anewarray 2, 3) := by decide +kernel
theorem dJ7_copyOf_6403c_10 : decode cJ7_copyOf_6403c 10 = .ok (.goto 14, 3) := by decide +kernel
theorem dJ7_copyOf_6403c_13 : decode cJ7_copyOf_6403c 13 = .ok (.aload_n 2, 1) := by decide +kernel
theorem dJ7_copyOf_6403c_14 : decode cJ7_copyOf_6403c 14 = .ok (.invokevirtual 90, 3) := by decide +kernel
theorem dJ7_copyOf_6403c_17 : decode cJ7_copyOf_6403c 17 = .ok (.iload_n 1, 1) := by decide +kernel
theorem dJ7_copyOf_6403c_18 : decode cJ7_copyOf_6403c 18 = .ok (.invokestatic 95, 3) := by decide +kernel
theorem dJ7_copyOf_6403c_21 : decode cJ7_copyOf_6403c 21 = .ok (.checkcast 110, 3) := by decide +kernel
theorem dJ7_copyOf_6403c_24 : decode cJ7_copyOf_6403c 24 = .ok (.astore_n 3, 1) := by decide +kernel
theorem dJ7_copyOf_6403c_25 : decode cJ7_copyOf_6403c 25 = .ok (.aload_n 0, 1) := by decide +kernel
theorem dJ7_copyOf_6403c_26 : decode cJ7_copyOf_6403c 26 = .ok (.iconst 0, 1) := by decide +kernel
theorem dJ7_copyOf_6403c_27 : decode cJ7_copyOf_6403c 27 = .ok (.aload_n 3, 1) := by decide +kernel
theorem dJ7_copyOf_6403c_28 : decode cJ7_copyOf_6403c 28 = .ok (.iconst 0, 1) := by decide +kernel
theorem dJ7_copyOf_6403c_29 : decode cJ7_copyOf_6403c 29 = .ok (.aload_n 0, 1) := by decide +kernel
theorem dJ7_copyOf_6403c_30 : decode cJ7_copyOf_6403c 30 = .ok (.arraylength, 1) := by decide +kernel
theorem dJ7_copyOf_6403c_31 : decode cJ7_copyOf_6403c 31 = .ok (.iload_n 1, 1) := by decide +kernel
theorem dJ7_copyOf_6403c_32 : decode cJ7_copyOf_6403c 32 = .ok (.invokestatic 304, 3) := by decide +kernel
theorem dJ7_copyOf_6403c_35 : decode cJ7_copyOf_6403c 35 = .ok (.invokestatic 150, 3) := by decide +kernel
theorem dJ7_copyOf_6403c_38 : decode cJ7_copyOf_6403c 38 = .ok (.aload_n 3, 1) := by decide +kernel
theorem dJ7_copyOf_6403c_39 : decode cJ7_copyOf_6403c 39 = .ok (.areturn, 1) := by decide +kernel
theorem dJ15_checkIndex_7cf53_0 : decode cJ15_checkIndex_7cf53 0 = .ok (.iload_n 0, 1) := by decide +kernel
theorem dJ15_checkIndex_7cf53_1 : decode cJ15_checkIndex_7cf53 1 = .ok (.iload_n 1, 1) := by decide +kernel
theorem dJ15_checkIndex_7cf53_2 : decode cJ15_checkIndex_7cf53 2 = .ok (.aconst_null, 1) := by decide +kernel
theorem dJ15_checkIndex_7cf53_3 : decode cJ15_checkIndex_7cf53 3 = .ok (.invokestatic 105, 3) := by decide +kernel
theorem dJ15_checkIndex_7cf53_6 : decode cJ15_checkIndex_7cf53 6 = .ok (.ireturn, 1) := by decide +kernel
theorem dJ8_newLength_cabcc_0 : decode cJ8_newLength_cabcc 0 = .ok (.iload_n 0, 1) := by decide +kernel
theorem dJ8_newLength_cabcc_1 : decode cJ8_newLength_cabcc 1 = .ok (.iload_n 1, 1) := by decide +kernel
theorem dJ8_newLength_cabcc_2 : decode cJ8_newLength_cabcc 2 = .ok (.iload_n 2, 1) := by decide +kernel
theorem dJ8_newLength_cabcc_3 : decode cJ8_newLength_cabcc 3 = .ok (.invokestatic 194, 3) := by decide +kernel
theorem dJ8_newLength_cabcc_6 : decode cJ8_newLength_cabcc 6 = .ok (.iadd, 1) := by decide +kernel
theorem dJ8_newLength_cabcc_7 : decode cJ8_newLength_cabcc 7 = .ok (.istore_n 3, 1) := by decide +kernel
theorem dJ8_newLength_cabcc_8 : decode cJ8_newLength_cabcc 8 = .ok (.iconst 0, 1) := by decide +kernel
theorem dJ8_newLength_cabcc_9 : decode cJ8_newLength_cabcc 9 = .ok (.iload_n 3, 1) := by decide +kernel
theorem dJ8_newLength_cabcc_10 : decode cJ8_newLength_cabcc 10 = .ok (.if_icmp .ge 11, 3) := by decide +kernel
theorem dJ8_newLength_cabcc_13 : decode cJ8_newLength_cabcc 13 = .ok (.iload_n 3, 1) := by decide +kernel
theorem dJ8_newLength_cabcc_14 : decode cJ8_newLength_cabcc 14 = .ok (.ldc 200, 2) := by decide +kernel
theorem dJ8_newLength_cabcc_16 : decode cJ8_newLength_cabcc 16 = .ok (.if_icmp .gt 5, 3) := by decide +kernel
theorem dJ8_newLength_cabcc_19 : decode cJ8_newLength_cabcc 19 = .ok (.iload_n 3, 1) := by decide +kernel
theorem dJ8_newLength_cabcc_20 : decode cJ8_newLength_cabcc 20 = .ok (.ireturn, 1) := by decide +kernel
theorem dJ8_newLength_cabcc_21 : decode cJ8_newLength_cabcc 21 = .ok (.iload_n 0, 1) := by decide +kernel
theorem dJ8_newLength_cabcc_22 : decode cJ8_newLength_cabcc 22 = .ok (.iload_n 1, 1) := by decide +kernel
theorem dJ8_newLength_cabcc_23 : decode cJ8_newLength_cabcc 23 = .ok (.invokestatic 201, 3) := by decide +kernel
theorem dJ8_newLength_cabcc_26 : decode cJ8_newLength_cabcc 26 = .ok (.ireturn, 1) := by decide +kernel
theorem dJ8_hugeLength_7cf53_0 : decode cJ8_hugeLength_7cf53 0 = .ok (.iload_n 0, 1) := by decide +kernel
theorem dJ8_hugeLength_7cf53_1 : decode cJ8_hugeLength_7cf53 1 = .ok (.iload_n 1, 1) := by decide +kernel
theorem dJ8_hugeLength_7cf53_2 : decode cJ8_hugeLength_7cf53 2 = .ok (.iadd, 1) := by decide +kernel
theorem dJ8_hugeLength_7cf53_3 : decode cJ8_hugeLength_7cf53 3 = .ok (.istore_n 2, 1) := by decide +kernel
theorem dJ8_hugeLength_7cf53_4 : decode cJ8_hugeLength_7cf53 4 = .ok (.iload_n 2, 1) := by decide +kernel
theorem dJ8_hugeLength_7cf53_5 : decode cJ8_hugeLength_7cf53 5 = .ok (.ifCond .ge 44, 3) := by decide +kernel
theorem dJ8_hugeLength_7cf53_8 : decode cJ8_hugeLength_7cf53 8 = .ok (.new 204, 3) := by decide +kernel
theorem dJ8_hugeLength_7cf53_11 : decode cJ8_hugeLength_7cf53 11 = .ok (.dup, 1) := by decide +kernel
theorem dJ8_hugeLength_7cf53_12 : decode cJ8_hugeLength_7cf53 12 = .ok (.new 89, 3) := by decide +kernel
theorem dJ8_hugeLength_7cf53_15 : decode cJ8_hugeLength_7cf53 15 = .ok (.dup, 1) := by decide +kernel
theorem dJ8_hugeLength_7cf53_16 : decode cJ8_hugeLength_7cf53 16 = .ok (.invokespecial 91, 3) := by decide +kernel
theorem dJ8_hugeLength_7cf53_19 : decode cJ8_hugeLength_7cf53 19 = .ok (.ldc 206, 2) := by decide +kernel
theorem dJ8_hugeLength_7cf53_21 : decode cJ8_hugeLength_7cf53 21 = .ok (.invokevirtual 94, 3) := by decide +kernel
theorem dJ8_hugeLength_7cf53_24 : decode cJ8_hugeLength_7cf53 24 = .ok (.iload_n 0, 1) := by decide +kernel
theorem dJ8_hugeLength_7cf53_25 : decode cJ8_hugeLength_7cf53 25 = .ok (.invokevirtual 98, 3) := by decide +kernel
theorem dJ8_hugeLength_7cf53_28 : decode cJ8_hugeLength_7cf53 28 = .ok (.ldc 208, 2) := by decide +kernel
theorem dJ8_hugeLength_7cf53_30 : decode cJ8_hugeLength_7cf53 30 = .ok (.invokevirtual 94, 3) := by decide +kernel
theorem dJ8_hugeLength_7cf53_33 : decode cJ8_hugeLength_7cf53 33 = .ok (.iload_n 1, 1) := by decide +kernel
theorem dJ8_hugeLength_7cf53_34 : decode cJ8_hugeLength_7cf53 34 = .ok (.invokevirtual 98, 3) := by decide +kernel
theorem dJ8_hugeLength_7cf53_37 : decode cJ8_hugeLength_7cf53 37 = .ok (.ldc 210, 2) := by decide +kernel
theorem dJ8_hugeLength_7cf53_39 : decode cJ8_hugeLength_7cf53 39 = .ok (.invokevirtual 94, 3) := by decide +kernel
theorem dJ8_hugeLength_7cf53_42 : decode cJ8_hugeLength_7cf53 42 = .ok (.invokevirtual 101, 3) := by decide +kernel
theorem dJ8_hugeLength_7cf53_45 : decode cJ8_hugeLength_7cf53 45 = .ok (.invokespecial 212, 3) := by decide +kernel
theorem dJ8_hugeLength_7cf53_48 : decode cJ8_hugeLength_7cf53 48 = .ok (.athrow, 1) := by decide +kernel
theorem dJ8_hugeLength_7cf53_49 : decode cJ8_hugeLength_7cf53 49 = .ok (.iload_n 2, 1) := by decide +kernel
theorem dJ8_hugeLength_7cf53_50 : decode cJ8_hugeLength_7cf53 50 = .ok (.ldc 200, 2) := by decide +kernel
theorem dJ8_hugeLength_7cf53_52 : decode cJ8_hugeLength_7cf53 52 = .ok (.if_icmp .gt 6, 3) := by decide +kernel
theorem dJ8_hugeLength_7cf53_55 : decode cJ8_hugeLength_7cf53 55 = .ok (.ldc 200, 2) := by decide +kernel
theorem dJ8_hugeLength_7cf53_57 : decode cJ8_hugeLength_7cf53 57 = .ok (.ireturn, 1) := by decide +kernel
theorem dJ8_hugeLength_7cf53_58 : decode cJ8_hugeLength_7cf53 58 = .ok (.iload_n 2, 1) := by decide +kernel
theorem dJ8_hugeLength_7cf53_59 : decode cJ8_hugeLength_7cf53 59 = .ok (.ireturn, 1) := by decide +kernel
theorem dJ3_checkIndex_8e157_0 : decode cJ3_checkIndex_8e157 0 = .ok (.iload_n 0, 1) := by decide +kernel
theorem dJ3_checkIndex_8e157_1 : decode cJ3_checkIndex_8e157 1 = .ok (.ifCond .lt 8, 3) := by decide +kernel
theorem dJ3_checkIndex_8e157_4 : decode cJ3_checkIndex_8e157 4 = .ok (.iload_n 0, 1) := by decide +kernel
theorem dJ3_checkIndex_8e157_5 : decode cJ3_checkIndex_8e157 5 = .ok (.iload_n 1, 1) := by decide +kernel
theorem dJ3_checkIndex_8e157_6 : decode cJ3_checkIndex_8e157 6 = .ok (.if_icmp .lt 10, 3) := by decide +kernel
theorem dJ3_checkIndex_8e157_9 : decode cJ3_checkIndex_8e157 9 = .ok (.aload_n 2, 1) := by decide +kernel
theorem dJ3_checkIndex_8e157_10 : decode cJ3_checkIndex_8e157 10 = .ok (.iload_n 0, 1) := by decide +kernel
theorem dJ3_checkIndex_8e157_11 : decode cJ3_checkIndex_8e157 11 = .ok (.iload_n 1, 1) := by decide +kernel
theorem dJ3_checkIndex_8e157_12 : decode cJ3_checkIndex_8e157 12 = .ok (.invokestatic 95, 3) := by decide +kernel
theorem dJ3_checkIndex_8e157_15 : decode cJ3_checkIndex_8e157 15 = .ok (.athrow, 1) := by decide +kernel
theorem dJ3_checkIndex_8e157_16 : decode cJ3_checkIndex_8e157 16 = .ok (.iload_n 0, 1) := by decide +kernel
theorem dJ3_checkIndex_8e157_17 : decode cJ3_checkIndex_8e157 17 = .ok (.ireturn, 1) := by decide +kernel
theorem dL_tell_0 : decode cL_tell 0 = .ok (.aload_n 3, 1) := by decide +kernel
theorem dL_tell_1 : decode cL_tell 1 = .ok (.iconst 0, 1) := by decide +kernel
theorem dL_tell_2 : decode cL_tell 2 = .ok (.aload_n 0, 1) := by decide +kernel
theorem dL_tell_3 : decode cL_tell 3 = .ok (.iload_n 1, 1) := by decide +kernel
theorem dL_tell_4 : decode cL_tell 4 = .ok (.iload_n 2, 1) := by decide +kernel
theorem dL_tell_5 : decode cL_tell 5 = .ok (.invokevirtual 7, 3) := by decide +kernel
theorem dL_tell_8 : decode cL_tell 8 = .ok (.i2l, 1) := by decide +kernel
theorem dL_tell_9 : decode cL_tell 9 = .ok (.lastore, 1) := by decide +kernel
theorem dL_tell_10 : decode cL_tell 10 = .ok (.goto 7, 3) := by decide +kernel
theorem dL_tell_13 : decode cL_tell 13 = .ok (.astore 4, 2) := by decide +kernel
theorem dL_tell_15 : decode cL_tell 15 = .ok (.iconst 1, 1) := by decide +kernel
theorem dL_tell_16 : decode cL_tell 16 = .ok (.ireturn, 1) := by decide +kernel
theorem dL_tell_17 : decode cL_tell 17 = .ok (.iconst 0, 1) := by decide +kernel
theorem dL_tell_18 : decode cL_tell 18 = .ok (.ireturn, 1) := by decide +kernel
theorem dL_setMove_0 : decode cL_setMove 0 = .ok (.aload 4, 2) := by decide +kernel
theorem dL_setMove_2 : decode cL_setMove 2 = .ok (.iconst 0, 1) := by decide +kernel
theorem dL_setMove_3 : decode cL_setMove 3 = .ok (.aload_n 0, 1) := by decide +kernel
theorem dL_setMove_4 : decode cL_setMove 4 = .ok (.iload_n 1, 1) := by decide +kernel
theorem dL_setMove_5 : decode cL_setMove 5 = .ok (.iload_n 2, 1) := by decide +kernel
theorem dL_setMove_6 : decode cL_setMove 6 = .ok (.iload_n 3, 1) := by decide +kernel
theorem dL_setMove_7 : decode cL_setMove 7 = .ok (.invokevirtual 15, 3) := by decide +kernel
theorem dL_setMove_10 : decode cL_setMove 10 = .ok (.i2l, 1) := by decide +kernel
theorem dL_setMove_11 : decode cL_setMove 11 = .ok (.lastore, 1) := by decide +kernel
theorem dL_setMove_12 : decode cL_setMove 12 = .ok (.goto 7, 3) := by decide +kernel
theorem dL_setMove_15 : decode cL_setMove 15 = .ok (.astore 5, 2) := by decide +kernel
theorem dL_setMove_17 : decode cL_setMove 17 = .ok (.iconst 1, 1) := by decide +kernel
theorem dL_setMove_18 : decode cL_setMove 18 = .ok (.ireturn, 1) := by decide +kernel
theorem dL_setMove_19 : decode cL_setMove 19 = .ok (.iconst 0, 1) := by decide +kernel
theorem dL_setMove_20 : decode cL_setMove 20 = .ok (.ireturn, 1) := by decide +kernel
theorem dL_tellKind_0 : decode cL_tellKind 0 = .ok (.aload_n 3, 1) := by decide +kernel
theorem dL_tellKind_1 : decode cL_tellKind 1 = .ok (.iconst 0, 1) := by decide +kernel
theorem dL_tellKind_2 : decode cL_tellKind 2 = .ok (.aload_n 0, 1) := by decide +kernel
theorem dL_tellKind_3 : decode cL_tellKind 3 = .ok (.iload_n 1, 1) := by decide +kernel
theorem dL_tellKind_4 : decode cL_tellKind 4 = .ok (.iload_n 2, 1) := by decide +kernel
theorem dL_tellKind_5 : decode cL_tellKind 5 = .ok (.invokevirtual 19, 3) := by decide +kernel
theorem dL_tellKind_8 : decode cL_tellKind 8 = .ok (.i2l, 1) := by decide +kernel
theorem dL_tellKind_9 : decode cL_tellKind 9 = .ok (.lastore, 1) := by decide +kernel
theorem dL_tellKind_10 : decode cL_tellKind 10 = .ok (.goto 7, 3) := by decide +kernel
theorem dL_tellKind_13 : decode cL_tellKind 13 = .ok (.astore 4, 2) := by decide +kernel
theorem dL_tellKind_15 : decode cL_tellKind 15 = .ok (.iconst 1, 1) := by decide +kernel
theorem dL_tellKind_16 : decode cL_tellKind 16 = .ok (.ireturn, 1) := by decide +kernel
theorem dL_tellKind_17 : decode cL_tellKind 17 = .ok (.iconst 0, 1) := by decide +kernel
theorem dL_tellKind_18 : decode cL_tellKind 18 = .ok (.ireturn, 1) := by decide +kernel
theorem dL_pay_0 : decode cL_pay 0 = .ok (.aload_n 3, 1) := by decide +kernel
theorem dL_pay_1 : decode cL_pay 1 = .ok (.iconst 0, 1) := by decide +kernel
theorem dL_pay_2 : decode cL_pay 2 = .ok (.aload_n 0, 1) := by decide +kernel
theorem dL_pay_3 : decode cL_pay 3 = .ok (.iload_n 1, 1) := by decide +kernel
theorem dL_pay_4 : decode cL_pay 4 = .ok (.iload_n 2, 1) := by decide +kernel
theorem dL_pay_5 : decode cL_pay 5 = .ok (.invokevirtual 22, 3) := by decide +kernel
theorem dL_pay_8 : decode cL_pay 8 = .ok (.i2l, 1) := by decide +kernel
theorem dL_pay_9 : decode cL_pay 9 = .ok (.lastore, 1) := by decide +kernel
theorem dL_pay_10 : decode cL_pay 10 = .ok (.goto 11, 3) := by decide +kernel
theorem dL_pay_13 : decode cL_pay 13 = .ok (.astore 4, 2) := by decide +kernel
theorem dL_pay_15 : decode cL_pay 15 = .ok (.iconst 1, 1) := by decide +kernel
theorem dL_pay_16 : decode cL_pay 16 = .ok (.ireturn, 1) := by decide +kernel
theorem dL_pay_17 : decode cL_pay 17 = .ok (.astore 4, 2) := by decide +kernel
theorem dL_pay_19 : decode cL_pay 19 = .ok (.iconst 2, 1) := by decide +kernel
theorem dL_pay_20 : decode cL_pay 20 = .ok (.ireturn, 1) := by decide +kernel
theorem dL_pay_21 : decode cL_pay 21 = .ok (.iconst 0, 1) := by decide +kernel
theorem dL_pay_22 : decode cL_pay 22 = .ok (.ireturn, 1) := by decide +kernel
theorem dL_bring_0 : decode cL_bring 0 = .ok (.aload 4, 2) := by decide +kernel
theorem dL_bring_2 : decode cL_bring 2 = .ok (.iconst 0, 1) := by decide +kernel
theorem dL_bring_3 : decode cL_bring 3 = .ok (.aload_n 0, 1) := by decide +kernel
theorem dL_bring_4 : decode cL_bring 4 = .ok (.iload_n 1, 1) := by decide +kernel
theorem dL_bring_5 : decode cL_bring 5 = .ok (.iload_n 2, 1) := by decide +kernel
theorem dL_bring_6 : decode cL_bring 6 = .ok (.iload_n 3, 1) := by decide +kernel
theorem dL_bring_7 : decode cL_bring 7 = .ok (.invokevirtual 27, 3) := by decide +kernel
theorem dL_bring_10 : decode cL_bring 10 = .ok (.i2l, 1) := by decide +kernel
theorem dL_bring_11 : decode cL_bring 11 = .ok (.lastore, 1) := by decide +kernel
theorem dL_bring_12 : decode cL_bring 12 = .ok (.goto 11, 3) := by decide +kernel
theorem dL_bring_15 : decode cL_bring 15 = .ok (.astore 5, 2) := by decide +kernel
theorem dL_bring_17 : decode cL_bring 17 = .ok (.iconst 1, 1) := by decide +kernel
theorem dL_bring_18 : decode cL_bring 18 = .ok (.ireturn, 1) := by decide +kernel
theorem dL_bring_19 : decode cL_bring 19 = .ok (.astore 5, 2) := by decide +kernel
theorem dL_bring_21 : decode cL_bring 21 = .ok (.iconst 2, 1) := by decide +kernel
theorem dL_bring_22 : decode cL_bring 22 = .ok (.ireturn, 1) := by decide +kernel
theorem dL_bring_23 : decode cL_bring 23 = .ok (.iconst 0, 1) := by decide +kernel
theorem dL_bring_24 : decode cL_bring 24 = .ok (.ireturn, 1) := by decide +kernel
theorem dL_contribute_0 : decode cL_contribute 0 = .ok (.aload_n 3, 1) := by decide +kernel
theorem dL_contribute_1 : decode cL_contribute 1 = .ok (.iconst 0, 1) := by decide +kernel
theorem dL_contribute_2 : decode cL_contribute 2 = .ok (.aload_n 0, 1) := by decide +kernel
theorem dL_contribute_3 : decode cL_contribute 3 = .ok (.iload_n 1, 1) := by decide +kernel
theorem dL_contribute_4 : decode cL_contribute 4 = .ok (.iload_n 2, 1) := by decide +kernel
theorem dL_contribute_5 : decode cL_contribute 5 = .ok (.invokevirtual 30, 3) := by decide +kernel
theorem dL_contribute_8 : decode cL_contribute 8 = .ok (.i2l, 1) := by decide +kernel
theorem dL_contribute_9 : decode cL_contribute 9 = .ok (.lastore, 1) := by decide +kernel
theorem dL_contribute_10 : decode cL_contribute 10 = .ok (.goto 11, 3) := by decide +kernel
theorem dL_contribute_13 : decode cL_contribute 13 = .ok (.astore 4, 2) := by decide +kernel
theorem dL_contribute_15 : decode cL_contribute 15 = .ok (.iconst 1, 1) := by decide +kernel
theorem dL_contribute_16 : decode cL_contribute 16 = .ok (.ireturn, 1) := by decide +kernel
theorem dL_contribute_17 : decode cL_contribute 17 = .ok (.astore 4, 2) := by decide +kernel
theorem dL_contribute_19 : decode cL_contribute 19 = .ok (.iconst 2, 1) := by decide +kernel
theorem dL_contribute_20 : decode cL_contribute 20 = .ok (.ireturn, 1) := by decide +kernel
theorem dL_contribute_21 : decode cL_contribute 21 = .ok (.iconst 0, 1) := by decide +kernel
theorem dL_contribute_22 : decode cL_contribute 22 = .ok (.ireturn, 1) := by decide +kernel
theorem dL_place_0 : decode cL_place 0 = .ok (.aload 6, 2) := by decide +kernel
theorem dL_place_2 : decode cL_place 2 = .ok (.iconst 0, 1) := by decide +kernel
theorem dL_place_3 : decode cL_place 3 = .ok (.aload_n 0, 1) := by decide +kernel
theorem dL_place_4 : decode cL_place 4 = .ok (.iload_n 1, 1) := by decide +kernel
theorem dL_place_5 : decode cL_place 5 = .ok (.iload_n 2, 1) := by decide +kernel
theorem dL_place_6 : decode cL_place 6 = .ok (.iload_n 3, 1) := by decide +kernel
theorem dL_place_7 : decode cL_place 7 = .ok (.iload 4, 2) := by decide +kernel
theorem dL_place_9 : decode cL_place 9 = .ok (.iload 5, 2) := by decide +kernel
theorem dL_place_11 : decode cL_place 11 = .ok (.invokevirtual 33, 3) := by decide +kernel
theorem dL_place_14 : decode cL_place 14 = .ok (.i2l, 1) := by decide +kernel
theorem dL_place_15 : decode cL_place 15 = .ok (.lastore, 1) := by decide +kernel
theorem dL_place_16 : decode cL_place 16 = .ok (.goto 11, 3) := by decide +kernel
theorem dL_place_19 : decode cL_place 19 = .ok (.astore 7, 2) := by decide +kernel
theorem dL_place_21 : decode cL_place 21 = .ok (.iconst 1, 1) := by decide +kernel
theorem dL_place_22 : decode cL_place 22 = .ok (.ireturn, 1) := by decide +kernel
theorem dL_place_23 : decode cL_place 23 = .ok (.astore 7, 2) := by decide +kernel
theorem dL_place_25 : decode cL_place 25 = .ok (.iconst 2, 1) := by decide +kernel
theorem dL_place_26 : decode cL_place 26 = .ok (.ireturn, 1) := by decide +kernel
theorem dL_place_27 : decode cL_place 27 = .ok (.iconst 0, 1) := by decide +kernel
theorem dL_place_28 : decode cL_place 28 = .ok (.ireturn, 1) := by decide +kernel
theorem dL_cancel_0 : decode cL_cancel 0 = .ok (.aload_n 2, 1) := by decide +kernel
theorem dL_cancel_1 : decode cL_cancel 1 = .ok (.iconst 0, 1) := by decide +kernel
theorem dL_cancel_2 : decode cL_cancel 2 = .ok (.aload_n 0, 1) := by decide +kernel
theorem dL_cancel_3 : decode cL_cancel 3 = .ok (.iload_n 1, 1) := by decide +kernel
theorem dL_cancel_4 : decode cL_cancel 4 = .ok (.invokevirtual 37, 3) := by decide +kernel
theorem dL_cancel_7 : decode cL_cancel 7 = .ok (.i2l, 1) := by decide +kernel
theorem dL_cancel_8 : decode cL_cancel 8 = .ok (.lastore, 1) := by decide +kernel
theorem dL_cancel_9 : decode cL_cancel 9 = .ok (.goto 9, 3) := by decide +kernel
theorem dL_cancel_12 : decode cL_cancel 12 = .ok (.astore_n 3, 1) := by decide +kernel
theorem dL_cancel_13 : decode cL_cancel 13 = .ok (.iconst 1, 1) := by decide +kernel
theorem dL_cancel_14 : decode cL_cancel 14 = .ok (.ireturn, 1) := by decide +kernel
theorem dL_cancel_15 : decode cL_cancel 15 = .ok (.astore_n 3, 1) := by decide +kernel
theorem dL_cancel_16 : decode cL_cancel 16 = .ok (.iconst 2, 1) := by decide +kernel
theorem dL_cancel_17 : decode cL_cancel 17 = .ok (.ireturn, 1) := by decide +kernel
theorem dL_cancel_18 : decode cL_cancel 18 = .ok (.iconst 0, 1) := by decide +kernel
theorem dL_cancel_19 : decode cL_cancel 19 = .ok (.ireturn, 1) := by decide +kernel
theorem dL_halt_0 : decode cL_halt 0 = .ok (.aload_n 3, 1) := by decide +kernel
theorem dL_halt_1 : decode cL_halt 1 = .ok (.iconst 0, 1) := by decide +kernel
theorem dL_halt_2 : decode cL_halt 2 = .ok (.aload_n 0, 1) := by decide +kernel
theorem dL_halt_3 : decode cL_halt 3 = .ok (.iload_n 1, 1) := by decide +kernel
theorem dL_halt_4 : decode cL_halt 4 = .ok (.iload_n 2, 1) := by decide +kernel
theorem dL_halt_5 : decode cL_halt 5 = .ok (.invokevirtual 43, 3) := by decide +kernel
theorem dL_halt_8 : decode cL_halt 8 = .ok (.i2l, 1) := by decide +kernel
theorem dL_halt_9 : decode cL_halt 9 = .ok (.lastore, 1) := by decide +kernel
theorem dL_halt_10 : decode cL_halt 10 = .ok (.goto 7, 3) := by decide +kernel
theorem dL_halt_13 : decode cL_halt 13 = .ok (.astore 4, 2) := by decide +kernel
theorem dL_halt_15 : decode cL_halt 15 = .ok (.iconst 1, 1) := by decide +kernel
theorem dL_halt_16 : decode cL_halt 16 = .ok (.ireturn, 1) := by decide +kernel
theorem dL_halt_17 : decode cL_halt 17 = .ok (.iconst 0, 1) := by decide +kernel
theorem dL_halt_18 : decode cL_halt 18 = .ok (.ireturn, 1) := by decide +kernel
theorem dL_left_0 : decode cL_left 0 = .ok (.aload_n 2, 1) := by decide +kernel
theorem dL_left_1 : decode cL_left 1 = .ok (.iconst 0, 1) := by decide +kernel
theorem dL_left_2 : decode cL_left 2 = .ok (.aload_n 0, 1) := by decide +kernel
theorem dL_left_3 : decode cL_left 3 = .ok (.iload_n 1, 1) := by decide +kernel
theorem dL_left_4 : decode cL_left 4 = .ok (.invokevirtual 47, 3) := by decide +kernel
theorem dL_left_7 : decode cL_left 7 = .ok (.i2l, 1) := by decide +kernel
theorem dL_left_8 : decode cL_left 8 = .ok (.lastore, 1) := by decide +kernel
theorem dL_left_9 : decode cL_left 9 = .ok (.goto 6, 3) := by decide +kernel
theorem dL_left_12 : decode cL_left 12 = .ok (.astore_n 3, 1) := by decide +kernel
theorem dL_left_13 : decode cL_left 13 = .ok (.iconst 1, 1) := by decide +kernel
theorem dL_left_14 : decode cL_left 14 = .ok (.ireturn, 1) := by decide +kernel
theorem dL_left_15 : decode cL_left 15 = .ok (.iconst 0, 1) := by decide +kernel
theorem dL_left_16 : decode cL_left 16 = .ok (.ireturn, 1) := by decide +kernel
theorem dL_best_0 : decode cL_best 0 = .ok (.aload_n 3, 1) := by decide +kernel
theorem dL_best_1 : decode cL_best 1 = .ok (.iconst 0, 1) := by decide +kernel
theorem dL_best_2 : decode cL_best 2 = .ok (.aload_n 0, 1) := by decide +kernel
theorem dL_best_3 : decode cL_best 3 = .ok (.iload_n 1, 1) := by decide +kernel
theorem dL_best_4 : decode cL_best 4 = .ok (.iload_n 2, 1) := by decide +kernel
theorem dL_best_5 : decode cL_best 5 = .ok (.invokevirtual 50, 3) := by decide +kernel
theorem dL_best_8 : decode cL_best 8 = .ok (.i2l, 1) := by decide +kernel
theorem dL_best_9 : decode cL_best 9 = .ok (.lastore, 1) := by decide +kernel
theorem dL_best_10 : decode cL_best 10 = .ok (.goto 11, 3) := by decide +kernel
theorem dL_best_13 : decode cL_best 13 = .ok (.astore 4, 2) := by decide +kernel
theorem dL_best_15 : decode cL_best 15 = .ok (.iconst 1, 1) := by decide +kernel
theorem dL_best_16 : decode cL_best 16 = .ok (.ireturn, 1) := by decide +kernel
theorem dL_best_17 : decode cL_best 17 = .ok (.astore 4, 2) := by decide +kernel
theorem dL_best_19 : decode cL_best 19 = .ok (.iconst 2, 1) := by decide +kernel
theorem dL_best_20 : decode cL_best 20 = .ok (.ireturn, 1) := by decide +kernel
theorem dL_best_21 : decode cL_best 21 = .ok (.iconst 0, 1) := by decide +kernel
theorem dL_best_22 : decode cL_best 22 = .ok (.ireturn, 1) := by decide +kernel
theorem dL_called_0 : decode cL_called 0 = .ok (.aload_n 2, 1) := by decide +kernel
theorem dL_called_1 : decode cL_called 1 = .ok (.iconst 0, 1) := by decide +kernel
theorem dL_called_2 : decode cL_called 2 = .ok (.aload_n 0, 1) := by decide +kernel
theorem dL_called_3 : decode cL_called 3 = .ok (.iload_n 1, 1) := by decide +kernel
theorem dL_called_4 : decode cL_called 4 = .ok (.invokevirtual 55, 3) := by decide +kernel
theorem dL_called_7 : decode cL_called 7 = .ok (.i2l, 1) := by decide +kernel
theorem dL_called_8 : decode cL_called 8 = .ok (.lastore, 1) := by decide +kernel
theorem dL_called_9 : decode cL_called 9 = .ok (.goto 6, 3) := by decide +kernel
theorem dL_called_12 : decode cL_called 12 = .ok (.astore_n 3, 1) := by decide +kernel
theorem dL_called_13 : decode cL_called 13 = .ok (.iconst 1, 1) := by decide +kernel
theorem dL_called_14 : decode cL_called 14 = .ok (.ireturn, 1) := by decide +kernel
theorem dL_called_15 : decode cL_called 15 = .ok (.iconst 0, 1) := by decide +kernel
theorem dL_called_16 : decode cL_called 16 = .ok (.ireturn, 1) := by decide +kernel
theorem dL_hasFailed_0 : decode cL_hasFailed 0 = .ok (.aload_n 2, 1) := by decide +kernel
theorem dL_hasFailed_1 : decode cL_hasFailed 1 = .ok (.iconst 0, 1) := by decide +kernel
theorem dL_hasFailed_2 : decode cL_hasFailed 2 = .ok (.aload_n 0, 1) := by decide +kernel
theorem dL_hasFailed_3 : decode cL_hasFailed 3 = .ok (.iload_n 1, 1) := by decide +kernel
theorem dL_hasFailed_4 : decode cL_hasFailed 4 = .ok (.invokevirtual 58, 3) := by decide +kernel
theorem dL_hasFailed_7 : decode cL_hasFailed 7 = .ok (.ifCond .eq 7, 3) := by decide +kernel
theorem dL_hasFailed_10 : decode cL_hasFailed 10 = .ok (.lconst 1, 1) := by decide +kernel
theorem dL_hasFailed_11 : decode cL_hasFailed 11 = .ok (.goto 4, 3) := by decide +kernel
theorem dL_hasFailed_14 : decode cL_hasFailed 14 = .ok (.lconst 0, 1) := by decide +kernel
theorem dL_hasFailed_15 : decode cL_hasFailed 15 = .ok (.lastore, 1) := by decide +kernel
theorem dL_hasFailed_16 : decode cL_hasFailed 16 = .ok (.goto 6, 3) := by decide +kernel
theorem dL_hasFailed_19 : decode cL_hasFailed 19 = .ok (.astore_n 3, 1) := by decide +kernel
theorem dL_hasFailed_20 : decode cL_hasFailed 20 = .ok (.iconst 1, 1) := by decide +kernel
theorem dL_hasFailed_21 : decode cL_hasFailed 21 = .ok (.ireturn, 1) := by decide +kernel
theorem dL_hasFailed_22 : decode cL_hasFailed 22 = .ok (.iconst 0, 1) := by decide +kernel
theorem dL_hasFailed_23 : decode cL_hasFailed 23 = .ok (.ireturn, 1) := by decide +kernel
theorem dL_position_0 : decode cL_position 0 = .ok (.aload_n 3, 1) := by decide +kernel
theorem dL_position_1 : decode cL_position 1 = .ok (.iconst 0, 1) := by decide +kernel
theorem dL_position_2 : decode cL_position 2 = .ok (.aload_n 0, 1) := by decide +kernel
theorem dL_position_3 : decode cL_position 3 = .ok (.iload_n 1, 1) := by decide +kernel
theorem dL_position_4 : decode cL_position 4 = .ok (.iload_n 2, 1) := by decide +kernel
theorem dL_position_5 : decode cL_position 5 = .ok (.invokevirtual 62, 3) := by decide +kernel
theorem dL_position_8 : decode cL_position 8 = .ok (.i2l, 1) := by decide +kernel
theorem dL_position_9 : decode cL_position 9 = .ok (.lastore, 1) := by decide +kernel
theorem dL_position_10 : decode cL_position 10 = .ok (.goto 7, 3) := by decide +kernel
theorem dL_position_13 : decode cL_position 13 = .ok (.astore 4, 2) := by decide +kernel
theorem dL_position_15 : decode cL_position 15 = .ok (.iconst 1, 1) := by decide +kernel
theorem dL_position_16 : decode cL_position 16 = .ok (.ireturn, 1) := by decide +kernel
theorem dL_position_17 : decode cL_position 17 = .ok (.iconst 0, 1) := by decide +kernel
theorem dL_position_18 : decode cL_position 18 = .ok (.ireturn, 1) := by decide +kernel
theorem dL_cash_0 : decode cL_cash 0 = .ok (.aload_n 2, 1) := by decide +kernel
theorem dL_cash_1 : decode cL_cash 1 = .ok (.iconst 0, 1) := by decide +kernel
theorem dL_cash_2 : decode cL_cash 2 = .ok (.aload_n 0, 1) := by decide +kernel
theorem dL_cash_3 : decode cL_cash 3 = .ok (.iload_n 1, 1) := by decide +kernel
theorem dL_cash_4 : decode cL_cash 4 = .ok (.invokevirtual 65, 3) := by decide +kernel
theorem dL_cash_7 : decode cL_cash 7 = .ok (.i2l, 1) := by decide +kernel
theorem dL_cash_8 : decode cL_cash 8 = .ok (.lastore, 1) := by decide +kernel
theorem dL_cash_9 : decode cL_cash 9 = .ok (.goto 6, 3) := by decide +kernel
theorem dL_cash_12 : decode cL_cash 12 = .ok (.astore_n 3, 1) := by decide +kernel
theorem dL_cash_13 : decode cL_cash 13 = .ok (.iconst 1, 1) := by decide +kernel
theorem dL_cash_14 : decode cL_cash 14 = .ok (.ireturn, 1) := by decide +kernel
theorem dL_cash_15 : decode cL_cash 15 = .ok (.iconst 0, 1) := by decide +kernel
theorem dL_cash_16 : decode cL_cash 16 = .ok (.ireturn, 1) := by decide +kernel
theorem dL_equity_0 : decode cL_equity 0 = .ok (.aload_n 2, 1) := by decide +kernel
theorem dL_equity_1 : decode cL_equity 1 = .ok (.iconst 0, 1) := by decide +kernel
theorem dL_equity_2 : decode cL_equity 2 = .ok (.aload_n 0, 1) := by decide +kernel
theorem dL_equity_3 : decode cL_equity 3 = .ok (.iload_n 1, 1) := by decide +kernel
theorem dL_equity_4 : decode cL_equity 4 = .ok (.invokevirtual 68, 3) := by decide +kernel
theorem dL_equity_7 : decode cL_equity 7 = .ok (.i2l, 1) := by decide +kernel
theorem dL_equity_8 : decode cL_equity 8 = .ok (.lastore, 1) := by decide +kernel
theorem dL_equity_9 : decode cL_equity 9 = .ok (.goto 6, 3) := by decide +kernel
theorem dL_equity_12 : decode cL_equity 12 = .ok (.astore_n 3, 1) := by decide +kernel
theorem dL_equity_13 : decode cL_equity 13 = .ok (.iconst 1, 1) := by decide +kernel
theorem dL_equity_14 : decode cL_equity 14 = .ok (.ireturn, 1) := by decide +kernel
theorem dL_equity_15 : decode cL_equity 15 = .ok (.iconst 0, 1) := by decide +kernel
theorem dL_equity_16 : decode cL_equity 16 = .ok (.ireturn, 1) := by decide +kernel
theorem dL_equityByTrades_0 : decode cL_equityByTrades 0 = .ok (.aload_n 2, 1) := by decide +kernel
theorem dL_equityByTrades_1 : decode cL_equityByTrades 1 = .ok (.iconst 0, 1) := by decide +kernel
theorem dL_equityByTrades_2 : decode cL_equityByTrades 2 = .ok (.aload_n 0, 1) := by decide +kernel
theorem dL_equityByTrades_3 : decode cL_equityByTrades 3 = .ok (.iload_n 1, 1) := by decide +kernel
theorem dL_equityByTrades_4 : decode cL_equityByTrades 4 = .ok (.invokevirtual 71, 3) := by decide +kernel
theorem dL_equityByTrades_7 : decode cL_equityByTrades 7 = .ok (.i2l, 1) := by decide +kernel
theorem dL_equityByTrades_8 : decode cL_equityByTrades 8 = .ok (.lastore, 1) := by decide +kernel
theorem dL_equityByTrades_9 : decode cL_equityByTrades 9 = .ok (.goto 6, 3) := by decide +kernel
theorem dL_equityByTrades_12 : decode cL_equityByTrades 12 = .ok (.astore_n 3, 1) := by decide +kernel
theorem dL_equityByTrades_13 : decode cL_equityByTrades 13 = .ok (.iconst 1, 1) := by decide +kernel
theorem dL_equityByTrades_14 : decode cL_equityByTrades 14 = .ok (.ireturn, 1) := by decide +kernel
theorem dL_equityByTrades_15 : decode cL_equityByTrades 15 = .ok (.iconst 0, 1) := by decide +kernel
theorem dL_equityByTrades_16 : decode cL_equityByTrades 16 = .ok (.ireturn, 1) := by decide +kernel
theorem dL_margin_0 : decode cL_margin 0 = .ok (.aload_n 2, 1) := by decide +kernel
theorem dL_margin_1 : decode cL_margin 1 = .ok (.iconst 0, 1) := by decide +kernel
theorem dL_margin_2 : decode cL_margin 2 = .ok (.aload_n 0, 1) := by decide +kernel
theorem dL_margin_3 : decode cL_margin 3 = .ok (.iload_n 1, 1) := by decide +kernel
theorem dL_margin_4 : decode cL_margin 4 = .ok (.invokevirtual 74, 3) := by decide +kernel
theorem dL_margin_7 : decode cL_margin 7 = .ok (.i2l, 1) := by decide +kernel
theorem dL_margin_8 : decode cL_margin 8 = .ok (.lastore, 1) := by decide +kernel
theorem dL_margin_9 : decode cL_margin 9 = .ok (.goto 6, 3) := by decide +kernel
theorem dL_margin_12 : decode cL_margin 12 = .ok (.astore_n 3, 1) := by decide +kernel
theorem dL_margin_13 : decode cL_margin 13 = .ok (.iconst 1, 1) := by decide +kernel
theorem dL_margin_14 : decode cL_margin 14 = .ok (.ireturn, 1) := by decide +kernel
theorem dL_margin_15 : decode cL_margin 15 = .ok (.iconst 0, 1) := by decide +kernel
theorem dL_margin_16 : decode cL_margin 16 = .ok (.ireturn, 1) := by decide +kernel
theorem dL_haircut_0 : decode cL_haircut 0 = .ok (.aload_n 2, 1) := by decide +kernel
theorem dL_haircut_1 : decode cL_haircut 1 = .ok (.iconst 0, 1) := by decide +kernel
theorem dL_haircut_2 : decode cL_haircut 2 = .ok (.aload_n 0, 1) := by decide +kernel
theorem dL_haircut_3 : decode cL_haircut 3 = .ok (.iload_n 1, 1) := by decide +kernel
theorem dL_haircut_4 : decode cL_haircut 4 = .ok (.invokevirtual 77, 3) := by decide +kernel
theorem dL_haircut_7 : decode cL_haircut 7 = .ok (.i2l, 1) := by decide +kernel
theorem dL_haircut_8 : decode cL_haircut 8 = .ok (.lastore, 1) := by decide +kernel
theorem dL_haircut_9 : decode cL_haircut 9 = .ok (.goto 6, 3) := by decide +kernel
theorem dL_haircut_12 : decode cL_haircut 12 = .ok (.astore_n 3, 1) := by decide +kernel
theorem dL_haircut_13 : decode cL_haircut 13 = .ok (.iconst 1, 1) := by decide +kernel
theorem dL_haircut_14 : decode cL_haircut 14 = .ok (.ireturn, 1) := by decide +kernel
theorem dL_haircut_15 : decode cL_haircut 15 = .ok (.iconst 0, 1) := by decide +kernel
theorem dL_haircut_16 : decode cL_haircut 16 = .ok (.ireturn, 1) := by decide +kernel
theorem dL_collateral_0 : decode cL_collateral 0 = .ok (.aload_n 2, 1) := by decide +kernel
theorem dL_collateral_1 : decode cL_collateral 1 = .ok (.iconst 0, 1) := by decide +kernel
theorem dL_collateral_2 : decode cL_collateral 2 = .ok (.aload_n 0, 1) := by decide +kernel
theorem dL_collateral_3 : decode cL_collateral 3 = .ok (.iload_n 1, 1) := by decide +kernel
theorem dL_collateral_4 : decode cL_collateral 4 = .ok (.invokevirtual 80, 3) := by decide +kernel
theorem dL_collateral_7 : decode cL_collateral 7 = .ok (.i2l, 1) := by decide +kernel
theorem dL_collateral_8 : decode cL_collateral 8 = .ok (.lastore, 1) := by decide +kernel
theorem dL_collateral_9 : decode cL_collateral 9 = .ok (.goto 6, 3) := by decide +kernel
theorem dL_collateral_12 : decode cL_collateral 12 = .ok (.astore_n 3, 1) := by decide +kernel
theorem dL_collateral_13 : decode cL_collateral 13 = .ok (.iconst 1, 1) := by decide +kernel
theorem dL_collateral_14 : decode cL_collateral 14 = .ok (.ireturn, 1) := by decide +kernel
theorem dL_collateral_15 : decode cL_collateral 15 = .ok (.iconst 0, 1) := by decide +kernel
theorem dL_collateral_16 : decode cL_collateral 16 = .ok (.ireturn, 1) := by decide +kernel
theorem dL_free_0 : decode cL_free 0 = .ok (.aload_n 2, 1) := by decide +kernel
theorem dL_free_1 : decode cL_free 1 = .ok (.iconst 0, 1) := by decide +kernel
theorem dL_free_2 : decode cL_free 2 = .ok (.aload_n 0, 1) := by decide +kernel
theorem dL_free_3 : decode cL_free 3 = .ok (.iload_n 1, 1) := by decide +kernel
theorem dL_free_4 : decode cL_free 4 = .ok (.invokevirtual 83, 3) := by decide +kernel
theorem dL_free_7 : decode cL_free 7 = .ok (.i2l, 1) := by decide +kernel
theorem dL_free_8 : decode cL_free 8 = .ok (.lastore, 1) := by decide +kernel
theorem dL_free_9 : decode cL_free 9 = .ok (.goto 6, 3) := by decide +kernel
theorem dL_free_12 : decode cL_free 12 = .ok (.astore_n 3, 1) := by decide +kernel
theorem dL_free_13 : decode cL_free 13 = .ok (.iconst 1, 1) := by decide +kernel
theorem dL_free_14 : decode cL_free 14 = .ok (.ireturn, 1) := by decide +kernel
theorem dL_free_15 : decode cL_free 15 = .ok (.iconst 0, 1) := by decide +kernel
theorem dL_free_16 : decode cL_free 16 = .ok (.ireturn, 1) := by decide +kernel
theorem dL_share_0 : decode cL_share 0 = .ok (.aload_n 2, 1) := by decide +kernel
theorem dL_share_1 : decode cL_share 1 = .ok (.iconst 0, 1) := by decide +kernel
theorem dL_share_2 : decode cL_share 2 = .ok (.aload_n 0, 1) := by decide +kernel
theorem dL_share_3 : decode cL_share 3 = .ok (.iload_n 1, 1) := by decide +kernel
theorem dL_share_4 : decode cL_share 4 = .ok (.invokevirtual 86, 3) := by decide +kernel
theorem dL_share_7 : decode cL_share 7 = .ok (.i2l, 1) := by decide +kernel
theorem dL_share_8 : decode cL_share 8 = .ok (.lastore, 1) := by decide +kernel
theorem dL_share_9 : decode cL_share 9 = .ok (.goto 6, 3) := by decide +kernel
theorem dL_share_12 : decode cL_share 12 = .ok (.astore_n 3, 1) := by decide +kernel
theorem dL_share_13 : decode cL_share 13 = .ok (.iconst 1, 1) := by decide +kernel
theorem dL_share_14 : decode cL_share 14 = .ok (.ireturn, 1) := by decide +kernel
theorem dL_share_15 : decode cL_share 15 = .ok (.iconst 0, 1) := by decide +kernel
theorem dL_share_16 : decode cL_share 16 = .ok (.ireturn, 1) := by decide +kernel
theorem dL_law_0 : decode cL_law 0 = .ok (.new 8, 3) := by decide +kernel
theorem dL_law_3 : decode cL_law 3 = .ok (.dup, 1) := by decide +kernel
theorem dL_law_4 : decode cL_law 4 = .ok (.invokespecial 89, 3) := by decide +kernel
theorem dL_law_7 : decode cL_law 7 = .ok (.astore_n 1, 1) := by decide +kernel
theorem dL_law_8 : decode cL_law 8 = .ok (.new 90, 3) := by decide +kernel
theorem dL_law_11 : decode cL_law 11 = .ok (.dup, 1) := by decide +kernel
theorem dL_law_12 : decode cL_law 12 = .ok (.invokespecial 92, 3) := by decide +kernel
theorem dL_law_15 : decode cL_law 15 = .ok (.astore_n 2, 1) := by decide +kernel
theorem dL_law_16 : decode cL_law 16 = .ok (.iconst 1, 1) := by decide +kernel
theorem dL_law_17 : decode cL_law 17 = .ok (.newarray .long, 2) := by decide +kernel
theorem dL_law_19 : decode cL_law 19 = .ok (.astore_n 3, 1) := by decide +kernel
theorem dL_law_20 : decode cL_law 20 = .ok (.iconst 0, 1) := by decide +kernel
theorem dL_law_21 : decode cL_law 21 = .ok (.istore 4, 2) := by decide +kernel
theorem dL_law_23 : decode cL_law 23 = .ok (.iload 4, 2) := by decide +kernel
theorem dL_law_25 : decode cL_law 25 = .ok (.aload_n 0, 1) := by decide +kernel
theorem dL_law_26 : decode cL_law 26 = .ok (.arraylength, 1) := by decide +kernel
theorem dL_law_27 : decode cL_law 27 = .ok (.bipush 6, 2) := by decide +kernel
theorem dL_law_29 : decode cL_law 29 = .ok (.isub, 1) := by decide +kernel
theorem dL_law_30 : decode cL_law 30 = .ok (.if_icmp .gt 1655, 3) := by decide +kernel
theorem dL_law_33 : decode cL_law 33 = .ok (.aload_n 0, 1) := by decide +kernel
theorem dL_law_34 : decode cL_law 34 = .ok (.iload 4, 2) := by decide +kernel
theorem dL_law_36 : decode cL_law 36 = .ok (.iaload, 1) := by decide +kernel
theorem dL_law_37 : decode cL_law 37 = .ok (.bipush 31, 2) := by decide +kernel
theorem dL_law_39 : decode cL_law 39 = .ok (.iand, 1) := by decide +kernel
theorem dL_law_40 : decode cL_law 40 = .ok (.tableswitch 1639 0 25 #[120, 188, 268, 336, 404, 484, 552, 672, 728, 812, 868, 952, 965, 978, 991, 1047, 1110, 1178, 1234, 1290, 1346, 1402, 1458, 1514, 1570, 1626], 120) := by decide +kernel
theorem dL_law_160 : decode cL_law 160 = .ok (.aload_n 1, 1) := by decide +kernel
theorem dL_law_161 : decode cL_law 161 = .ok (.aload_n 0, 1) := by decide +kernel
theorem dL_law_162 : decode cL_law 162 = .ok (.iload 4, 2) := by decide +kernel
theorem dL_law_164 : decode cL_law 164 = .ok (.iconst 1, 1) := by decide +kernel
theorem dL_law_165 : decode cL_law 165 = .ok (.iadd, 1) := by decide +kernel
theorem dL_law_166 : decode cL_law 166 = .ok (.iaload, 1) := by decide +kernel
theorem dL_law_167 : decode cL_law 167 = .ok (.aload_n 0, 1) := by decide +kernel
theorem dL_law_168 : decode cL_law 168 = .ok (.iload 4, 2) := by decide +kernel
theorem dL_law_170 : decode cL_law 170 = .ok (.iconst 2, 1) := by decide +kernel
theorem dL_law_171 : decode cL_law 171 = .ok (.iadd, 1) := by decide +kernel
theorem dL_law_172 : decode cL_law 172 = .ok (.iaload, 1) := by decide +kernel
theorem dL_law_173 : decode cL_law 173 = .ok (.aload_n 3, 1) := by decide +kernel
theorem dL_law_174 : decode cL_law 174 = .ok (.invokestatic 93, 3) := by decide +kernel
theorem dL_law_177 : decode cL_law 177 = .ok (.istore 5, 2) := by decide +kernel
theorem dL_law_179 : decode cL_law 179 = .ok (.aload_n 2, 1) := by decide +kernel
theorem dL_law_180 : decode cL_law 180 = .ok (.aload_n 0, 1) := by decide +kernel
theorem dL_law_181 : decode cL_law 181 = .ok (.iload 4, 2) := by decide +kernel
theorem dL_law_183 : decode cL_law 183 = .ok (.iconst 1, 1) := by decide +kernel
theorem dL_law_184 : decode cL_law 184 = .ok (.iadd, 1) := by decide +kernel
theorem dL_law_185 : decode cL_law 185 = .ok (.iaload, 1) := by decide +kernel
theorem dL_law_186 : decode cL_law 186 = .ok (.aload_n 0, 1) := by decide +kernel
theorem dL_law_187 : decode cL_law 187 = .ok (.iload 4, 2) := by decide +kernel
theorem dL_law_189 : decode cL_law 189 = .ok (.iconst 2, 1) := by decide +kernel
theorem dL_law_190 : decode cL_law 190 = .ok (.iadd, 1) := by decide +kernel
theorem dL_law_191 : decode cL_law 191 = .ok (.iaload, 1) := by decide +kernel
theorem dL_law_192 : decode cL_law 192 = .ok (.invokevirtual 98, 3) := by decide +kernel
theorem dL_law_195 : decode cL_law 195 = .ok (.istore 6, 2) := by decide +kernel
theorem dL_law_197 : decode cL_law 197 = .ok (.aload_n 2, 1) := by decide +kernel
theorem dL_law_198 : decode cL_law 198 = .ok (.invokevirtual 99, 3) := by decide +kernel
theorem dL_law_201 : decode cL_law 201 = .ok (.iload 5, 2) := by decide +kernel
theorem dL_law_203 : decode cL_law 203 = .ok (.if_icmp .eq 5, 3) := by decide +kernel
theorem dL_law_206 : decode cL_law 206 = .ok (.iconst 0, 1) := by decide +kernel
theorem dL_law_207 : decode cL_law 207 = .ok (.ireturn, 1) := by decide +kernel
theorem dL_law_208 : decode cL_law 208 = .ok (.iload 5, 2) := by decide +kernel
theorem dL_law_210 : decode cL_law 210 = .ok (.ifCond .ne 15, 3) := by decide +kernel
theorem dL_law_213 : decode cL_law 213 = .ok (.aload_n 3, 1) := by decide +kernel
theorem dL_law_214 : decode cL_law 214 = .ok (.iconst 0, 1) := by decide +kernel
theorem dL_law_215 : decode cL_law 215 = .ok (.laload, 1) := by decide +kernel
theorem dL_law_216 : decode cL_law 216 = .ok (.iload 6, 2) := by decide +kernel
theorem dL_law_218 : decode cL_law 218 = .ok (.i2l, 1) := by decide +kernel
theorem dL_law_219 : decode cL_law 219 = .ok (.lcmp, 1) := by decide +kernel
theorem dL_law_220 : decode cL_law 220 = .ok (.ifCond .eq 5, 3) := by decide +kernel
theorem dL_law_223 : decode cL_law 223 = .ok (.iconst 0, 1) := by decide +kernel
theorem dL_law_224 : decode cL_law 224 = .ok (.ireturn, 1) := by decide +kernel
theorem dL_law_225 : decode cL_law 225 = .ok (.goto 1454, 3) := by decide +kernel
theorem dL_law_228 : decode cL_law 228 = .ok (.aload_n 1, 1) := by decide +kernel
theorem dL_law_229 : decode cL_law 229 = .ok (.aload_n 0, 1) := by decide +kernel
theorem dL_law_230 : decode cL_law 230 = .ok (.iload 4, 2) := by decide +kernel
theorem dL_law_232 : decode cL_law 232 = .ok (.iconst 1, 1) := by decide +kernel
theorem dL_law_233 : decode cL_law 233 = .ok (.iadd, 1) := by decide +kernel
theorem dL_law_234 : decode cL_law 234 = .ok (.iaload, 1) := by decide +kernel
theorem dL_law_235 : decode cL_law 235 = .ok (.aload_n 0, 1) := by decide +kernel
theorem dL_law_236 : decode cL_law 236 = .ok (.iload 4, 2) := by decide +kernel
theorem dL_law_238 : decode cL_law 238 = .ok (.iconst 2, 1) := by decide +kernel
theorem dL_law_239 : decode cL_law 239 = .ok (.iadd, 1) := by decide +kernel
theorem dL_law_240 : decode cL_law 240 = .ok (.iaload, 1) := by decide +kernel
theorem dL_law_241 : decode cL_law 241 = .ok (.aload_n 0, 1) := by decide +kernel
theorem dL_law_242 : decode cL_law 242 = .ok (.iload 4, 2) := by decide +kernel
theorem dL_law_244 : decode cL_law 244 = .ok (.iconst 3, 1) := by decide +kernel
theorem dL_law_245 : decode cL_law 245 = .ok (.iadd, 1) := by decide +kernel
theorem dL_law_246 : decode cL_law 246 = .ok (.iaload, 1) := by decide +kernel
theorem dL_law_247 : decode cL_law 247 = .ok (.aload_n 3, 1) := by decide +kernel
theorem dL_law_248 : decode cL_law 248 = .ok (.invokestatic 103, 3) := by decide +kernel
theorem dL_law_251 : decode cL_law 251 = .ok (.istore 5, 2) := by decide +kernel
theorem dL_law_253 : decode cL_law 253 = .ok (.aload_n 2, 1) := by decide +kernel
theorem dL_law_254 : decode cL_law 254 = .ok (.aload_n 0, 1) := by decide +kernel
theorem dL_law_255 : decode cL_law 255 = .ok (.iload 4, 2) := by decide +kernel
theorem dL_law_257 : decode cL_law 257 = .ok (.iconst 1, 1) := by decide +kernel
theorem dL_law_258 : decode cL_law 258 = .ok (.iadd, 1) := by decide +kernel
theorem dL_law_259 : decode cL_law 259 = .ok (.iaload, 1) := by decide +kernel
theorem dL_law_260 : decode cL_law 260 = .ok (.aload_n 0, 1) := by decide +kernel
theorem dL_law_261 : decode cL_law 261 = .ok (.iload 4, 2) := by decide +kernel
theorem dL_law_263 : decode cL_law 263 = .ok (.iconst 2, 1) := by decide +kernel
theorem dL_law_264 : decode cL_law 264 = .ok (.iadd, 1) := by decide +kernel
theorem dL_law_265 : decode cL_law 265 = .ok (.iaload, 1) := by decide +kernel
theorem dL_law_266 : decode cL_law 266 = .ok (.aload_n 0, 1) := by decide +kernel
theorem dL_law_267 : decode cL_law 267 = .ok (.iload 4, 2) := by decide +kernel
theorem dL_law_269 : decode cL_law 269 = .ok (.iconst 3, 1) := by decide +kernel
theorem dL_law_270 : decode cL_law 270 = .ok (.iadd, 1) := by decide +kernel
theorem dL_law_271 : decode cL_law 271 = .ok (.iaload, 1) := by decide +kernel
theorem dL_law_272 : decode cL_law 272 = .ok (.invokevirtual 106, 3) := by decide +kernel
theorem dL_law_275 : decode cL_law 275 = .ok (.istore 6, 2) := by decide +kernel
theorem dL_law_277 : decode cL_law 277 = .ok (.aload_n 2, 1) := by decide +kernel
theorem dL_law_278 : decode cL_law 278 = .ok (.invokevirtual 99, 3) := by decide +kernel
theorem dL_law_281 : decode cL_law 281 = .ok (.iload 5, 2) := by decide +kernel
theorem dL_law_283 : decode cL_law 283 = .ok (.if_icmp .eq 5, 3) := by decide +kernel
theorem dL_law_286 : decode cL_law 286 = .ok (.iconst 0, 1) := by decide +kernel
theorem dL_law_287 : decode cL_law 287 = .ok (.ireturn, 1) := by decide +kernel
theorem dL_law_288 : decode cL_law 288 = .ok (.iload 5, 2) := by decide +kernel
theorem dL_law_290 : decode cL_law 290 = .ok (.ifCond .ne 15, 3) := by decide +kernel
theorem dL_law_293 : decode cL_law 293 = .ok (.aload_n 3, 1) := by decide +kernel
theorem dL_law_294 : decode cL_law 294 = .ok (.iconst 0, 1) := by decide +kernel
theorem dL_law_295 : decode cL_law 295 = .ok (.laload, 1) := by decide +kernel
theorem dL_law_296 : decode cL_law 296 = .ok (.iload 6, 2) := by decide +kernel
theorem dL_law_298 : decode cL_law 298 = .ok (.i2l, 1) := by decide +kernel
theorem dL_law_299 : decode cL_law 299 = .ok (.lcmp, 1) := by decide +kernel
theorem dL_law_300 : decode cL_law 300 = .ok (.ifCond .eq 5, 3) := by decide +kernel
theorem dL_law_303 : decode cL_law 303 = .ok (.iconst 0, 1) := by decide +kernel
theorem dL_law_304 : decode cL_law 304 = .ok (.ireturn, 1) := by decide +kernel
theorem dL_law_305 : decode cL_law 305 = .ok (.goto 1374, 3) := by decide +kernel
theorem dL_law_308 : decode cL_law 308 = .ok (.aload_n 1, 1) := by decide +kernel
theorem dL_law_309 : decode cL_law 309 = .ok (.aload_n 0, 1) := by decide +kernel
theorem dL_law_310 : decode cL_law 310 = .ok (.iload 4, 2) := by decide +kernel
theorem dL_law_312 : decode cL_law 312 = .ok (.iconst 1, 1) := by decide +kernel
theorem dL_law_313 : decode cL_law 313 = .ok (.iadd, 1) := by decide +kernel
theorem dL_law_314 : decode cL_law 314 = .ok (.iaload, 1) := by decide +kernel
theorem dL_law_315 : decode cL_law 315 = .ok (.aload_n 0, 1) := by decide +kernel
theorem dL_law_316 : decode cL_law 316 = .ok (.iload 4, 2) := by decide +kernel
theorem dL_law_318 : decode cL_law 318 = .ok (.iconst 2, 1) := by decide +kernel
theorem dL_law_319 : decode cL_law 319 = .ok (.iadd, 1) := by decide +kernel
theorem dL_law_320 : decode cL_law 320 = .ok (.iaload, 1) := by decide +kernel
theorem dL_law_321 : decode cL_law 321 = .ok (.aload_n 3, 1) := by decide +kernel
theorem dL_law_322 : decode cL_law 322 = .ok (.invokestatic 107, 3) := by decide +kernel
theorem dL_law_325 : decode cL_law 325 = .ok (.istore 5, 2) := by decide +kernel
theorem dL_law_327 : decode cL_law 327 = .ok (.aload_n 2, 1) := by decide +kernel
theorem dL_law_328 : decode cL_law 328 = .ok (.aload_n 0, 1) := by decide +kernel
theorem dL_law_329 : decode cL_law 329 = .ok (.iload 4, 2) := by decide +kernel
theorem dL_law_331 : decode cL_law 331 = .ok (.iconst 1, 1) := by decide +kernel
theorem dL_law_332 : decode cL_law 332 = .ok (.iadd, 1) := by decide +kernel
theorem dL_law_333 : decode cL_law 333 = .ok (.iaload, 1) := by decide +kernel
theorem dL_law_334 : decode cL_law 334 = .ok (.aload_n 0, 1) := by decide +kernel
theorem dL_law_335 : decode cL_law 335 = .ok (.iload 4, 2) := by decide +kernel
theorem dL_law_337 : decode cL_law 337 = .ok (.iconst 2, 1) := by decide +kernel
theorem dL_law_338 : decode cL_law 338 = .ok (.iadd, 1) := by decide +kernel
theorem dL_law_339 : decode cL_law 339 = .ok (.iaload, 1) := by decide +kernel
theorem dL_law_340 : decode cL_law 340 = .ok (.invokevirtual 109, 3) := by decide +kernel
theorem dL_law_343 : decode cL_law 343 = .ok (.istore 6, 2) := by decide +kernel
theorem dL_law_345 : decode cL_law 345 = .ok (.aload_n 2, 1) := by decide +kernel
theorem dL_law_346 : decode cL_law 346 = .ok (.invokevirtual 99, 3) := by decide +kernel
theorem dL_law_349 : decode cL_law 349 = .ok (.iload 5, 2) := by decide +kernel
theorem dL_law_351 : decode cL_law 351 = .ok (.if_icmp .eq 5, 3) := by decide +kernel
theorem dL_law_354 : decode cL_law 354 = .ok (.iconst 0, 1) := by decide +kernel
theorem dL_law_355 : decode cL_law 355 = .ok (.ireturn, 1) := by decide +kernel
theorem dL_law_356 : decode cL_law 356 = .ok (.iload 5, 2) := by decide +kernel
theorem dL_law_358 : decode cL_law 358 = .ok (.ifCond .ne 15, 3) := by decide +kernel
theorem dL_law_361 : decode cL_law 361 = .ok (.aload_n 3, 1) := by decide +kernel
theorem dL_law_362 : decode cL_law 362 = .ok (.iconst 0, 1) := by decide +kernel
theorem dL_law_363 : decode cL_law 363 = .ok (.laload, 1) := by decide +kernel
theorem dL_law_364 : decode cL_law 364 = .ok (.iload 6, 2) := by decide +kernel
theorem dL_law_366 : decode cL_law 366 = .ok (.i2l, 1) := by decide +kernel
theorem dL_law_367 : decode cL_law 367 = .ok (.lcmp, 1) := by decide +kernel
theorem dL_law_368 : decode cL_law 368 = .ok (.ifCond .eq 5, 3) := by decide +kernel
theorem dL_law_371 : decode cL_law 371 = .ok (.iconst 0, 1) := by decide +kernel
theorem dL_law_372 : decode cL_law 372 = .ok (.ireturn, 1) := by decide +kernel
theorem dL_law_373 : decode cL_law 373 = .ok (.goto 1306, 3) := by decide +kernel
theorem dL_law_376 : decode cL_law 376 = .ok (.aload_n 1, 1) := by decide +kernel
theorem dL_law_377 : decode cL_law 377 = .ok (.aload_n 0, 1) := by decide +kernel
theorem dL_law_378 : decode cL_law 378 = .ok (.iload 4, 2) := by decide +kernel
theorem dL_law_380 : decode cL_law 380 = .ok (.iconst 1, 1) := by decide +kernel
theorem dL_law_381 : decode cL_law 381 = .ok (.iadd, 1) := by decide +kernel
theorem dL_law_382 : decode cL_law 382 = .ok (.iaload, 1) := by decide +kernel
theorem dL_law_383 : decode cL_law 383 = .ok (.aload_n 0, 1) := by decide +kernel
theorem dL_law_384 : decode cL_law 384 = .ok (.iload 4, 2) := by decide +kernel
theorem dL_law_386 : decode cL_law 386 = .ok (.iconst 2, 1) := by decide +kernel
theorem dL_law_387 : decode cL_law 387 = .ok (.iadd, 1) := by decide +kernel
theorem dL_law_388 : decode cL_law 388 = .ok (.iaload, 1) := by decide +kernel
theorem dL_law_389 : decode cL_law 389 = .ok (.aload_n 3, 1) := by decide +kernel
theorem dL_law_390 : decode cL_law 390 = .ok (.invokestatic 110, 3) := by decide +kernel
theorem dL_law_393 : decode cL_law 393 = .ok (.istore 5, 2) := by decide +kernel
theorem dL_law_395 : decode cL_law 395 = .ok (.aload_n 2, 1) := by decide +kernel
theorem dL_law_396 : decode cL_law 396 = .ok (.aload_n 0, 1) := by decide +kernel
theorem dL_law_397 : decode cL_law 397 = .ok (.iload 4, 2) := by decide +kernel
theorem dL_law_399 : decode cL_law 399 = .ok (.iconst 1, 1) := by decide +kernel
theorem dL_law_400 : decode cL_law 400 = .ok (.iadd, 1) := by decide +kernel
theorem dL_law_401 : decode cL_law 401 = .ok (.iaload, 1) := by decide +kernel
theorem dL_law_402 : decode cL_law 402 = .ok (.aload_n 0, 1) := by decide +kernel
theorem dL_law_403 : decode cL_law 403 = .ok (.iload 4, 2) := by decide +kernel
theorem dL_law_405 : decode cL_law 405 = .ok (.iconst 2, 1) := by decide +kernel
theorem dL_law_406 : decode cL_law 406 = .ok (.iadd, 1) := by decide +kernel
theorem dL_law_407 : decode cL_law 407 = .ok (.iaload, 1) := by decide +kernel
theorem dL_law_408 : decode cL_law 408 = .ok (.invokevirtual 112, 3) := by decide +kernel
theorem dL_law_411 : decode cL_law 411 = .ok (.istore 6, 2) := by decide +kernel
theorem dL_law_413 : decode cL_law 413 = .ok (.aload_n 2, 1) := by decide +kernel
theorem dL_law_414 : decode cL_law 414 = .ok (.invokevirtual 99, 3) := by decide +kernel
theorem dL_law_417 : decode cL_law 417 = .ok (.iload 5, 2) := by decide +kernel
theorem dL_law_419 : decode cL_law 419 = .ok (.if_icmp .eq 5, 3) := by decide +kernel
theorem dL_law_422 : decode cL_law 422 = .ok (.iconst 0, 1) := by decide +kernel
theorem dL_law_423 : decode cL_law 423 = .ok (.ireturn, 1) := by decide +kernel
theorem dL_law_424 : decode cL_law 424 = .ok (.iload 5, 2) := by decide +kernel
theorem dL_law_426 : decode cL_law 426 = .ok (.ifCond .ne 15, 3) := by decide +kernel
theorem dL_law_429 : decode cL_law 429 = .ok (.aload_n 3, 1) := by decide +kernel
theorem dL_law_430 : decode cL_law 430 = .ok (.iconst 0, 1) := by decide +kernel
theorem dL_law_431 : decode cL_law 431 = .ok (.laload, 1) := by decide +kernel
theorem dL_law_432 : decode cL_law 432 = .ok (.iload 6, 2) := by decide +kernel
theorem dL_law_434 : decode cL_law 434 = .ok (.i2l, 1) := by decide +kernel
theorem dL_law_435 : decode cL_law 435 = .ok (.lcmp, 1) := by decide +kernel
theorem dL_law_436 : decode cL_law 436 = .ok (.ifCond .eq 5, 3) := by decide +kernel
theorem dL_law_439 : decode cL_law 439 = .ok (.iconst 0, 1) := by decide +kernel
theorem dL_law_440 : decode cL_law 440 = .ok (.ireturn, 1) := by decide +kernel
theorem dL_law_441 : decode cL_law 441 = .ok (.goto 1238, 3) := by decide +kernel
theorem dL_law_444 : decode cL_law 444 = .ok (.aload_n 1, 1) := by decide +kernel
theorem dL_law_445 : decode cL_law 445 = .ok (.aload_n 0, 1) := by decide +kernel
theorem dL_law_446 : decode cL_law 446 = .ok (.iload 4, 2) := by decide +kernel
theorem dL_law_448 : decode cL_law 448 = .ok (.iconst 1, 1) := by decide +kernel
theorem dL_law_449 : decode cL_law 449 = .ok (.iadd, 1) := by decide +kernel
theorem dL_law_450 : decode cL_law 450 = .ok (.iaload, 1) := by decide +kernel
theorem dL_law_451 : decode cL_law 451 = .ok (.aload_n 0, 1) := by decide +kernel
theorem dL_law_452 : decode cL_law 452 = .ok (.iload 4, 2) := by decide +kernel
theorem dL_law_454 : decode cL_law 454 = .ok (.iconst 2, 1) := by decide +kernel
theorem dL_law_455 : decode cL_law 455 = .ok (.iadd, 1) := by decide +kernel
theorem dL_law_456 : decode cL_law 456 = .ok (.iaload, 1) := by decide +kernel
theorem dL_law_457 : decode cL_law 457 = .ok (.aload_n 0, 1) := by decide +kernel
theorem dL_law_458 : decode cL_law 458 = .ok (.iload 4, 2) := by decide +kernel
theorem dL_law_460 : decode cL_law 460 = .ok (.iconst 3, 1) := by decide +kernel
theorem dL_law_461 : decode cL_law 461 = .ok (.iadd, 1) := by decide +kernel
theorem dL_law_462 : decode cL_law 462 = .ok (.iaload, 1) := by decide +kernel
theorem dL_law_463 : decode cL_law 463 = .ok (.aload_n 3, 1) := by decide +kernel
theorem dL_law_464 : decode cL_law 464 = .ok (.invokestatic 113, 3) := by decide +kernel
theorem dL_law_467 : decode cL_law 467 = .ok (.istore 5, 2) := by decide +kernel
theorem dL_law_469 : decode cL_law 469 = .ok (.aload_n 2, 1) := by decide +kernel
theorem dL_law_470 : decode cL_law 470 = .ok (.aload_n 0, 1) := by decide +kernel
theorem dL_law_471 : decode cL_law 471 = .ok (.iload 4, 2) := by decide +kernel
theorem dL_law_473 : decode cL_law 473 = .ok (.iconst 1, 1) := by decide +kernel
theorem dL_law_474 : decode cL_law 474 = .ok (.iadd, 1) := by decide +kernel
theorem dL_law_475 : decode cL_law 475 = .ok (.iaload, 1) := by decide +kernel
theorem dL_law_476 : decode cL_law 476 = .ok (.aload_n 0, 1) := by decide +kernel
theorem dL_law_477 : decode cL_law 477 = .ok (.iload 4, 2) := by decide +kernel
theorem dL_law_479 : decode cL_law 479 = .ok (.iconst 2, 1) := by decide +kernel
theorem dL_law_480 : decode cL_law 480 = .ok (.iadd, 1) := by decide +kernel
theorem dL_law_481 : decode cL_law 481 = .ok (.iaload, 1) := by decide +kernel
theorem dL_law_482 : decode cL_law 482 = .ok (.aload_n 0, 1) := by decide +kernel
theorem dL_law_483 : decode cL_law 483 = .ok (.iload 4, 2) := by decide +kernel
theorem dL_law_485 : decode cL_law 485 = .ok (.iconst 3, 1) := by decide +kernel
theorem dL_law_486 : decode cL_law 486 = .ok (.iadd, 1) := by decide +kernel
theorem dL_law_487 : decode cL_law 487 = .ok (.iaload, 1) := by decide +kernel
theorem dL_law_488 : decode cL_law 488 = .ok (.invokevirtual 115, 3) := by decide +kernel
theorem dL_law_491 : decode cL_law 491 = .ok (.istore 6, 2) := by decide +kernel
theorem dL_law_493 : decode cL_law 493 = .ok (.aload_n 2, 1) := by decide +kernel
theorem dL_law_494 : decode cL_law 494 = .ok (.invokevirtual 99, 3) := by decide +kernel
theorem dL_law_497 : decode cL_law 497 = .ok (.iload 5, 2) := by decide +kernel
theorem dL_law_499 : decode cL_law 499 = .ok (.if_icmp .eq 5, 3) := by decide +kernel
theorem dL_law_502 : decode cL_law 502 = .ok (.iconst 0, 1) := by decide +kernel
theorem dL_law_503 : decode cL_law 503 = .ok (.ireturn, 1) := by decide +kernel
theorem dL_law_504 : decode cL_law 504 = .ok (.iload 5, 2) := by decide +kernel
theorem dL_law_506 : decode cL_law 506 = .ok (.ifCond .ne 15, 3) := by decide +kernel
theorem dL_law_509 : decode cL_law 509 = .ok (.aload_n 3, 1) := by decide +kernel
theorem dL_law_510 : decode cL_law 510 = .ok (.iconst 0, 1) := by decide +kernel
theorem dL_law_511 : decode cL_law 511 = .ok (.laload, 1) := by decide +kernel
theorem dL_law_512 : decode cL_law 512 = .ok (.iload 6, 2) := by decide +kernel
theorem dL_law_514 : decode cL_law 514 = .ok (.i2l, 1) := by decide +kernel
theorem dL_law_515 : decode cL_law 515 = .ok (.lcmp, 1) := by decide +kernel
theorem dL_law_516 : decode cL_law 516 = .ok (.ifCond .eq 5, 3) := by decide +kernel
theorem dL_law_519 : decode cL_law 519 = .ok (.iconst 0, 1) := by decide +kernel
theorem dL_law_520 : decode cL_law 520 = .ok (.ireturn, 1) := by decide +kernel
theorem dL_law_521 : decode cL_law 521 = .ok (.goto 1158, 3) := by decide +kernel
theorem dL_law_524 : decode cL_law 524 = .ok (.aload_n 1, 1) := by decide +kernel
theorem dL_law_525 : decode cL_law 525 = .ok (.aload_n 0, 1) := by decide +kernel
theorem dL_law_526 : decode cL_law 526 = .ok (.iload 4, 2) := by decide +kernel
theorem dL_law_528 : decode cL_law 528 = .ok (.iconst 1, 1) := by decide +kernel
theorem dL_law_529 : decode cL_law 529 = .ok (.iadd, 1) := by decide +kernel
theorem dL_law_530 : decode cL_law 530 = .ok (.iaload, 1) := by decide +kernel
theorem dL_law_531 : decode cL_law 531 = .ok (.aload_n 0, 1) := by decide +kernel
theorem dL_law_532 : decode cL_law 532 = .ok (.iload 4, 2) := by decide +kernel
theorem dL_law_534 : decode cL_law 534 = .ok (.iconst 2, 1) := by decide +kernel
theorem dL_law_535 : decode cL_law 535 = .ok (.iadd, 1) := by decide +kernel
theorem dL_law_536 : decode cL_law 536 = .ok (.iaload, 1) := by decide +kernel
theorem dL_law_537 : decode cL_law 537 = .ok (.aload_n 3, 1) := by decide +kernel
theorem dL_law_538 : decode cL_law 538 = .ok (.invokestatic 116, 3) := by decide +kernel
theorem dL_law_541 : decode cL_law 541 = .ok (.istore 5, 2) := by decide +kernel
theorem dL_law_543 : decode cL_law 543 = .ok (.aload_n 2, 1) := by decide +kernel
theorem dL_law_544 : decode cL_law 544 = .ok (.aload_n 0, 1) := by decide +kernel
theorem dL_law_545 : decode cL_law 545 = .ok (.iload 4, 2) := by decide +kernel
theorem dL_law_547 : decode cL_law 547 = .ok (.iconst 1, 1) := by decide +kernel
theorem dL_law_548 : decode cL_law 548 = .ok (.iadd, 1) := by decide +kernel
theorem dL_law_549 : decode cL_law 549 = .ok (.iaload, 1) := by decide +kernel
theorem dL_law_550 : decode cL_law 550 = .ok (.aload_n 0, 1) := by decide +kernel
theorem dL_law_551 : decode cL_law 551 = .ok (.iload 4, 2) := by decide +kernel
theorem dL_law_553 : decode cL_law 553 = .ok (.iconst 2, 1) := by decide +kernel
theorem dL_law_554 : decode cL_law 554 = .ok (.iadd, 1) := by decide +kernel
theorem dL_law_555 : decode cL_law 555 = .ok (.iaload, 1) := by decide +kernel
theorem dL_law_556 : decode cL_law 556 = .ok (.invokevirtual 118, 3) := by decide +kernel
theorem dL_law_559 : decode cL_law 559 = .ok (.istore 6, 2) := by decide +kernel
theorem dL_law_561 : decode cL_law 561 = .ok (.aload_n 2, 1) := by decide +kernel
theorem dL_law_562 : decode cL_law 562 = .ok (.invokevirtual 99, 3) := by decide +kernel
theorem dL_law_565 : decode cL_law 565 = .ok (.iload 5, 2) := by decide +kernel
theorem dL_law_567 : decode cL_law 567 = .ok (.if_icmp .eq 5, 3) := by decide +kernel
theorem dL_law_570 : decode cL_law 570 = .ok (.iconst 0, 1) := by decide +kernel
theorem dL_law_571 : decode cL_law 571 = .ok (.ireturn, 1) := by decide +kernel
theorem dL_law_572 : decode cL_law 572 = .ok (.iload 5, 2) := by decide +kernel
theorem dL_law_574 : decode cL_law 574 = .ok (.ifCond .ne 15, 3) := by decide +kernel
theorem dL_law_577 : decode cL_law 577 = .ok (.aload_n 3, 1) := by decide +kernel
theorem dL_law_578 : decode cL_law 578 = .ok (.iconst 0, 1) := by decide +kernel
theorem dL_law_579 : decode cL_law 579 = .ok (.laload, 1) := by decide +kernel
theorem dL_law_580 : decode cL_law 580 = .ok (.iload 6, 2) := by decide +kernel
theorem dL_law_582 : decode cL_law 582 = .ok (.i2l, 1) := by decide +kernel
theorem dL_law_583 : decode cL_law 583 = .ok (.lcmp, 1) := by decide +kernel
theorem dL_law_584 : decode cL_law 584 = .ok (.ifCond .eq 5, 3) := by decide +kernel
theorem dL_law_587 : decode cL_law 587 = .ok (.iconst 0, 1) := by decide +kernel
theorem dL_law_588 : decode cL_law 588 = .ok (.ireturn, 1) := by decide +kernel
theorem dL_law_589 : decode cL_law 589 = .ok (.goto 1090, 3) := by decide +kernel
theorem dL_law_592 : decode cL_law 592 = .ok (.aload_n 1, 1) := by decide +kernel
theorem dL_law_593 : decode cL_law 593 = .ok (.aload_n 0, 1) := by decide +kernel
theorem dL_law_594 : decode cL_law 594 = .ok (.iload 4, 2) := by decide +kernel
theorem dL_law_596 : decode cL_law 596 = .ok (.iconst 1, 1) := by decide +kernel
theorem dL_law_597 : decode cL_law 597 = .ok (.iadd, 1) := by decide +kernel
theorem dL_law_598 : decode cL_law 598 = .ok (.iaload, 1) := by decide +kernel
theorem dL_law_599 : decode cL_law 599 = .ok (.aload_n 0, 1) := by decide +kernel
theorem dL_law_600 : decode cL_law 600 = .ok (.iload 4, 2) := by decide +kernel
theorem dL_law_602 : decode cL_law 602 = .ok (.iconst 2, 1) := by decide +kernel
theorem dL_law_603 : decode cL_law 603 = .ok (.iadd, 1) := by decide +kernel
theorem dL_law_604 : decode cL_law 604 = .ok (.iaload, 1) := by decide +kernel
theorem dL_law_605 : decode cL_law 605 = .ok (.aload_n 0, 1) := by decide +kernel
theorem dL_law_606 : decode cL_law 606 = .ok (.iload 4, 2) := by decide +kernel
theorem dL_law_608 : decode cL_law 608 = .ok (.iconst 3, 1) := by decide +kernel
theorem dL_law_609 : decode cL_law 609 = .ok (.iadd, 1) := by decide +kernel
theorem dL_law_610 : decode cL_law 610 = .ok (.iaload, 1) := by decide +kernel
theorem dL_law_611 : decode cL_law 611 = .ok (.ifCond .eq 7, 3) := by decide +kernel
theorem dL_law_614 : decode cL_law 614 = .ok (.iconst 1, 1) := by decide +kernel
theorem dL_law_615 : decode cL_law 615 = .ok (.goto 4, 3) := by decide +kernel
theorem dL_law_618 : decode cL_law 618 = .ok (.iconst 0, 1) := by decide +kernel
theorem dL_law_619 : decode cL_law 619 = .ok (.aload_n 0, 1) := by decide +kernel
theorem dL_law_620 : decode cL_law 620 = .ok (.iload 4, 2) := by decide +kernel
theorem dL_law_622 : decode cL_law 622 = .ok (.iconst 4, 1) := by decide +kernel
theorem dL_law_623 : decode cL_law 623 = .ok (.iadd, 1) := by decide +kernel
theorem dL_law_624 : decode cL_law 624 = .ok (.iaload, 1) := by decide +kernel
theorem dL_law_625 : decode cL_law 625 = .ok (.aload_n 0, 1) := by decide +kernel
theorem dL_law_626 : decode cL_law 626 = .ok (.iload 4, 2) := by decide +kernel
theorem dL_law_628 : decode cL_law 628 = .ok (.iconst 5, 1) := by decide +kernel
theorem dL_law_629 : decode cL_law 629 = .ok (.iadd, 1) := by decide +kernel
theorem dL_law_630 : decode cL_law 630 = .ok (.iaload, 1) := by decide +kernel
theorem dL_law_631 : decode cL_law 631 = .ok (.aload_n 3, 1) := by decide +kernel
theorem dL_law_632 : decode cL_law 632 = .ok (.invokestatic 119, 3) := by decide +kernel
theorem dL_law_635 : decode cL_law 635 = .ok (.istore 5, 2) := by decide +kernel
theorem dL_law_637 : decode cL_law 637 = .ok (.aload_n 2, 1) := by decide +kernel
theorem dL_law_638 : decode cL_law 638 = .ok (.aload_n 0, 1) := by decide +kernel
theorem dL_law_639 : decode cL_law 639 = .ok (.iload 4, 2) := by decide +kernel
theorem dL_law_641 : decode cL_law 641 = .ok (.iconst 1, 1) := by decide +kernel
theorem dL_law_642 : decode cL_law 642 = .ok (.iadd, 1) := by decide +kernel
theorem dL_law_643 : decode cL_law 643 = .ok (.iaload, 1) := by decide +kernel
theorem dL_law_644 : decode cL_law 644 = .ok (.aload_n 0, 1) := by decide +kernel
theorem dL_law_645 : decode cL_law 645 = .ok (.iload 4, 2) := by decide +kernel
theorem dL_law_647 : decode cL_law 647 = .ok (.iconst 2, 1) := by decide +kernel
theorem dL_law_648 : decode cL_law 648 = .ok (.iadd, 1) := by decide +kernel
theorem dL_law_649 : decode cL_law 649 = .ok (.iaload, 1) := by decide +kernel
theorem dL_law_650 : decode cL_law 650 = .ok (.aload_n 0, 1) := by decide +kernel
theorem dL_law_651 : decode cL_law 651 = .ok (.iload 4, 2) := by decide +kernel
theorem dL_law_653 : decode cL_law 653 = .ok (.iconst 3, 1) := by decide +kernel
theorem dL_law_654 : decode cL_law 654 = .ok (.iadd, 1) := by decide +kernel
theorem dL_law_655 : decode cL_law 655 = .ok (.iaload, 1) := by decide +kernel
theorem dL_law_656 : decode cL_law 656 = .ok (.ifCond .eq 7, 3) := by decide +kernel
theorem dL_law_659 : decode cL_law 659 = .ok (.iconst 1, 1) := by decide +kernel
theorem dL_law_660 : decode cL_law 660 = .ok (.goto 4, 3) := by decide +kernel
theorem dL_law_663 : decode cL_law 663 = .ok (.iconst 0, 1) := by decide +kernel
theorem dL_law_664 : decode cL_law 664 = .ok (.aload_n 0, 1) := by decide +kernel
theorem dL_law_665 : decode cL_law 665 = .ok (.iload 4, 2) := by decide +kernel
theorem dL_law_667 : decode cL_law 667 = .ok (.iconst 4, 1) := by decide +kernel
theorem dL_law_668 : decode cL_law 668 = .ok (.iadd, 1) := by decide +kernel
theorem dL_law_669 : decode cL_law 669 = .ok (.iaload, 1) := by decide +kernel
theorem dL_law_670 : decode cL_law 670 = .ok (.aload_n 0, 1) := by decide +kernel
theorem dL_law_671 : decode cL_law 671 = .ok (.iload 4, 2) := by decide +kernel
theorem dL_law_673 : decode cL_law 673 = .ok (.iconst 5, 1) := by decide +kernel
theorem dL_law_674 : decode cL_law 674 = .ok (.iadd, 1) := by decide +kernel
theorem dL_law_675 : decode cL_law 675 = .ok (.iaload, 1) := by decide +kernel
theorem dL_law_676 : decode cL_law 676 = .ok (.invokevirtual 122, 3) := by decide +kernel
theorem dL_law_679 : decode cL_law 679 = .ok (.istore 6, 2) := by decide +kernel
theorem dL_law_681 : decode cL_law 681 = .ok (.aload_n 2, 1) := by decide +kernel
theorem dL_law_682 : decode cL_law 682 = .ok (.invokevirtual 99, 3) := by decide +kernel
theorem dL_law_685 : decode cL_law 685 = .ok (.iload 5, 2) := by decide +kernel
theorem dL_law_687 : decode cL_law 687 = .ok (.if_icmp .eq 5, 3) := by decide +kernel
theorem dL_law_690 : decode cL_law 690 = .ok (.iconst 0, 1) := by decide +kernel
theorem dL_law_691 : decode cL_law 691 = .ok (.ireturn, 1) := by decide +kernel
theorem dL_law_692 : decode cL_law 692 = .ok (.iload 5, 2) := by decide +kernel
theorem dL_law_694 : decode cL_law 694 = .ok (.ifCond .ne 15, 3) := by decide +kernel
theorem dL_law_697 : decode cL_law 697 = .ok (.aload_n 3, 1) := by decide +kernel
theorem dL_law_698 : decode cL_law 698 = .ok (.iconst 0, 1) := by decide +kernel
theorem dL_law_699 : decode cL_law 699 = .ok (.laload, 1) := by decide +kernel
theorem dL_law_700 : decode cL_law 700 = .ok (.iload 6, 2) := by decide +kernel
theorem dL_law_702 : decode cL_law 702 = .ok (.i2l, 1) := by decide +kernel
theorem dL_law_703 : decode cL_law 703 = .ok (.lcmp, 1) := by decide +kernel
theorem dL_law_704 : decode cL_law 704 = .ok (.ifCond .eq 5, 3) := by decide +kernel
theorem dL_law_707 : decode cL_law 707 = .ok (.iconst 0, 1) := by decide +kernel
theorem dL_law_708 : decode cL_law 708 = .ok (.ireturn, 1) := by decide +kernel
theorem dL_law_709 : decode cL_law 709 = .ok (.goto 970, 3) := by decide +kernel
theorem dL_law_712 : decode cL_law 712 = .ok (.aload_n 1, 1) := by decide +kernel
theorem dL_law_713 : decode cL_law 713 = .ok (.aload_n 0, 1) := by decide +kernel
theorem dL_law_714 : decode cL_law 714 = .ok (.iload 4, 2) := by decide +kernel
theorem dL_law_716 : decode cL_law 716 = .ok (.iconst 1, 1) := by decide +kernel
theorem dL_law_717 : decode cL_law 717 = .ok (.iadd, 1) := by decide +kernel
theorem dL_law_718 : decode cL_law 718 = .ok (.iaload, 1) := by decide +kernel
theorem dL_law_719 : decode cL_law 719 = .ok (.aload_n 3, 1) := by decide +kernel
theorem dL_law_720 : decode cL_law 720 = .ok (.invokestatic 123, 3) := by decide +kernel
theorem dL_law_723 : decode cL_law 723 = .ok (.istore 5, 2) := by decide +kernel
theorem dL_law_725 : decode cL_law 725 = .ok (.aload_n 2, 1) := by decide +kernel
theorem dL_law_726 : decode cL_law 726 = .ok (.aload_n 0, 1) := by decide +kernel
theorem dL_law_727 : decode cL_law 727 = .ok (.iload 4, 2) := by decide +kernel
theorem dL_law_729 : decode cL_law 729 = .ok (.iconst 1, 1) := by decide +kernel
theorem dL_law_730 : decode cL_law 730 = .ok (.iadd, 1) := by decide +kernel
theorem dL_law_731 : decode cL_law 731 = .ok (.iaload, 1) := by decide +kernel
theorem dL_law_732 : decode cL_law 732 = .ok (.invokevirtual 126, 3) := by decide +kernel
theorem dL_law_735 : decode cL_law 735 = .ok (.istore 6, 2) := by decide +kernel
theorem dL_law_737 : decode cL_law 737 = .ok (.aload_n 2, 1) := by decide +kernel
theorem dL_law_738 : decode cL_law 738 = .ok (.invokevirtual 99, 3) := by decide +kernel
theorem dL_law_741 : decode cL_law 741 = .ok (.iload 5, 2) := by decide +kernel
theorem dL_law_743 : decode cL_law 743 = .ok (.if_icmp .eq 5, 3) := by decide +kernel
theorem dL_law_746 : decode cL_law 746 = .ok (.iconst 0, 1) := by decide +kernel
theorem dL_law_747 : decode cL_law 747 = .ok (.ireturn, 1) := by decide +kernel
theorem dL_law_748 : decode cL_law 748 = .ok (.iload 5, 2) := by decide +kernel
theorem dL_law_750 : decode cL_law 750 = .ok (.ifCond .ne 15, 3) := by decide +kernel
theorem dL_law_753 : decode cL_law 753 = .ok (.aload_n 3, 1) := by decide +kernel
theorem dL_law_754 : decode cL_law 754 = .ok (.iconst 0, 1) := by decide +kernel
theorem dL_law_755 : decode cL_law 755 = .ok (.laload, 1) := by decide +kernel
theorem dL_law_756 : decode cL_law 756 = .ok (.iload 6, 2) := by decide +kernel
theorem dL_law_758 : decode cL_law 758 = .ok (.i2l, 1) := by decide +kernel
theorem dL_law_759 : decode cL_law 759 = .ok (.lcmp, 1) := by decide +kernel
theorem dL_law_760 : decode cL_law 760 = .ok (.ifCond .eq 5, 3) := by decide +kernel
theorem dL_law_763 : decode cL_law 763 = .ok (.iconst 0, 1) := by decide +kernel
theorem dL_law_764 : decode cL_law 764 = .ok (.ireturn, 1) := by decide +kernel
theorem dL_law_765 : decode cL_law 765 = .ok (.goto 914, 3) := by decide +kernel
theorem dL_law_768 : decode cL_law 768 = .ok (.aload_n 1, 1) := by decide +kernel
theorem dL_law_769 : decode cL_law 769 = .ok (.aload_n 0, 1) := by decide +kernel
theorem dL_law_770 : decode cL_law 770 = .ok (.iload 4, 2) := by decide +kernel
theorem dL_law_772 : decode cL_law 772 = .ok (.iconst 1, 1) := by decide +kernel
theorem dL_law_773 : decode cL_law 773 = .ok (.iadd, 1) := by decide +kernel
theorem dL_law_774 : decode cL_law 774 = .ok (.iaload, 1) := by decide +kernel
theorem dL_law_775 : decode cL_law 775 = .ok (.aload_n 0, 1) := by decide +kernel
theorem dL_law_776 : decode cL_law 776 = .ok (.iload 4, 2) := by decide +kernel
theorem dL_law_778 : decode cL_law 778 = .ok (.iconst 2, 1) := by decide +kernel
theorem dL_law_779 : decode cL_law 779 = .ok (.iadd, 1) := by decide +kernel
theorem dL_law_780 : decode cL_law 780 = .ok (.iaload, 1) := by decide +kernel
theorem dL_law_781 : decode cL_law 781 = .ok (.ifCond .eq 7, 3) := by decide +kernel
theorem dL_law_784 : decode cL_law 784 = .ok (.iconst 1, 1) := by decide +kernel
theorem dL_law_785 : decode cL_law 785 = .ok (.goto 4, 3) := by decide +kernel
theorem dL_law_788 : decode cL_law 788 = .ok (.iconst 0, 1) := by decide +kernel
theorem dL_law_789 : decode cL_law 789 = .ok (.aload_n 3, 1) := by decide +kernel
theorem dL_law_790 : decode cL_law 790 = .ok (.invokestatic 127, 3) := by decide +kernel
theorem dL_law_793 : decode cL_law 793 = .ok (.istore 5, 2) := by decide +kernel
theorem dL_law_795 : decode cL_law 795 = .ok (.aload_n 2, 1) := by decide +kernel
theorem dL_law_796 : decode cL_law 796 = .ok (.aload_n 0, 1) := by decide +kernel
theorem dL_law_797 : decode cL_law 797 = .ok (.iload 4, 2) := by decide +kernel
theorem dL_law_799 : decode cL_law 799 = .ok (.iconst 1, 1) := by decide +kernel
theorem dL_law_800 : decode cL_law 800 = .ok (.iadd, 1) := by decide +kernel
theorem dL_law_801 : decode cL_law 801 = .ok (.iaload, 1) := by decide +kernel
theorem dL_law_802 : decode cL_law 802 = .ok (.aload_n 0, 1) := by decide +kernel
theorem dL_law_803 : decode cL_law 803 = .ok (.iload 4, 2) := by decide +kernel
theorem dL_law_805 : decode cL_law 805 = .ok (.iconst 2, 1) := by decide +kernel
theorem dL_law_806 : decode cL_law 806 = .ok (.iadd, 1) := by decide +kernel
theorem dL_law_807 : decode cL_law 807 = .ok (.iaload, 1) := by decide +kernel
theorem dL_law_808 : decode cL_law 808 = .ok (.ifCond .eq 7, 3) := by decide +kernel
theorem dL_law_811 : decode cL_law 811 = .ok (.iconst 1, 1) := by decide +kernel
theorem dL_law_812 : decode cL_law 812 = .ok (.goto 4, 3) := by decide +kernel
theorem dL_law_815 : decode cL_law 815 = .ok (.iconst 0, 1) := by decide +kernel
theorem dL_law_816 : decode cL_law 816 = .ok (.invokevirtual 130, 3) := by decide +kernel
theorem dL_law_819 : decode cL_law 819 = .ok (.istore 6, 2) := by decide +kernel
theorem dL_law_821 : decode cL_law 821 = .ok (.aload_n 2, 1) := by decide +kernel
theorem dL_law_822 : decode cL_law 822 = .ok (.invokevirtual 99, 3) := by decide +kernel
theorem dL_law_825 : decode cL_law 825 = .ok (.iload 5, 2) := by decide +kernel
theorem dL_law_827 : decode cL_law 827 = .ok (.if_icmp .eq 5, 3) := by decide +kernel
theorem dL_law_830 : decode cL_law 830 = .ok (.iconst 0, 1) := by decide +kernel
theorem dL_law_831 : decode cL_law 831 = .ok (.ireturn, 1) := by decide +kernel
theorem dL_law_832 : decode cL_law 832 = .ok (.iload 5, 2) := by decide +kernel
theorem dL_law_834 : decode cL_law 834 = .ok (.ifCond .ne 15, 3) := by decide +kernel
theorem dL_law_837 : decode cL_law 837 = .ok (.aload_n 3, 1) := by decide +kernel
theorem dL_law_838 : decode cL_law 838 = .ok (.iconst 0, 1) := by decide +kernel
theorem dL_law_839 : decode cL_law 839 = .ok (.laload, 1) := by decide +kernel
theorem dL_law_840 : decode cL_law 840 = .ok (.iload 6, 2) := by decide +kernel
theorem dL_law_842 : decode cL_law 842 = .ok (.i2l, 1) := by decide +kernel
theorem dL_law_843 : decode cL_law 843 = .ok (.lcmp, 1) := by decide +kernel
theorem dL_law_844 : decode cL_law 844 = .ok (.ifCond .eq 5, 3) := by decide +kernel
theorem dL_law_847 : decode cL_law 847 = .ok (.iconst 0, 1) := by decide +kernel
theorem dL_law_848 : decode cL_law 848 = .ok (.ireturn, 1) := by decide +kernel
theorem dL_law_849 : decode cL_law 849 = .ok (.goto 830, 3) := by decide +kernel
theorem dL_law_852 : decode cL_law 852 = .ok (.aload_n 1, 1) := by decide +kernel
theorem dL_law_853 : decode cL_law 853 = .ok (.aload_n 0, 1) := by decide +kernel
theorem dL_law_854 : decode cL_law 854 = .ok (.iload 4, 2) := by decide +kernel
theorem dL_law_856 : decode cL_law 856 = .ok (.iconst 1, 1) := by decide +kernel
theorem dL_law_857 : decode cL_law 857 = .ok (.iadd, 1) := by decide +kernel
theorem dL_law_858 : decode cL_law 858 = .ok (.iaload, 1) := by decide +kernel
theorem dL_law_859 : decode cL_law 859 = .ok (.aload_n 3, 1) := by decide +kernel
theorem dL_law_860 : decode cL_law 860 = .ok (.invokestatic 131, 3) := by decide +kernel
theorem dL_law_863 : decode cL_law 863 = .ok (.istore 5, 2) := by decide +kernel
theorem dL_law_865 : decode cL_law 865 = .ok (.aload_n 2, 1) := by decide +kernel
theorem dL_law_866 : decode cL_law 866 = .ok (.aload_n 0, 1) := by decide +kernel
theorem dL_law_867 : decode cL_law 867 = .ok (.iload 4, 2) := by decide +kernel
theorem dL_law_869 : decode cL_law 869 = .ok (.iconst 1, 1) := by decide +kernel
theorem dL_law_870 : decode cL_law 870 = .ok (.iadd, 1) := by decide +kernel
theorem dL_law_871 : decode cL_law 871 = .ok (.iaload, 1) := by decide +kernel
theorem dL_law_872 : decode cL_law 872 = .ok (.invokevirtual 133, 3) := by decide +kernel
theorem dL_law_875 : decode cL_law 875 = .ok (.istore 6, 2) := by decide +kernel
theorem dL_law_877 : decode cL_law 877 = .ok (.aload_n 2, 1) := by decide +kernel
theorem dL_law_878 : decode cL_law 878 = .ok (.invokevirtual 99, 3) := by decide +kernel
theorem dL_law_881 : decode cL_law 881 = .ok (.iload 5, 2) := by decide +kernel
theorem dL_law_883 : decode cL_law 883 = .ok (.if_icmp .eq 5, 3) := by decide +kernel
theorem dL_law_886 : decode cL_law 886 = .ok (.iconst 0, 1) := by decide +kernel
theorem dL_law_887 : decode cL_law 887 = .ok (.ireturn, 1) := by decide +kernel
theorem dL_law_888 : decode cL_law 888 = .ok (.iload 5, 2) := by decide +kernel
theorem dL_law_890 : decode cL_law 890 = .ok (.ifCond .ne 15, 3) := by decide +kernel
theorem dL_law_893 : decode cL_law 893 = .ok (.aload_n 3, 1) := by decide +kernel
theorem dL_law_894 : decode cL_law 894 = .ok (.iconst 0, 1) := by decide +kernel
theorem dL_law_895 : decode cL_law 895 = .ok (.laload, 1) := by decide +kernel
theorem dL_law_896 : decode cL_law 896 = .ok (.iload 6, 2) := by decide +kernel
theorem dL_law_898 : decode cL_law 898 = .ok (.i2l, 1) := by decide +kernel
theorem dL_law_899 : decode cL_law 899 = .ok (.lcmp, 1) := by decide +kernel
theorem dL_law_900 : decode cL_law 900 = .ok (.ifCond .eq 5, 3) := by decide +kernel
theorem dL_law_903 : decode cL_law 903 = .ok (.iconst 0, 1) := by decide +kernel
theorem dL_law_904 : decode cL_law 904 = .ok (.ireturn, 1) := by decide +kernel
theorem dL_law_905 : decode cL_law 905 = .ok (.goto 774, 3) := by decide +kernel
theorem dL_law_908 : decode cL_law 908 = .ok (.aload_n 1, 1) := by decide +kernel
theorem dL_law_909 : decode cL_law 909 = .ok (.aload_n 0, 1) := by decide +kernel
theorem dL_law_910 : decode cL_law 910 = .ok (.iload 4, 2) := by decide +kernel
theorem dL_law_912 : decode cL_law 912 = .ok (.iconst 1, 1) := by decide +kernel
theorem dL_law_913 : decode cL_law 913 = .ok (.iadd, 1) := by decide +kernel
theorem dL_law_914 : decode cL_law 914 = .ok (.iaload, 1) := by decide +kernel
theorem dL_law_915 : decode cL_law 915 = .ok (.aload_n 0, 1) := by decide +kernel
theorem dL_law_916 : decode cL_law 916 = .ok (.iload 4, 2) := by decide +kernel
theorem dL_law_918 : decode cL_law 918 = .ok (.iconst 2, 1) := by decide +kernel
theorem dL_law_919 : decode cL_law 919 = .ok (.iadd, 1) := by decide +kernel
theorem dL_law_920 : decode cL_law 920 = .ok (.iaload, 1) := by decide +kernel
theorem dL_law_921 : decode cL_law 921 = .ok (.ifCond .eq 7, 3) := by decide +kernel
theorem dL_law_924 : decode cL_law 924 = .ok (.iconst 1, 1) := by decide +kernel
theorem dL_law_925 : decode cL_law 925 = .ok (.goto 4, 3) := by decide +kernel
theorem dL_law_928 : decode cL_law 928 = .ok (.iconst 0, 1) := by decide +kernel
theorem dL_law_929 : decode cL_law 929 = .ok (.aload_n 3, 1) := by decide +kernel
theorem dL_law_930 : decode cL_law 930 = .ok (.invokestatic 134, 3) := by decide +kernel
theorem dL_law_933 : decode cL_law 933 = .ok (.istore 5, 2) := by decide +kernel
theorem dL_law_935 : decode cL_law 935 = .ok (.aload_n 2, 1) := by decide +kernel
theorem dL_law_936 : decode cL_law 936 = .ok (.aload_n 0, 1) := by decide +kernel
theorem dL_law_937 : decode cL_law 937 = .ok (.iload 4, 2) := by decide +kernel
theorem dL_law_939 : decode cL_law 939 = .ok (.iconst 1, 1) := by decide +kernel
theorem dL_law_940 : decode cL_law 940 = .ok (.iadd, 1) := by decide +kernel
theorem dL_law_941 : decode cL_law 941 = .ok (.iaload, 1) := by decide +kernel
theorem dL_law_942 : decode cL_law 942 = .ok (.aload_n 0, 1) := by decide +kernel
theorem dL_law_943 : decode cL_law 943 = .ok (.iload 4, 2) := by decide +kernel
theorem dL_law_945 : decode cL_law 945 = .ok (.iconst 2, 1) := by decide +kernel
theorem dL_law_946 : decode cL_law 946 = .ok (.iadd, 1) := by decide +kernel
theorem dL_law_947 : decode cL_law 947 = .ok (.iaload, 1) := by decide +kernel
theorem dL_law_948 : decode cL_law 948 = .ok (.ifCond .eq 7, 3) := by decide +kernel
theorem dL_law_951 : decode cL_law 951 = .ok (.iconst 1, 1) := by decide +kernel
theorem dL_law_952 : decode cL_law 952 = .ok (.goto 4, 3) := by decide +kernel
theorem dL_law_955 : decode cL_law 955 = .ok (.iconst 0, 1) := by decide +kernel
theorem dL_law_956 : decode cL_law 956 = .ok (.invokevirtual 136, 3) := by decide +kernel
theorem dL_law_959 : decode cL_law 959 = .ok (.istore 6, 2) := by decide +kernel
theorem dL_law_961 : decode cL_law 961 = .ok (.aload_n 2, 1) := by decide +kernel
theorem dL_law_962 : decode cL_law 962 = .ok (.invokevirtual 99, 3) := by decide +kernel
theorem dL_law_965 : decode cL_law 965 = .ok (.iload 5, 2) := by decide +kernel
theorem dL_law_967 : decode cL_law 967 = .ok (.if_icmp .eq 5, 3) := by decide +kernel
theorem dL_law_970 : decode cL_law 970 = .ok (.iconst 0, 1) := by decide +kernel
theorem dL_law_971 : decode cL_law 971 = .ok (.ireturn, 1) := by decide +kernel
theorem dL_law_972 : decode cL_law 972 = .ok (.iload 5, 2) := by decide +kernel
theorem dL_law_974 : decode cL_law 974 = .ok (.ifCond .ne 15, 3) := by decide +kernel
theorem dL_law_977 : decode cL_law 977 = .ok (.aload_n 3, 1) := by decide +kernel
theorem dL_law_978 : decode cL_law 978 = .ok (.iconst 0, 1) := by decide +kernel
theorem dL_law_979 : decode cL_law 979 = .ok (.laload, 1) := by decide +kernel
theorem dL_law_980 : decode cL_law 980 = .ok (.iload 6, 2) := by decide +kernel
theorem dL_law_982 : decode cL_law 982 = .ok (.i2l, 1) := by decide +kernel
theorem dL_law_983 : decode cL_law 983 = .ok (.lcmp, 1) := by decide +kernel
theorem dL_law_984 : decode cL_law 984 = .ok (.ifCond .eq 5, 3) := by decide +kernel
theorem dL_law_987 : decode cL_law 987 = .ok (.iconst 0, 1) := by decide +kernel
theorem dL_law_988 : decode cL_law 988 = .ok (.ireturn, 1) := by decide +kernel
theorem dL_law_989 : decode cL_law 989 = .ok (.goto 690, 3) := by decide +kernel
theorem dL_law_992 : decode cL_law 992 = .ok (.aload_n 1, 1) := by decide +kernel
theorem dL_law_993 : decode cL_law 993 = .ok (.invokevirtual 137, 3) := by decide +kernel
theorem dL_law_996 : decode cL_law 996 = .ok (.aload_n 2, 1) := by decide +kernel
theorem dL_law_997 : decode cL_law 997 = .ok (.invokevirtual 140, 3) := by decide +kernel
theorem dL_law_1000 : decode cL_law 1000 = .ok (.if_icmp .eq 679, 3) := by decide +kernel
theorem dL_law_1003 : decode cL_law 1003 = .ok (.iconst 0, 1) := by decide +kernel
theorem dL_law_1004 : decode cL_law 1004 = .ok (.ireturn, 1) := by decide +kernel
theorem dL_law_1005 : decode cL_law 1005 = .ok (.aload_n 1, 1) := by decide +kernel
theorem dL_law_1006 : decode cL_law 1006 = .ok (.invokevirtual 141, 3) := by decide +kernel
theorem dL_law_1009 : decode cL_law 1009 = .ok (.aload_n 2, 1) := by decide +kernel
theorem dL_law_1010 : decode cL_law 1010 = .ok (.invokevirtual 144, 3) := by decide +kernel
theorem dL_law_1013 : decode cL_law 1013 = .ok (.if_icmp .eq 666, 3) := by decide +kernel
theorem dL_law_1016 : decode cL_law 1016 = .ok (.iconst 0, 1) := by decide +kernel
theorem dL_law_1017 : decode cL_law 1017 = .ok (.ireturn, 1) := by decide +kernel
theorem dL_law_1018 : decode cL_law 1018 = .ok (.aload_n 1, 1) := by decide +kernel
theorem dL_law_1019 : decode cL_law 1019 = .ok (.invokevirtual 145, 3) := by decide +kernel
theorem dL_law_1022 : decode cL_law 1022 = .ok (.aload_n 2, 1) := by decide +kernel
theorem dL_law_1023 : decode cL_law 1023 = .ok (.invokevirtual 148, 3) := by decide +kernel
theorem dL_law_1026 : decode cL_law 1026 = .ok (.if_icmp .eq 653, 3) := by decide +kernel
theorem dL_law_1029 : decode cL_law 1029 = .ok (.iconst 0, 1) := by decide +kernel
theorem dL_law_1030 : decode cL_law 1030 = .ok (.ireturn, 1) := by decide +kernel
theorem dL_law_1031 : decode cL_law 1031 = .ok (.aload_n 1, 1) := by decide +kernel
theorem dL_law_1032 : decode cL_law 1032 = .ok (.aload_n 0, 1) := by decide +kernel
theorem dL_law_1033 : decode cL_law 1033 = .ok (.iload 4, 2) := by decide +kernel
theorem dL_law_1035 : decode cL_law 1035 = .ok (.iconst 1, 1) := by decide +kernel
theorem dL_law_1036 : decode cL_law 1036 = .ok (.iadd, 1) := by decide +kernel
theorem dL_law_1037 : decode cL_law 1037 = .ok (.iaload, 1) := by decide +kernel
theorem dL_law_1038 : decode cL_law 1038 = .ok (.aload_n 3, 1) := by decide +kernel
theorem dL_law_1039 : decode cL_law 1039 = .ok (.invokestatic 149, 3) := by decide +kernel
theorem dL_law_1042 : decode cL_law 1042 = .ok (.istore 5, 2) := by decide +kernel
theorem dL_law_1044 : decode cL_law 1044 = .ok (.aload_n 2, 1) := by decide +kernel
theorem dL_law_1045 : decode cL_law 1045 = .ok (.aload_n 0, 1) := by decide +kernel
theorem dL_law_1046 : decode cL_law 1046 = .ok (.iload 4, 2) := by decide +kernel
theorem dL_law_1048 : decode cL_law 1048 = .ok (.iconst 1, 1) := by decide +kernel
theorem dL_law_1049 : decode cL_law 1049 = .ok (.iadd, 1) := by decide +kernel
theorem dL_law_1050 : decode cL_law 1050 = .ok (.iaload, 1) := by decide +kernel
theorem dL_law_1051 : decode cL_law 1051 = .ok (.invokevirtual 151, 3) := by decide +kernel
theorem dL_law_1054 : decode cL_law 1054 = .ok (.istore 6, 2) := by decide +kernel
theorem dL_law_1056 : decode cL_law 1056 = .ok (.aload_n 2, 1) := by decide +kernel
theorem dL_law_1057 : decode cL_law 1057 = .ok (.invokevirtual 99, 3) := by decide +kernel
theorem dL_law_1060 : decode cL_law 1060 = .ok (.iload 5, 2) := by decide +kernel
theorem dL_law_1062 : decode cL_law 1062 = .ok (.if_icmp .eq 5, 3) := by decide +kernel
theorem dL_law_1065 : decode cL_law 1065 = .ok (.iconst 0, 1) := by decide +kernel
theorem dL_law_1066 : decode cL_law 1066 = .ok (.ireturn, 1) := by decide +kernel
theorem dL_law_1067 : decode cL_law 1067 = .ok (.iload 5, 2) := by decide +kernel
theorem dL_law_1069 : decode cL_law 1069 = .ok (.ifCond .ne 15, 3) := by decide +kernel
theorem dL_law_1072 : decode cL_law 1072 = .ok (.aload_n 3, 1) := by decide +kernel
theorem dL_law_1073 : decode cL_law 1073 = .ok (.iconst 0, 1) := by decide +kernel
theorem dL_law_1074 : decode cL_law 1074 = .ok (.laload, 1) := by decide +kernel
theorem dL_law_1075 : decode cL_law 1075 = .ok (.iload 6, 2) := by decide +kernel
theorem dL_law_1077 : decode cL_law 1077 = .ok (.i2l, 1) := by decide +kernel
theorem dL_law_1078 : decode cL_law 1078 = .ok (.lcmp, 1) := by decide +kernel
theorem dL_law_1079 : decode cL_law 1079 = .ok (.ifCond .eq 5, 3) := by decide +kernel
theorem dL_law_1082 : decode cL_law 1082 = .ok (.iconst 0, 1) := by decide +kernel
theorem dL_law_1083 : decode cL_law 1083 = .ok (.ireturn, 1) := by decide +kernel
theorem dL_law_1084 : decode cL_law 1084 = .ok (.goto 595, 3) := by decide +kernel
theorem dL_law_1087 : decode cL_law 1087 = .ok (.aload_n 1, 1) := by decide +kernel
theorem dL_law_1088 : decode cL_law 1088 = .ok (.aload_n 0, 1) := by decide +kernel
theorem dL_law_1089 : decode cL_law 1089 = .ok (.iload 4, 2) := by decide +kernel
theorem dL_law_1091 : decode cL_law 1091 = .ok (.iconst 1, 1) := by decide +kernel
theorem dL_law_1092 : decode cL_law 1092 = .ok (.iadd, 1) := by decide +kernel
theorem dL_law_1093 : decode cL_law 1093 = .ok (.iaload, 1) := by decide +kernel
theorem dL_law_1094 : decode cL_law 1094 = .ok (.aload_n 3, 1) := by decide +kernel
theorem dL_law_1095 : decode cL_law 1095 = .ok (.invokestatic 152, 3) := by decide +kernel
theorem dL_law_1098 : decode cL_law 1098 = .ok (.istore 5, 2) := by decide +kernel
theorem dL_law_1100 : decode cL_law 1100 = .ok (.aload_n 2, 1) := by decide +kernel
theorem dL_law_1101 : decode cL_law 1101 = .ok (.aload_n 0, 1) := by decide +kernel
theorem dL_law_1102 : decode cL_law 1102 = .ok (.iload 4, 2) := by decide +kernel
theorem dL_law_1104 : decode cL_law 1104 = .ok (.iconst 1, 1) := by decide +kernel
theorem dL_law_1105 : decode cL_law 1105 = .ok (.iadd, 1) := by decide +kernel
theorem dL_law_1106 : decode cL_law 1106 = .ok (.iaload, 1) := by decide +kernel
theorem dL_law_1107 : decode cL_law 1107 = .ok (.invokevirtual 154, 3) := by decide +kernel
theorem dL_law_1110 : decode cL_law 1110 = .ok (.istore 6, 2) := by decide +kernel
theorem dL_law_1112 : decode cL_law 1112 = .ok (.aload_n 2, 1) := by decide +kernel
theorem dL_law_1113 : decode cL_law 1113 = .ok (.invokevirtual 99, 3) := by decide +kernel
theorem dL_law_1116 : decode cL_law 1116 = .ok (.iload 5, 2) := by decide +kernel
theorem dL_law_1118 : decode cL_law 1118 = .ok (.if_icmp .eq 5, 3) := by decide +kernel
theorem dL_law_1121 : decode cL_law 1121 = .ok (.iconst 0, 1) := by decide +kernel
theorem dL_law_1122 : decode cL_law 1122 = .ok (.ireturn, 1) := by decide +kernel
theorem dL_law_1123 : decode cL_law 1123 = .ok (.iload 5, 2) := by decide +kernel
theorem dL_law_1125 : decode cL_law 1125 = .ok (.ifCond .ne 22, 3) := by decide +kernel
theorem dL_law_1128 : decode cL_law 1128 = .ok (.aload_n 3, 1) := by decide +kernel
theorem dL_law_1129 : decode cL_law 1129 = .ok (.iconst 0, 1) := by decide +kernel
theorem dL_law_1130 : decode cL_law 1130 = .ok (.laload, 1) := by decide +kernel
theorem dL_law_1131 : decode cL_law 1131 = .ok (.iload 6, 2) := by decide +kernel
theorem dL_law_1133 : decode cL_law 1133 = .ok (.ifCond .eq 7, 3) := by decide +kernel
theorem dL_law_1136 : decode cL_law 1136 = .ok (.lconst 1, 1) := by decide +kernel
theorem dL_law_1137 : decode cL_law 1137 = .ok (.goto 4, 3) := by decide +kernel
theorem dL_law_1140 : decode cL_law 1140 = .ok (.lconst 0, 1) := by decide +kernel
theorem dL_law_1141 : decode cL_law 1141 = .ok (.lcmp, 1) := by decide +kernel
theorem dL_law_1142 : decode cL_law 1142 = .ok (.ifCond .eq 5, 3) := by decide +kernel
theorem dL_law_1145 : decode cL_law 1145 = .ok (.iconst 0, 1) := by decide +kernel
theorem dL_law_1146 : decode cL_law 1146 = .ok (.ireturn, 1) := by decide +kernel
theorem dL_law_1147 : decode cL_law 1147 = .ok (.goto 532, 3) := by decide +kernel
theorem dL_law_1150 : decode cL_law 1150 = .ok (.aload_n 1, 1) := by decide +kernel
theorem dL_law_1151 : decode cL_law 1151 = .ok (.aload_n 0, 1) := by decide +kernel
theorem dL_law_1152 : decode cL_law 1152 = .ok (.iload 4, 2) := by decide +kernel
theorem dL_law_1154 : decode cL_law 1154 = .ok (.iconst 1, 1) := by decide +kernel
theorem dL_law_1155 : decode cL_law 1155 = .ok (.iadd, 1) := by decide +kernel
theorem dL_law_1156 : decode cL_law 1156 = .ok (.iaload, 1) := by decide +kernel
theorem dL_law_1157 : decode cL_law 1157 = .ok (.aload_n 0, 1) := by decide +kernel
theorem dL_law_1158 : decode cL_law 1158 = .ok (.iload 4, 2) := by decide +kernel
theorem dL_law_1160 : decode cL_law 1160 = .ok (.iconst 2, 1) := by decide +kernel
theorem dL_law_1161 : decode cL_law 1161 = .ok (.iadd, 1) := by decide +kernel
theorem dL_law_1162 : decode cL_law 1162 = .ok (.iaload, 1) := by decide +kernel
theorem dL_law_1163 : decode cL_law 1163 = .ok (.aload_n 3, 1) := by decide +kernel
theorem dL_law_1164 : decode cL_law 1164 = .ok (.invokestatic 155, 3) := by decide +kernel
theorem dL_law_1167 : decode cL_law 1167 = .ok (.istore 5, 2) := by decide +kernel
theorem dL_law_1169 : decode cL_law 1169 = .ok (.aload_n 2, 1) := by decide +kernel
theorem dL_law_1170 : decode cL_law 1170 = .ok (.aload_n 0, 1) := by decide +kernel
theorem dL_law_1171 : decode cL_law 1171 = .ok (.iload 4, 2) := by decide +kernel
theorem dL_law_1173 : decode cL_law 1173 = .ok (.iconst 1, 1) := by decide +kernel
theorem dL_law_1174 : decode cL_law 1174 = .ok (.iadd, 1) := by decide +kernel
theorem dL_law_1175 : decode cL_law 1175 = .ok (.iaload, 1) := by decide +kernel
theorem dL_law_1176 : decode cL_law 1176 = .ok (.aload_n 0, 1) := by decide +kernel
theorem dL_law_1177 : decode cL_law 1177 = .ok (.iload 4, 2) := by decide +kernel
theorem dL_law_1179 : decode cL_law 1179 = .ok (.iconst 2, 1) := by decide +kernel
theorem dL_law_1180 : decode cL_law 1180 = .ok (.iadd, 1) := by decide +kernel
theorem dL_law_1181 : decode cL_law 1181 = .ok (.iaload, 1) := by decide +kernel
theorem dL_law_1182 : decode cL_law 1182 = .ok (.invokevirtual 157, 3) := by decide +kernel
theorem dL_law_1185 : decode cL_law 1185 = .ok (.istore 6, 2) := by decide +kernel
theorem dL_law_1187 : decode cL_law 1187 = .ok (.aload_n 2, 1) := by decide +kernel
theorem dL_law_1188 : decode cL_law 1188 = .ok (.invokevirtual 99, 3) := by decide +kernel
theorem dL_law_1191 : decode cL_law 1191 = .ok (.iload 5, 2) := by decide +kernel
theorem dL_law_1193 : decode cL_law 1193 = .ok (.if_icmp .eq 5, 3) := by decide +kernel
theorem dL_law_1196 : decode cL_law 1196 = .ok (.iconst 0, 1) := by decide +kernel
theorem dL_law_1197 : decode cL_law 1197 = .ok (.ireturn, 1) := by decide +kernel
theorem dL_law_1198 : decode cL_law 1198 = .ok (.iload 5, 2) := by decide +kernel
theorem dL_law_1200 : decode cL_law 1200 = .ok (.ifCond .ne 15, 3) := by decide +kernel
theorem dL_law_1203 : decode cL_law 1203 = .ok (.aload_n 3, 1) := by decide +kernel
theorem dL_law_1204 : decode cL_law 1204 = .ok (.iconst 0, 1) := by decide +kernel
theorem dL_law_1205 : decode cL_law 1205 = .ok (.laload, 1) := by decide +kernel
theorem dL_law_1206 : decode cL_law 1206 = .ok (.iload 6, 2) := by decide +kernel
theorem dL_law_1208 : decode cL_law 1208 = .ok (.i2l, 1) := by decide +kernel
theorem dL_law_1209 : decode cL_law 1209 = .ok (.lcmp, 1) := by decide +kernel
theorem dL_law_1210 : decode cL_law 1210 = .ok (.ifCond .eq 5, 3) := by decide +kernel
theorem dL_law_1213 : decode cL_law 1213 = .ok (.iconst 0, 1) := by decide +kernel
theorem dL_law_1214 : decode cL_law 1214 = .ok (.ireturn, 1) := by decide +kernel
theorem dL_law_1215 : decode cL_law 1215 = .ok (.goto 464, 3) := by decide +kernel
theorem dL_law_1218 : decode cL_law 1218 = .ok (.aload_n 1, 1) := by decide +kernel
theorem dL_law_1219 : decode cL_law 1219 = .ok (.aload_n 0, 1) := by decide +kernel
theorem dL_law_1220 : decode cL_law 1220 = .ok (.iload 4, 2) := by decide +kernel
theorem dL_law_1222 : decode cL_law 1222 = .ok (.iconst 1, 1) := by decide +kernel
theorem dL_law_1223 : decode cL_law 1223 = .ok (.iadd, 1) := by decide +kernel
theorem dL_law_1224 : decode cL_law 1224 = .ok (.iaload, 1) := by decide +kernel
theorem dL_law_1225 : decode cL_law 1225 = .ok (.aload_n 3, 1) := by decide +kernel
theorem dL_law_1226 : decode cL_law 1226 = .ok (.invokestatic 158, 3) := by decide +kernel
theorem dL_law_1229 : decode cL_law 1229 = .ok (.istore 5, 2) := by decide +kernel
theorem dL_law_1231 : decode cL_law 1231 = .ok (.aload_n 2, 1) := by decide +kernel
theorem dL_law_1232 : decode cL_law 1232 = .ok (.aload_n 0, 1) := by decide +kernel
theorem dL_law_1233 : decode cL_law 1233 = .ok (.iload 4, 2) := by decide +kernel
theorem dL_law_1235 : decode cL_law 1235 = .ok (.iconst 1, 1) := by decide +kernel
theorem dL_law_1236 : decode cL_law 1236 = .ok (.iadd, 1) := by decide +kernel
theorem dL_law_1237 : decode cL_law 1237 = .ok (.iaload, 1) := by decide +kernel
theorem dL_law_1238 : decode cL_law 1238 = .ok (.invokevirtual 160, 3) := by decide +kernel
theorem dL_law_1241 : decode cL_law 1241 = .ok (.istore 6, 2) := by decide +kernel
theorem dL_law_1243 : decode cL_law 1243 = .ok (.aload_n 2, 1) := by decide +kernel
theorem dL_law_1244 : decode cL_law 1244 = .ok (.invokevirtual 99, 3) := by decide +kernel
theorem dL_law_1247 : decode cL_law 1247 = .ok (.iload 5, 2) := by decide +kernel
theorem dL_law_1249 : decode cL_law 1249 = .ok (.if_icmp .eq 5, 3) := by decide +kernel
theorem dL_law_1252 : decode cL_law 1252 = .ok (.iconst 0, 1) := by decide +kernel
theorem dL_law_1253 : decode cL_law 1253 = .ok (.ireturn, 1) := by decide +kernel
theorem dL_law_1254 : decode cL_law 1254 = .ok (.iload 5, 2) := by decide +kernel
theorem dL_law_1256 : decode cL_law 1256 = .ok (.ifCond .ne 15, 3) := by decide +kernel
theorem dL_law_1259 : decode cL_law 1259 = .ok (.aload_n 3, 1) := by decide +kernel
theorem dL_law_1260 : decode cL_law 1260 = .ok (.iconst 0, 1) := by decide +kernel
theorem dL_law_1261 : decode cL_law 1261 = .ok (.laload, 1) := by decide +kernel
theorem dL_law_1262 : decode cL_law 1262 = .ok (.iload 6, 2) := by decide +kernel
theorem dL_law_1264 : decode cL_law 1264 = .ok (.i2l, 1) := by decide +kernel
theorem dL_law_1265 : decode cL_law 1265 = .ok (.lcmp, 1) := by decide +kernel
theorem dL_law_1266 : decode cL_law 1266 = .ok (.ifCond .eq 5, 3) := by decide +kernel
theorem dL_law_1269 : decode cL_law 1269 = .ok (.iconst 0, 1) := by decide +kernel
theorem dL_law_1270 : decode cL_law 1270 = .ok (.ireturn, 1) := by decide +kernel
theorem dL_law_1271 : decode cL_law 1271 = .ok (.goto 408, 3) := by decide +kernel
theorem dL_law_1274 : decode cL_law 1274 = .ok (.aload_n 1, 1) := by decide +kernel
theorem dL_law_1275 : decode cL_law 1275 = .ok (.aload_n 0, 1) := by decide +kernel
theorem dL_law_1276 : decode cL_law 1276 = .ok (.iload 4, 2) := by decide +kernel
theorem dL_law_1278 : decode cL_law 1278 = .ok (.iconst 1, 1) := by decide +kernel
theorem dL_law_1279 : decode cL_law 1279 = .ok (.iadd, 1) := by decide +kernel
theorem dL_law_1280 : decode cL_law 1280 = .ok (.iaload, 1) := by decide +kernel
theorem dL_law_1281 : decode cL_law 1281 = .ok (.aload_n 3, 1) := by decide +kernel
theorem dL_law_1282 : decode cL_law 1282 = .ok (.invokestatic 161, 3) := by decide +kernel
theorem dL_law_1285 : decode cL_law 1285 = .ok (.istore 5, 2) := by decide +kernel
theorem dL_law_1287 : decode cL_law 1287 = .ok (.aload_n 2, 1) := by decide +kernel
theorem dL_law_1288 : decode cL_law 1288 = .ok (.aload_n 0, 1) := by decide +kernel
theorem dL_law_1289 : decode cL_law 1289 = .ok (.iload 4, 2) := by decide +kernel
theorem dL_law_1291 : decode cL_law 1291 = .ok (.iconst 1, 1) := by decide +kernel
theorem dL_law_1292 : decode cL_law 1292 = .ok (.iadd, 1) := by decide +kernel
theorem dL_law_1293 : decode cL_law 1293 = .ok (.iaload, 1) := by decide +kernel
theorem dL_law_1294 : decode cL_law 1294 = .ok (.invokevirtual 163, 3) := by decide +kernel
theorem dL_law_1297 : decode cL_law 1297 = .ok (.istore 6, 2) := by decide +kernel
theorem dL_law_1299 : decode cL_law 1299 = .ok (.aload_n 2, 1) := by decide +kernel
theorem dL_law_1300 : decode cL_law 1300 = .ok (.invokevirtual 99, 3) := by decide +kernel
theorem dL_law_1303 : decode cL_law 1303 = .ok (.iload 5, 2) := by decide +kernel
theorem dL_law_1305 : decode cL_law 1305 = .ok (.if_icmp .eq 5, 3) := by decide +kernel
theorem dL_law_1308 : decode cL_law 1308 = .ok (.iconst 0, 1) := by decide +kernel
theorem dL_law_1309 : decode cL_law 1309 = .ok (.ireturn, 1) := by decide +kernel
theorem dL_law_1310 : decode cL_law 1310 = .ok (.iload 5, 2) := by decide +kernel
theorem dL_law_1312 : decode cL_law 1312 = .ok (.ifCond .ne 15, 3) := by decide +kernel
theorem dL_law_1315 : decode cL_law 1315 = .ok (.aload_n 3, 1) := by decide +kernel
theorem dL_law_1316 : decode cL_law 1316 = .ok (.iconst 0, 1) := by decide +kernel
theorem dL_law_1317 : decode cL_law 1317 = .ok (.laload, 1) := by decide +kernel
theorem dL_law_1318 : decode cL_law 1318 = .ok (.iload 6, 2) := by decide +kernel
theorem dL_law_1320 : decode cL_law 1320 = .ok (.i2l, 1) := by decide +kernel
theorem dL_law_1321 : decode cL_law 1321 = .ok (.lcmp, 1) := by decide +kernel
theorem dL_law_1322 : decode cL_law 1322 = .ok (.ifCond .eq 5, 3) := by decide +kernel
theorem dL_law_1325 : decode cL_law 1325 = .ok (.iconst 0, 1) := by decide +kernel
theorem dL_law_1326 : decode cL_law 1326 = .ok (.ireturn, 1) := by decide +kernel
theorem dL_law_1327 : decode cL_law 1327 = .ok (.goto 352, 3) := by decide +kernel
theorem dL_law_1330 : decode cL_law 1330 = .ok (.aload_n 1, 1) := by decide +kernel
theorem dL_law_1331 : decode cL_law 1331 = .ok (.aload_n 0, 1) := by decide +kernel
theorem dL_law_1332 : decode cL_law 1332 = .ok (.iload 4, 2) := by decide +kernel
theorem dL_law_1334 : decode cL_law 1334 = .ok (.iconst 1, 1) := by decide +kernel
theorem dL_law_1335 : decode cL_law 1335 = .ok (.iadd, 1) := by decide +kernel
theorem dL_law_1336 : decode cL_law 1336 = .ok (.iaload, 1) := by decide +kernel
theorem dL_law_1337 : decode cL_law 1337 = .ok (.aload_n 3, 1) := by decide +kernel
theorem dL_law_1338 : decode cL_law 1338 = .ok (.invokestatic 164, 3) := by decide +kernel
theorem dL_law_1341 : decode cL_law 1341 = .ok (.istore 5, 2) := by decide +kernel
theorem dL_law_1343 : decode cL_law 1343 = .ok (.aload_n 2, 1) := by decide +kernel
theorem dL_law_1344 : decode cL_law 1344 = .ok (.aload_n 0, 1) := by decide +kernel
theorem dL_law_1345 : decode cL_law 1345 = .ok (.iload 4, 2) := by decide +kernel
theorem dL_law_1347 : decode cL_law 1347 = .ok (.iconst 1, 1) := by decide +kernel
theorem dL_law_1348 : decode cL_law 1348 = .ok (.iadd, 1) := by decide +kernel
theorem dL_law_1349 : decode cL_law 1349 = .ok (.iaload, 1) := by decide +kernel
theorem dL_law_1350 : decode cL_law 1350 = .ok (.invokevirtual 166, 3) := by decide +kernel
theorem dL_law_1353 : decode cL_law 1353 = .ok (.istore 6, 2) := by decide +kernel
theorem dL_law_1355 : decode cL_law 1355 = .ok (.aload_n 2, 1) := by decide +kernel
theorem dL_law_1356 : decode cL_law 1356 = .ok (.invokevirtual 99, 3) := by decide +kernel
theorem dL_law_1359 : decode cL_law 1359 = .ok (.iload 5, 2) := by decide +kernel
theorem dL_law_1361 : decode cL_law 1361 = .ok (.if_icmp .eq 5, 3) := by decide +kernel
theorem dL_law_1364 : decode cL_law 1364 = .ok (.iconst 0, 1) := by decide +kernel
theorem dL_law_1365 : decode cL_law 1365 = .ok (.ireturn, 1) := by decide +kernel
theorem dL_law_1366 : decode cL_law 1366 = .ok (.iload 5, 2) := by decide +kernel
theorem dL_law_1368 : decode cL_law 1368 = .ok (.ifCond .ne 15, 3) := by decide +kernel
theorem dL_law_1371 : decode cL_law 1371 = .ok (.aload_n 3, 1) := by decide +kernel
theorem dL_law_1372 : decode cL_law 1372 = .ok (.iconst 0, 1) := by decide +kernel
theorem dL_law_1373 : decode cL_law 1373 = .ok (.laload, 1) := by decide +kernel
theorem dL_law_1374 : decode cL_law 1374 = .ok (.iload 6, 2) := by decide +kernel
theorem dL_law_1376 : decode cL_law 1376 = .ok (.i2l, 1) := by decide +kernel
theorem dL_law_1377 : decode cL_law 1377 = .ok (.lcmp, 1) := by decide +kernel
theorem dL_law_1378 : decode cL_law 1378 = .ok (.ifCond .eq 5, 3) := by decide +kernel
theorem dL_law_1381 : decode cL_law 1381 = .ok (.iconst 0, 1) := by decide +kernel
theorem dL_law_1382 : decode cL_law 1382 = .ok (.ireturn, 1) := by decide +kernel
theorem dL_law_1383 : decode cL_law 1383 = .ok (.goto 296, 3) := by decide +kernel
theorem dL_law_1386 : decode cL_law 1386 = .ok (.aload_n 1, 1) := by decide +kernel
theorem dL_law_1387 : decode cL_law 1387 = .ok (.aload_n 0, 1) := by decide +kernel
theorem dL_law_1388 : decode cL_law 1388 = .ok (.iload 4, 2) := by decide +kernel
theorem dL_law_1390 : decode cL_law 1390 = .ok (.iconst 1, 1) := by decide +kernel
theorem dL_law_1391 : decode cL_law 1391 = .ok (.iadd, 1) := by decide +kernel
theorem dL_law_1392 : decode cL_law 1392 = .ok (.iaload, 1) := by decide +kernel
theorem dL_law_1393 : decode cL_law 1393 = .ok (.aload_n 3, 1) := by decide +kernel
theorem dL_law_1394 : decode cL_law 1394 = .ok (.invokestatic 167, 3) := by decide +kernel
theorem dL_law_1397 : decode cL_law 1397 = .ok (.istore 5, 2) := by decide +kernel
theorem dL_law_1399 : decode cL_law 1399 = .ok (.aload_n 2, 1) := by decide +kernel
theorem dL_law_1400 : decode cL_law 1400 = .ok (.aload_n 0, 1) := by decide +kernel
theorem dL_law_1401 : decode cL_law 1401 = .ok (.iload 4, 2) := by decide +kernel
theorem dL_law_1403 : decode cL_law 1403 = .ok (.iconst 1, 1) := by decide +kernel
theorem dL_law_1404 : decode cL_law 1404 = .ok (.iadd, 1) := by decide +kernel
theorem dL_law_1405 : decode cL_law 1405 = .ok (.iaload, 1) := by decide +kernel
theorem dL_law_1406 : decode cL_law 1406 = .ok (.invokevirtual 169, 3) := by decide +kernel
theorem dL_law_1409 : decode cL_law 1409 = .ok (.istore 6, 2) := by decide +kernel
theorem dL_law_1411 : decode cL_law 1411 = .ok (.aload_n 2, 1) := by decide +kernel
theorem dL_law_1412 : decode cL_law 1412 = .ok (.invokevirtual 99, 3) := by decide +kernel
theorem dL_law_1415 : decode cL_law 1415 = .ok (.iload 5, 2) := by decide +kernel
theorem dL_law_1417 : decode cL_law 1417 = .ok (.if_icmp .eq 5, 3) := by decide +kernel
theorem dL_law_1420 : decode cL_law 1420 = .ok (.iconst 0, 1) := by decide +kernel
theorem dL_law_1421 : decode cL_law 1421 = .ok (.ireturn, 1) := by decide +kernel
theorem dL_law_1422 : decode cL_law 1422 = .ok (.iload 5, 2) := by decide +kernel
theorem dL_law_1424 : decode cL_law 1424 = .ok (.ifCond .ne 15, 3) := by decide +kernel
theorem dL_law_1427 : decode cL_law 1427 = .ok (.aload_n 3, 1) := by decide +kernel
theorem dL_law_1428 : decode cL_law 1428 = .ok (.iconst 0, 1) := by decide +kernel
theorem dL_law_1429 : decode cL_law 1429 = .ok (.laload, 1) := by decide +kernel
theorem dL_law_1430 : decode cL_law 1430 = .ok (.iload 6, 2) := by decide +kernel
theorem dL_law_1432 : decode cL_law 1432 = .ok (.i2l, 1) := by decide +kernel
theorem dL_law_1433 : decode cL_law 1433 = .ok (.lcmp, 1) := by decide +kernel
theorem dL_law_1434 : decode cL_law 1434 = .ok (.ifCond .eq 5, 3) := by decide +kernel
theorem dL_law_1437 : decode cL_law 1437 = .ok (.iconst 0, 1) := by decide +kernel
theorem dL_law_1438 : decode cL_law 1438 = .ok (.ireturn, 1) := by decide +kernel
theorem dL_law_1439 : decode cL_law 1439 = .ok (.goto 240, 3) := by decide +kernel
theorem dL_law_1442 : decode cL_law 1442 = .ok (.aload_n 1, 1) := by decide +kernel
theorem dL_law_1443 : decode cL_law 1443 = .ok (.aload_n 0, 1) := by decide +kernel
theorem dL_law_1444 : decode cL_law 1444 = .ok (.iload 4, 2) := by decide +kernel
theorem dL_law_1446 : decode cL_law 1446 = .ok (.iconst 1, 1) := by decide +kernel
theorem dL_law_1447 : decode cL_law 1447 = .ok (.iadd, 1) := by decide +kernel
theorem dL_law_1448 : decode cL_law 1448 = .ok (.iaload, 1) := by decide +kernel
theorem dL_law_1449 : decode cL_law 1449 = .ok (.aload_n 3, 1) := by decide +kernel
theorem dL_law_1450 : decode cL_law 1450 = .ok (.invokestatic 170, 3) := by decide +kernel
theorem dL_law_1453 : decode cL_law 1453 = .ok (.istore 5, 2) := by decide +kernel
theorem dL_law_1455 : decode cL_law 1455 = .ok (.aload_n 2, 1) := by decide +kernel
theorem dL_law_1456 : decode cL_law 1456 = .ok (.aload_n 0, 1) := by decide +kernel
theorem dL_law_1457 : decode cL_law 1457 = .ok (.iload 4, 2) := by decide +kernel
theorem dL_law_1459 : decode cL_law 1459 = .ok (.iconst 1, 1) := by decide +kernel
theorem dL_law_1460 : decode cL_law 1460 = .ok (.iadd, 1) := by decide +kernel
theorem dL_law_1461 : decode cL_law 1461 = .ok (.iaload, 1) := by decide +kernel
theorem dL_law_1462 : decode cL_law 1462 = .ok (.invokevirtual 172, 3) := by decide +kernel
theorem dL_law_1465 : decode cL_law 1465 = .ok (.istore 6, 2) := by decide +kernel
theorem dL_law_1467 : decode cL_law 1467 = .ok (.aload_n 2, 1) := by decide +kernel
theorem dL_law_1468 : decode cL_law 1468 = .ok (.invokevirtual 99, 3) := by decide +kernel
theorem dL_law_1471 : decode cL_law 1471 = .ok (.iload 5, 2) := by decide +kernel
theorem dL_law_1473 : decode cL_law 1473 = .ok (.if_icmp .eq 5, 3) := by decide +kernel
theorem dL_law_1476 : decode cL_law 1476 = .ok (.iconst 0, 1) := by decide +kernel
theorem dL_law_1477 : decode cL_law 1477 = .ok (.ireturn, 1) := by decide +kernel
theorem dL_law_1478 : decode cL_law 1478 = .ok (.iload 5, 2) := by decide +kernel
theorem dL_law_1480 : decode cL_law 1480 = .ok (.ifCond .ne 15, 3) := by decide +kernel
theorem dL_law_1483 : decode cL_law 1483 = .ok (.aload_n 3, 1) := by decide +kernel
theorem dL_law_1484 : decode cL_law 1484 = .ok (.iconst 0, 1) := by decide +kernel
theorem dL_law_1485 : decode cL_law 1485 = .ok (.laload, 1) := by decide +kernel
theorem dL_law_1486 : decode cL_law 1486 = .ok (.iload 6, 2) := by decide +kernel
theorem dL_law_1488 : decode cL_law 1488 = .ok (.i2l, 1) := by decide +kernel
theorem dL_law_1489 : decode cL_law 1489 = .ok (.lcmp, 1) := by decide +kernel
theorem dL_law_1490 : decode cL_law 1490 = .ok (.ifCond .eq 5, 3) := by decide +kernel
theorem dL_law_1493 : decode cL_law 1493 = .ok (.iconst 0, 1) := by decide +kernel
theorem dL_law_1494 : decode cL_law 1494 = .ok (.ireturn, 1) := by decide +kernel
theorem dL_law_1495 : decode cL_law 1495 = .ok (.goto 184, 3) := by decide +kernel
theorem dL_law_1498 : decode cL_law 1498 = .ok (.aload_n 1, 1) := by decide +kernel
theorem dL_law_1499 : decode cL_law 1499 = .ok (.aload_n 0, 1) := by decide +kernel
theorem dL_law_1500 : decode cL_law 1500 = .ok (.iload 4, 2) := by decide +kernel
theorem dL_law_1502 : decode cL_law 1502 = .ok (.iconst 1, 1) := by decide +kernel
theorem dL_law_1503 : decode cL_law 1503 = .ok (.iadd, 1) := by decide +kernel
theorem dL_law_1504 : decode cL_law 1504 = .ok (.iaload, 1) := by decide +kernel
theorem dL_law_1505 : decode cL_law 1505 = .ok (.aload_n 3, 1) := by decide +kernel
theorem dL_law_1506 : decode cL_law 1506 = .ok (.invokestatic 173, 3) := by decide +kernel
theorem dL_law_1509 : decode cL_law 1509 = .ok (.istore 5, 2) := by decide +kernel
theorem dL_law_1511 : decode cL_law 1511 = .ok (.aload_n 2, 1) := by decide +kernel
theorem dL_law_1512 : decode cL_law 1512 = .ok (.aload_n 0, 1) := by decide +kernel
theorem dL_law_1513 : decode cL_law 1513 = .ok (.iload 4, 2) := by decide +kernel
theorem dL_law_1515 : decode cL_law 1515 = .ok (.iconst 1, 1) := by decide +kernel
theorem dL_law_1516 : decode cL_law 1516 = .ok (.iadd, 1) := by decide +kernel
theorem dL_law_1517 : decode cL_law 1517 = .ok (.iaload, 1) := by decide +kernel
theorem dL_law_1518 : decode cL_law 1518 = .ok (.invokevirtual 175, 3) := by decide +kernel
theorem dL_law_1521 : decode cL_law 1521 = .ok (.istore 6, 2) := by decide +kernel
theorem dL_law_1523 : decode cL_law 1523 = .ok (.aload_n 2, 1) := by decide +kernel
theorem dL_law_1524 : decode cL_law 1524 = .ok (.invokevirtual 99, 3) := by decide +kernel
theorem dL_law_1527 : decode cL_law 1527 = .ok (.iload 5, 2) := by decide +kernel
theorem dL_law_1529 : decode cL_law 1529 = .ok (.if_icmp .eq 5, 3) := by decide +kernel
theorem dL_law_1532 : decode cL_law 1532 = .ok (.iconst 0, 1) := by decide +kernel
theorem dL_law_1533 : decode cL_law 1533 = .ok (.ireturn, 1) := by decide +kernel
theorem dL_law_1534 : decode cL_law 1534 = .ok (.iload 5, 2) := by decide +kernel
theorem dL_law_1536 : decode cL_law 1536 = .ok (.ifCond .ne 15, 3) := by decide +kernel
theorem dL_law_1539 : decode cL_law 1539 = .ok (.aload_n 3, 1) := by decide +kernel
theorem dL_law_1540 : decode cL_law 1540 = .ok (.iconst 0, 1) := by decide +kernel
theorem dL_law_1541 : decode cL_law 1541 = .ok (.laload, 1) := by decide +kernel
theorem dL_law_1542 : decode cL_law 1542 = .ok (.iload 6, 2) := by decide +kernel
theorem dL_law_1544 : decode cL_law 1544 = .ok (.i2l, 1) := by decide +kernel
theorem dL_law_1545 : decode cL_law 1545 = .ok (.lcmp, 1) := by decide +kernel
theorem dL_law_1546 : decode cL_law 1546 = .ok (.ifCond .eq 5, 3) := by decide +kernel
theorem dL_law_1549 : decode cL_law 1549 = .ok (.iconst 0, 1) := by decide +kernel
theorem dL_law_1550 : decode cL_law 1550 = .ok (.ireturn, 1) := by decide +kernel
theorem dL_law_1551 : decode cL_law 1551 = .ok (.goto 128, 3) := by decide +kernel
theorem dL_law_1554 : decode cL_law 1554 = .ok (.aload_n 1, 1) := by decide +kernel
theorem dL_law_1555 : decode cL_law 1555 = .ok (.aload_n 0, 1) := by decide +kernel
theorem dL_law_1556 : decode cL_law 1556 = .ok (.iload 4, 2) := by decide +kernel
theorem dL_law_1558 : decode cL_law 1558 = .ok (.iconst 1, 1) := by decide +kernel
theorem dL_law_1559 : decode cL_law 1559 = .ok (.iadd, 1) := by decide +kernel
theorem dL_law_1560 : decode cL_law 1560 = .ok (.iaload, 1) := by decide +kernel
theorem dL_law_1561 : decode cL_law 1561 = .ok (.aload_n 3, 1) := by decide +kernel
theorem dL_law_1562 : decode cL_law 1562 = .ok (.invokestatic 176, 3) := by decide +kernel
theorem dL_law_1565 : decode cL_law 1565 = .ok (.istore 5, 2) := by decide +kernel
theorem dL_law_1567 : decode cL_law 1567 = .ok (.aload_n 2, 1) := by decide +kernel
theorem dL_law_1568 : decode cL_law 1568 = .ok (.aload_n 0, 1) := by decide +kernel
theorem dL_law_1569 : decode cL_law 1569 = .ok (.iload 4, 2) := by decide +kernel
theorem dL_law_1571 : decode cL_law 1571 = .ok (.iconst 1, 1) := by decide +kernel
theorem dL_law_1572 : decode cL_law 1572 = .ok (.iadd, 1) := by decide +kernel
theorem dL_law_1573 : decode cL_law 1573 = .ok (.iaload, 1) := by decide +kernel
theorem dL_law_1574 : decode cL_law 1574 = .ok (.invokevirtual 178, 3) := by decide +kernel
theorem dL_law_1577 : decode cL_law 1577 = .ok (.istore 6, 2) := by decide +kernel
theorem dL_law_1579 : decode cL_law 1579 = .ok (.aload_n 2, 1) := by decide +kernel
theorem dL_law_1580 : decode cL_law 1580 = .ok (.invokevirtual 99, 3) := by decide +kernel
theorem dL_law_1583 : decode cL_law 1583 = .ok (.iload 5, 2) := by decide +kernel
theorem dL_law_1585 : decode cL_law 1585 = .ok (.if_icmp .eq 5, 3) := by decide +kernel
theorem dL_law_1588 : decode cL_law 1588 = .ok (.iconst 0, 1) := by decide +kernel
theorem dL_law_1589 : decode cL_law 1589 = .ok (.ireturn, 1) := by decide +kernel
theorem dL_law_1590 : decode cL_law 1590 = .ok (.iload 5, 2) := by decide +kernel
theorem dL_law_1592 : decode cL_law 1592 = .ok (.ifCond .ne 15, 3) := by decide +kernel
theorem dL_law_1595 : decode cL_law 1595 = .ok (.aload_n 3, 1) := by decide +kernel
theorem dL_law_1596 : decode cL_law 1596 = .ok (.iconst 0, 1) := by decide +kernel
theorem dL_law_1597 : decode cL_law 1597 = .ok (.laload, 1) := by decide +kernel
theorem dL_law_1598 : decode cL_law 1598 = .ok (.iload 6, 2) := by decide +kernel
theorem dL_law_1600 : decode cL_law 1600 = .ok (.i2l, 1) := by decide +kernel
theorem dL_law_1601 : decode cL_law 1601 = .ok (.lcmp, 1) := by decide +kernel
theorem dL_law_1602 : decode cL_law 1602 = .ok (.ifCond .eq 5, 3) := by decide +kernel
theorem dL_law_1605 : decode cL_law 1605 = .ok (.iconst 0, 1) := by decide +kernel
theorem dL_law_1606 : decode cL_law 1606 = .ok (.ireturn, 1) := by decide +kernel
theorem dL_law_1607 : decode cL_law 1607 = .ok (.goto 72, 3) := by decide +kernel
theorem dL_law_1610 : decode cL_law 1610 = .ok (.aload_n 1, 1) := by decide +kernel
theorem dL_law_1611 : decode cL_law 1611 = .ok (.aload_n 0, 1) := by decide +kernel
theorem dL_law_1612 : decode cL_law 1612 = .ok (.iload 4, 2) := by decide +kernel
theorem dL_law_1614 : decode cL_law 1614 = .ok (.iconst 1, 1) := by decide +kernel
theorem dL_law_1615 : decode cL_law 1615 = .ok (.iadd, 1) := by decide +kernel
theorem dL_law_1616 : decode cL_law 1616 = .ok (.iaload, 1) := by decide +kernel
theorem dL_law_1617 : decode cL_law 1617 = .ok (.aload_n 3, 1) := by decide +kernel
theorem dL_law_1618 : decode cL_law 1618 = .ok (.invokestatic 179, 3) := by decide +kernel
theorem dL_law_1621 : decode cL_law 1621 = .ok (.istore 5, 2) := by decide +kernel
theorem dL_law_1623 : decode cL_law 1623 = .ok (.aload_n 2, 1) := by decide +kernel
theorem dL_law_1624 : decode cL_law 1624 = .ok (.aload_n 0, 1) := by decide +kernel
theorem dL_law_1625 : decode cL_law 1625 = .ok (.iload 4, 2) := by decide +kernel
theorem dL_law_1627 : decode cL_law 1627 = .ok (.iconst 1, 1) := by decide +kernel
theorem dL_law_1628 : decode cL_law 1628 = .ok (.iadd, 1) := by decide +kernel
theorem dL_law_1629 : decode cL_law 1629 = .ok (.iaload, 1) := by decide +kernel
theorem dL_law_1630 : decode cL_law 1630 = .ok (.invokevirtual 181, 3) := by decide +kernel
theorem dL_law_1633 : decode cL_law 1633 = .ok (.istore 6, 2) := by decide +kernel
theorem dL_law_1635 : decode cL_law 1635 = .ok (.aload_n 2, 1) := by decide +kernel
theorem dL_law_1636 : decode cL_law 1636 = .ok (.invokevirtual 99, 3) := by decide +kernel
theorem dL_law_1639 : decode cL_law 1639 = .ok (.iload 5, 2) := by decide +kernel
theorem dL_law_1641 : decode cL_law 1641 = .ok (.if_icmp .eq 5, 3) := by decide +kernel
theorem dL_law_1644 : decode cL_law 1644 = .ok (.iconst 0, 1) := by decide +kernel
theorem dL_law_1645 : decode cL_law 1645 = .ok (.ireturn, 1) := by decide +kernel
theorem dL_law_1646 : decode cL_law 1646 = .ok (.iload 5, 2) := by decide +kernel
theorem dL_law_1648 : decode cL_law 1648 = .ok (.ifCond .ne 15, 3) := by decide +kernel
theorem dL_law_1651 : decode cL_law 1651 = .ok (.aload_n 3, 1) := by decide +kernel
theorem dL_law_1652 : decode cL_law 1652 = .ok (.iconst 0, 1) := by decide +kernel
theorem dL_law_1653 : decode cL_law 1653 = .ok (.laload, 1) := by decide +kernel
theorem dL_law_1654 : decode cL_law 1654 = .ok (.iload 6, 2) := by decide +kernel
theorem dL_law_1656 : decode cL_law 1656 = .ok (.i2l, 1) := by decide +kernel
theorem dL_law_1657 : decode cL_law 1657 = .ok (.lcmp, 1) := by decide +kernel
theorem dL_law_1658 : decode cL_law 1658 = .ok (.ifCond .eq 5, 3) := by decide +kernel
theorem dL_law_1661 : decode cL_law 1661 = .ok (.iconst 0, 1) := by decide +kernel
theorem dL_law_1662 : decode cL_law 1662 = .ok (.ireturn, 1) := by decide +kernel
theorem dL_law_1663 : decode cL_law 1663 = .ok (.goto 16, 3) := by decide +kernel
theorem dL_law_1666 : decode cL_law 1666 = .ok (.aload_n 1, 1) := by decide +kernel
theorem dL_law_1667 : decode cL_law 1667 = .ok (.invokevirtual 182, 3) := by decide +kernel
theorem dL_law_1670 : decode cL_law 1670 = .ok (.aload_n 2, 1) := by decide +kernel
theorem dL_law_1671 : decode cL_law 1671 = .ok (.invokevirtual 185, 3) := by decide +kernel
theorem dL_law_1674 : decode cL_law 1674 = .ok (.if_icmp .eq 5, 3) := by decide +kernel
theorem dL_law_1677 : decode cL_law 1677 = .ok (.iconst 0, 1) := by decide +kernel
theorem dL_law_1678 : decode cL_law 1678 = .ok (.ireturn, 1) := by decide +kernel
theorem dL_law_1679 : decode cL_law 1679 = .ok (.iinc 4 6, 3) := by decide +kernel
theorem dL_law_1682 : decode cL_law 1682 = .ok (.goto (-1659), 3) := by decide +kernel
theorem dL_law_1685 : decode cL_law 1685 = .ok (.iconst 1, 1) := by decide +kernel
theorem dL_law_1686 : decode cL_law 1686 = .ok (.ireturn, 1) := by decide +kernel
