theorem dJ6_bitCount_0f7a4_0 : decode cJ6_bitCount_0f7a4 0 = .ok (.iload_n 0, 1) := by decide +kernel
theorem dJ6_bitCount_0f7a4_1 : decode cJ6_bitCount_0f7a4 1 = .ok (.iload_n 0, 1) := by decide +kernel
theorem dJ6_bitCount_0f7a4_2 : decode cJ6_bitCount_0f7a4 2 = .ok (.iconst 1, 1) := by decide +kernel
theorem dJ6_bitCount_0f7a4_3 : decode cJ6_bitCount_0f7a4 3 = .ok (.iushr, 1) := by decide +kernel
theorem dJ6_bitCount_0f7a4_4 : decode cJ6_bitCount_0f7a4 4 = .ok (.ldc_w 265, 3) := by decide +kernel
theorem dJ6_bitCount_0f7a4_7 : decode cJ6_bitCount_0f7a4 7 = .ok (.iand, 1) := by decide +kernel
theorem dJ6_bitCount_0f7a4_8 : decode cJ6_bitCount_0f7a4 8 = .ok (.isub, 1) := by decide +kernel
theorem dJ6_bitCount_0f7a4_9 : decode cJ6_bitCount_0f7a4 9 = .ok (.istore_n 0, 1) := by decide +kernel
theorem dJ6_bitCount_0f7a4_10 : decode cJ6_bitCount_0f7a4 10 = .ok (.iload_n 0, 1) := by decide +kernel
theorem dJ6_bitCount_0f7a4_11 : decode cJ6_bitCount_0f7a4 11 = .ok (.ldc_w 266, 3) := by decide +kernel
theorem dJ6_bitCount_0f7a4_14 : decode cJ6_bitCount_0f7a4 14 = .ok (.iand, 1) := by decide +kernel
theorem dJ6_bitCount_0f7a4_15 : decode cJ6_bitCount_0f7a4 15 = .ok (.iload_n 0, 1) := by decide +kernel
theorem dJ6_bitCount_0f7a4_16 : decode cJ6_bitCount_0f7a4 16 = .ok (.iconst 2, 1) := by decide +kernel
theorem dJ6_bitCount_0f7a4_17 : decode cJ6_bitCount_0f7a4 17 = .ok (.iushr, 1) := by decide +kernel
theorem dJ6_bitCount_0f7a4_18 : decode cJ6_bitCount_0f7a4 18 = .ok (.ldc_w 266, 3) := by decide +kernel
theorem dJ6_bitCount_0f7a4_21 : decode cJ6_bitCount_0f7a4 21 = .ok (.iand, 1) := by decide +kernel
theorem dJ6_bitCount_0f7a4_22 : decode cJ6_bitCount_0f7a4 22 = .ok (.iadd, 1) := by decide +kernel
theorem dJ6_bitCount_0f7a4_23 : decode cJ6_bitCount_0f7a4 23 = .ok (.istore_n 0, 1) := by decide +kernel
theorem dJ6_bitCount_0f7a4_24 : decode cJ6_bitCount_0f7a4 24 = .ok (.iload_n 0, 1) := by decide +kernel
theorem dJ6_bitCount_0f7a4_25 : decode cJ6_bitCount_0f7a4 25 = .ok (.iload_n 0, 1) := by decide +kernel
theorem dJ6_bitCount_0f7a4_26 : decode cJ6_bitCount_0f7a4 26 = .ok (.iconst 4, 1) := by decide +kernel
theorem dJ6_bitCount_0f7a4_27 : decode cJ6_bitCount_0f7a4 27 = .ok (.iushr, 1) := by decide +kernel
theorem dJ6_bitCount_0f7a4_28 : decode cJ6_bitCount_0f7a4 28 = .ok (.iadd, 1) := by decide +kernel
theorem dJ6_bitCount_0f7a4_29 : decode cJ6_bitCount_0f7a4 29 = .ok (.ldc_w 267, 3) := by decide +kernel
theorem dJ6_bitCount_0f7a4_32 : decode cJ6_bitCount_0f7a4 32 = .ok (.iand, 1) := by decide +kernel
theorem dJ6_bitCount_0f7a4_33 : decode cJ6_bitCount_0f7a4 33 = .ok (.istore_n 0, 1) := by decide +kernel
theorem dJ6_bitCount_0f7a4_34 : decode cJ6_bitCount_0f7a4 34 = .ok (.iload_n 0, 1) := by decide +kernel
theorem dJ6_bitCount_0f7a4_35 : decode cJ6_bitCount_0f7a4 35 = .ok (.iload_n 0, 1) := by decide +kernel
theorem dJ6_bitCount_0f7a4_36 : decode cJ6_bitCount_0f7a4 36 = .ok (.bipush 8, 2) := by decide +kernel
theorem dJ6_bitCount_0f7a4_38 : decode cJ6_bitCount_0f7a4 38 = .ok (.iushr, 1) := by decide +kernel
theorem dJ6_bitCount_0f7a4_39 : decode cJ6_bitCount_0f7a4 39 = .ok (.iadd, 1) := by decide +kernel
theorem dJ6_bitCount_0f7a4_40 : decode cJ6_bitCount_0f7a4 40 = .ok (.istore_n 0, 1) := by decide +kernel
theorem dJ6_bitCount_0f7a4_41 : decode cJ6_bitCount_0f7a4 41 = .ok (.iload_n 0, 1) := by decide +kernel
theorem dJ6_bitCount_0f7a4_42 : decode cJ6_bitCount_0f7a4 42 = .ok (.iload_n 0, 1) := by decide +kernel
theorem dJ6_bitCount_0f7a4_43 : decode cJ6_bitCount_0f7a4 43 = .ok (.bipush 16, 2) := by decide +kernel
theorem dJ6_bitCount_0f7a4_45 : decode cJ6_bitCount_0f7a4 45 = .ok (.iushr, 1) := by decide +kernel
theorem dJ6_bitCount_0f7a4_46 : decode cJ6_bitCount_0f7a4 46 = .ok (.iadd, 1) := by decide +kernel
theorem dJ6_bitCount_0f7a4_47 : decode cJ6_bitCount_0f7a4 47 = .ok (.istore_n 0, 1) := by decide +kernel
theorem dJ6_bitCount_0f7a4_48 : decode cJ6_bitCount_0f7a4 48 = .ok (.iload_n 0, 1) := by decide +kernel
theorem dJ6_bitCount_0f7a4_49 : decode cJ6_bitCount_0f7a4 49 = .ok (.bipush 63, 2) := by decide +kernel
theorem dJ6_bitCount_0f7a4_51 : decode cJ6_bitCount_0f7a4 51 = .ok (.iand, 1) := by decide +kernel
theorem dJ6_bitCount_0f7a4_52 : decode cJ6_bitCount_0f7a4 52 = .ok (.ireturn, 1) := by decide +kernel
theorem dJ9_max_7cf53_0 : decode cJ9_max_7cf53 0 = .ok (.iload_n 0, 1) := by decide +kernel
theorem dJ9_max_7cf53_1 : decode cJ9_max_7cf53 1 = .ok (.iload_n 1, 1) := by decide +kernel
theorem dJ9_max_7cf53_2 : decode cJ9_max_7cf53 2 = .ok (.if_icmp .lt 7, 3) := by decide +kernel
theorem dJ9_max_7cf53_5 : decode cJ9_max_7cf53 5 = .ok (.iload_n 0, 1) := by decide +kernel
theorem dJ9_max_7cf53_6 : decode cJ9_max_7cf53 6 = .ok (.goto 4, 3) := by decide +kernel
theorem dJ9_max_7cf53_9 : decode cJ9_max_7cf53 9 = .ok (.iload_n 1, 1) := by decide +kernel
theorem dJ9_max_7cf53_10 : decode cJ9_max_7cf53 10 = .ok (.ireturn, 1) := by decide +kernel
theorem dX0_init_0 : decode cX0_init 0 = .ok (.aload_n 0, 1) := by decide +kernel
theorem dX0_init_1 : decode cX0_init 1 = .ok (.invokespecial 3, 3) := by decide +kernel
theorem dX0_init_4 : decode cX0_init 4 = .ok (.aload_n 0, 1) := by decide +kernel
theorem dX0_init_5 : decode cX0_init 5 = .ok (.bipush 64, 2) := by decide +kernel
theorem dX0_init_7 : decode cX0_init 7 = .ok (.newarray .int, 2) := by decide +kernel
theorem dX0_init_9 : decode cX0_init 9 = .ok (.putfield 11, 3) := by decide +kernel
theorem dX0_init_12 : decode cX0_init 12 = .ok (.aload_n 0, 1) := by decide +kernel
theorem dX0_init_13 : decode cX0_init 13 = .ok (.bipush 64, 2) := by decide +kernel
theorem dX0_init_15 : decode cX0_init 15 = .ok (.newarray .int, 2) := by decide +kernel
theorem dX0_init_17 : decode cX0_init 17 = .ok (.putfield 15, 3) := by decide +kernel
theorem dX0_init_20 : decode cX0_init 20 = .ok (.return_, 1) := by decide +kernel
theorem dX0_plan_0 : decode cX0_plan 0 = .ok (.bipush 63, 2) := by decide +kernel
theorem dX0_plan_2 : decode cX0_plan 2 = .ok (.istore_n 2, 1) := by decide +kernel
theorem dX0_plan_3 : decode cX0_plan 3 = .ok (.iload_n 2, 1) := by decide +kernel
theorem dX0_plan_4 : decode cX0_plan 4 = .ok (.ifCond .lt 15, 3) := by decide +kernel
theorem dX0_plan_7 : decode cX0_plan 7 = .ok (.aload_n 0, 1) := by decide +kernel
theorem dX0_plan_8 : decode cX0_plan 8 = .ok (.aload_n 1, 1) := by decide +kernel
theorem dX0_plan_9 : decode cX0_plan 9 = .ok (.iload_n 2, 1) := by decide +kernel
theorem dX0_plan_10 : decode cX0_plan 10 = .ok (.invokevirtual 18, 3) := by decide +kernel
theorem dX0_plan_13 : decode cX0_plan 13 = .ok (.iinc 2 (-1), 3) := by decide +kernel
theorem dX0_plan_16 : decode cX0_plan 16 = .ok (.goto (-13), 3) := by decide +kernel
theorem dX0_plan_19 : decode cX0_plan 19 = .ok (.return_, 1) := by decide +kernel
theorem dX0_planBehind_0 : decode cX0_planBehind 0 = .ok (.iload_n 2, 1) := by decide +kernel
theorem dX0_planBehind_1 : decode cX0_planBehind 1 = .ok (.invokestatic 22, 3) := by decide +kernel
theorem dX0_planBehind_4 : decode cX0_planBehind 4 = .ok (.istore_n 3, 1) := by decide +kernel
theorem dX0_planBehind_5 : decode cX0_planBehind 5 = .ok (.aload_n 0, 1) := by decide +kernel
theorem dX0_planBehind_6 : decode cX0_planBehind 6 = .ok (.getfield 11, 3) := by decide +kernel
theorem dX0_planBehind_9 : decode cX0_planBehind 9 = .ok (.iload_n 2, 1) := by decide +kernel
theorem dX0_planBehind_10 : decode cX0_planBehind 10 = .ok (.iconst 0, 1) := by decide +kernel
theorem dX0_planBehind_11 : decode cX0_planBehind 11 = .ok (.iastore, 1) := by decide +kernel
theorem dX0_planBehind_12 : decode cX0_planBehind 12 = .ok (.aload_n 0, 1) := by decide +kernel
theorem dX0_planBehind_13 : decode cX0_planBehind 13 = .ok (.getfield 15, 3) := by decide +kernel
theorem dX0_planBehind_16 : decode cX0_planBehind 16 = .ok (.iload_n 2, 1) := by decide +kernel
theorem dX0_planBehind_17 : decode cX0_planBehind 17 = .ok (.bipush (-6), 2) := by decide +kernel
theorem dX0_planBehind_19 : decode cX0_planBehind 19 = .ok (.iastore, 1) := by decide +kernel
theorem dX0_planBehind_20 : decode cX0_planBehind 20 = .ok (.iload_n 3, 1) := by decide +kernel
theorem dX0_planBehind_21 : decode cX0_planBehind 21 = .ok (.iconst 5, 1) := by decide +kernel
theorem dX0_planBehind_22 : decode cX0_planBehind 22 = .ok (.if_icmp .lt 4, 3) := by decide +kernel
theorem dX0_planBehind_25 : decode cX0_planBehind 25 = .ok (.return_, 1) := by decide +kernel
theorem dX0_planBehind_26 : decode cX0_planBehind 26 = .ok (.iconst 0, 1) := by decide +kernel
theorem dX0_planBehind_27 : decode cX0_planBehind 27 = .ok (.istore 4, 2) := by decide +kernel
theorem dX0_planBehind_29 : decode cX0_planBehind 29 = .ok (.iload 4, 2) := by decide +kernel
theorem dX0_planBehind_31 : decode cX0_planBehind 31 = .ok (.bipush 6, 2) := by decide +kernel
theorem dX0_planBehind_33 : decode cX0_planBehind 33 = .ok (.if_icmp .ge 91, 3) := by decide +kernel
theorem dX0_planBehind_36 : decode cX0_planBehind 36 = .ok (.iload_n 2, 1) := by decide +kernel
theorem dX0_planBehind_37 : decode cX0_planBehind 37 = .ok (.iload 4, 2) := by decide +kernel
theorem dX0_planBehind_39 : decode cX0_planBehind 39 = .ok (.ishr, 1) := by decide +kernel
theorem dX0_planBehind_40 : decode cX0_planBehind 40 = .ok (.iconst 1, 1) := by decide +kernel
theorem dX0_planBehind_41 : decode cX0_planBehind 41 = .ok (.iand, 1) := by decide +kernel
theorem dX0_planBehind_42 : decode cX0_planBehind 42 = .ok (.ifCond .ne 76, 3) := by decide +kernel
theorem dX0_planBehind_45 : decode cX0_planBehind 45 = .ok (.aload_n 1, 1) := by decide +kernel
theorem dX0_planBehind_46 : decode cX0_planBehind 46 = .ok (.getfield 28, 3) := by decide +kernel
theorem dX0_planBehind_49 : decode cX0_planBehind 49 = .ok (.iload 4, 2) := by decide +kernel
theorem dX0_planBehind_51 : decode cX0_planBehind 51 = .ok (.iaload, 1) := by decide +kernel
theorem dX0_planBehind_52 : decode cX0_planBehind 52 = .ok (.aload_n 1, 1) := by decide +kernel
theorem dX0_planBehind_53 : decode cX0_planBehind 53 = .ok (.getfield 33, 3) := by decide +kernel
theorem dX0_planBehind_56 : decode cX0_planBehind 56 = .ok (.iload_n 3, 1) := by decide +kernel
theorem dX0_planBehind_57 : decode cX0_planBehind 57 = .ok (.iaload, 1) := by decide +kernel
theorem dX0_planBehind_58 : decode cX0_planBehind 58 = .ok (.iand, 1) := by decide +kernel
theorem dX0_planBehind_59 : decode cX0_planBehind 59 = .ok (.istore 5, 2) := by decide +kernel
theorem dX0_planBehind_61 : decode cX0_planBehind 61 = .ok (.iload 5, 2) := by decide +kernel
theorem dX0_planBehind_63 : decode cX0_planBehind 63 = .ok (.invokestatic 22, 3) := by decide +kernel
theorem dX0_planBehind_66 : decode cX0_planBehind 66 = .ok (.aload_n 0, 1) := by decide +kernel
theorem dX0_planBehind_67 : decode cX0_planBehind 67 = .ok (.getfield 11, 3) := by decide +kernel
theorem dX0_planBehind_70 : decode cX0_planBehind 70 = .ok (.iload_n 2, 1) := by decide +kernel
theorem dX0_planBehind_71 : decode cX0_planBehind 71 = .ok (.iconst 1, 1) := by decide +kernel
theorem dX0_planBehind_72 : decode cX0_planBehind 72 = .ok (.iload 4, 2) := by decide +kernel
theorem dX0_planBehind_74 : decode cX0_planBehind 74 = .ok (.ishl, 1) := by decide +kernel
theorem dX0_planBehind_75 : decode cX0_planBehind 75 = .ok (.ior, 1) := by decide +kernel
theorem dX0_planBehind_76 : decode cX0_planBehind 76 = .ok (.iaload, 1) := by decide +kernel
theorem dX0_planBehind_77 : decode cX0_planBehind 77 = .ok (.iadd, 1) := by decide +kernel
theorem dX0_planBehind_78 : decode cX0_planBehind 78 = .ok (.istore 6, 2) := by decide +kernel
theorem dX0_planBehind_80 : decode cX0_planBehind 80 = .ok (.aload_n 0, 1) := by decide +kernel
theorem dX0_planBehind_81 : decode cX0_planBehind 81 = .ok (.getfield 15, 3) := by decide +kernel
theorem dX0_planBehind_84 : decode cX0_planBehind 84 = .ok (.iload_n 2, 1) := by decide +kernel
theorem dX0_planBehind_85 : decode cX0_planBehind 85 = .ok (.iaload, 1) := by decide +kernel
theorem dX0_planBehind_86 : decode cX0_planBehind 86 = .ok (.bipush (-6), 2) := by decide +kernel
theorem dX0_planBehind_88 : decode cX0_planBehind 88 = .ok (.if_icmp .eq 14, 3) := by decide +kernel
theorem dX0_planBehind_91 : decode cX0_planBehind 91 = .ok (.iload 6, 2) := by decide +kernel
theorem dX0_planBehind_93 : decode cX0_planBehind 93 = .ok (.aload_n 0, 1) := by decide +kernel
theorem dX0_planBehind_94 : decode cX0_planBehind 94 = .ok (.getfield 11, 3) := by decide +kernel
theorem dX0_planBehind_97 : decode cX0_planBehind 97 = .ok (.iload_n 2, 1) := by decide +kernel
theorem dX0_planBehind_98 : decode cX0_planBehind 98 = .ok (.iaload, 1) := by decide +kernel
theorem dX0_planBehind_99 : decode cX0_planBehind 99 = .ok (.if_icmp .ge 19, 3) := by decide +kernel
theorem dX0_planBehind_102 : decode cX0_planBehind 102 = .ok (.aload_n 0, 1) := by decide +kernel
theorem dX0_planBehind_103 : decode cX0_planBehind 103 = .ok (.getfield 11, 3) := by decide +kernel
theorem dX0_planBehind_106 : decode cX0_planBehind 106 = .ok (.iload_n 2, 1) := by decide +kernel
theorem dX0_planBehind_107 : decode cX0_planBehind 107 = .ok (.iload 6, 2) := by decide +kernel
theorem dX0_planBehind_109 : decode cX0_planBehind 109 = .ok (.iastore, 1) := by decide +kernel
theorem dX0_planBehind_110 : decode cX0_planBehind 110 = .ok (.aload_n 0, 1) := by decide +kernel
theorem dX0_planBehind_111 : decode cX0_planBehind 111 = .ok (.getfield 15, 3) := by decide +kernel
theorem dX0_planBehind_114 : decode cX0_planBehind 114 = .ok (.iload_n 2, 1) := by decide +kernel
theorem dX0_planBehind_115 : decode cX0_planBehind 115 = .ok (.iload 4, 2) := by decide +kernel
theorem dX0_planBehind_117 : decode cX0_planBehind 117 = .ok (.iastore, 1) := by decide +kernel
theorem dX0_planBehind_118 : decode cX0_planBehind 118 = .ok (.iinc 4 1, 3) := by decide +kernel
theorem dX0_planBehind_121 : decode cX0_planBehind 121 = .ok (.goto (-92), 3) := by decide +kernel
theorem dX0_planBehind_124 : decode cX0_planBehind 124 = .ok (.return_, 1) := by decide +kernel
theorem dX0_fewestSeen_0 : decode cX0_fewestSeen 0 = .ok (.aload_n 0, 1) := by decide +kernel
theorem dX0_fewestSeen_1 : decode cX0_fewestSeen 1 = .ok (.getfield 11, 3) := by decide +kernel
theorem dX0_fewestSeen_4 : decode cX0_fewestSeen 4 = .ok (.iconst 0, 1) := by decide +kernel
theorem dX0_fewestSeen_5 : decode cX0_fewestSeen 5 = .ok (.iaload, 1) := by decide +kernel
theorem dX0_fewestSeen_6 : decode cX0_fewestSeen 6 = .ok (.ireturn, 1) := by decide +kernel
theorem dX0_robeFor_0 : decode cX0_robeFor 0 = .ok (.iconst 0, 1) := by decide +kernel
theorem dX0_robeFor_1 : decode cX0_robeFor 1 = .ok (.istore_n 2, 1) := by decide +kernel
theorem dX0_robeFor_2 : decode cX0_robeFor 2 = .ok (.iconst 0, 1) := by decide +kernel
theorem dX0_robeFor_3 : decode cX0_robeFor 3 = .ok (.istore_n 3, 1) := by decide +kernel
theorem dX0_robeFor_4 : decode cX0_robeFor 4 = .ok (.iload_n 3, 1) := by decide +kernel
theorem dX0_robeFor_5 : decode cX0_robeFor 5 = .ok (.iload_n 1, 1) := by decide +kernel
theorem dX0_robeFor_6 : decode cX0_robeFor 6 = .ok (.if_icmp .ge 23, 3) := by decide +kernel
theorem dX0_robeFor_9 : decode cX0_robeFor 9 = .ok (.iload_n 2, 1) := by decide +kernel
theorem dX0_robeFor_10 : decode cX0_robeFor 10 = .ok (.iconst 1, 1) := by decide +kernel
theorem dX0_robeFor_11 : decode cX0_robeFor 11 = .ok (.aload_n 0, 1) := by decide +kernel
theorem dX0_robeFor_12 : decode cX0_robeFor 12 = .ok (.getfield 15, 3) := by decide +kernel
theorem dX0_robeFor_15 : decode cX0_robeFor 15 = .ok (.iload_n 2, 1) := by decide +kernel
theorem dX0_robeFor_16 : decode cX0_robeFor 16 = .ok (.bipush 63, 2) := by decide +kernel
theorem dX0_robeFor_18 : decode cX0_robeFor 18 = .ok (.iand, 1) := by decide +kernel
theorem dX0_robeFor_19 : decode cX0_robeFor 19 = .ok (.iaload, 1) := by decide +kernel
theorem dX0_robeFor_20 : decode cX0_robeFor 20 = .ok (.ishl, 1) := by decide +kernel
theorem dX0_robeFor_21 : decode cX0_robeFor 21 = .ok (.ior, 1) := by decide +kernel
theorem dX0_robeFor_22 : decode cX0_robeFor 22 = .ok (.istore_n 2, 1) := by decide +kernel
theorem dX0_robeFor_23 : decode cX0_robeFor 23 = .ok (.iinc 3 1, 3) := by decide +kernel
theorem dX0_robeFor_26 : decode cX0_robeFor 26 = .ok (.goto (-22), 3) := by decide +kernel
theorem dX0_robeFor_29 : decode cX0_robeFor 29 = .ok (.aload_n 0, 1) := by decide +kernel
theorem dX0_robeFor_30 : decode cX0_robeFor 30 = .ok (.getfield 15, 3) := by decide +kernel
theorem dX0_robeFor_33 : decode cX0_robeFor 33 = .ok (.iload_n 2, 1) := by decide +kernel
theorem dX0_robeFor_34 : decode cX0_robeFor 34 = .ok (.bipush 63, 2) := by decide +kernel
theorem dX0_robeFor_36 : decode cX0_robeFor 36 = .ok (.iand, 1) := by decide +kernel
theorem dX0_robeFor_37 : decode cX0_robeFor 37 = .ok (.iaload, 1) := by decide +kernel
theorem dX0_robeFor_38 : decode cX0_robeFor 38 = .ok (.ireturn, 1) := by decide +kernel
theorem dX1_init_0 : decode cX1_init 0 = .ok (.aload_n 0, 1) := by decide +kernel
theorem dX1_init_1 : decode cX1_init 1 = .ok (.invokespecial 3, 3) := by decide +kernel
theorem dX1_init_4 : decode cX1_init 4 = .ok (.aload_n 0, 1) := by decide +kernel
theorem dX1_init_5 : decode cX1_init 5 = .ok (.bipush 17, 2) := by decide +kernel
theorem dX1_init_7 : decode cX1_init 7 = .ok (.newarray .long, 2) := by decide +kernel
theorem dX1_init_9 : decode cX1_init 9 = .ok (.putfield 9, 3) := by decide +kernel
theorem dX1_init_12 : decode cX1_init 12 = .ok (.return_, 1) := by decide +kernel
theorem dX1_partOfAtLeast_0 : decode cX1_partOfAtLeast 0 = .ok (.aload_n 0, 1) := by decide +kernel
theorem dX1_partOfAtLeast_1 : decode cX1_partOfAtLeast 1 = .ok (.iload_n 1, 1) := by decide +kernel
theorem dX1_partOfAtLeast_2 : decode cX1_partOfAtLeast 2 = .ok (.iload_n 2, 1) := by decide +kernel
theorem dX1_partOfAtLeast_3 : decode cX1_partOfAtLeast 3 = .ok (.invokevirtual 15, 3) := by decide +kernel
theorem dX1_partOfAtLeast_6 : decode cX1_partOfAtLeast 6 = .ok (.lstore 5, 2) := by decide +kernel
theorem dX1_partOfAtLeast_8 : decode cX1_partOfAtLeast 8 = .ok (.lconst 0, 1) := by decide +kernel
theorem dX1_partOfAtLeast_9 : decode cX1_partOfAtLeast 9 = .ok (.lstore 7, 2) := by decide +kernel
theorem dX1_partOfAtLeast_11 : decode cX1_partOfAtLeast 11 = .ok (.iload_n 3, 1) := by decide +kernel
theorem dX1_partOfAtLeast_12 : decode cX1_partOfAtLeast 12 = .ok (.istore 9, 2) := by decide +kernel
theorem dX1_partOfAtLeast_14 : decode cX1_partOfAtLeast 14 = .ok (.iload 9, 2) := by decide +kernel
theorem dX1_partOfAtLeast_16 : decode cX1_partOfAtLeast 16 = .ok (.iload_n 1, 1) := by decide +kernel
theorem dX1_partOfAtLeast_17 : decode cX1_partOfAtLeast 17 = .ok (.if_icmp .gt 28, 3) := by decide +kernel
theorem dX1_partOfAtLeast_20 : decode cX1_partOfAtLeast 20 = .ok (.iload 9, 2) := by decide +kernel
theorem dX1_partOfAtLeast_22 : decode cX1_partOfAtLeast 22 = .ok (.bipush 16, 2) := by decide +kernel
theorem dX1_partOfAtLeast_24 : decode cX1_partOfAtLeast 24 = .ok (.if_icmp .gt 21, 3) := by decide +kernel
theorem dX1_partOfAtLeast_27 : decode cX1_partOfAtLeast 27 = .ok (.lload 7, 2) := by decide +kernel
theorem dX1_partOfAtLeast_29 : decode cX1_partOfAtLeast 29 = .ok (.aload_n 0, 1) := by decide +kernel
theorem dX1_partOfAtLeast_30 : decode cX1_partOfAtLeast 30 = .ok (.getfield 9, 3) := by decide +kernel
theorem dX1_partOfAtLeast_33 : decode cX1_partOfAtLeast 33 = .ok (.iload 9, 2) := by decide +kernel
theorem dX1_partOfAtLeast_35 : decode cX1_partOfAtLeast 35 = .ok (.laload, 1) := by decide +kernel
theorem dX1_partOfAtLeast_36 : decode cX1_partOfAtLeast 36 = .ok (.ladd, 1) := by decide +kernel
theorem dX1_partOfAtLeast_37 : decode cX1_partOfAtLeast 37 = .ok (.lstore 7, 2) := by decide +kernel
theorem dX1_partOfAtLeast_39 : decode cX1_partOfAtLeast 39 = .ok (.iinc 9 1, 3) := by decide +kernel
theorem dX1_partOfAtLeast_42 : decode cX1_partOfAtLeast 42 = .ok (.goto (-28), 3) := by decide +kernel
theorem dX1_partOfAtLeast_45 : decode cX1_partOfAtLeast 45 = .ok (.lload 5, 2) := by decide +kernel
theorem dX1_partOfAtLeast_47 : decode cX1_partOfAtLeast 47 = .ok (.lload 7, 2) := by decide +kernel
theorem dX1_partOfAtLeast_49 : decode cX1_partOfAtLeast 49 = .ok (.invokestatic 19, 3) := by decide +kernel
theorem dX1_partOfAtLeast_52 : decode cX1_partOfAtLeast 52 = .ok (.lstore 9, 2) := by decide +kernel
theorem dX1_partOfAtLeast_54 : decode cX1_partOfAtLeast 54 = .ok (.lload 9, 2) := by decide +kernel
theorem dX1_partOfAtLeast_56 : decode cX1_partOfAtLeast 56 = .ok (.lconst 1, 1) := by decide +kernel
theorem dX1_partOfAtLeast_57 : decode cX1_partOfAtLeast 57 = .ok (.lcmp, 1) := by decide +kernel
theorem dX1_partOfAtLeast_58 : decode cX1_partOfAtLeast 58 = .ok (.ifCond .ge 7, 3) := by decide +kernel
theorem dX1_partOfAtLeast_61 : decode cX1_partOfAtLeast 61 = .ok (.ldc2_w 23, 3) := by decide +kernel
theorem dX1_partOfAtLeast_64 : decode cX1_partOfAtLeast 64 = .ok (.lreturn, 1) := by decide +kernel
theorem dX1_partOfAtLeast_65 : decode cX1_partOfAtLeast 65 = .ok (.iload 4, 2) := by decide +kernel
theorem dX1_partOfAtLeast_67 : decode cX1_partOfAtLeast 67 = .ok (.ifCond .ne 8, 3) := by decide +kernel
theorem dX1_partOfAtLeast_70 : decode cX1_partOfAtLeast 70 = .ok (.lload 7, 2) := by decide +kernel
theorem dX1_partOfAtLeast_72 : decode cX1_partOfAtLeast 72 = .ok (.goto 5, 3) := by decide +kernel
theorem dX1_partOfAtLeast_75 : decode cX1_partOfAtLeast 75 = .ok (.lload 5, 2) := by decide +kernel
theorem dX1_partOfAtLeast_77 : decode cX1_partOfAtLeast 77 = .ok (.lload 9, 2) := by decide +kernel
theorem dX1_partOfAtLeast_79 : decode cX1_partOfAtLeast 79 = .ok (.ldiv, 1) := by decide +kernel
theorem dX1_partOfAtLeast_80 : decode cX1_partOfAtLeast 80 = .ok (.lreturn, 1) := by decide +kernel
theorem dX1_countWays_0 : decode cX1_countWays 0 = .ok (.lconst 1, 1) := by decide +kernel
theorem dX1_countWays_1 : decode cX1_countWays 1 = .ok (.lstore_n 3, 1) := by decide +kernel
theorem dX1_countWays_2 : decode cX1_countWays 2 = .ok (.iconst 0, 1) := by decide +kernel
theorem dX1_countWays_3 : decode cX1_countWays 3 = .ok (.istore 5, 2) := by decide +kernel
theorem dX1_countWays_5 : decode cX1_countWays 5 = .ok (.iload 5, 2) := by decide +kernel
theorem dX1_countWays_7 : decode cX1_countWays 7 = .ok (.bipush 16, 2) := by decide +kernel
theorem dX1_countWays_9 : decode cX1_countWays 9 = .ok (.if_icmp .gt 26, 3) := by decide +kernel
theorem dX1_countWays_12 : decode cX1_countWays 12 = .ok (.aload_n 0, 1) := by decide +kernel
theorem dX1_countWays_13 : decode cX1_countWays 13 = .ok (.getfield 9, 3) := by decide +kernel
theorem dX1_countWays_16 : decode cX1_countWays 16 = .ok (.iload 5, 2) := by decide +kernel
theorem dX1_countWays_18 : decode cX1_countWays 18 = .ok (.iload 5, 2) := by decide +kernel
theorem dX1_countWays_20 : decode cX1_countWays 20 = .ok (.ifCond .ne 7, 3) := by decide +kernel
theorem dX1_countWays_23 : decode cX1_countWays 23 = .ok (.lconst 1, 1) := by decide +kernel
theorem dX1_countWays_24 : decode cX1_countWays 24 = .ok (.goto 4, 3) := by decide +kernel
theorem dX1_countWays_27 : decode cX1_countWays 27 = .ok (.lconst 0, 1) := by decide +kernel
theorem dX1_countWays_28 : decode cX1_countWays 28 = .ok (.lastore, 1) := by decide +kernel
theorem dX1_countWays_29 : decode cX1_countWays 29 = .ok (.iinc 5 1, 3) := by decide +kernel
theorem dX1_countWays_32 : decode cX1_countWays 32 = .ok (.goto (-27), 3) := by decide +kernel
theorem dX1_countWays_35 : decode cX1_countWays 35 = .ok (.iconst 0, 1) := by decide +kernel
theorem dX1_countWays_36 : decode cX1_countWays 36 = .ok (.istore 5, 2) := by decide +kernel
theorem dX1_countWays_38 : decode cX1_countWays 38 = .ok (.iload 5, 2) := by decide +kernel
theorem dX1_countWays_40 : decode cX1_countWays 40 = .ok (.iload_n 1, 1) := by decide +kernel
theorem dX1_countWays_41 : decode cX1_countWays 41 = .ok (.if_icmp .ge 86, 3) := by decide +kernel
theorem dX1_countWays_44 : decode cX1_countWays 44 = .ok (.iload 5, 2) := by decide +kernel
theorem dX1_countWays_46 : decode cX1_countWays 46 = .ok (.bipush 16, 2) := by decide +kernel
theorem dX1_countWays_48 : decode cX1_countWays 48 = .ok (.if_icmp .ge 79, 3) := by decide +kernel
theorem dX1_countWays_51 : decode cX1_countWays 51 = .ok (.lload_n 3, 1) := by decide +kernel
theorem dX1_countWays_52 : decode cX1_countWays 52 = .ok (.ldc2_w 25, 3) := by decide +kernel
theorem dX1_countWays_55 : decode cX1_countWays 55 = .ok (.lmul, 1) := by decide +kernel
theorem dX1_countWays_56 : decode cX1_countWays 56 = .ok (.lstore_n 3, 1) := by decide +kernel
theorem dX1_countWays_57 : decode cX1_countWays 57 = .ok (.iload 5, 2) := by decide +kernel
theorem dX1_countWays_59 : decode cX1_countWays 59 = .ok (.iconst 1, 1) := by decide +kernel
theorem dX1_countWays_60 : decode cX1_countWays 60 = .ok (.iadd, 1) := by decide +kernel
theorem dX1_countWays_61 : decode cX1_countWays 61 = .ok (.istore 6, 2) := by decide +kernel
theorem dX1_countWays_63 : decode cX1_countWays 63 = .ok (.iload 6, 2) := by decide +kernel
theorem dX1_countWays_65 : decode cX1_countWays 65 = .ok (.ifCond .le 42, 3) := by decide +kernel
theorem dX1_countWays_68 : decode cX1_countWays 68 = .ok (.aload_n 0, 1) := by decide +kernel
theorem dX1_countWays_69 : decode cX1_countWays 69 = .ok (.getfield 9, 3) := by decide +kernel
theorem dX1_countWays_72 : decode cX1_countWays 72 = .ok (.iload 6, 2) := by decide +kernel
theorem dX1_countWays_74 : decode cX1_countWays 74 = .ok (.aload_n 0, 1) := by decide +kernel
theorem dX1_countWays_75 : decode cX1_countWays 75 = .ok (.getfield 9, 3) := by decide +kernel
theorem dX1_countWays_78 : decode cX1_countWays 78 = .ok (.iload 6, 2) := by decide +kernel
theorem dX1_countWays_80 : decode cX1_countWays 80 = .ok (.laload, 1) := by decide +kernel
theorem dX1_countWays_81 : decode cX1_countWays 81 = .ok (.bipush 10, 2) := by decide +kernel
theorem dX1_countWays_83 : decode cX1_countWays 83 = .ok (.iload_n 2, 1) := by decide +kernel
theorem dX1_countWays_84 : decode cX1_countWays 84 = .ok (.isub, 1) := by decide +kernel
theorem dX1_countWays_85 : decode cX1_countWays 85 = .ok (.i2l, 1) := by decide +kernel
theorem dX1_countWays_86 : decode cX1_countWays 86 = .ok (.lmul, 1) := by decide +kernel
theorem dX1_countWays_87 : decode cX1_countWays 87 = .ok (.aload_n 0, 1) := by decide +kernel
theorem dX1_countWays_88 : decode cX1_countWays 88 = .ok (.getfield 9, 3) := by decide +kernel
theorem dX1_countWays_91 : decode cX1_countWays 91 = .ok (.iload 6, 2) := by decide +kernel
theorem dX1_countWays_93 : decode cX1_countWays 93 = .ok (.iconst 1, 1) := by decide +kernel
theorem dX1_countWays_94 : decode cX1_countWays 94 = .ok (.isub, 1) := by decide +kernel
theorem dX1_countWays_95 : decode cX1_countWays 95 = .ok (.laload, 1) := by decide +kernel
theorem dX1_countWays_96 : decode cX1_countWays 96 = .ok (.iload_n 2, 1) := by decide +kernel
theorem dX1_countWays_97 : decode cX1_countWays 97 = .ok (.i2l, 1) := by decide +kernel
theorem dX1_countWays_98 : decode cX1_countWays 98 = .ok (.lmul, 1) := by decide +kernel
theorem dX1_countWays_99 : decode cX1_countWays 99 = .ok (.ladd, 1) := by decide +kernel
theorem dX1_countWays_100 : decode cX1_countWays 100 = .ok (.lastore, 1) := by decide +kernel
theorem dX1_countWays_101 : decode cX1_countWays 101 = .ok (.iinc 6 (-1), 3) := by decide +kernel
theorem dX1_countWays_104 : decode cX1_countWays 104 = .ok (.goto (-41), 3) := by decide +kernel
theorem dX1_countWays_107 : decode cX1_countWays 107 = .ok (.aload_n 0, 1) := by decide +kernel
theorem dX1_countWays_108 : decode cX1_countWays 108 = .ok (.getfield 9, 3) := by decide +kernel
theorem dX1_countWays_111 : decode cX1_countWays 111 = .ok (.iconst 0, 1) := by decide +kernel
theorem dX1_countWays_112 : decode cX1_countWays 112 = .ok (.dup2, 1) := by decide +kernel
theorem dX1_countWays_113 : decode cX1_countWays 113 = .ok (.laload, 1) := by decide +kernel
theorem dX1_countWays_114 : decode cX1_countWays 114 = .ok (.bipush 10, 2) := by decide +kernel
theorem dX1_countWays_116 : decode cX1_countWays 116 = .ok (.iload_n 2, 1) := by decide +kernel
theorem dX1_countWays_117 : decode cX1_countWays 117 = .ok (.isub, 1) := by decide +kernel
theorem dX1_countWays_118 : decode cX1_countWays 118 = .ok (.i2l, 1) := by decide +kernel
theorem dX1_countWays_119 : decode cX1_countWays 119 = .ok (.lmul, 1) := by decide +kernel
theorem dX1_countWays_120 : decode cX1_countWays 120 = .ok (.lastore, 1) := by decide +kernel
theorem dX1_countWays_121 : decode cX1_countWays 121 = .ok (.iinc 5 1, 3) := by decide +kernel
theorem dX1_countWays_124 : decode cX1_countWays 124 = .ok (.goto (-86), 3) := by decide +kernel
theorem dX1_countWays_127 : decode cX1_countWays 127 = .ok (.lload_n 3, 1) := by decide +kernel
theorem dX1_countWays_128 : decode cX1_countWays 128 = .ok (.lreturn, 1) := by decide +kernel
theorem dX1_greatestDivisor_0 : decode cX1_greatestDivisor 0 = .ok (.lload_n 0, 1) := by decide +kernel
theorem dX1_greatestDivisor_1 : decode cX1_greatestDivisor 1 = .ok (.lstore 4, 2) := by decide +kernel
theorem dX1_greatestDivisor_3 : decode cX1_greatestDivisor 3 = .ok (.lload_n 2, 1) := by decide +kernel
theorem dX1_greatestDivisor_4 : decode cX1_greatestDivisor 4 = .ok (.lstore 6, 2) := by decide +kernel
theorem dX1_greatestDivisor_6 : decode cX1_greatestDivisor 6 = .ok (.iconst 0, 1) := by decide +kernel
theorem dX1_greatestDivisor_7 : decode cX1_greatestDivisor 7 = .ok (.istore 8, 2) := by decide +kernel
theorem dX1_greatestDivisor_9 : decode cX1_greatestDivisor 9 = .ok (.iload 8, 2) := by decide +kernel
theorem dX1_greatestDivisor_11 : decode cX1_greatestDivisor 11 = .ok (.sipush 200, 3) := by decide +kernel
theorem dX1_greatestDivisor_14 : decode cX1_greatestDivisor 14 = .ok (.if_icmp .ge 31, 3) := by decide +kernel
theorem dX1_greatestDivisor_17 : decode cX1_greatestDivisor 17 = .ok (.lload 6, 2) := by decide +kernel
theorem dX1_greatestDivisor_19 : decode cX1_greatestDivisor 19 = .ok (.lconst 0, 1) := by decide +kernel
theorem dX1_greatestDivisor_20 : decode cX1_greatestDivisor 20 = .ok (.lcmp, 1) := by decide +kernel
theorem dX1_greatestDivisor_21 : decode cX1_greatestDivisor 21 = .ok (.ifCond .eq 24, 3) := by decide +kernel
theorem dX1_greatestDivisor_24 : decode cX1_greatestDivisor 24 = .ok (.lload 4, 2) := by decide +kernel
theorem dX1_greatestDivisor_26 : decode cX1_greatestDivisor 26 = .ok (.lload 6, 2) := by decide +kernel
theorem dX1_greatestDivisor_28 : decode cX1_greatestDivisor 28 = .ok (.lrem, 1) := by decide +kernel
theorem dX1_greatestDivisor_29 : decode cX1_greatestDivisor 29 = .ok (.lstore 9, 2) := by decide +kernel
theorem dX1_greatestDivisor_31 : decode cX1_greatestDivisor 31 = .ok (.lload 6, 2) := by decide +kernel
theorem dX1_greatestDivisor_33 : decode cX1_greatestDivisor 33 = .ok (.lstore 4, 2) := by decide +kernel
theorem dX1_greatestDivisor_35 : decode cX1_greatestDivisor 35 = .ok (.lload 9, 2) := by decide +kernel
theorem dX1_greatestDivisor_37 : decode cX1_greatestDivisor 37 = .ok (.lstore 6, 2) := by decide +kernel
theorem dX1_greatestDivisor_39 : decode cX1_greatestDivisor 39 = .ok (.iinc 8 1, 3) := by decide +kernel
theorem dX1_greatestDivisor_42 : decode cX1_greatestDivisor 42 = .ok (.goto (-33), 3) := by decide +kernel
theorem dX1_greatestDivisor_45 : decode cX1_greatestDivisor 45 = .ok (.lload 4, 2) := by decide +kernel
theorem dX1_greatestDivisor_47 : decode cX1_greatestDivisor 47 = .ok (.lreturn, 1) := by decide +kernel
theorem dX2_init_0 : decode cX2_init 0 = .ok (.aload_n 0, 1) := by decide +kernel
theorem dX2_init_1 : decode cX2_init 1 = .ok (.invokespecial 3, 3) := by decide +kernel
theorem dX2_init_4 : decode cX2_init 4 = .ok (.aload_n 0, 1) := by decide +kernel
theorem dX2_init_5 : decode cX2_init 5 = .ok (.bipush 60, 2) := by decide +kernel
theorem dX2_init_7 : decode cX2_init 7 = .ok (.newarray .int, 2) := by decide +kernel
theorem dX2_init_9 : decode cX2_init 9 = .ok (.putfield 9, 3) := by decide +kernel
theorem dX2_init_12 : decode cX2_init 12 = .ok (.return_, 1) := by decide +kernel
theorem dX2_add_0 : decode cX2_add 0 = .ok (.aload_n 0, 1) := by decide +kernel
theorem dX2_add_1 : decode cX2_add 1 = .ok (.getfield 15, 3) := by decide +kernel
theorem dX2_add_4 : decode cX2_add 4 = .ok (.bipush 60, 2) := by decide +kernel
theorem dX2_add_6 : decode cX2_add 6 = .ok (.if_icmp .ge 23, 3) := by decide +kernel
theorem dX2_add_9 : decode cX2_add 9 = .ok (.aload_n 0, 1) := by decide +kernel
theorem dX2_add_10 : decode cX2_add 10 = .ok (.getfield 9, 3) := by decide +kernel
theorem dX2_add_13 : decode cX2_add 13 = .ok (.aload_n 0, 1) := by decide +kernel
theorem dX2_add_14 : decode cX2_add 14 = .ok (.getfield 15, 3) := by decide +kernel
theorem dX2_add_17 : decode cX2_add 17 = .ok (.iload_n 1, 1) := by decide +kernel
theorem dX2_add_18 : decode cX2_add 18 = .ok (.iastore, 1) := by decide +kernel
theorem dX2_add_19 : decode cX2_add 19 = .ok (.aload_n 0, 1) := by decide +kernel
theorem dX2_add_20 : decode cX2_add 20 = .ok (.dup, 1) := by decide +kernel
theorem dX2_add_21 : decode cX2_add 21 = .ok (.getfield 15, 3) := by decide +kernel
theorem dX2_add_24 : decode cX2_add 24 = .ok (.iconst 1, 1) := by decide +kernel
theorem dX2_add_25 : decode cX2_add 25 = .ok (.iadd, 1) := by decide +kernel
theorem dX2_add_26 : decode cX2_add 26 = .ok (.putfield 15, 3) := by decide +kernel
theorem dX2_add_29 : decode cX2_add 29 = .ok (.return_, 1) := by decide +kernel
theorem dX2_signAt_0 : decode cX2_signAt 0 = .ok (.iconst 0, 1) := by decide +kernel
theorem dX2_signAt_1 : decode cX2_signAt 1 = .ok (.iload_n 1, 1) := by decide +kernel
theorem dX2_signAt_2 : decode cX2_signAt 2 = .ok (.if_icmp .gt 26, 3) := by decide +kernel
theorem dX2_signAt_5 : decode cX2_signAt 5 = .ok (.iload_n 1, 1) := by decide +kernel
theorem dX2_signAt_6 : decode cX2_signAt 6 = .ok (.aload_n 0, 1) := by decide +kernel
theorem dX2_signAt_7 : decode cX2_signAt 7 = .ok (.getfield 15, 3) := by decide +kernel
theorem dX2_signAt_10 : decode cX2_signAt 10 = .ok (.if_icmp .ge 18, 3) := by decide +kernel
theorem dX2_signAt_13 : decode cX2_signAt 13 = .ok (.iload_n 1, 1) := by decide +kernel
theorem dX2_signAt_14 : decode cX2_signAt 14 = .ok (.bipush 60, 2) := by decide +kernel
theorem dX2_signAt_16 : decode cX2_signAt 16 = .ok (.if_icmp .ge 12, 3) := by decide +kernel
theorem dX2_signAt_19 : decode cX2_signAt 19 = .ok (.aload_n 0, 1) := by decide +kernel
theorem dX2_signAt_20 : decode cX2_signAt 20 = .ok (.getfield 9, 3) := by decide +kernel
theorem dX2_signAt_23 : decode cX2_signAt 23 = .ok (.iload_n 1, 1) := by decide +kernel
theorem dX2_signAt_24 : decode cX2_signAt 24 = .ok (.iaload, 1) := by decide +kernel
theorem dX2_signAt_25 : decode cX2_signAt 25 = .ok (.goto 4, 3) := by decide +kernel
theorem dX2_signAt_28 : decode cX2_signAt 28 = .ok (.iconst 0, 1) := by decide +kernel
theorem dX2_signAt_29 : decode cX2_signAt 29 = .ok (.ireturn, 1) := by decide +kernel
theorem dX2_isLetter_0 : decode cX2_isLetter 0 = .ok (.bipush 65, 2) := by decide +kernel
theorem dX2_isLetter_2 : decode cX2_isLetter 2 = .ok (.iload_n 0, 1) := by decide +kernel
theorem dX2_isLetter_3 : decode cX2_isLetter 3 = .ok (.if_icmp .gt 13, 3) := by decide +kernel
theorem dX2_isLetter_6 : decode cX2_isLetter 6 = .ok (.iload_n 0, 1) := by decide +kernel
theorem dX2_isLetter_7 : decode cX2_isLetter 7 = .ok (.bipush 71, 2) := by decide +kernel
theorem dX2_isLetter_9 : decode cX2_isLetter 9 = .ok (.if_icmp .ge 7, 3) := by decide +kernel
theorem dX2_isLetter_12 : decode cX2_isLetter 12 = .ok (.iconst 1, 1) := by decide +kernel
theorem dX2_isLetter_13 : decode cX2_isLetter 13 = .ok (.goto 4, 3) := by decide +kernel
theorem dX2_isLetter_16 : decode cX2_isLetter 16 = .ok (.iconst 0, 1) := by decide +kernel
theorem dX2_isLetter_17 : decode cX2_isLetter 17 = .ok (.ireturn, 1) := by decide +kernel
theorem dX2_isDigit_0 : decode cX2_isDigit 0 = .ok (.bipush 48, 2) := by decide +kernel
theorem dX2_isDigit_2 : decode cX2_isDigit 2 = .ok (.iload_n 0, 1) := by decide +kernel
theorem dX2_isDigit_3 : decode cX2_isDigit 3 = .ok (.if_icmp .gt 13, 3) := by decide +kernel
theorem dX2_isDigit_6 : decode cX2_isDigit 6 = .ok (.iload_n 0, 1) := by decide +kernel
theorem dX2_isDigit_7 : decode cX2_isDigit 7 = .ok (.bipush 58, 2) := by decide +kernel
theorem dX2_isDigit_9 : decode cX2_isDigit 9 = .ok (.if_icmp .ge 7, 3) := by decide +kernel
theorem dX2_isDigit_12 : decode cX2_isDigit 12 = .ok (.iconst 1, 1) := by decide +kernel
theorem dX2_isDigit_13 : decode cX2_isDigit 13 = .ok (.goto 4, 3) := by decide +kernel
theorem dX2_isDigit_16 : decode cX2_isDigit 16 = .ok (.iconst 0, 1) := by decide +kernel
theorem dX2_isDigit_17 : decode cX2_isDigit 17 = .ok (.ireturn, 1) := by decide +kernel
theorem dX2_isRobeAct_0 : decode cX2_isRobeAct 0 = .ok (.iload_n 0, 1) := by decide +kernel
theorem dX2_isRobeAct_1 : decode cX2_isRobeAct 1 = .ok (.bipush 60, 2) := by decide +kernel
theorem dX2_isRobeAct_3 : decode cX2_isRobeAct 3 = .ok (.if_icmp .eq 21, 3) := by decide +kernel
theorem dX2_isRobeAct_6 : decode cX2_isRobeAct 6 = .ok (.iload_n 0, 1) := by decide +kernel
theorem dX2_isRobeAct_7 : decode cX2_isRobeAct 7 = .ok (.bipush 62, 2) := by decide +kernel
theorem dX2_isRobeAct_9 : decode cX2_isRobeAct 9 = .ok (.if_icmp .eq 15, 3) := by decide +kernel
theorem dX2_isRobeAct_12 : decode cX2_isRobeAct 12 = .ok (.iload_n 0, 1) := by decide +kernel
theorem dX2_isRobeAct_13 : decode cX2_isRobeAct 13 = .ok (.bipush 43, 2) := by decide +kernel
theorem dX2_isRobeAct_15 : decode cX2_isRobeAct 15 = .ok (.if_icmp .eq 9, 3) := by decide +kernel
theorem dX2_isRobeAct_18 : decode cX2_isRobeAct 18 = .ok (.iload_n 0, 1) := by decide +kernel
theorem dX2_isRobeAct_19 : decode cX2_isRobeAct 19 = .ok (.bipush 47, 2) := by decide +kernel
theorem dX2_isRobeAct_21 : decode cX2_isRobeAct 21 = .ok (.if_icmp .ne 7, 3) := by decide +kernel
theorem dX2_isRobeAct_24 : decode cX2_isRobeAct 24 = .ok (.iconst 1, 1) := by decide +kernel
theorem dX2_isRobeAct_25 : decode cX2_isRobeAct 25 = .ok (.goto 4, 3) := by decide +kernel
theorem dX2_isRobeAct_28 : decode cX2_isRobeAct 28 = .ok (.iconst 0, 1) := by decide +kernel
theorem dX2_isRobeAct_29 : decode cX2_isRobeAct 29 = .ok (.ireturn, 1) := by decide +kernel
theorem dX2_firstFault_0 : decode cX2_firstFault 0 = .ok (.iconst 0, 1) := by decide +kernel
theorem dX2_firstFault_1 : decode cX2_firstFault 1 = .ok (.istore_n 1, 1) := by decide +kernel
theorem dX2_firstFault_2 : decode cX2_firstFault 2 = .ok (.iload_n 1, 1) := by decide +kernel
theorem dX2_firstFault_3 : decode cX2_firstFault 3 = .ok (.aload_n 0, 1) := by decide +kernel
theorem dX2_firstFault_4 : decode cX2_firstFault 4 = .ok (.getfield 15, 3) := by decide +kernel
theorem dX2_firstFault_7 : decode cX2_firstFault 7 = .ok (.if_icmp .ge 59, 3) := by decide +kernel
theorem dX2_firstFault_10 : decode cX2_firstFault 10 = .ok (.aload_n 0, 1) := by decide +kernel
theorem dX2_firstFault_11 : decode cX2_firstFault 11 = .ok (.iload_n 1, 1) := by decide +kernel
theorem dX2_firstFault_12 : decode cX2_firstFault 12 = .ok (.invokevirtual 19, 3) := by decide +kernel
theorem dX2_firstFault_15 : decode cX2_firstFault 15 = .ok (.istore_n 2, 1) := by decide +kernel
theorem dX2_firstFault_16 : decode cX2_firstFault 16 = .ok (.iload_n 2, 1) := by decide +kernel
theorem dX2_firstFault_17 : decode cX2_firstFault 17 = .ok (.invokestatic 23, 3) := by decide +kernel
theorem dX2_firstFault_20 : decode cX2_firstFault 20 = .ok (.ifCond .eq 19, 3) := by decide +kernel
theorem dX2_firstFault_23 : decode cX2_firstFault 23 = .ok (.iinc 1 1, 3) := by decide +kernel
theorem dX2_firstFault_26 : decode cX2_firstFault 26 = .ok (.aload_n 0, 1) := by decide +kernel
theorem dX2_firstFault_27 : decode cX2_firstFault 27 = .ok (.iload_n 1, 1) := by decide +kernel
theorem dX2_firstFault_28 : decode cX2_firstFault 28 = .ok (.invokevirtual 19, 3) := by decide +kernel
theorem dX2_firstFault_31 : decode cX2_firstFault 31 = .ok (.invokestatic 27, 3) := by decide +kernel
theorem dX2_firstFault_34 : decode cX2_firstFault 34 = .ok (.ifCond .ne 26, 3) := by decide +kernel
theorem dX2_firstFault_37 : decode cX2_firstFault 37 = .ok (.iload_n 1, 1) := by decide +kernel
theorem dX2_firstFault_38 : decode cX2_firstFault 38 = .ok (.ireturn, 1) := by decide +kernel
theorem dX2_firstFault_39 : decode cX2_firstFault 39 = .ok (.iload_n 2, 1) := by decide +kernel
theorem dX2_firstFault_40 : decode cX2_firstFault 40 = .ok (.invokestatic 30, 3) := by decide +kernel
theorem dX2_firstFault_43 : decode cX2_firstFault 43 = .ok (.ifCond .ne 17, 3) := by decide +kernel
theorem dX2_firstFault_46 : decode cX2_firstFault 46 = .ok (.iload_n 2, 1) := by decide +kernel
theorem dX2_firstFault_47 : decode cX2_firstFault 47 = .ok (.bipush 42, 2) := by decide +kernel
theorem dX2_firstFault_49 : decode cX2_firstFault 49 = .ok (.if_icmp .eq 11, 3) := by decide +kernel
theorem dX2_firstFault_52 : decode cX2_firstFault 52 = .ok (.iload_n 2, 1) := by decide +kernel
theorem dX2_firstFault_53 : decode cX2_firstFault 53 = .ok (.bipush 46, 2) := by decide +kernel
theorem dX2_firstFault_55 : decode cX2_firstFault 55 = .ok (.if_icmp .eq 5, 3) := by decide +kernel
theorem dX2_firstFault_58 : decode cX2_firstFault 58 = .ok (.iload_n 1, 1) := by decide +kernel
theorem dX2_firstFault_59 : decode cX2_firstFault 59 = .ok (.ireturn, 1) := by decide +kernel
theorem dX2_firstFault_60 : decode cX2_firstFault 60 = .ok (.iinc 1 1, 3) := by decide +kernel
theorem dX2_firstFault_63 : decode cX2_firstFault 63 = .ok (.goto (-61), 3) := by decide +kernel
theorem dX2_firstFault_66 : decode cX2_firstFault 66 = .ok (.bipush (-6), 2) := by decide +kernel
theorem dX2_firstFault_68 : decode cX2_firstFault 68 = .ok (.ireturn, 1) := by decide +kernel
theorem dX2_hasLetterAt_0 : decode cX2_hasLetterAt 0 = .ok (.aload_n 0, 1) := by decide +kernel
theorem dX2_hasLetterAt_1 : decode cX2_hasLetterAt 1 = .ok (.iload_n 1, 1) := by decide +kernel
theorem dX2_hasLetterAt_2 : decode cX2_hasLetterAt 2 = .ok (.invokevirtual 19, 3) := by decide +kernel
theorem dX2_hasLetterAt_5 : decode cX2_hasLetterAt 5 = .ok (.invokestatic 23, 3) := by decide +kernel
theorem dX2_hasLetterAt_8 : decode cX2_hasLetterAt 8 = .ok (.ireturn, 1) := by decide +kernel
theorem dX2_kindAt_0 : decode cX2_kindAt 0 = .ok (.aload_n 0, 1) := by decide +kernel
theorem dX2_kindAt_1 : decode cX2_kindAt 1 = .ok (.iload_n 1, 1) := by decide +kernel
theorem dX2_kindAt_2 : decode cX2_kindAt 2 = .ok (.invokevirtual 19, 3) := by decide +kernel
theorem dX2_kindAt_5 : decode cX2_kindAt 5 = .ok (.istore_n 2, 1) := by decide +kernel
theorem dX2_kindAt_6 : decode cX2_kindAt 6 = .ok (.iload_n 2, 1) := by decide +kernel
theorem dX2_kindAt_7 : decode cX2_kindAt 7 = .ok (.invokestatic 23, 3) := by decide +kernel
theorem dX2_kindAt_10 : decode cX2_kindAt 10 = .ok (.ifCond .eq 11, 3) := by decide +kernel
theorem dX2_kindAt_13 : decode cX2_kindAt 13 = .ok (.aload_n 0, 1) := by decide +kernel
theorem dX2_kindAt_14 : decode cX2_kindAt 14 = .ok (.iload_n 1, 1) := by decide +kernel
theorem dX2_kindAt_15 : decode cX2_kindAt 15 = .ok (.iconst 1, 1) := by decide +kernel
theorem dX2_kindAt_16 : decode cX2_kindAt 16 = .ok (.iadd, 1) := by decide +kernel
theorem dX2_kindAt_17 : decode cX2_kindAt 17 = .ok (.invokevirtual 19, 3) := by decide +kernel
theorem dX2_kindAt_20 : decode cX2_kindAt 20 = .ok (.ireturn, 1) := by decide +kernel
theorem dX2_kindAt_21 : decode cX2_kindAt 21 = .ok (.iload_n 2, 1) := by decide +kernel
theorem dX2_kindAt_22 : decode cX2_kindAt 22 = .ok (.invokestatic 30, 3) := by decide +kernel
theorem dX2_kindAt_25 : decode cX2_kindAt 25 = .ok (.ifCond .eq 8, 3) := by decide +kernel
theorem dX2_kindAt_28 : decode cX2_kindAt 28 = .ok (.bipush 48, 2) := by decide +kernel
theorem dX2_kindAt_30 : decode cX2_kindAt 30 = .ok (.goto 4, 3) := by decide +kernel
theorem dX2_kindAt_33 : decode cX2_kindAt 33 = .ok (.iload_n 2, 1) := by decide +kernel
theorem dX2_kindAt_34 : decode cX2_kindAt 34 = .ok (.ireturn, 1) := by decide +kernel
theorem dX2_subjectAt_0 : decode cX2_subjectAt 0 = .ok (.aload_n 0, 1) := by decide +kernel
theorem dX2_subjectAt_1 : decode cX2_subjectAt 1 = .ok (.iload_n 1, 1) := by decide +kernel
theorem dX2_subjectAt_2 : decode cX2_subjectAt 2 = .ok (.invokevirtual 19, 3) := by decide +kernel
theorem dX2_subjectAt_5 : decode cX2_subjectAt 5 = .ok (.istore_n 2, 1) := by decide +kernel
theorem dX2_subjectAt_6 : decode cX2_subjectAt 6 = .ok (.iload_n 2, 1) := by decide +kernel
theorem dX2_subjectAt_7 : decode cX2_subjectAt 7 = .ok (.invokestatic 23, 3) := by decide +kernel
theorem dX2_subjectAt_10 : decode cX2_subjectAt 10 = .ok (.ifCond .eq 8, 3) := by decide +kernel
theorem dX2_subjectAt_13 : decode cX2_subjectAt 13 = .ok (.iload_n 2, 1) := by decide +kernel
theorem dX2_subjectAt_14 : decode cX2_subjectAt 14 = .ok (.bipush 65, 2) := by decide +kernel
theorem dX2_subjectAt_16 : decode cX2_subjectAt 16 = .ok (.isub, 1) := by decide +kernel
theorem dX2_subjectAt_17 : decode cX2_subjectAt 17 = .ok (.ireturn, 1) := by decide +kernel
theorem dX2_subjectAt_18 : decode cX2_subjectAt 18 = .ok (.iload_n 2, 1) := by decide +kernel
theorem dX2_subjectAt_19 : decode cX2_subjectAt 19 = .ok (.invokestatic 30, 3) := by decide +kernel
theorem dX2_subjectAt_22 : decode cX2_subjectAt 22 = .ok (.ifCond .eq 10, 3) := by decide +kernel
theorem dX2_subjectAt_25 : decode cX2_subjectAt 25 = .ok (.iload_n 2, 1) := by decide +kernel
theorem dX2_subjectAt_26 : decode cX2_subjectAt 26 = .ok (.bipush 48, 2) := by decide +kernel
theorem dX2_subjectAt_28 : decode cX2_subjectAt 28 = .ok (.isub, 1) := by decide +kernel
theorem dX2_subjectAt_29 : decode cX2_subjectAt 29 = .ok (.goto 4, 3) := by decide +kernel
theorem dX2_subjectAt_32 : decode cX2_subjectAt 32 = .ok (.iconst 0, 1) := by decide +kernel
theorem dX2_subjectAt_33 : decode cX2_subjectAt 33 = .ok (.ireturn, 1) := by decide +kernel
theorem dX3_init_0 : decode cX3_init 0 = .ok (.aload_n 0, 1) := by decide +kernel
theorem dX3_init_1 : decode cX3_init 1 = .ok (.invokespecial 3, 3) := by decide +kernel
theorem dX3_init_4 : decode cX3_init 4 = .ok (.aload_n 0, 1) := by decide +kernel
theorem dX3_init_5 : decode cX3_init 5 = .ok (.new 9, 3) := by decide +kernel
theorem dX3_init_8 : decode cX3_init 8 = .ok (.dup, 1) := by decide +kernel
theorem dX3_init_9 : decode cX3_init 9 = .ok (.invokespecial 11, 3) := by decide +kernel
theorem dX3_init_12 : decode cX3_init 12 = .ok (.putfield 12, 3) := by decide +kernel
theorem dX3_init_15 : decode cX3_init 15 = .ok (.return_, 1) := by decide +kernel
theorem dX3_begin_0 : decode cX3_begin 0 = .ok (.aload_n 0, 1) := by decide +kernel
theorem dX3_begin_1 : decode cX3_begin 1 = .ok (.getfield 12, 3) := by decide +kernel
theorem dX3_begin_4 : decode cX3_begin 4 = .ok (.aload_n 1, 1) := by decide +kernel
theorem dX3_begin_5 : decode cX3_begin 5 = .ok (.invokevirtual 18, 3) := by decide +kernel
theorem dX3_begin_8 : decode cX3_begin 8 = .ok (.aload_n 0, 1) := by decide +kernel
theorem dX3_begin_9 : decode cX3_begin 9 = .ok (.iconst 0, 1) := by decide +kernel
theorem dX3_begin_10 : decode cX3_begin 10 = .ok (.putfield 22, 3) := by decide +kernel
theorem dX3_begin_13 : decode cX3_begin 13 = .ok (.aload_n 0, 1) := by decide +kernel
theorem dX3_begin_14 : decode cX3_begin 14 = .ok (.bipush (-6), 2) := by decide +kernel
theorem dX3_begin_16 : decode cX3_begin 16 = .ok (.putfield 26, 3) := by decide +kernel
theorem dX3_begin_19 : decode cX3_begin 19 = .ok (.aload_n 0, 1) := by decide +kernel
theorem dX3_begin_20 : decode cX3_begin 20 = .ok (.bipush (-6), 2) := by decide +kernel
theorem dX3_begin_22 : decode cX3_begin 22 = .ok (.putfield 29, 3) := by decide +kernel
theorem dX3_begin_25 : decode cX3_begin 25 = .ok (.aload_n 0, 1) := by decide +kernel
theorem dX3_begin_26 : decode cX3_begin 26 = .ok (.iconst 0, 1) := by decide +kernel
theorem dX3_begin_27 : decode cX3_begin 27 = .ok (.putfield 32, 3) := by decide +kernel
theorem dX3_begin_30 : decode cX3_begin 30 = .ok (.aload_n 0, 1) := by decide +kernel
theorem dX3_begin_31 : decode cX3_begin 31 = .ok (.bipush (-6), 2) := by decide +kernel
theorem dX3_begin_33 : decode cX3_begin 33 = .ok (.putfield 35, 3) := by decide +kernel
theorem dX3_begin_36 : decode cX3_begin 36 = .ok (.aload_n 0, 1) := by decide +kernel
theorem dX3_begin_37 : decode cX3_begin 37 = .ok (.bipush (-6), 2) := by decide +kernel
theorem dX3_begin_39 : decode cX3_begin 39 = .ok (.putfield 38, 3) := by decide +kernel
theorem dX3_begin_42 : decode cX3_begin 42 = .ok (.return_, 1) := by decide +kernel
theorem dX3_follow_0 : decode cX3_follow 0 = .ok (.iconst 0, 1) := by decide +kernel
theorem dX3_follow_1 : decode cX3_follow 1 = .ok (.istore_n 2, 1) := by decide +kernel
theorem dX3_follow_2 : decode cX3_follow 2 = .ok (.iload_n 2, 1) := by decide +kernel
theorem dX3_follow_3 : decode cX3_follow 3 = .ok (.aload_n 1, 1) := by decide +kernel
theorem dX3_follow_4 : decode cX3_follow 4 = .ok (.getfield 41, 3) := by decide +kernel
theorem dX3_follow_7 : decode cX3_follow 7 = .ok (.if_icmp .ge 71, 3) := by decide +kernel
theorem dX3_follow_10 : decode cX3_follow 10 = .ok (.aload_n 1, 1) := by decide +kernel
theorem dX3_follow_11 : decode cX3_follow 11 = .ok (.iload_n 2, 1) := by decide +kernel
theorem dX3_follow_12 : decode cX3_follow 12 = .ok (.invokevirtual 46, 3) := by decide +kernel
theorem dX3_follow_15 : decode cX3_follow 15 = .ok (.istore_n 3, 1) := by decide +kernel
theorem dX3_follow_16 : decode cX3_follow 16 = .ok (.aload_n 1, 1) := by decide +kernel
theorem dX3_follow_17 : decode cX3_follow 17 = .ok (.iload_n 2, 1) := by decide +kernel
theorem dX3_follow_18 : decode cX3_follow 18 = .ok (.invokevirtual 50, 3) := by decide +kernel
theorem dX3_follow_21 : decode cX3_follow 21 = .ok (.istore 4, 2) := by decide +kernel
theorem dX3_follow_23 : decode cX3_follow 23 = .ok (.aload_n 1, 1) := by decide +kernel
theorem dX3_follow_24 : decode cX3_follow 24 = .ok (.iload_n 2, 1) := by decide +kernel
theorem dX3_follow_25 : decode cX3_follow 25 = .ok (.invokevirtual 53, 3) := by decide +kernel
theorem dX3_follow_28 : decode cX3_follow 28 = .ok (.ifCond .eq 6, 3) := by decide +kernel
theorem dX3_follow_31 : decode cX3_follow 31 = .ok (.iinc 2 1, 3) := by decide +kernel
theorem dX3_follow_34 : decode cX3_follow 34 = .ok (.aload_n 0, 1) := by decide +kernel
theorem dX3_follow_35 : decode cX3_follow 35 = .ok (.iload_n 3, 1) := by decide +kernel
theorem dX3_follow_36 : decode cX3_follow 36 = .ok (.iload 4, 2) := by decide +kernel
theorem dX3_follow_38 : decode cX3_follow 38 = .ok (.invokevirtual 57, 3) := by decide +kernel
theorem dX3_follow_41 : decode cX3_follow 41 = .ok (.istore 5, 2) := by decide +kernel
theorem dX3_follow_43 : decode cX3_follow 43 = .ok (.iload 5, 2) := by decide +kernel
theorem dX3_follow_45 : decode cX3_follow 45 = .ok (.bipush (-6), 2) := by decide +kernel
theorem dX3_follow_47 : decode cX3_follow 47 = .ok (.if_icmp .eq 18, 3) := by decide +kernel
theorem dX3_follow_50 : decode cX3_follow 50 = .ok (.aload_n 0, 1) := by decide +kernel
theorem dX3_follow_51 : decode cX3_follow 51 = .ok (.aload_n 0, 1) := by decide +kernel
theorem dX3_follow_52 : decode cX3_follow 52 = .ok (.getfield 22, 3) := by decide +kernel
theorem dX3_follow_55 : decode cX3_follow 55 = .ok (.putfield 26, 3) := by decide +kernel
theorem dX3_follow_58 : decode cX3_follow 58 = .ok (.aload_n 0, 1) := by decide +kernel
theorem dX3_follow_59 : decode cX3_follow 59 = .ok (.iload 5, 2) := by decide +kernel
theorem dX3_follow_61 : decode cX3_follow 61 = .ok (.putfield 29, 3) := by decide +kernel
theorem dX3_follow_64 : decode cX3_follow 64 = .ok (.return_, 1) := by decide +kernel
theorem dX3_follow_65 : decode cX3_follow 65 = .ok (.aload_n 0, 1) := by decide +kernel
theorem dX3_follow_66 : decode cX3_follow 66 = .ok (.iload_n 3, 1) := by decide +kernel
theorem dX3_follow_67 : decode cX3_follow 67 = .ok (.iload 4, 2) := by decide +kernel
theorem dX3_follow_69 : decode cX3_follow 69 = .ok (.invokevirtual 61, 3) := by decide +kernel
theorem dX3_follow_72 : decode cX3_follow 72 = .ok (.iinc 2 1, 3) := by decide +kernel
theorem dX3_follow_75 : decode cX3_follow 75 = .ok (.goto (-73), 3) := by decide +kernel
theorem dX3_follow_78 : decode cX3_follow 78 = .ok (.return_, 1) := by decide +kernel
theorem dX3_drawActs_0 : decode cX3_drawActs 0 = .ok (.iload_n 1, 1) := by decide +kernel
theorem dX3_drawActs_1 : decode cX3_drawActs 1 = .ok (.istore_n 3, 1) := by decide +kernel
theorem dX3_drawActs_2 : decode cX3_drawActs 2 = .ok (.iconst 0, 1) := by decide +kernel
theorem dX3_drawActs_3 : decode cX3_drawActs 3 = .ok (.istore 4, 2) := by decide +kernel
theorem dX3_drawActs_5 : decode cX3_drawActs 5 = .ok (.iload 4, 2) := by decide +kernel
theorem dX3_drawActs_7 : decode cX3_drawActs 7 = .ok (.iload_n 2, 1) := by decide +kernel
theorem dX3_drawActs_8 : decode cX3_drawActs 8 = .ok (.if_icmp .ge 77, 3) := by decide +kernel
theorem dX3_drawActs_11 : decode cX3_drawActs 11 = .ok (.bipush 75, 2) := by decide +kernel
theorem dX3_drawActs_13 : decode cX3_drawActs 13 = .ok (.iload_n 3, 1) := by decide +kernel
theorem dX3_drawActs_14 : decode cX3_drawActs 14 = .ok (.imul, 1) := by decide +kernel
theorem dX3_drawActs_15 : decode cX3_drawActs 15 = .ok (.bipush 74, 2) := by decide +kernel
theorem dX3_drawActs_17 : decode cX3_drawActs 17 = .ok (.iadd, 1) := by decide +kernel
theorem dX3_drawActs_18 : decode cX3_drawActs 18 = .ok (.ldc 65, 2) := by decide +kernel
theorem dX3_drawActs_20 : decode cX3_drawActs 20 = .ok (.irem, 1) := by decide +kernel
theorem dX3_drawActs_21 : decode cX3_drawActs 21 = .ok (.istore_n 3, 1) := by decide +kernel
theorem dX3_drawActs_22 : decode cX3_drawActs 22 = .ok (.getstatic 66, 3) := by decide +kernel
theorem dX3_drawActs_25 : decode cX3_drawActs 25 = .ok (.iload_n 3, 1) := by decide +kernel
theorem dX3_drawActs_26 : decode cX3_drawActs 26 = .ok (.bipush 6, 2) := by decide +kernel
theorem dX3_drawActs_28 : decode cX3_drawActs 28 = .ok (.idiv, 1) := by decide +kernel
theorem dX3_drawActs_29 : decode cX3_drawActs 29 = .ok (.bipush 7, 2) := by decide +kernel
theorem dX3_drawActs_31 : decode cX3_drawActs 31 = .ok (.iand, 1) := by decide +kernel
theorem dX3_drawActs_32 : decode cX3_drawActs 32 = .ok (.iaload, 1) := by decide +kernel
theorem dX3_drawActs_33 : decode cX3_drawActs 33 = .ok (.istore 5, 2) := by decide +kernel
theorem dX3_drawActs_35 : decode cX3_drawActs 35 = .ok (.iload 5, 2) := by decide +kernel
theorem dX3_drawActs_37 : decode cX3_drawActs 37 = .ok (.bipush 48, 2) := by decide +kernel
theorem dX3_drawActs_39 : decode cX3_drawActs 39 = .ok (.if_icmp .ne 13, 3) := by decide +kernel
theorem dX3_drawActs_42 : decode cX3_drawActs 42 = .ok (.iload_n 3, 1) := by decide +kernel
theorem dX3_drawActs_43 : decode cX3_drawActs 43 = .ok (.bipush 48, 2) := by decide +kernel
theorem dX3_drawActs_45 : decode cX3_drawActs 45 = .ok (.idiv, 1) := by decide +kernel
theorem dX3_drawActs_46 : decode cX3_drawActs 46 = .ok (.bipush 10, 2) := by decide +kernel
theorem dX3_drawActs_48 : decode cX3_drawActs 48 = .ok (.irem, 1) := by decide +kernel
theorem dX3_drawActs_49 : decode cX3_drawActs 49 = .ok (.goto 7, 3) := by decide +kernel
theorem dX3_drawActs_52 : decode cX3_drawActs 52 = .ok (.iload_n 3, 1) := by decide +kernel
theorem dX3_drawActs_53 : decode cX3_drawActs 53 = .ok (.bipush 6, 2) := by decide +kernel
theorem dX3_drawActs_55 : decode cX3_drawActs 55 = .ok (.irem, 1) := by decide +kernel
theorem dX3_drawActs_56 : decode cX3_drawActs 56 = .ok (.istore 6, 2) := by decide +kernel
theorem dX3_drawActs_58 : decode cX3_drawActs 58 = .ok (.aload_n 0, 1) := by decide +kernel
theorem dX3_drawActs_59 : decode cX3_drawActs 59 = .ok (.iload 5, 2) := by decide +kernel
theorem dX3_drawActs_61 : decode cX3_drawActs 61 = .ok (.iload 6, 2) := by decide +kernel
theorem dX3_drawActs_63 : decode cX3_drawActs 63 = .ok (.invokevirtual 57, 3) := by decide +kernel
theorem dX3_drawActs_66 : decode cX3_drawActs 66 = .ok (.bipush (-6), 2) := by decide +kernel
theorem dX3_drawActs_68 : decode cX3_drawActs 68 = .ok (.if_icmp .ne 11, 3) := by decide +kernel
theorem dX3_drawActs_71 : decode cX3_drawActs 71 = .ok (.aload_n 0, 1) := by decide +kernel
theorem dX3_drawActs_72 : decode cX3_drawActs 72 = .ok (.iload 5, 2) := by decide +kernel
theorem dX3_drawActs_74 : decode cX3_drawActs 74 = .ok (.iload 6, 2) := by decide +kernel
theorem dX3_drawActs_76 : decode cX3_drawActs 76 = .ok (.invokevirtual 61, 3) := by decide +kernel
theorem dX3_drawActs_79 : decode cX3_drawActs 79 = .ok (.iinc 4 1, 3) := by decide +kernel
theorem dX3_drawActs_82 : decode cX3_drawActs 82 = .ok (.goto (-77), 3) := by decide +kernel
theorem dX3_drawActs_85 : decode cX3_drawActs 85 = .ok (.return_, 1) := by decide +kernel
theorem dX3_reasonAgainst_0 : decode cX3_reasonAgainst 0 = .ok (.iload_n 1, 1) := by decide +kernel
theorem dX3_reasonAgainst_1 : decode cX3_reasonAgainst 1 = .ok (.invokestatic 70, 3) := by decide +kernel
theorem dX3_reasonAgainst_4 : decode cX3_reasonAgainst 4 = .ok (.ifCond .eq 22, 3) := by decide +kernel
theorem dX3_reasonAgainst_7 : decode cX3_reasonAgainst 7 = .ok (.iload_n 2, 1) := by decide +kernel
theorem dX3_reasonAgainst_8 : decode cX3_reasonAgainst 8 = .ok (.invokestatic 73, 3) := by decide +kernel
theorem dX3_reasonAgainst_11 : decode cX3_reasonAgainst 11 = .ok (.ifCond .eq 12, 3) := by decide +kernel
theorem dX3_reasonAgainst_14 : decode cX3_reasonAgainst 14 = .ok (.aload_n 0, 1) := by decide +kernel
theorem dX3_reasonAgainst_15 : decode cX3_reasonAgainst 15 = .ok (.iload_n 1, 1) := by decide +kernel
theorem dX3_reasonAgainst_16 : decode cX3_reasonAgainst 16 = .ok (.iload_n 2, 1) := by decide +kernel
theorem dX3_reasonAgainst_17 : decode cX3_reasonAgainst 17 = .ok (.invokevirtual 76, 3) := by decide +kernel
theorem dX3_reasonAgainst_20 : decode cX3_reasonAgainst 20 = .ok (.goto 5, 3) := by decide +kernel
theorem dX3_reasonAgainst_23 : decode cX3_reasonAgainst 23 = .ok (.bipush (-6), 2) := by decide +kernel
theorem dX3_reasonAgainst_25 : decode cX3_reasonAgainst 25 = .ok (.ireturn, 1) := by decide +kernel
theorem dX3_reasonAgainst_26 : decode cX3_reasonAgainst 26 = .ok (.iload_n 1, 1) := by decide +kernel
theorem dX3_reasonAgainst_27 : decode cX3_reasonAgainst 27 = .ok (.bipush 48, 2) := by decide +kernel
theorem dX3_reasonAgainst_29 : decode cX3_reasonAgainst 29 = .ok (.if_icmp .ne 29, 3) := by decide +kernel
theorem dX3_reasonAgainst_32 : decode cX3_reasonAgainst 32 = .ok (.iload_n 2, 1) := by decide +kernel
theorem dX3_reasonAgainst_33 : decode cX3_reasonAgainst 33 = .ok (.invokestatic 79, 3) := by decide +kernel
theorem dX3_reasonAgainst_36 : decode cX3_reasonAgainst 36 = .ok (.ifCond .eq 19, 3) := by decide +kernel
theorem dX3_reasonAgainst_39 : decode cX3_reasonAgainst 39 = .ok (.aload_n 0, 1) := by decide +kernel
theorem dX3_reasonAgainst_40 : decode cX3_reasonAgainst 40 = .ok (.getfield 12, 3) := by decide +kernel
theorem dX3_reasonAgainst_43 : decode cX3_reasonAgainst 43 = .ok (.getfield 82, 3) := by decide +kernel
theorem dX3_reasonAgainst_46 : decode cX3_reasonAgainst 46 = .ok (.iload_n 2, 1) := by decide +kernel
theorem dX3_reasonAgainst_47 : decode cX3_reasonAgainst 47 = .ok (.iaload, 1) := by decide +kernel
theorem dX3_reasonAgainst_48 : decode cX3_reasonAgainst 48 = .ok (.ifCond .ne 7, 3) := by decide +kernel
theorem dX3_reasonAgainst_51 : decode cX3_reasonAgainst 51 = .ok (.iconst 4, 1) := by decide +kernel
theorem dX3_reasonAgainst_52 : decode cX3_reasonAgainst 52 = .ok (.goto 5, 3) := by decide +kernel
theorem dX3_reasonAgainst_55 : decode cX3_reasonAgainst 55 = .ok (.bipush (-6), 2) := by decide +kernel
theorem dX3_reasonAgainst_57 : decode cX3_reasonAgainst 57 = .ok (.ireturn, 1) := by decide +kernel
theorem dX3_reasonAgainst_58 : decode cX3_reasonAgainst 58 = .ok (.iload_n 1, 1) := by decide +kernel
theorem dX3_reasonAgainst_59 : decode cX3_reasonAgainst 59 = .ok (.bipush 42, 2) := by decide +kernel
theorem dX3_reasonAgainst_61 : decode cX3_reasonAgainst 61 = .ok (.if_icmp .ne 20, 3) := by decide +kernel
theorem dX3_reasonAgainst_64 : decode cX3_reasonAgainst 64 = .ok (.aload_n 0, 1) := by decide +kernel
theorem dX3_reasonAgainst_65 : decode cX3_reasonAgainst 65 = .ok (.getfield 12, 3) := by decide +kernel
theorem dX3_reasonAgainst_68 : decode cX3_reasonAgainst 68 = .ok (.getfield 85, 3) := by decide +kernel
theorem dX3_reasonAgainst_71 : decode cX3_reasonAgainst 71 = .ok (.ifCond .ne 7, 3) := by decide +kernel
theorem dX3_reasonAgainst_74 : decode cX3_reasonAgainst 74 = .ok (.iconst 5, 1) := by decide +kernel
theorem dX3_reasonAgainst_75 : decode cX3_reasonAgainst 75 = .ok (.goto 5, 3) := by decide +kernel
theorem dX3_reasonAgainst_78 : decode cX3_reasonAgainst 78 = .ok (.bipush (-6), 2) := by decide +kernel
theorem dX3_reasonAgainst_80 : decode cX3_reasonAgainst 80 = .ok (.ireturn, 1) := by decide +kernel
theorem dX3_reasonAgainst_81 : decode cX3_reasonAgainst 81 = .ok (.aload_n 0, 1) := by decide +kernel
theorem dX3_reasonAgainst_82 : decode cX3_reasonAgainst 82 = .ok (.getfield 12, 3) := by decide +kernel
theorem dX3_reasonAgainst_85 : decode cX3_reasonAgainst 85 = .ok (.getfield 88, 3) := by decide +kernel
theorem dX3_reasonAgainst_88 : decode cX3_reasonAgainst 88 = .ok (.bipush 99, 2) := by decide +kernel
theorem dX3_reasonAgainst_90 : decode cX3_reasonAgainst 90 = .ok (.if_icmp .lt 8, 3) := by decide +kernel
theorem dX3_reasonAgainst_93 : decode cX3_reasonAgainst 93 = .ok (.bipush 6, 2) := by decide +kernel
theorem dX3_reasonAgainst_95 : decode cX3_reasonAgainst 95 = .ok (.goto 5, 3) := by decide +kernel
theorem dX3_reasonAgainst_98 : decode cX3_reasonAgainst 98 = .ok (.bipush (-6), 2) := by decide +kernel
theorem dX3_reasonAgainst_100 : decode cX3_reasonAgainst 100 = .ok (.ireturn, 1) := by decide +kernel
theorem dX3_reasonAgainstRobeAct_0 : decode cX3_reasonAgainstRobeAct 0 = .ok (.aload_n 0, 1) := by decide +kernel
theorem dX3_reasonAgainstRobeAct_1 : decode cX3_reasonAgainstRobeAct 1 = .ok (.getfield 12, 3) := by decide +kernel
theorem dX3_reasonAgainstRobeAct_4 : decode cX3_reasonAgainstRobeAct 4 = .ok (.iload_n 2, 1) := by decide +kernel
theorem dX3_reasonAgainstRobeAct_5 : decode cX3_reasonAgainstRobeAct 5 = .ok (.invokevirtual 91, 3) := by decide +kernel
theorem dX3_reasonAgainstRobeAct_8 : decode cX3_reasonAgainstRobeAct 8 = .ok (.istore_n 3, 1) := by decide +kernel
theorem dX3_reasonAgainstRobeAct_9 : decode cX3_reasonAgainstRobeAct 9 = .ok (.iload_n 1, 1) := by decide +kernel
theorem dX3_reasonAgainstRobeAct_10 : decode cX3_reasonAgainstRobeAct 10 = .ok (.bipush 60, 2) := by decide +kernel
theorem dX3_reasonAgainstRobeAct_12 : decode cX3_reasonAgainstRobeAct 12 = .ok (.if_icmp .ne 14, 3) := by decide +kernel
theorem dX3_reasonAgainstRobeAct_15 : decode cX3_reasonAgainstRobeAct 15 = .ok (.iload_n 3, 1) := by decide +kernel
theorem dX3_reasonAgainstRobeAct_16 : decode cX3_reasonAgainstRobeAct 16 = .ok (.ifCond .eq 7, 3) := by decide +kernel
theorem dX3_reasonAgainstRobeAct_19 : decode cX3_reasonAgainstRobeAct 19 = .ok (.iconst 1, 1) := by decide +kernel
theorem dX3_reasonAgainstRobeAct_20 : decode cX3_reasonAgainstRobeAct 20 = .ok (.goto 5, 3) := by decide +kernel
theorem dX3_reasonAgainstRobeAct_23 : decode cX3_reasonAgainstRobeAct 23 = .ok (.bipush (-6), 2) := by decide +kernel
theorem dX3_reasonAgainstRobeAct_25 : decode cX3_reasonAgainstRobeAct 25 = .ok (.ireturn, 1) := by decide +kernel
theorem dX3_reasonAgainstRobeAct_26 : decode cX3_reasonAgainstRobeAct 26 = .ok (.iload_n 1, 1) := by decide +kernel
theorem dX3_reasonAgainstRobeAct_27 : decode cX3_reasonAgainstRobeAct 27 = .ok (.bipush 62, 2) := by decide +kernel
theorem dX3_reasonAgainstRobeAct_29 : decode cX3_reasonAgainstRobeAct 29 = .ok (.if_icmp .ne 14, 3) := by decide +kernel
theorem dX3_reasonAgainstRobeAct_32 : decode cX3_reasonAgainstRobeAct 32 = .ok (.iload_n 3, 1) := by decide +kernel
theorem dX3_reasonAgainstRobeAct_33 : decode cX3_reasonAgainstRobeAct 33 = .ok (.ifCond .eq 8, 3) := by decide +kernel
theorem dX3_reasonAgainstRobeAct_36 : decode cX3_reasonAgainstRobeAct 36 = .ok (.bipush (-6), 2) := by decide +kernel
theorem dX3_reasonAgainstRobeAct_38 : decode cX3_reasonAgainstRobeAct 38 = .ok (.goto 4, 3) := by decide +kernel
theorem dX3_reasonAgainstRobeAct_41 : decode cX3_reasonAgainstRobeAct 41 = .ok (.iconst 1, 1) := by decide +kernel
theorem dX3_reasonAgainstRobeAct_42 : decode cX3_reasonAgainstRobeAct 42 = .ok (.ireturn, 1) := by decide +kernel
theorem dX3_reasonAgainstRobeAct_43 : decode cX3_reasonAgainstRobeAct 43 = .ok (.iload_n 3, 1) := by decide +kernel
theorem dX3_reasonAgainstRobeAct_44 : decode cX3_reasonAgainstRobeAct 44 = .ok (.ifCond .eq 5, 3) := by decide +kernel
theorem dX3_reasonAgainstRobeAct_47 : decode cX3_reasonAgainstRobeAct 47 = .ok (.iconst 2, 1) := by decide +kernel
theorem dX3_reasonAgainstRobeAct_48 : decode cX3_reasonAgainstRobeAct 48 = .ok (.ireturn, 1) := by decide +kernel
theorem dX3_reasonAgainstRobeAct_49 : decode cX3_reasonAgainstRobeAct 49 = .ok (.iload_n 1, 1) := by decide +kernel
theorem dX3_reasonAgainstRobeAct_50 : decode cX3_reasonAgainstRobeAct 50 = .ok (.bipush 43, 2) := by decide +kernel
theorem dX3_reasonAgainstRobeAct_52 : decode cX3_reasonAgainstRobeAct 52 = .ok (.if_icmp .ne 24, 3) := by decide +kernel
theorem dX3_reasonAgainstRobeAct_55 : decode cX3_reasonAgainstRobeAct 55 = .ok (.aload_n 0, 1) := by decide +kernel
theorem dX3_reasonAgainstRobeAct_56 : decode cX3_reasonAgainstRobeAct 56 = .ok (.getfield 12, 3) := by decide +kernel
theorem dX3_reasonAgainstRobeAct_59 : decode cX3_reasonAgainstRobeAct 59 = .ok (.getfield 94, 3) := by decide +kernel
theorem dX3_reasonAgainstRobeAct_62 : decode cX3_reasonAgainstRobeAct 62 = .ok (.iload_n 2, 1) := by decide +kernel
theorem dX3_reasonAgainstRobeAct_63 : decode cX3_reasonAgainstRobeAct 63 = .ok (.iaload, 1) := by decide +kernel
theorem dX3_reasonAgainstRobeAct_64 : decode cX3_reasonAgainstRobeAct 64 = .ok (.bipush 9, 2) := by decide +kernel
theorem dX3_reasonAgainstRobeAct_66 : decode cX3_reasonAgainstRobeAct 66 = .ok (.if_icmp .lt 7, 3) := by decide +kernel
theorem dX3_reasonAgainstRobeAct_69 : decode cX3_reasonAgainstRobeAct 69 = .ok (.iconst 3, 1) := by decide +kernel
theorem dX3_reasonAgainstRobeAct_70 : decode cX3_reasonAgainstRobeAct 70 = .ok (.goto 5, 3) := by decide +kernel
theorem dX3_reasonAgainstRobeAct_73 : decode cX3_reasonAgainstRobeAct 73 = .ok (.bipush (-6), 2) := by decide +kernel
theorem dX3_reasonAgainstRobeAct_75 : decode cX3_reasonAgainstRobeAct 75 = .ok (.ireturn, 1) := by decide +kernel
theorem dX3_reasonAgainstRobeAct_76 : decode cX3_reasonAgainstRobeAct 76 = .ok (.aload_n 0, 1) := by decide +kernel
theorem dX3_reasonAgainstRobeAct_77 : decode cX3_reasonAgainstRobeAct 77 = .ok (.getfield 12, 3) := by decide +kernel
theorem dX3_reasonAgainstRobeAct_80 : decode cX3_reasonAgainstRobeAct 80 = .ok (.getfield 97, 3) := by decide +kernel
theorem dX3_reasonAgainstRobeAct_83 : decode cX3_reasonAgainstRobeAct 83 = .ok (.iload_n 2, 1) := by decide +kernel
theorem dX3_reasonAgainstRobeAct_84 : decode cX3_reasonAgainstRobeAct 84 = .ok (.iaload, 1) := by decide +kernel
theorem dX3_reasonAgainstRobeAct_85 : decode cX3_reasonAgainstRobeAct 85 = .ok (.ifCond .ne 7, 3) := by decide +kernel
theorem dX3_reasonAgainstRobeAct_88 : decode cX3_reasonAgainstRobeAct 88 = .ok (.iconst 3, 1) := by decide +kernel
theorem dX3_reasonAgainstRobeAct_89 : decode cX3_reasonAgainstRobeAct 89 = .ok (.goto 5, 3) := by decide +kernel
theorem dX3_reasonAgainstRobeAct_92 : decode cX3_reasonAgainstRobeAct 92 = .ok (.bipush (-6), 2) := by decide +kernel
theorem dX3_reasonAgainstRobeAct_94 : decode cX3_reasonAgainstRobeAct 94 = .ok (.ireturn, 1) := by decide +kernel
theorem dX3_carryOut_0 : decode cX3_carryOut 0 = .ok (.iload_n 1, 1) := by decide +kernel
theorem dX3_carryOut_1 : decode cX3_carryOut 1 = .ok (.invokestatic 70, 3) := by decide +kernel
theorem dX3_carryOut_4 : decode cX3_carryOut 4 = .ok (.ifCond .eq 19, 3) := by decide +kernel
theorem dX3_carryOut_7 : decode cX3_carryOut 7 = .ok (.iload_n 2, 1) := by decide +kernel
theorem dX3_carryOut_8 : decode cX3_carryOut 8 = .ok (.invokestatic 73, 3) := by decide +kernel
theorem dX3_carryOut_11 : decode cX3_carryOut 11 = .ok (.ifCond .eq 55, 3) := by decide +kernel
theorem dX3_carryOut_14 : decode cX3_carryOut 14 = .ok (.aload_n 0, 1) := by decide +kernel
theorem dX3_carryOut_15 : decode cX3_carryOut 15 = .ok (.iload_n 1, 1) := by decide +kernel
theorem dX3_carryOut_16 : decode cX3_carryOut 16 = .ok (.iload_n 2, 1) := by decide +kernel
theorem dX3_carryOut_17 : decode cX3_carryOut 17 = .ok (.invokevirtual 100, 3) := by decide +kernel
theorem dX3_carryOut_20 : decode cX3_carryOut 20 = .ok (.goto 46, 3) := by decide +kernel
theorem dX3_carryOut_23 : decode cX3_carryOut 23 = .ok (.iload_n 1, 1) := by decide +kernel
theorem dX3_carryOut_24 : decode cX3_carryOut 24 = .ok (.bipush 48, 2) := by decide +kernel
theorem dX3_carryOut_26 : decode cX3_carryOut 26 = .ok (.if_icmp .ne 23, 3) := by decide +kernel
theorem dX3_carryOut_29 : decode cX3_carryOut 29 = .ok (.iload_n 2, 1) := by decide +kernel
theorem dX3_carryOut_30 : decode cX3_carryOut 30 = .ok (.invokestatic 79, 3) := by decide +kernel
theorem dX3_carryOut_33 : decode cX3_carryOut 33 = .ok (.ifCond .eq 33, 3) := by decide +kernel
theorem dX3_carryOut_36 : decode cX3_carryOut 36 = .ok (.aload_n 0, 1) := by decide +kernel
theorem dX3_carryOut_37 : decode cX3_carryOut 37 = .ok (.getfield 12, 3) := by decide +kernel
theorem dX3_carryOut_40 : decode cX3_carryOut 40 = .ok (.getfield 82, 3) := by decide +kernel
theorem dX3_carryOut_43 : decode cX3_carryOut 43 = .ok (.iload_n 2, 1) := by decide +kernel
theorem dX3_carryOut_44 : decode cX3_carryOut 44 = .ok (.iconst 0, 1) := by decide +kernel
theorem dX3_carryOut_45 : decode cX3_carryOut 45 = .ok (.iastore, 1) := by decide +kernel
theorem dX3_carryOut_46 : decode cX3_carryOut 46 = .ok (.goto 20, 3) := by decide +kernel
theorem dX3_carryOut_49 : decode cX3_carryOut 49 = .ok (.iload_n 1, 1) := by decide +kernel
theorem dX3_carryOut_50 : decode cX3_carryOut 50 = .ok (.bipush 42, 2) := by decide +kernel
theorem dX3_carryOut_52 : decode cX3_carryOut 52 = .ok (.if_icmp .ne 10, 3) := by decide +kernel
theorem dX3_carryOut_55 : decode cX3_carryOut 55 = .ok (.aload_n 0, 1) := by decide +kernel
theorem dX3_carryOut_56 : decode cX3_carryOut 56 = .ok (.invokevirtual 103, 3) := by decide +kernel
theorem dX3_carryOut_59 : decode cX3_carryOut 59 = .ok (.goto 7, 3) := by decide +kernel
theorem dX3_carryOut_62 : decode cX3_carryOut 62 = .ok (.aload_n 0, 1) := by decide +kernel
theorem dX3_carryOut_63 : decode cX3_carryOut 63 = .ok (.invokevirtual 106, 3) := by decide +kernel
theorem dX3_carryOut_66 : decode cX3_carryOut 66 = .ok (.aload_n 0, 1) := by decide +kernel
theorem dX3_carryOut_67 : decode cX3_carryOut 67 = .ok (.dup, 1) := by decide +kernel
theorem dX3_carryOut_68 : decode cX3_carryOut 68 = .ok (.getfield 22, 3) := by decide +kernel
theorem dX3_carryOut_71 : decode cX3_carryOut 71 = .ok (.iconst 1, 1) := by decide +kernel
theorem dX3_carryOut_72 : decode cX3_carryOut 72 = .ok (.iadd, 1) := by decide +kernel
theorem dX3_carryOut_73 : decode cX3_carryOut 73 = .ok (.putfield 22, 3) := by decide +kernel
theorem dX3_carryOut_76 : decode cX3_carryOut 76 = .ok (.return_, 1) := by decide +kernel
theorem dX3_carryOutOnRobe_0 : decode cX3_carryOutOnRobe 0 = .ok (.iload_n 1, 1) := by decide +kernel
theorem dX3_carryOutOnRobe_1 : decode cX3_carryOutOnRobe 1 = .ok (.bipush 60, 2) := by decide +kernel
theorem dX3_carryOutOnRobe_3 : decode cX3_carryOutOnRobe 3 = .ok (.if_icmp .ne 21, 3) := by decide +kernel
theorem dX3_carryOutOnRobe_6 : decode cX3_carryOutOnRobe 6 = .ok (.aload_n 0, 1) := by decide +kernel
theorem dX3_carryOutOnRobe_7 : decode cX3_carryOutOnRobe 7 = .ok (.getfield 12, 3) := by decide +kernel
theorem dX3_carryOutOnRobe_10 : decode cX3_carryOutOnRobe 10 = .ok (.dup, 1) := by decide +kernel
theorem dX3_carryOutOnRobe_11 : decode cX3_carryOutOnRobe 11 = .ok (.getfield 85, 3) := by decide +kernel
theorem dX3_carryOutOnRobe_14 : decode cX3_carryOutOnRobe 14 = .ok (.iconst 1, 1) := by decide +kernel
theorem dX3_carryOutOnRobe_15 : decode cX3_carryOutOnRobe 15 = .ok (.iload_n 2, 1) := by decide +kernel
theorem dX3_carryOutOnRobe_16 : decode cX3_carryOutOnRobe 16 = .ok (.ishl, 1) := by decide +kernel
theorem dX3_carryOutOnRobe_17 : decode cX3_carryOutOnRobe 17 = .ok (.ior, 1) := by decide +kernel
theorem dX3_carryOutOnRobe_18 : decode cX3_carryOutOnRobe 18 = .ok (.putfield 85, 3) := by decide +kernel
theorem dX3_carryOutOnRobe_21 : decode cX3_carryOutOnRobe 21 = .ok (.goto 74, 3) := by decide +kernel
theorem dX3_carryOutOnRobe_24 : decode cX3_carryOutOnRobe 24 = .ok (.iload_n 1, 1) := by decide +kernel
theorem dX3_carryOutOnRobe_25 : decode cX3_carryOutOnRobe 25 = .ok (.bipush 62, 2) := by decide +kernel
theorem dX3_carryOutOnRobe_27 : decode cX3_carryOutOnRobe 27 = .ok (.if_icmp .ne 23, 3) := by decide +kernel
theorem dX3_carryOutOnRobe_30 : decode cX3_carryOutOnRobe 30 = .ok (.aload_n 0, 1) := by decide +kernel
theorem dX3_carryOutOnRobe_31 : decode cX3_carryOutOnRobe 31 = .ok (.getfield 12, 3) := by decide +kernel
theorem dX3_carryOutOnRobe_34 : decode cX3_carryOutOnRobe 34 = .ok (.dup, 1) := by decide +kernel
theorem dX3_carryOutOnRobe_35 : decode cX3_carryOutOnRobe 35 = .ok (.getfield 85, 3) := by decide +kernel
theorem dX3_carryOutOnRobe_38 : decode cX3_carryOutOnRobe 38 = .ok (.iconst 1, 1) := by decide +kernel
theorem dX3_carryOutOnRobe_39 : decode cX3_carryOutOnRobe 39 = .ok (.iload_n 2, 1) := by decide +kernel
theorem dX3_carryOutOnRobe_40 : decode cX3_carryOutOnRobe 40 = .ok (.ishl, 1) := by decide +kernel
theorem dX3_carryOutOnRobe_41 : decode cX3_carryOutOnRobe 41 = .ok (.iconst (-1), 1) := by decide +kernel
theorem dX3_carryOutOnRobe_42 : decode cX3_carryOutOnRobe 42 = .ok (.ixor, 1) := by decide +kernel
theorem dX3_carryOutOnRobe_43 : decode cX3_carryOutOnRobe 43 = .ok (.iand, 1) := by decide +kernel
theorem dX3_carryOutOnRobe_44 : decode cX3_carryOutOnRobe 44 = .ok (.putfield 85, 3) := by decide +kernel
theorem dX3_carryOutOnRobe_47 : decode cX3_carryOutOnRobe 47 = .ok (.goto 48, 3) := by decide +kernel
theorem dX3_carryOutOnRobe_50 : decode cX3_carryOutOnRobe 50 = .ok (.iload_n 1, 1) := by decide +kernel
theorem dX3_carryOutOnRobe_51 : decode cX3_carryOutOnRobe 51 = .ok (.bipush 43, 2) := by decide +kernel
theorem dX3_carryOutOnRobe_53 : decode cX3_carryOutOnRobe 53 = .ok (.if_icmp .ne 19, 3) := by decide +kernel
theorem dX3_carryOutOnRobe_56 : decode cX3_carryOutOnRobe 56 = .ok (.aload_n 0, 1) := by decide +kernel
theorem dX3_carryOutOnRobe_57 : decode cX3_carryOutOnRobe 57 = .ok (.getfield 12, 3) := by decide +kernel
theorem dX3_carryOutOnRobe_60 : decode cX3_carryOutOnRobe 60 = .ok (.getfield 94, 3) := by decide +kernel
theorem dX3_carryOutOnRobe_63 : decode cX3_carryOutOnRobe 63 = .ok (.iload_n 2, 1) := by decide +kernel
theorem dX3_carryOutOnRobe_64 : decode cX3_carryOutOnRobe 64 = .ok (.dup2, 1) := by decide +kernel
theorem dX3_carryOutOnRobe_65 : decode cX3_carryOutOnRobe 65 = .ok (.iaload, 1) := by decide +kernel
theorem dX3_carryOutOnRobe_66 : decode cX3_carryOutOnRobe 66 = .ok (.iconst 1, 1) := by decide +kernel
theorem dX3_carryOutOnRobe_67 : decode cX3_carryOutOnRobe 67 = .ok (.iadd, 1) := by decide +kernel
theorem dX3_carryOutOnRobe_68 : decode cX3_carryOutOnRobe 68 = .ok (.iastore, 1) := by decide +kernel
theorem dX3_carryOutOnRobe_69 : decode cX3_carryOutOnRobe 69 = .ok (.goto 26, 3) := by decide +kernel
theorem dX3_carryOutOnRobe_72 : decode cX3_carryOutOnRobe 72 = .ok (.aload_n 0, 1) := by decide +kernel
theorem dX3_carryOutOnRobe_73 : decode cX3_carryOutOnRobe 73 = .ok (.getfield 12, 3) := by decide +kernel
theorem dX3_carryOutOnRobe_76 : decode cX3_carryOutOnRobe 76 = .ok (.getfield 97, 3) := by decide +kernel
theorem dX3_carryOutOnRobe_79 : decode cX3_carryOutOnRobe 79 = .ok (.iload_n 2, 1) := by decide +kernel
theorem dX3_carryOutOnRobe_80 : decode cX3_carryOutOnRobe 80 = .ok (.dup2, 1) := by decide +kernel
theorem dX3_carryOutOnRobe_81 : decode cX3_carryOutOnRobe 81 = .ok (.iaload, 1) := by decide +kernel
theorem dX3_carryOutOnRobe_82 : decode cX3_carryOutOnRobe 82 = .ok (.aload_n 0, 1) := by decide +kernel
theorem dX3_carryOutOnRobe_83 : decode cX3_carryOutOnRobe 83 = .ok (.getfield 12, 3) := by decide +kernel
theorem dX3_carryOutOnRobe_86 : decode cX3_carryOutOnRobe 86 = .ok (.getfield 97, 3) := by decide +kernel
theorem dX3_carryOutOnRobe_89 : decode cX3_carryOutOnRobe 89 = .ok (.iload_n 2, 1) := by decide +kernel
theorem dX3_carryOutOnRobe_90 : decode cX3_carryOutOnRobe 90 = .ok (.iaload, 1) := by decide +kernel
theorem dX3_carryOutOnRobe_91 : decode cX3_carryOutOnRobe 91 = .ok (.iconst 1, 1) := by decide +kernel
theorem dX3_carryOutOnRobe_92 : decode cX3_carryOutOnRobe 92 = .ok (.isub, 1) := by decide +kernel
theorem dX3_carryOutOnRobe_93 : decode cX3_carryOutOnRobe 93 = .ok (.iand, 1) := by decide +kernel
theorem dX3_carryOutOnRobe_94 : decode cX3_carryOutOnRobe 94 = .ok (.iastore, 1) := by decide +kernel
theorem dX3_carryOutOnRobe_95 : decode cX3_carryOutOnRobe 95 = .ok (.return_, 1) := by decide +kernel
theorem dX3_letMothsIn_0 : decode cX3_letMothsIn 0 = .ok (.aload_n 0, 1) := by decide +kernel
theorem dX3_letMothsIn_1 : decode cX3_letMothsIn 1 = .ok (.getfield 12, 3) := by decide +kernel
theorem dX3_letMothsIn_4 : decode cX3_letMothsIn 4 = .ok (.invokevirtual 109, 3) := by decide +kernel
theorem dX3_letMothsIn_7 : decode cX3_letMothsIn 7 = .ok (.istore_n 1, 1) := by decide +kernel
theorem dX3_letMothsIn_8 : decode cX3_letMothsIn 8 = .ok (.iconst 0, 1) := by decide +kernel
theorem dX3_letMothsIn_9 : decode cX3_letMothsIn 9 = .ok (.istore_n 2, 1) := by decide +kernel
theorem dX3_letMothsIn_10 : decode cX3_letMothsIn 10 = .ok (.iload_n 2, 1) := by decide +kernel
theorem dX3_letMothsIn_11 : decode cX3_letMothsIn 11 = .ok (.bipush 10, 2) := by decide +kernel
theorem dX3_letMothsIn_13 : decode cX3_letMothsIn 13 = .ok (.if_icmp .ge 70, 3) := by decide +kernel
theorem dX3_letMothsIn_16 : decode cX3_letMothsIn 16 = .ok (.aload_n 0, 1) := by decide +kernel
theorem dX3_letMothsIn_17 : decode cX3_letMothsIn 17 = .ok (.getfield 12, 3) := by decide +kernel
theorem dX3_letMothsIn_20 : decode cX3_letMothsIn 20 = .ok (.getfield 113, 3) := by decide +kernel
theorem dX3_letMothsIn_23 : decode cX3_letMothsIn 23 = .ok (.iload_n 2, 1) := by decide +kernel
theorem dX3_letMothsIn_24 : decode cX3_letMothsIn 24 = .ok (.iaload, 1) := by decide +kernel
theorem dX3_letMothsIn_25 : decode cX3_letMothsIn 25 = .ok (.istore_n 3, 1) := by decide +kernel
theorem dX3_letMothsIn_26 : decode cX3_letMothsIn 26 = .ok (.iload_n 3, 1) := by decide +kernel
theorem dX3_letMothsIn_27 : decode cX3_letMothsIn 27 = .ok (.invokestatic 73, 3) := by decide +kernel
theorem dX3_letMothsIn_30 : decode cX3_letMothsIn 30 = .ok (.ifCond .eq 47, 3) := by decide +kernel
theorem dX3_letMothsIn_33 : decode cX3_letMothsIn 33 = .ok (.aload_n 0, 1) := by decide +kernel
theorem dX3_letMothsIn_34 : decode cX3_letMothsIn 34 = .ok (.getfield 12, 3) := by decide +kernel
theorem dX3_letMothsIn_37 : decode cX3_letMothsIn 37 = .ok (.iload_n 3, 1) := by decide +kernel
theorem dX3_letMothsIn_38 : decode cX3_letMothsIn 38 = .ok (.invokevirtual 91, 3) := by decide +kernel
theorem dX3_letMothsIn_41 : decode cX3_letMothsIn 41 = .ok (.ifCond .eq 36, 3) := by decide +kernel
theorem dX3_letMothsIn_44 : decode cX3_letMothsIn 44 = .ok (.aload_n 0, 1) := by decide +kernel
theorem dX3_letMothsIn_45 : decode cX3_letMothsIn 45 = .ok (.iload_n 3, 1) := by decide +kernel
theorem dX3_letMothsIn_46 : decode cX3_letMothsIn 46 = .ok (.aload_n 0, 1) := by decide +kernel
theorem dX3_letMothsIn_47 : decode cX3_letMothsIn 47 = .ok (.getfield 12, 3) := by decide +kernel
theorem dX3_letMothsIn_50 : decode cX3_letMothsIn 50 = .ok (.getfield 116, 3) := by decide +kernel
theorem dX3_letMothsIn_53 : decode cX3_letMothsIn 53 = .ok (.iload_n 2, 1) := by decide +kernel
theorem dX3_letMothsIn_54 : decode cX3_letMothsIn 54 = .ok (.iaload, 1) := by decide +kernel
theorem dX3_letMothsIn_55 : decode cX3_letMothsIn 55 = .ok (.aload_n 0, 1) := by decide +kernel
theorem dX3_letMothsIn_56 : decode cX3_letMothsIn 56 = .ok (.getfield 12, 3) := by decide +kernel
theorem dX3_letMothsIn_59 : decode cX3_letMothsIn 59 = .ok (.getfield 82, 3) := by decide +kernel
theorem dX3_letMothsIn_62 : decode cX3_letMothsIn 62 = .ok (.iload_n 2, 1) := by decide +kernel
theorem dX3_letMothsIn_63 : decode cX3_letMothsIn 63 = .ok (.iaload, 1) := by decide +kernel
theorem dX3_letMothsIn_64 : decode cX3_letMothsIn 64 = .ok (.aload_n 0, 1) := by decide +kernel
theorem dX3_letMothsIn_65 : decode cX3_letMothsIn 65 = .ok (.getfield 12, 3) := by decide +kernel
theorem dX3_letMothsIn_68 : decode cX3_letMothsIn 68 = .ok (.getfield 94, 3) := by decide +kernel
theorem dX3_letMothsIn_71 : decode cX3_letMothsIn 71 = .ok (.iload_n 3, 1) := by decide +kernel
theorem dX3_letMothsIn_72 : decode cX3_letMothsIn 72 = .ok (.iaload, 1) := by decide +kernel
theorem dX3_letMothsIn_73 : decode cX3_letMothsIn 73 = .ok (.isub, 1) := by decide +kernel
theorem dX3_letMothsIn_74 : decode cX3_letMothsIn 74 = .ok (.invokevirtual 119, 3) := by decide +kernel
theorem dX3_letMothsIn_77 : decode cX3_letMothsIn 77 = .ok (.iinc 2 1, 3) := by decide +kernel
theorem dX3_letMothsIn_80 : decode cX3_letMothsIn 80 = .ok (.goto (-70), 3) := by decide +kernel
theorem dX3_letMothsIn_83 : decode cX3_letMothsIn 83 = .ok (.aload_n 0, 1) := by decide +kernel
theorem dX3_letMothsIn_84 : decode cX3_letMothsIn 84 = .ok (.getfield 12, 3) := by decide +kernel
theorem dX3_letMothsIn_87 : decode cX3_letMothsIn 87 = .ok (.invokevirtual 109, 3) := by decide +kernel
theorem dX3_letMothsIn_90 : decode cX3_letMothsIn 90 = .ok (.iload_n 1, 1) := by decide +kernel
theorem dX3_letMothsIn_91 : decode cX3_letMothsIn 91 = .ok (.iconst (-1), 1) := by decide +kernel
theorem dX3_letMothsIn_92 : decode cX3_letMothsIn 92 = .ok (.ixor, 1) := by decide +kernel
theorem dX3_letMothsIn_93 : decode cX3_letMothsIn 93 = .ok (.iand, 1) := by decide +kernel
theorem dX3_letMothsIn_94 : decode cX3_letMothsIn 94 = .ok (.istore_n 2, 1) := by decide +kernel
theorem dX3_letMothsIn_95 : decode cX3_letMothsIn 95 = .ok (.iload_n 2, 1) := by decide +kernel
theorem dX3_letMothsIn_96 : decode cX3_letMothsIn 96 = .ok (.ifCond .eq 28, 3) := by decide +kernel
theorem dX3_letMothsIn_99 : decode cX3_letMothsIn 99 = .ok (.aload_n 0, 1) := by decide +kernel
theorem dX3_letMothsIn_100 : decode cX3_letMothsIn 100 = .ok (.getfield 35, 3) := by decide +kernel
theorem dX3_letMothsIn_103 : decode cX3_letMothsIn 103 = .ok (.bipush (-6), 2) := by decide +kernel
theorem dX3_letMothsIn_105 : decode cX3_letMothsIn 105 = .ok (.if_icmp .ne 19, 3) := by decide +kernel
theorem dX3_letMothsIn_108 : decode cX3_letMothsIn 108 = .ok (.aload_n 0, 1) := by decide +kernel
theorem dX3_letMothsIn_109 : decode cX3_letMothsIn 109 = .ok (.aload_n 0, 1) := by decide +kernel
theorem dX3_letMothsIn_110 : decode cX3_letMothsIn 110 = .ok (.getfield 22, 3) := by decide +kernel
theorem dX3_letMothsIn_113 : decode cX3_letMothsIn 113 = .ok (.putfield 35, 3) := by decide +kernel
theorem dX3_letMothsIn_116 : decode cX3_letMothsIn 116 = .ok (.aload_n 0, 1) := by decide +kernel
theorem dX3_letMothsIn_117 : decode cX3_letMothsIn 117 = .ok (.iload_n 2, 1) := by decide +kernel
theorem dX3_letMothsIn_118 : decode cX3_letMothsIn 118 = .ok (.invokestatic 123, 3) := by decide +kernel
theorem dX3_letMothsIn_121 : decode cX3_letMothsIn 121 = .ok (.putfield 38, 3) := by decide +kernel
theorem dX3_letMothsIn_124 : decode cX3_letMothsIn 124 = .ok (.return_, 1) := by decide +kernel
theorem dX3_eat_0 : decode cX3_eat 0 = .ok (.iload_n 2, 1) := by decide +kernel
theorem dX3_eat_1 : decode cX3_eat 1 = .ok (.aload_n 0, 1) := by decide +kernel
theorem dX3_eat_2 : decode cX3_eat 2 = .ok (.getfield 12, 3) := by decide +kernel
theorem dX3_eat_5 : decode cX3_eat 5 = .ok (.getfield 97, 3) := by decide +kernel
theorem dX3_eat_8 : decode cX3_eat 8 = .ok (.iload_n 1, 1) := by decide +kernel
theorem dX3_eat_9 : decode cX3_eat 9 = .ok (.iaload, 1) := by decide +kernel
theorem dX3_eat_10 : decode cX3_eat 10 = .ok (.iconst (-1), 1) := by decide +kernel
theorem dX3_eat_11 : decode cX3_eat 11 = .ok (.ixor, 1) := by decide +kernel
theorem dX3_eat_12 : decode cX3_eat 12 = .ok (.iand, 1) := by decide +kernel
theorem dX3_eat_13 : decode cX3_eat 13 = .ok (.istore 4, 2) := by decide +kernel
theorem dX3_eat_15 : decode cX3_eat 15 = .ok (.iconst 0, 1) := by decide +kernel
theorem dX3_eat_16 : decode cX3_eat 16 = .ok (.istore 5, 2) := by decide +kernel
theorem dX3_eat_18 : decode cX3_eat 18 = .ok (.iload 5, 2) := by decide +kernel
theorem dX3_eat_20 : decode cX3_eat 20 = .ok (.iload_n 3, 1) := by decide +kernel
theorem dX3_eat_21 : decode cX3_eat 21 = .ok (.if_icmp .ge 53, 3) := by decide +kernel
theorem dX3_eat_24 : decode cX3_eat 24 = .ok (.iload 4, 2) := by decide +kernel
theorem dX3_eat_26 : decode cX3_eat 26 = .ok (.ifCond .eq 48, 3) := by decide +kernel
theorem dX3_eat_29 : decode cX3_eat 29 = .ok (.iload 4, 2) := by decide +kernel
theorem dX3_eat_31 : decode cX3_eat 31 = .ok (.iload 4, 2) := by decide +kernel
theorem dX3_eat_33 : decode cX3_eat 33 = .ok (.ineg, 1) := by decide +kernel
theorem dX3_eat_34 : decode cX3_eat 34 = .ok (.iand, 1) := by decide +kernel
theorem dX3_eat_35 : decode cX3_eat 35 = .ok (.istore 6, 2) := by decide +kernel
theorem dX3_eat_37 : decode cX3_eat 37 = .ok (.aload_n 0, 1) := by decide +kernel
theorem dX3_eat_38 : decode cX3_eat 38 = .ok (.getfield 12, 3) := by decide +kernel
theorem dX3_eat_41 : decode cX3_eat 41 = .ok (.getfield 97, 3) := by decide +kernel
theorem dX3_eat_44 : decode cX3_eat 44 = .ok (.iload_n 1, 1) := by decide +kernel
theorem dX3_eat_45 : decode cX3_eat 45 = .ok (.dup2, 1) := by decide +kernel
theorem dX3_eat_46 : decode cX3_eat 46 = .ok (.iaload, 1) := by decide +kernel
theorem dX3_eat_47 : decode cX3_eat 47 = .ok (.iload 6, 2) := by decide +kernel
theorem dX3_eat_49 : decode cX3_eat 49 = .ok (.ior, 1) := by decide +kernel
theorem dX3_eat_50 : decode cX3_eat 50 = .ok (.iastore, 1) := by decide +kernel
theorem dX3_eat_51 : decode cX3_eat 51 = .ok (.iload 4, 2) := by decide +kernel
theorem dX3_eat_53 : decode cX3_eat 53 = .ok (.iload 6, 2) := by decide +kernel
theorem dX3_eat_55 : decode cX3_eat 55 = .ok (.ixor, 1) := by decide +kernel
theorem dX3_eat_56 : decode cX3_eat 56 = .ok (.istore 4, 2) := by decide +kernel
theorem dX3_eat_58 : decode cX3_eat 58 = .ok (.aload_n 0, 1) := by decide +kernel
theorem dX3_eat_59 : decode cX3_eat 59 = .ok (.dup, 1) := by decide +kernel
theorem dX3_eat_60 : decode cX3_eat 60 = .ok (.getfield 32, 3) := by decide +kernel
theorem dX3_eat_63 : decode cX3_eat 63 = .ok (.iconst 1, 1) := by decide +kernel
theorem dX3_eat_64 : decode cX3_eat 64 = .ok (.iadd, 1) := by decide +kernel
theorem dX3_eat_65 : decode cX3_eat 65 = .ok (.putfield 32, 3) := by decide +kernel
theorem dX3_eat_68 : decode cX3_eat 68 = .ok (.iinc 5 1, 3) := by decide +kernel
theorem dX3_eat_71 : decode cX3_eat 71 = .ok (.goto (-53), 3) := by decide +kernel
theorem dX3_eat_74 : decode cX3_eat 74 = .ok (.return_, 1) := by decide +kernel
theorem dX3_endYear_0 : decode cX3_endYear 0 = .ok (.aload_n 0, 1) := by decide +kernel
theorem dX3_endYear_1 : decode cX3_endYear 1 = .ok (.getfield 12, 3) := by decide +kernel
theorem dX3_endYear_4 : decode cX3_endYear 4 = .ok (.dup, 1) := by decide +kernel
theorem dX3_endYear_5 : decode cX3_endYear 5 = .ok (.getfield 88, 3) := by decide +kernel
theorem dX3_endYear_8 : decode cX3_endYear 8 = .ok (.iconst 1, 1) := by decide +kernel
theorem dX3_endYear_9 : decode cX3_endYear 9 = .ok (.iadd, 1) := by decide +kernel
theorem dX3_endYear_10 : decode cX3_endYear 10 = .ok (.putfield 88, 3) := by decide +kernel
theorem dX3_endYear_13 : decode cX3_endYear 13 = .ok (.iconst 0, 1) := by decide +kernel
theorem dX3_endYear_14 : decode cX3_endYear 14 = .ok (.istore_n 1, 1) := by decide +kernel
theorem dX3_endYear_15 : decode cX3_endYear 15 = .ok (.iload_n 1, 1) := by decide +kernel
theorem dX3_endYear_16 : decode cX3_endYear 16 = .ok (.bipush 6, 2) := by decide +kernel
theorem dX3_endYear_18 : decode cX3_endYear 18 = .ok (.if_icmp .ge 33, 3) := by decide +kernel
theorem dX3_endYear_21 : decode cX3_endYear 21 = .ok (.aload_n 0, 1) := by decide +kernel
theorem dX3_endYear_22 : decode cX3_endYear 22 = .ok (.getfield 12, 3) := by decide +kernel
theorem dX3_endYear_25 : decode cX3_endYear 25 = .ok (.getfield 94, 3) := by decide +kernel
theorem dX3_endYear_28 : decode cX3_endYear 28 = .ok (.iload_n 1, 1) := by decide +kernel
theorem dX3_endYear_29 : decode cX3_endYear 29 = .ok (.aload_n 0, 1) := by decide +kernel
theorem dX3_endYear_30 : decode cX3_endYear 30 = .ok (.getfield 12, 3) := by decide +kernel
theorem dX3_endYear_33 : decode cX3_endYear 33 = .ok (.getfield 94, 3) := by decide +kernel
theorem dX3_endYear_36 : decode cX3_endYear 36 = .ok (.iload_n 1, 1) := by decide +kernel
theorem dX3_endYear_37 : decode cX3_endYear 37 = .ok (.iaload, 1) := by decide +kernel
theorem dX3_endYear_38 : decode cX3_endYear 38 = .ok (.iconst 1, 1) := by decide +kernel
theorem dX3_endYear_39 : decode cX3_endYear 39 = .ok (.isub, 1) := by decide +kernel
theorem dX3_endYear_40 : decode cX3_endYear 40 = .ok (.iconst 0, 1) := by decide +kernel
theorem dX3_endYear_41 : decode cX3_endYear 41 = .ok (.invokestatic 126, 3) := by decide +kernel
theorem dX3_endYear_44 : decode cX3_endYear 44 = .ok (.iastore, 1) := by decide +kernel
theorem dX3_endYear_45 : decode cX3_endYear 45 = .ok (.iinc 1 1, 3) := by decide +kernel
theorem dX3_endYear_48 : decode cX3_endYear 48 = .ok (.goto (-33), 3) := by decide +kernel
theorem dX3_endYear_51 : decode cX3_endYear 51 = .ok (.return_, 1) := by decide +kernel
theorem dX4_init_0 : decode cX4_init 0 = .ok (.aload_n 0, 1) := by decide +kernel
theorem dX4_init_1 : decode cX4_init 1 = .ok (.invokespecial 3, 3) := by decide +kernel
theorem dX4_init_4 : decode cX4_init 4 = .ok (.aload_n 0, 1) := by decide +kernel
theorem dX4_init_5 : decode cX4_init 5 = .ok (.bipush 10, 2) := by decide +kernel
theorem dX4_init_7 : decode cX4_init 7 = .ok (.newarray .int, 2) := by decide +kernel
theorem dX4_init_9 : decode cX4_init 9 = .ok (.putfield 9, 3) := by decide +kernel
theorem dX4_init_12 : decode cX4_init 12 = .ok (.return_, 1) := by decide +kernel
theorem dX4_fewestToBlame_0 : decode cX4_fewestToBlame 0 = .ok (.aload_n 0, 1) := by decide +kernel
theorem dX4_fewestToBlame_1 : decode cX4_fewestToBlame 1 = .ok (.iload_n 1, 1) := by decide +kernel
theorem dX4_fewestToBlame_2 : decode cX4_fewestToBlame 2 = .ok (.invokevirtual 15, 3) := by decide +kernel
theorem dX4_fewestToBlame_5 : decode cX4_fewestToBlame 5 = .ok (.istore_n 2, 1) := by decide +kernel
theorem dX4_fewestToBlame_6 : decode cX4_fewestToBlame 6 = .ok (.bipush (-6), 2) := by decide +kernel
theorem dX4_fewestToBlame_8 : decode cX4_fewestToBlame 8 = .ok (.istore_n 3, 1) := by decide +kernel
theorem dX4_fewestToBlame_9 : decode cX4_fewestToBlame 9 = .ok (.iconst 0, 1) := by decide +kernel
theorem dX4_fewestToBlame_10 : decode cX4_fewestToBlame 10 = .ok (.istore 4, 2) := by decide +kernel
theorem dX4_fewestToBlame_12 : decode cX4_fewestToBlame 12 = .ok (.iload 4, 2) := by decide +kernel
theorem dX4_fewestToBlame_14 : decode cX4_fewestToBlame 14 = .ok (.sipush 1023, 3) := by decide +kernel
theorem dX4_fewestToBlame_17 : decode cX4_fewestToBlame 17 = .ok (.if_icmp .gt 69, 3) := by decide +kernel
theorem dX4_fewestToBlame_20 : decode cX4_fewestToBlame 20 = .ok (.iload_n 3, 1) := by decide +kernel
theorem dX4_fewestToBlame_21 : decode cX4_fewestToBlame 21 = .ok (.bipush (-6), 2) := by decide +kernel
theorem dX4_fewestToBlame_23 : decode cX4_fewestToBlame 23 = .ok (.if_icmp .eq 15, 3) := by decide +kernel
theorem dX4_fewestToBlame_26 : decode cX4_fewestToBlame 26 = .ok (.iload 4, 2) := by decide +kernel
theorem dX4_fewestToBlame_28 : decode cX4_fewestToBlame 28 = .ok (.invokestatic 21, 3) := by decide +kernel
theorem dX4_fewestToBlame_31 : decode cX4_fewestToBlame 31 = .ok (.iload_n 3, 1) := by decide +kernel
theorem dX4_fewestToBlame_32 : decode cX4_fewestToBlame 32 = .ok (.invokestatic 21, 3) := by decide +kernel
theorem dX4_fewestToBlame_35 : decode cX4_fewestToBlame 35 = .ok (.if_icmp .ge 7, 3) := by decide +kernel
theorem dX4_fewestToBlame_38 : decode cX4_fewestToBlame 38 = .ok (.iconst 1, 1) := by decide +kernel
theorem dX4_fewestToBlame_39 : decode cX4_fewestToBlame 39 = .ok (.goto 4, 3) := by decide +kernel
theorem dX4_fewestToBlame_42 : decode cX4_fewestToBlame 42 = .ok (.iconst 0, 1) := by decide +kernel
theorem dX4_fewestToBlame_43 : decode cX4_fewestToBlame 43 = .ok (.istore 5, 2) := by decide +kernel
theorem dX4_fewestToBlame_45 : decode cX4_fewestToBlame 45 = .ok (.iload 5, 2) := by decide +kernel
theorem dX4_fewestToBlame_47 : decode cX4_fewestToBlame 47 = .ok (.ifCond .eq 33, 3) := by decide +kernel
theorem dX4_fewestToBlame_50 : decode cX4_fewestToBlame 50 = .ok (.iload 4, 2) := by decide +kernel
theorem dX4_fewestToBlame_52 : decode cX4_fewestToBlame 52 = .ok (.iload_n 2, 1) := by decide +kernel
theorem dX4_fewestToBlame_53 : decode cX4_fewestToBlame 53 = .ok (.iconst (-1), 1) := by decide +kernel
theorem dX4_fewestToBlame_54 : decode cX4_fewestToBlame 54 = .ok (.ixor, 1) := by decide +kernel
theorem dX4_fewestToBlame_55 : decode cX4_fewestToBlame 55 = .ok (.iand, 1) := by decide +kernel
theorem dX4_fewestToBlame_56 : decode cX4_fewestToBlame 56 = .ok (.ifCond .ne 24, 3) := by decide +kernel
theorem dX4_fewestToBlame_59 : decode cX4_fewestToBlame 59 = .ok (.aload_n 0, 1) := by decide +kernel
theorem dX4_fewestToBlame_60 : decode cX4_fewestToBlame 60 = .ok (.getfield 26, 3) := by decide +kernel
theorem dX4_fewestToBlame_63 : decode cX4_fewestToBlame 63 = .ok (.iload_n 1, 1) := by decide +kernel
theorem dX4_fewestToBlame_64 : decode cX4_fewestToBlame 64 = .ok (.iaload, 1) := by decide +kernel
theorem dX4_fewestToBlame_65 : decode cX4_fewestToBlame 65 = .ok (.aload_n 0, 1) := by decide +kernel
theorem dX4_fewestToBlame_66 : decode cX4_fewestToBlame 66 = .ok (.iload 4, 2) := by decide +kernel
theorem dX4_fewestToBlame_68 : decode cX4_fewestToBlame 68 = .ok (.invokevirtual 29, 3) := by decide +kernel
theorem dX4_fewestToBlame_71 : decode cX4_fewestToBlame 71 = .ok (.iconst (-1), 1) := by decide +kernel
theorem dX4_fewestToBlame_72 : decode cX4_fewestToBlame 72 = .ok (.ixor, 1) := by decide +kernel
theorem dX4_fewestToBlame_73 : decode cX4_fewestToBlame 73 = .ok (.iand, 1) := by decide +kernel
theorem dX4_fewestToBlame_74 : decode cX4_fewestToBlame 74 = .ok (.ifCond .ne 6, 3) := by decide +kernel
theorem dX4_fewestToBlame_77 : decode cX4_fewestToBlame 77 = .ok (.iload 4, 2) := by decide +kernel
theorem dX4_fewestToBlame_79 : decode cX4_fewestToBlame 79 = .ok (.istore_n 3, 1) := by decide +kernel
theorem dX4_fewestToBlame_80 : decode cX4_fewestToBlame 80 = .ok (.iinc 4 1, 3) := by decide +kernel
theorem dX4_fewestToBlame_83 : decode cX4_fewestToBlame 83 = .ok (.goto (-71), 3) := by decide +kernel
theorem dX4_fewestToBlame_86 : decode cX4_fewestToBlame 86 = .ok (.iload_n 3, 1) := by decide +kernel
theorem dX4_fewestToBlame_87 : decode cX4_fewestToBlame 87 = .ok (.ireturn, 1) := by decide +kernel
theorem dX4_weigh_0 : decode cX4_weigh 0 = .ok (.aload_n 0, 1) := by decide +kernel
theorem dX4_weigh_1 : decode cX4_weigh 1 = .ok (.iconst 0, 1) := by decide +kernel
theorem dX4_weigh_2 : decode cX4_weigh 2 = .ok (.putfield 32, 3) := by decide +kernel
theorem dX4_weigh_5 : decode cX4_weigh 5 = .ok (.aload_n 0, 1) := by decide +kernel
theorem dX4_weigh_6 : decode cX4_weigh 6 = .ok (.iconst 0, 1) := by decide +kernel
theorem dX4_weigh_7 : decode cX4_weigh 7 = .ok (.putfield 36, 3) := by decide +kernel
theorem dX4_weigh_10 : decode cX4_weigh 10 = .ok (.aload_n 0, 1) := by decide +kernel
theorem dX4_weigh_11 : decode cX4_weigh 11 = .ok (.sipush 1023, 3) := by decide +kernel
theorem dX4_weigh_14 : decode cX4_weigh 14 = .ok (.putfield 39, 3) := by decide +kernel
theorem dX4_weigh_17 : decode cX4_weigh 17 = .ok (.iconst 0, 1) := by decide +kernel
theorem dX4_weigh_18 : decode cX4_weigh 18 = .ok (.istore_n 3, 1) := by decide +kernel
theorem dX4_weigh_19 : decode cX4_weigh 19 = .ok (.iload_n 3, 1) := by decide +kernel
theorem dX4_weigh_20 : decode cX4_weigh 20 = .ok (.bipush 10, 2) := by decide +kernel
theorem dX4_weigh_22 : decode cX4_weigh 22 = .ok (.if_icmp .ge 16, 3) := by decide +kernel
theorem dX4_weigh_25 : decode cX4_weigh 25 = .ok (.aload_n 0, 1) := by decide +kernel
theorem dX4_weigh_26 : decode cX4_weigh 26 = .ok (.getfield 9, 3) := by decide +kernel
theorem dX4_weigh_29 : decode cX4_weigh 29 = .ok (.iload_n 3, 1) := by decide +kernel
theorem dX4_weigh_30 : decode cX4_weigh 30 = .ok (.iconst 0, 1) := by decide +kernel
theorem dX4_weigh_31 : decode cX4_weigh 31 = .ok (.iastore, 1) := by decide +kernel
theorem dX4_weigh_32 : decode cX4_weigh 32 = .ok (.iinc 3 1, 3) := by decide +kernel
theorem dX4_weigh_35 : decode cX4_weigh 35 = .ok (.goto (-16), 3) := by decide +kernel
theorem dX4_weigh_38 : decode cX4_weigh 38 = .ok (.iconst 0, 1) := by decide +kernel
theorem dX4_weigh_39 : decode cX4_weigh 39 = .ok (.istore_n 3, 1) := by decide +kernel
theorem dX4_weigh_40 : decode cX4_weigh 40 = .ok (.iload_n 3, 1) := by decide +kernel
theorem dX4_weigh_41 : decode cX4_weigh 41 = .ok (.sipush 1023, 3) := by decide +kernel
theorem dX4_weigh_44 : decode cX4_weigh 44 = .ok (.if_icmp .gt 30, 3) := by decide +kernel
theorem dX4_weigh_47 : decode cX4_weigh 47 = .ok (.iload_n 3, 1) := by decide +kernel
theorem dX4_weigh_48 : decode cX4_weigh 48 = .ok (.invokestatic 21, 3) := by decide +kernel
theorem dX4_weigh_51 : decode cX4_weigh 51 = .ok (.iload_n 2, 1) := by decide +kernel
theorem dX4_weigh_52 : decode cX4_weigh 52 = .ok (.if_icmp .gt 16, 3) := by decide +kernel
theorem dX4_weigh_55 : decode cX4_weigh 55 = .ok (.aload_n 1, 1) := by decide +kernel
theorem dX4_weigh_56 : decode cX4_weigh 56 = .ok (.iload_n 3, 1) := by decide +kernel
theorem dX4_weigh_57 : decode cX4_weigh 57 = .ok (.invokevirtual 42, 3) := by decide +kernel
theorem dX4_weigh_60 : decode cX4_weigh 60 = .ok (.ifCond .eq 8, 3) := by decide +kernel
theorem dX4_weigh_63 : decode cX4_weigh 63 = .ok (.aload_n 0, 1) := by decide +kernel
theorem dX4_weigh_64 : decode cX4_weigh 64 = .ok (.iload_n 3, 1) := by decide +kernel
theorem dX4_weigh_65 : decode cX4_weigh 65 = .ok (.invokevirtual 46, 3) := by decide +kernel
theorem dX4_weigh_68 : decode cX4_weigh 68 = .ok (.iinc 3 1, 3) := by decide +kernel
theorem dX4_weigh_71 : decode cX4_weigh 71 = .ok (.goto (-31), 3) := by decide +kernel
theorem dX4_weigh_74 : decode cX4_weigh 74 = .ok (.aload_n 0, 1) := by decide +kernel
theorem dX4_weigh_75 : decode cX4_weigh 75 = .ok (.getfield 32, 3) := by decide +kernel
theorem dX4_weigh_78 : decode cX4_weigh 78 = .ok (.ifCond .ne 8, 3) := by decide +kernel
theorem dX4_weigh_81 : decode cX4_weigh 81 = .ok (.aload_n 0, 1) := by decide +kernel
theorem dX4_weigh_82 : decode cX4_weigh 82 = .ok (.iconst 0, 1) := by decide +kernel
theorem dX4_weigh_83 : decode cX4_weigh 83 = .ok (.putfield 39, 3) := by decide +kernel
theorem dX4_weigh_86 : decode cX4_weigh 86 = .ok (.return_, 1) := by decide +kernel
theorem dX4_count_0 : decode cX4_count 0 = .ok (.aload_n 0, 1) := by decide +kernel
theorem dX4_count_1 : decode cX4_count 1 = .ok (.dup, 1) := by decide +kernel
theorem dX4_count_2 : decode cX4_count 2 = .ok (.getfield 32, 3) := by decide +kernel
theorem dX4_count_5 : decode cX4_count 5 = .ok (.iconst 1, 1) := by decide +kernel
theorem dX4_count_6 : decode cX4_count 6 = .ok (.iadd, 1) := by decide +kernel
theorem dX4_count_7 : decode cX4_count 7 = .ok (.putfield 32, 3) := by decide +kernel
theorem dX4_count_10 : decode cX4_count 10 = .ok (.aload_n 0, 1) := by decide +kernel
theorem dX4_count_11 : decode cX4_count 11 = .ok (.dup, 1) := by decide +kernel
theorem dX4_count_12 : decode cX4_count 12 = .ok (.getfield 36, 3) := by decide +kernel
theorem dX4_count_15 : decode cX4_count 15 = .ok (.iload_n 1, 1) := by decide +kernel
theorem dX4_count_16 : decode cX4_count 16 = .ok (.ior, 1) := by decide +kernel
theorem dX4_count_17 : decode cX4_count 17 = .ok (.putfield 36, 3) := by decide +kernel
theorem dX4_count_20 : decode cX4_count 20 = .ok (.aload_n 0, 1) := by decide +kernel
theorem dX4_count_21 : decode cX4_count 21 = .ok (.dup, 1) := by decide +kernel
theorem dX4_count_22 : decode cX4_count 22 = .ok (.getfield 39, 3) := by decide +kernel
theorem dX4_count_25 : decode cX4_count 25 = .ok (.iload_n 1, 1) := by decide +kernel
theorem dX4_count_26 : decode cX4_count 26 = .ok (.iand, 1) := by decide +kernel
theorem dX4_count_27 : decode cX4_count 27 = .ok (.putfield 39, 3) := by decide +kernel
theorem dX4_count_30 : decode cX4_count 30 = .ok (.iconst 0, 1) := by decide +kernel
theorem dX4_count_31 : decode cX4_count 31 = .ok (.istore_n 2, 1) := by decide +kernel
theorem dX4_count_32 : decode cX4_count 32 = .ok (.iload_n 2, 1) := by decide +kernel
theorem dX4_count_33 : decode cX4_count 33 = .ok (.bipush 10, 2) := by decide +kernel
theorem dX4_count_35 : decode cX4_count 35 = .ok (.if_icmp .ge 23, 3) := by decide +kernel
theorem dX4_count_38 : decode cX4_count 38 = .ok (.aload_n 0, 1) := by decide +kernel
theorem dX4_count_39 : decode cX4_count 39 = .ok (.getfield 9, 3) := by decide +kernel
theorem dX4_count_42 : decode cX4_count 42 = .ok (.iload_n 2, 1) := by decide +kernel
theorem dX4_count_43 : decode cX4_count 43 = .ok (.dup2, 1) := by decide +kernel
theorem dX4_count_44 : decode cX4_count 44 = .ok (.iaload, 1) := by decide +kernel
theorem dX4_count_45 : decode cX4_count 45 = .ok (.iload_n 1, 1) := by decide +kernel
theorem dX4_count_46 : decode cX4_count 46 = .ok (.iload_n 2, 1) := by decide +kernel
theorem dX4_count_47 : decode cX4_count 47 = .ok (.ishr, 1) := by decide +kernel
theorem dX4_count_48 : decode cX4_count 48 = .ok (.iconst 1, 1) := by decide +kernel
theorem dX4_count_49 : decode cX4_count 49 = .ok (.iand, 1) := by decide +kernel
theorem dX4_count_50 : decode cX4_count 50 = .ok (.iadd, 1) := by decide +kernel
theorem dX4_count_51 : decode cX4_count 51 = .ok (.iastore, 1) := by decide +kernel
theorem dX4_count_52 : decode cX4_count 52 = .ok (.iinc 2 1, 3) := by decide +kernel
theorem dX4_count_55 : decode cX4_count 55 = .ok (.goto (-23), 3) := by decide +kernel
theorem dX4_count_58 : decode cX4_count 58 = .ok (.return_, 1) := by decide +kernel
theorem dX4_mostLeft_0 : decode cX4_mostLeft 0 = .ok (.iload_n 1, 1) := by decide +kernel
theorem dX4_mostLeft_1 : decode cX4_mostLeft 1 = .ok (.invokestatic 50, 3) := by decide +kernel
theorem dX4_mostLeft_4 : decode cX4_mostLeft 4 = .ok (.ifCond .eq 26, 3) := by decide +kernel
theorem dX4_mostLeft_7 : decode cX4_mostLeft 7 = .ok (.aload_n 0, 1) := by decide +kernel
theorem dX4_mostLeft_8 : decode cX4_mostLeft 8 = .ok (.getfield 9, 3) := by decide +kernel
theorem dX4_mostLeft_11 : decode cX4_mostLeft 11 = .ok (.iload_n 1, 1) := by decide +kernel
theorem dX4_mostLeft_12 : decode cX4_mostLeft 12 = .ok (.iaload, 1) := by decide +kernel
theorem dX4_mostLeft_13 : decode cX4_mostLeft 13 = .ok (.aload_n 0, 1) := by decide +kernel
theorem dX4_mostLeft_14 : decode cX4_mostLeft 14 = .ok (.getfield 32, 3) := by decide +kernel
theorem dX4_mostLeft_17 : decode cX4_mostLeft 17 = .ok (.aload_n 0, 1) := by decide +kernel
theorem dX4_mostLeft_18 : decode cX4_mostLeft 18 = .ok (.getfield 9, 3) := by decide +kernel
theorem dX4_mostLeft_21 : decode cX4_mostLeft 21 = .ok (.iload_n 1, 1) := by decide +kernel
theorem dX4_mostLeft_22 : decode cX4_mostLeft 22 = .ok (.iaload, 1) := by decide +kernel
theorem dX4_mostLeft_23 : decode cX4_mostLeft 23 = .ok (.isub, 1) := by decide +kernel
theorem dX4_mostLeft_24 : decode cX4_mostLeft 24 = .ok (.invokestatic 53, 3) := by decide +kernel
theorem dX4_mostLeft_27 : decode cX4_mostLeft 27 = .ok (.goto 7, 3) := by decide +kernel
theorem dX4_mostLeft_30 : decode cX4_mostLeft 30 = .ok (.aload_n 0, 1) := by decide +kernel
theorem dX4_mostLeft_31 : decode cX4_mostLeft 31 = .ok (.getfield 32, 3) := by decide +kernel
theorem dX4_mostLeft_34 : decode cX4_mostLeft 34 = .ok (.ireturn, 1) := by decide +kernel
theorem dX4_sayingToTry_0 : decode cX4_sayingToTry 0 = .ok (.iconst 0, 1) := by decide +kernel
theorem dX4_sayingToTry_1 : decode cX4_sayingToTry 1 = .ok (.istore_n 1, 1) := by decide +kernel
theorem dX4_sayingToTry_2 : decode cX4_sayingToTry 2 = .ok (.iconst 1, 1) := by decide +kernel
theorem dX4_sayingToTry_3 : decode cX4_sayingToTry 3 = .ok (.istore_n 2, 1) := by decide +kernel
theorem dX4_sayingToTry_4 : decode cX4_sayingToTry 4 = .ok (.iload_n 2, 1) := by decide +kernel
theorem dX4_sayingToTry_5 : decode cX4_sayingToTry 5 = .ok (.bipush 10, 2) := by decide +kernel
theorem dX4_sayingToTry_7 : decode cX4_sayingToTry 7 = .ok (.if_icmp .ge 24, 3) := by decide +kernel
theorem dX4_sayingToTry_10 : decode cX4_sayingToTry 10 = .ok (.aload_n 0, 1) := by decide +kernel
theorem dX4_sayingToTry_11 : decode cX4_sayingToTry 11 = .ok (.iload_n 2, 1) := by decide +kernel
theorem dX4_sayingToTry_12 : decode cX4_sayingToTry 12 = .ok (.invokevirtual 59, 3) := by decide +kernel
theorem dX4_sayingToTry_15 : decode cX4_sayingToTry 15 = .ok (.aload_n 0, 1) := by decide +kernel
theorem dX4_sayingToTry_16 : decode cX4_sayingToTry 16 = .ok (.iload_n 1, 1) := by decide +kernel
theorem dX4_sayingToTry_17 : decode cX4_sayingToTry 17 = .ok (.invokevirtual 59, 3) := by decide +kernel
theorem dX4_sayingToTry_20 : decode cX4_sayingToTry 20 = .ok (.if_icmp .ge 5, 3) := by decide +kernel
theorem dX4_sayingToTry_23 : decode cX4_sayingToTry 23 = .ok (.iload_n 2, 1) := by decide +kernel
theorem dX4_sayingToTry_24 : decode cX4_sayingToTry 24 = .ok (.istore_n 1, 1) := by decide +kernel
theorem dX4_sayingToTry_25 : decode cX4_sayingToTry 25 = .ok (.iinc 2 1, 3) := by decide +kernel
theorem dX4_sayingToTry_28 : decode cX4_sayingToTry 28 = .ok (.goto (-24), 3) := by decide +kernel
theorem dX4_sayingToTry_31 : decode cX4_sayingToTry 31 = .ok (.iload_n 1, 1) := by decide +kernel
theorem dX4_sayingToTry_32 : decode cX4_sayingToTry 32 = .ok (.ireturn, 1) := by decide +kernel
theorem dX5_init_0 : decode cX5_init 0 = .ok (.aload_n 0, 1) := by decide +kernel
theorem dX5_init_1 : decode cX5_init 1 = .ok (.invokespecial 3, 3) := by decide +kernel
theorem dX5_init_4 : decode cX5_init 4 = .ok (.aload_n 0, 1) := by decide +kernel
theorem dX5_init_5 : decode cX5_init 5 = .ok (.bipush 17, 2) := by decide +kernel
theorem dX5_init_7 : decode cX5_init 7 = .ok (.newarray .int, 2) := by decide +kernel
theorem dX5_init_9 : decode cX5_init 9 = .ok (.putfield 9, 3) := by decide +kernel
theorem dX5_init_12 : decode cX5_init 12 = .ok (.return_, 1) := by decide +kernel
theorem dX5_mostWorth_0 : decode cX5_mostWorth 0 = .ok (.iconst 0, 1) := by decide +kernel
theorem dX5_mostWorth_1 : decode cX5_mostWorth 1 = .ok (.istore 6, 2) := by decide +kernel
theorem dX5_mostWorth_3 : decode cX5_mostWorth 3 = .ok (.aload_n 0, 1) := by decide +kernel
theorem dX5_mostWorth_4 : decode cX5_mostWorth 4 = .ok (.getfield 9, 3) := by decide +kernel
theorem dX5_mostWorth_7 : decode cX5_mostWorth 7 = .ok (.iconst 0, 1) := by decide +kernel
theorem dX5_mostWorth_8 : decode cX5_mostWorth 8 = .ok (.iconst 0, 1) := by decide +kernel
theorem dX5_mostWorth_9 : decode cX5_mostWorth 9 = .ok (.iastore, 1) := by decide +kernel
theorem dX5_mostWorth_10 : decode cX5_mostWorth 10 = .ok (.iconst 0, 1) := by decide +kernel
theorem dX5_mostWorth_11 : decode cX5_mostWorth 11 = .ok (.istore 7, 2) := by decide +kernel
theorem dX5_mostWorth_13 : decode cX5_mostWorth 13 = .ok (.iload 7, 2) := by decide +kernel
theorem dX5_mostWorth_15 : decode cX5_mostWorth 15 = .ok (.bipush 16, 2) := by decide +kernel
theorem dX5_mostWorth_17 : decode cX5_mostWorth 17 = .ok (.if_icmp .ge 143, 3) := by decide +kernel
theorem dX5_mostWorth_20 : decode cX5_mostWorth 20 = .ok (.iload 7, 2) := by decide +kernel
theorem dX5_mostWorth_22 : decode cX5_mostWorth 22 = .ok (.iconst 1, 1) := by decide +kernel
theorem dX5_mostWorth_23 : decode cX5_mostWorth 23 = .ok (.iadd, 1) := by decide +kernel
theorem dX5_mostWorth_24 : decode cX5_mostWorth 24 = .ok (.istore 8, 2) := by decide +kernel
theorem dX5_mostWorth_26 : decode cX5_mostWorth 26 = .ok (.iload_n 1, 1) := by decide +kernel
theorem dX5_mostWorth_27 : decode cX5_mostWorth 27 = .ok (.iload 7, 2) := by decide +kernel
theorem dX5_mostWorth_29 : decode cX5_mostWorth 29 = .ok (.ishr, 1) := by decide +kernel
theorem dX5_mostWorth_30 : decode cX5_mostWorth 30 = .ok (.iconst 1, 1) := by decide +kernel
theorem dX5_mostWorth_31 : decode cX5_mostWorth 31 = .ok (.iand, 1) := by decide +kernel
theorem dX5_mostWorth_32 : decode cX5_mostWorth 32 = .ok (.ifCond .ne 10, 3) := by decide +kernel
theorem dX5_mostWorth_35 : decode cX5_mostWorth 35 = .ok (.iload 6, 2) := by decide +kernel
theorem dX5_mostWorth_37 : decode cX5_mostWorth 37 = .ok (.iconst 1, 1) := by decide +kernel
theorem dX5_mostWorth_38 : decode cX5_mostWorth 38 = .ok (.iadd, 1) := by decide +kernel
theorem dX5_mostWorth_39 : decode cX5_mostWorth 39 = .ok (.goto 4, 3) := by decide +kernel
theorem dX5_mostWorth_42 : decode cX5_mostWorth 42 = .ok (.iconst 0, 1) := by decide +kernel
theorem dX5_mostWorth_43 : decode cX5_mostWorth 43 = .ok (.istore 6, 2) := by decide +kernel
theorem dX5_mostWorth_45 : decode cX5_mostWorth 45 = .ok (.aload_n 0, 1) := by decide +kernel
theorem dX5_mostWorth_46 : decode cX5_mostWorth 46 = .ok (.getfield 9, 3) := by decide +kernel
theorem dX5_mostWorth_49 : decode cX5_mostWorth 49 = .ok (.iload 8, 2) := by decide +kernel
theorem dX5_mostWorth_51 : decode cX5_mostWorth 51 = .ok (.aload_n 0, 1) := by decide +kernel
theorem dX5_mostWorth_52 : decode cX5_mostWorth 52 = .ok (.getfield 9, 3) := by decide +kernel
theorem dX5_mostWorth_55 : decode cX5_mostWorth 55 = .ok (.iload 7, 2) := by decide +kernel
theorem dX5_mostWorth_57 : decode cX5_mostWorth 57 = .ok (.iaload, 1) := by decide +kernel
theorem dX5_mostWorth_58 : decode cX5_mostWorth 58 = .ok (.iastore, 1) := by decide +kernel
theorem dX5_mostWorth_59 : decode cX5_mostWorth 59 = .ok (.iconst 0, 1) := by decide +kernel
theorem dX5_mostWorth_60 : decode cX5_mostWorth 60 = .ok (.iload_n 2, 1) := by decide +kernel
theorem dX5_mostWorth_61 : decode cX5_mostWorth 61 = .ok (.if_icmp .ge 43, 3) := by decide +kernel
theorem dX5_mostWorth_64 : decode cX5_mostWorth 64 = .ok (.iload_n 2, 1) := by decide +kernel
theorem dX5_mostWorth_65 : decode cX5_mostWorth 65 = .ok (.iload 6, 2) := by decide +kernel
theorem dX5_mostWorth_67 : decode cX5_mostWorth 67 = .ok (.if_icmp .gt 37, 3) := by decide +kernel
theorem dX5_mostWorth_70 : decode cX5_mostWorth 70 = .ok (.iload_n 2, 1) := by decide +kernel
theorem dX5_mostWorth_71 : decode cX5_mostWorth 71 = .ok (.iload 8, 2) := by decide +kernel
theorem dX5_mostWorth_73 : decode cX5_mostWorth 73 = .ok (.if_icmp .gt 31, 3) := by decide +kernel
theorem dX5_mostWorth_76 : decode cX5_mostWorth 76 = .ok (.aload_n 0, 1) := by decide +kernel
theorem dX5_mostWorth_77 : decode cX5_mostWorth 77 = .ok (.getfield 9, 3) := by decide +kernel
theorem dX5_mostWorth_80 : decode cX5_mostWorth 80 = .ok (.iload 8, 2) := by decide +kernel
theorem dX5_mostWorth_82 : decode cX5_mostWorth 82 = .ok (.aload_n 0, 1) := by decide +kernel
theorem dX5_mostWorth_83 : decode cX5_mostWorth 83 = .ok (.getfield 9, 3) := by decide +kernel
theorem dX5_mostWorth_86 : decode cX5_mostWorth 86 = .ok (.iload 8, 2) := by decide +kernel
theorem dX5_mostWorth_88 : decode cX5_mostWorth 88 = .ok (.iaload, 1) := by decide +kernel
theorem dX5_mostWorth_89 : decode cX5_mostWorth 89 = .ok (.aload_n 0, 1) := by decide +kernel
theorem dX5_mostWorth_90 : decode cX5_mostWorth 90 = .ok (.getfield 9, 3) := by decide +kernel
theorem dX5_mostWorth_93 : decode cX5_mostWorth 93 = .ok (.iload 8, 2) := by decide +kernel
theorem dX5_mostWorth_95 : decode cX5_mostWorth 95 = .ok (.iload_n 2, 1) := by decide +kernel
theorem dX5_mostWorth_96 : decode cX5_mostWorth 96 = .ok (.isub, 1) := by decide +kernel
theorem dX5_mostWorth_97 : decode cX5_mostWorth 97 = .ok (.iaload, 1) := by decide +kernel
theorem dX5_mostWorth_98 : decode cX5_mostWorth 98 = .ok (.iload_n 3, 1) := by decide +kernel
theorem dX5_mostWorth_99 : decode cX5_mostWorth 99 = .ok (.iadd, 1) := by decide +kernel
theorem dX5_mostWorth_100 : decode cX5_mostWorth 100 = .ok (.invokestatic 15, 3) := by decide +kernel
theorem dX5_mostWorth_103 : decode cX5_mostWorth 103 = .ok (.iastore, 1) := by decide +kernel
theorem dX5_mostWorth_104 : decode cX5_mostWorth 104 = .ok (.iconst 0, 1) := by decide +kernel
theorem dX5_mostWorth_105 : decode cX5_mostWorth 105 = .ok (.iload 4, 2) := by decide +kernel
theorem dX5_mostWorth_107 : decode cX5_mostWorth 107 = .ok (.if_icmp .ge 47, 3) := by decide +kernel
theorem dX5_mostWorth_110 : decode cX5_mostWorth 110 = .ok (.iload 4, 2) := by decide +kernel
theorem dX5_mostWorth_112 : decode cX5_mostWorth 112 = .ok (.iload 6, 2) := by decide +kernel
theorem dX5_mostWorth_114 : decode cX5_mostWorth 114 = .ok (.if_icmp .gt 40, 3) := by decide +kernel
theorem dX5_mostWorth_117 : decode cX5_mostWorth 117 = .ok (.iload 4, 2) := by decide +kernel
theorem dX5_mostWorth_119 : decode cX5_mostWorth 119 = .ok (.iload 8, 2) := by decide +kernel
theorem dX5_mostWorth_121 : decode cX5_mostWorth 121 = .ok (.if_icmp .gt 33, 3) := by decide +kernel
theorem dX5_mostWorth_124 : decode cX5_mostWorth 124 = .ok (.aload_n 0, 1) := by decide +kernel
theorem dX5_mostWorth_125 : decode cX5_mostWorth 125 = .ok (.getfield 9, 3) := by decide +kernel
theorem dX5_mostWorth_128 : decode cX5_mostWorth 128 = .ok (.iload 8, 2) := by decide +kernel
theorem dX5_mostWorth_130 : decode cX5_mostWorth 130 = .ok (.aload_n 0, 1) := by decide +kernel
theorem dX5_mostWorth_131 : decode cX5_mostWorth 131 = .ok (.getfield 9, 3) := by decide +kernel
theorem dX5_mostWorth_134 : decode cX5_mostWorth 134 = .ok (.iload 8, 2) := by decide +kernel
theorem dX5_mostWorth_136 : decode cX5_mostWorth 136 = .ok (.iaload, 1) := by decide +kernel
theorem dX5_mostWorth_137 : decode cX5_mostWorth 137 = .ok (.aload_n 0, 1) := by decide +kernel
theorem dX5_mostWorth_138 : decode cX5_mostWorth 138 = .ok (.getfield 9, 3) := by decide +kernel
theorem dX5_mostWorth_141 : decode cX5_mostWorth 141 = .ok (.iload 8, 2) := by decide +kernel
theorem dX5_mostWorth_143 : decode cX5_mostWorth 143 = .ok (.iload 4, 2) := by decide +kernel
theorem dX5_mostWorth_145 : decode cX5_mostWorth 145 = .ok (.isub, 1) := by decide +kernel
theorem dX5_mostWorth_146 : decode cX5_mostWorth 146 = .ok (.iaload, 1) := by decide +kernel
theorem dX5_mostWorth_147 : decode cX5_mostWorth 147 = .ok (.iload 5, 2) := by decide +kernel
theorem dX5_mostWorth_149 : decode cX5_mostWorth 149 = .ok (.iadd, 1) := by decide +kernel
theorem dX5_mostWorth_150 : decode cX5_mostWorth 150 = .ok (.invokestatic 15, 3) := by decide +kernel
theorem dX5_mostWorth_153 : decode cX5_mostWorth 153 = .ok (.iastore, 1) := by decide +kernel
theorem dX5_mostWorth_154 : decode cX5_mostWorth 154 = .ok (.iinc 7 1, 3) := by decide +kernel
theorem dX5_mostWorth_157 : decode cX5_mostWorth 157 = .ok (.goto (-144), 3) := by decide +kernel
theorem dX5_mostWorth_160 : decode cX5_mostWorth 160 = .ok (.aload_n 0, 1) := by decide +kernel
theorem dX5_mostWorth_161 : decode cX5_mostWorth 161 = .ok (.getfield 9, 3) := by decide +kernel
theorem dX5_mostWorth_164 : decode cX5_mostWorth 164 = .ok (.bipush 16, 2) := by decide +kernel
theorem dX5_mostWorth_166 : decode cX5_mostWorth 166 = .ok (.iaload, 1) := by decide +kernel
theorem dX5_mostWorth_167 : decode cX5_mostWorth 167 = .ok (.ireturn, 1) := by decide +kernel
theorem dX5_winningDarn_0 : decode cX5_winningDarn 0 = .ok (.iconst 0, 1) := by decide +kernel
theorem dX5_winningDarn_1 : decode cX5_winningDarn 1 = .ok (.istore_n 1, 1) := by decide +kernel
theorem dX5_winningDarn_2 : decode cX5_winningDarn 2 = .ok (.iload_n 1, 1) := by decide +kernel
theorem dX5_winningDarn_3 : decode cX5_winningDarn 3 = .ok (.bipush 16, 2) := by decide +kernel
theorem dX5_winningDarn_5 : decode cX5_winningDarn 5 = .ok (.if_icmp .ge 62, 3) := by decide +kernel
theorem dX5_winningDarn_8 : decode cX5_winningDarn 8 = .ok (.iconst 1, 1) := by decide +kernel
theorem dX5_winningDarn_9 : decode cX5_winningDarn 9 = .ok (.iload_n 1, 1) := by decide +kernel
theorem dX5_winningDarn_10 : decode cX5_winningDarn 10 = .ok (.ishl, 1) := by decide +kernel
theorem dX5_winningDarn_11 : decode cX5_winningDarn 11 = .ok (.istore_n 2, 1) := by decide +kernel
theorem dX5_winningDarn_12 : decode cX5_winningDarn 12 = .ok (.iconst 3, 1) := by decide +kernel
theorem dX5_winningDarn_13 : decode cX5_winningDarn 13 = .ok (.iload_n 1, 1) := by decide +kernel
theorem dX5_winningDarn_14 : decode cX5_winningDarn 14 = .ok (.ishl, 1) := by decide +kernel
theorem dX5_winningDarn_15 : decode cX5_winningDarn 15 = .ok (.istore_n 3, 1) := by decide +kernel
theorem dX5_winningDarn_16 : decode cX5_winningDarn 16 = .ok (.iload_n 0, 1) := by decide +kernel
theorem dX5_winningDarn_17 : decode cX5_winningDarn 17 = .ok (.iload_n 2, 1) := by decide +kernel
theorem dX5_winningDarn_18 : decode cX5_winningDarn 18 = .ok (.iand, 1) := by decide +kernel
theorem dX5_winningDarn_19 : decode cX5_winningDarn 19 = .ok (.ifCond .eq 18, 3) := by decide +kernel
theorem dX5_winningDarn_22 : decode cX5_winningDarn 22 = .ok (.iload_n 0, 1) := by decide +kernel
theorem dX5_winningDarn_23 : decode cX5_winningDarn 23 = .ok (.iload_n 2, 1) := by decide +kernel
theorem dX5_winningDarn_24 : decode cX5_winningDarn 24 = .ok (.iconst (-1), 1) := by decide +kernel
theorem dX5_winningDarn_25 : decode cX5_winningDarn 25 = .ok (.ixor, 1) := by decide +kernel
theorem dX5_winningDarn_26 : decode cX5_winningDarn 26 = .ok (.iand, 1) := by decide +kernel
theorem dX5_winningDarn_27 : decode cX5_winningDarn 27 = .ok (.invokestatic 21, 3) := by decide +kernel
theorem dX5_winningDarn_30 : decode cX5_winningDarn 30 = .ok (.ifCond .ne 7, 3) := by decide +kernel
theorem dX5_winningDarn_33 : decode cX5_winningDarn 33 = .ok (.iconst 2, 1) := by decide +kernel
theorem dX5_winningDarn_34 : decode cX5_winningDarn 34 = .ok (.iload_n 1, 1) := by decide +kernel
theorem dX5_winningDarn_35 : decode cX5_winningDarn 35 = .ok (.imul, 1) := by decide +kernel
theorem dX5_winningDarn_36 : decode cX5_winningDarn 36 = .ok (.ireturn, 1) := by decide +kernel
theorem dX5_winningDarn_37 : decode cX5_winningDarn 37 = .ok (.iload_n 0, 1) := by decide +kernel
theorem dX5_winningDarn_38 : decode cX5_winningDarn 38 = .ok (.iload_n 3, 1) := by decide +kernel
theorem dX5_winningDarn_39 : decode cX5_winningDarn 39 = .ok (.iand, 1) := by decide +kernel
theorem dX5_winningDarn_40 : decode cX5_winningDarn 40 = .ok (.iload_n 3, 1) := by decide +kernel
theorem dX5_winningDarn_41 : decode cX5_winningDarn 41 = .ok (.if_icmp .ne 20, 3) := by decide +kernel
theorem dX5_winningDarn_44 : decode cX5_winningDarn 44 = .ok (.iload_n 0, 1) := by decide +kernel
theorem dX5_winningDarn_45 : decode cX5_winningDarn 45 = .ok (.iload_n 3, 1) := by decide +kernel
theorem dX5_winningDarn_46 : decode cX5_winningDarn 46 = .ok (.iconst (-1), 1) := by decide +kernel
theorem dX5_winningDarn_47 : decode cX5_winningDarn 47 = .ok (.ixor, 1) := by decide +kernel
theorem dX5_winningDarn_48 : decode cX5_winningDarn 48 = .ok (.iand, 1) := by decide +kernel
theorem dX5_winningDarn_49 : decode cX5_winningDarn 49 = .ok (.invokestatic 21, 3) := by decide +kernel
theorem dX5_winningDarn_52 : decode cX5_winningDarn 52 = .ok (.ifCond .ne 9, 3) := by decide +kernel
theorem dX5_winningDarn_55 : decode cX5_winningDarn 55 = .ok (.iconst 2, 1) := by decide +kernel
theorem dX5_winningDarn_56 : decode cX5_winningDarn 56 = .ok (.iload_n 1, 1) := by decide +kernel
theorem dX5_winningDarn_57 : decode cX5_winningDarn 57 = .ok (.imul, 1) := by decide +kernel
theorem dX5_winningDarn_58 : decode cX5_winningDarn 58 = .ok (.iconst 1, 1) := by decide +kernel
theorem dX5_winningDarn_59 : decode cX5_winningDarn 59 = .ok (.iadd, 1) := by decide +kernel
theorem dX5_winningDarn_60 : decode cX5_winningDarn 60 = .ok (.ireturn, 1) := by decide +kernel
theorem dX5_winningDarn_61 : decode cX5_winningDarn 61 = .ok (.iinc 1 1, 3) := by decide +kernel
theorem dX5_winningDarn_64 : decode cX5_winningDarn 64 = .ok (.goto (-62), 3) := by decide +kernel
theorem dX5_winningDarn_67 : decode cX5_winningDarn 67 = .ok (.bipush (-6), 2) := by decide +kernel
theorem dX5_winningDarn_69 : decode cX5_winningDarn 69 = .ok (.ireturn, 1) := by decide +kernel
theorem dX5_nimOf_0 : decode cX5_nimOf 0 = .ok (.iconst 0, 1) := by decide +kernel
theorem dX5_nimOf_1 : decode cX5_nimOf 1 = .ok (.istore_n 1, 1) := by decide +kernel
theorem dX5_nimOf_2 : decode cX5_nimOf 2 = .ok (.iconst 0, 1) := by decide +kernel
theorem dX5_nimOf_3 : decode cX5_nimOf 3 = .ok (.istore_n 2, 1) := by decide +kernel
theorem dX5_nimOf_4 : decode cX5_nimOf 4 = .ok (.iconst 0, 1) := by decide +kernel
theorem dX5_nimOf_5 : decode cX5_nimOf 5 = .ok (.istore_n 3, 1) := by decide +kernel
theorem dX5_nimOf_6 : decode cX5_nimOf 6 = .ok (.iload_n 3, 1) := by decide +kernel
theorem dX5_nimOf_7 : decode cX5_nimOf 7 = .ok (.bipush 16, 2) := by decide +kernel
theorem dX5_nimOf_9 : decode cX5_nimOf 9 = .ok (.if_icmp .ge 32, 3) := by decide +kernel
theorem dX5_nimOf_12 : decode cX5_nimOf 12 = .ok (.iload_n 0, 1) := by decide +kernel
theorem dX5_nimOf_13 : decode cX5_nimOf 13 = .ok (.iload_n 3, 1) := by decide +kernel
theorem dX5_nimOf_14 : decode cX5_nimOf 14 = .ok (.ishr, 1) := by decide +kernel
theorem dX5_nimOf_15 : decode cX5_nimOf 15 = .ok (.iconst 1, 1) := by decide +kernel
theorem dX5_nimOf_16 : decode cX5_nimOf 16 = .ok (.iand, 1) := by decide +kernel
theorem dX5_nimOf_17 : decode cX5_nimOf 17 = .ok (.ifCond .eq 9, 3) := by decide +kernel
theorem dX5_nimOf_20 : decode cX5_nimOf 20 = .ok (.iinc 2 1, 3) := by decide +kernel
theorem dX5_nimOf_23 : decode cX5_nimOf 23 = .ok (.goto 12, 3) := by decide +kernel
theorem dX5_nimOf_26 : decode cX5_nimOf 26 = .ok (.iload_n 1, 1) := by decide +kernel
theorem dX5_nimOf_27 : decode cX5_nimOf 27 = .ok (.iload_n 2, 1) := by decide +kernel
theorem dX5_nimOf_28 : decode cX5_nimOf 28 = .ok (.invokestatic 25, 3) := by decide +kernel
theorem dX5_nimOf_31 : decode cX5_nimOf 31 = .ok (.ixor, 1) := by decide +kernel
theorem dX5_nimOf_32 : decode cX5_nimOf 32 = .ok (.istore_n 1, 1) := by decide +kernel
theorem dX5_nimOf_33 : decode cX5_nimOf 33 = .ok (.iconst 0, 1) := by decide +kernel
theorem dX5_nimOf_34 : decode cX5_nimOf 34 = .ok (.istore_n 2, 1) := by decide +kernel
theorem dX5_nimOf_35 : decode cX5_nimOf 35 = .ok (.iinc 3 1, 3) := by decide +kernel
theorem dX5_nimOf_38 : decode cX5_nimOf 38 = .ok (.goto (-32), 3) := by decide +kernel
theorem dX5_nimOf_41 : decode cX5_nimOf 41 = .ok (.iload_n 1, 1) := by decide +kernel
theorem dX5_nimOf_42 : decode cX5_nimOf 42 = .ok (.iload_n 2, 1) := by decide +kernel
theorem dX5_nimOf_43 : decode cX5_nimOf 43 = .ok (.invokestatic 25, 3) := by decide +kernel
theorem dX5_nimOf_46 : decode cX5_nimOf 46 = .ok (.ixor, 1) := by decide +kernel
theorem dX5_nimOf_47 : decode cX5_nimOf 47 = .ok (.ireturn, 1) := by decide +kernel
theorem dX5_nimOfRow_0 : decode cX5_nimOfRow 0 = .ok (.iconst 0, 1) := by decide +kernel
theorem dX5_nimOfRow_1 : decode cX5_nimOfRow 1 = .ok (.iload_n 0, 1) := by decide +kernel
theorem dX5_nimOfRow_2 : decode cX5_nimOfRow 2 = .ok (.if_icmp .gt 19, 3) := by decide +kernel
theorem dX5_nimOfRow_5 : decode cX5_nimOfRow 5 = .ok (.iload_n 0, 1) := by decide +kernel
theorem dX5_nimOfRow_6 : decode cX5_nimOfRow 6 = .ok (.getstatic 28, 3) := by decide +kernel
theorem dX5_nimOfRow_9 : decode cX5_nimOfRow 9 = .ok (.arraylength, 1) := by decide +kernel
theorem dX5_nimOfRow_10 : decode cX5_nimOfRow 10 = .ok (.if_icmp .ge 11, 3) := by decide +kernel
theorem dX5_nimOfRow_13 : decode cX5_nimOfRow 13 = .ok (.getstatic 28, 3) := by decide +kernel
theorem dX5_nimOfRow_16 : decode cX5_nimOfRow 16 = .ok (.iload_n 0, 1) := by decide +kernel
theorem dX5_nimOfRow_17 : decode cX5_nimOfRow 17 = .ok (.iaload, 1) := by decide +kernel
theorem dX5_nimOfRow_18 : decode cX5_nimOfRow 18 = .ok (.goto 4, 3) := by decide +kernel
theorem dX5_nimOfRow_21 : decode cX5_nimOfRow 21 = .ok (.iconst 0, 1) := by decide +kernel
theorem dX5_nimOfRow_22 : decode cX5_nimOfRow 22 = .ok (.ireturn, 1) := by decide +kernel
theorem dX6_init_0 : decode cX6_init 0 = .ok (.aload_n 0, 1) := by decide +kernel
theorem dX6_init_1 : decode cX6_init 1 = .ok (.invokespecial 3, 3) := by decide +kernel
theorem dX6_init_4 : decode cX6_init 4 = .ok (.aload_n 0, 1) := by decide +kernel
theorem dX6_init_5 : decode cX6_init 5 = .ok (.bipush 6, 2) := by decide +kernel
theorem dX6_init_7 : decode cX6_init 7 = .ok (.newarray .int, 2) := by decide +kernel
theorem dX6_init_9 : decode cX6_init 9 = .ok (.putfield 9, 3) := by decide +kernel
theorem dX6_init_12 : decode cX6_init 12 = .ok (.aload_n 0, 1) := by decide +kernel
theorem dX6_init_13 : decode cX6_init 13 = .ok (.bipush 6, 2) := by decide +kernel
theorem dX6_init_15 : decode cX6_init 15 = .ok (.newarray .int, 2) := by decide +kernel
theorem dX6_init_17 : decode cX6_init 17 = .ok (.putfield 15, 3) := by decide +kernel
theorem dX6_init_20 : decode cX6_init 20 = .ok (.aload_n 0, 1) := by decide +kernel
theorem dX6_init_21 : decode cX6_init 21 = .ok (.bipush 10, 2) := by decide +kernel
theorem dX6_init_23 : decode cX6_init 23 = .ok (.newarray .int, 2) := by decide +kernel
theorem dX6_init_25 : decode cX6_init 25 = .ok (.putfield 18, 3) := by decide +kernel
theorem dX6_init_28 : decode cX6_init 28 = .ok (.aload_n 0, 1) := by decide +kernel
theorem dX6_init_29 : decode cX6_init 29 = .ok (.bipush 10, 2) := by decide +kernel
theorem dX6_init_31 : decode cX6_init 31 = .ok (.newarray .int, 2) := by decide +kernel
theorem dX6_init_33 : decode cX6_init 33 = .ok (.putfield 21, 3) := by decide +kernel
theorem dX6_init_36 : decode cX6_init 36 = .ok (.aload_n 0, 1) := by decide +kernel
theorem dX6_init_37 : decode cX6_init 37 = .ok (.bipush 10, 2) := by decide +kernel
theorem dX6_init_39 : decode cX6_init 39 = .ok (.newarray .int, 2) := by decide +kernel
theorem dX6_init_41 : decode cX6_init 41 = .ok (.putfield 24, 3) := by decide +kernel
theorem dX6_init_44 : decode cX6_init 44 = .ok (.aload_n 0, 1) := by decide +kernel
theorem dX6_init_45 : decode cX6_init 45 = .ok (.iconst 5, 1) := by decide +kernel
theorem dX6_init_46 : decode cX6_init 46 = .ok (.newarray .int, 2) := by decide +kernel
theorem dX6_init_48 : decode cX6_init 48 = .ok (.putfield 27, 3) := by decide +kernel
theorem dX6_init_51 : decode cX6_init 51 = .ok (.aload_n 0, 1) := by decide +kernel
theorem dX6_init_52 : decode cX6_init 52 = .ok (.bipush 8, 2) := by decide +kernel
theorem dX6_init_54 : decode cX6_init 54 = .ok (.newarray .int, 2) := by decide +kernel
theorem dX6_init_56 : decode cX6_init 56 = .ok (.putfield 30, 3) := by decide +kernel
theorem dX6_init_59 : decode cX6_init 59 = .ok (.return_, 1) := by decide +kernel
theorem dX6_copyFrom_0 : decode cX6_copyFrom 0 = .ok (.aload_n 1, 1) := by decide +kernel
theorem dX6_copyFrom_1 : decode cX6_copyFrom 1 = .ok (.getfield 9, 3) := by decide +kernel
theorem dX6_copyFrom_4 : decode cX6_copyFrom 4 = .ok (.iconst 0, 1) := by decide +kernel
theorem dX6_copyFrom_5 : decode cX6_copyFrom 5 = .ok (.aload_n 0, 1) := by decide +kernel
theorem dX6_copyFrom_6 : decode cX6_copyFrom 6 = .ok (.getfield 9, 3) := by decide +kernel
theorem dX6_copyFrom_9 : decode cX6_copyFrom 9 = .ok (.iconst 0, 1) := by decide +kernel
theorem dX6_copyFrom_10 : decode cX6_copyFrom 10 = .ok (.bipush 6, 2) := by decide +kernel
theorem dX6_copyFrom_12 : decode cX6_copyFrom 12 = .ok (.invokestatic 33, 3) := by decide +kernel
theorem dX6_copyFrom_15 : decode cX6_copyFrom 15 = .ok (.aload_n 1, 1) := by decide +kernel
theorem dX6_copyFrom_16 : decode cX6_copyFrom 16 = .ok (.getfield 15, 3) := by decide +kernel
theorem dX6_copyFrom_19 : decode cX6_copyFrom 19 = .ok (.iconst 0, 1) := by decide +kernel
theorem dX6_copyFrom_20 : decode cX6_copyFrom 20 = .ok (.aload_n 0, 1) := by decide +kernel
theorem dX6_copyFrom_21 : decode cX6_copyFrom 21 = .ok (.getfield 15, 3) := by decide +kernel
theorem dX6_copyFrom_24 : decode cX6_copyFrom 24 = .ok (.iconst 0, 1) := by decide +kernel
theorem dX6_copyFrom_25 : decode cX6_copyFrom 25 = .ok (.bipush 6, 2) := by decide +kernel
theorem dX6_copyFrom_27 : decode cX6_copyFrom 27 = .ok (.invokestatic 33, 3) := by decide +kernel
theorem dX6_copyFrom_30 : decode cX6_copyFrom 30 = .ok (.aload_n 0, 1) := by decide +kernel
theorem dX6_copyFrom_31 : decode cX6_copyFrom 31 = .ok (.aload_n 1, 1) := by decide +kernel
theorem dX6_copyFrom_32 : decode cX6_copyFrom 32 = .ok (.getfield 39, 3) := by decide +kernel
theorem dX6_copyFrom_35 : decode cX6_copyFrom 35 = .ok (.putfield 39, 3) := by decide +kernel
theorem dX6_copyFrom_38 : decode cX6_copyFrom 38 = .ok (.aload_n 0, 1) := by decide +kernel
theorem dX6_copyFrom_39 : decode cX6_copyFrom 39 = .ok (.aload_n 1, 1) := by decide +kernel
theorem dX6_copyFrom_40 : decode cX6_copyFrom 40 = .ok (.getfield 43, 3) := by decide +kernel
theorem dX6_copyFrom_43 : decode cX6_copyFrom 43 = .ok (.putfield 43, 3) := by decide +kernel
theorem dX6_copyFrom_46 : decode cX6_copyFrom 46 = .ok (.aload_n 1, 1) := by decide +kernel
theorem dX6_copyFrom_47 : decode cX6_copyFrom 47 = .ok (.getfield 18, 3) := by decide +kernel
theorem dX6_copyFrom_50 : decode cX6_copyFrom 50 = .ok (.iconst 0, 1) := by decide +kernel
theorem dX6_copyFrom_51 : decode cX6_copyFrom 51 = .ok (.aload_n 0, 1) := by decide +kernel
theorem dX6_copyFrom_52 : decode cX6_copyFrom 52 = .ok (.getfield 18, 3) := by decide +kernel
theorem dX6_copyFrom_55 : decode cX6_copyFrom 55 = .ok (.iconst 0, 1) := by decide +kernel
theorem dX6_copyFrom_56 : decode cX6_copyFrom 56 = .ok (.bipush 10, 2) := by decide +kernel
theorem dX6_copyFrom_58 : decode cX6_copyFrom 58 = .ok (.invokestatic 33, 3) := by decide +kernel
theorem dX6_copyFrom_61 : decode cX6_copyFrom 61 = .ok (.aload_n 1, 1) := by decide +kernel
theorem dX6_copyFrom_62 : decode cX6_copyFrom 62 = .ok (.getfield 21, 3) := by decide +kernel
theorem dX6_copyFrom_65 : decode cX6_copyFrom 65 = .ok (.iconst 0, 1) := by decide +kernel
theorem dX6_copyFrom_66 : decode cX6_copyFrom 66 = .ok (.aload_n 0, 1) := by decide +kernel
theorem dX6_copyFrom_67 : decode cX6_copyFrom 67 = .ok (.getfield 21, 3) := by decide +kernel
theorem dX6_copyFrom_70 : decode cX6_copyFrom 70 = .ok (.iconst 0, 1) := by decide +kernel
theorem dX6_copyFrom_71 : decode cX6_copyFrom 71 = .ok (.bipush 10, 2) := by decide +kernel
theorem dX6_copyFrom_73 : decode cX6_copyFrom 73 = .ok (.invokestatic 33, 3) := by decide +kernel
theorem dX6_copyFrom_76 : decode cX6_copyFrom 76 = .ok (.aload_n 1, 1) := by decide +kernel
theorem dX6_copyFrom_77 : decode cX6_copyFrom 77 = .ok (.getfield 24, 3) := by decide +kernel
theorem dX6_copyFrom_80 : decode cX6_copyFrom 80 = .ok (.iconst 0, 1) := by decide +kernel
theorem dX6_copyFrom_81 : decode cX6_copyFrom 81 = .ok (.aload_n 0, 1) := by decide +kernel
theorem dX6_copyFrom_82 : decode cX6_copyFrom 82 = .ok (.getfield 24, 3) := by decide +kernel
theorem dX6_copyFrom_85 : decode cX6_copyFrom 85 = .ok (.iconst 0, 1) := by decide +kernel
theorem dX6_copyFrom_86 : decode cX6_copyFrom 86 = .ok (.bipush 10, 2) := by decide +kernel
theorem dX6_copyFrom_88 : decode cX6_copyFrom 88 = .ok (.invokestatic 33, 3) := by decide +kernel
theorem dX6_copyFrom_91 : decode cX6_copyFrom 91 = .ok (.aload_n 1, 1) := by decide +kernel
theorem dX6_copyFrom_92 : decode cX6_copyFrom 92 = .ok (.getfield 27, 3) := by decide +kernel
theorem dX6_copyFrom_95 : decode cX6_copyFrom 95 = .ok (.iconst 0, 1) := by decide +kernel
theorem dX6_copyFrom_96 : decode cX6_copyFrom 96 = .ok (.aload_n 0, 1) := by decide +kernel
theorem dX6_copyFrom_97 : decode cX6_copyFrom 97 = .ok (.getfield 27, 3) := by decide +kernel
theorem dX6_copyFrom_100 : decode cX6_copyFrom 100 = .ok (.iconst 0, 1) := by decide +kernel
theorem dX6_copyFrom_101 : decode cX6_copyFrom 101 = .ok (.iconst 5, 1) := by decide +kernel
theorem dX6_copyFrom_102 : decode cX6_copyFrom 102 = .ok (.invokestatic 33, 3) := by decide +kernel
theorem dX6_copyFrom_105 : decode cX6_copyFrom 105 = .ok (.aload_n 1, 1) := by decide +kernel
theorem dX6_copyFrom_106 : decode cX6_copyFrom 106 = .ok (.getfield 30, 3) := by decide +kernel
theorem dX6_copyFrom_109 : decode cX6_copyFrom 109 = .ok (.iconst 0, 1) := by decide +kernel
theorem dX6_copyFrom_110 : decode cX6_copyFrom 110 = .ok (.aload_n 0, 1) := by decide +kernel
theorem dX6_copyFrom_111 : decode cX6_copyFrom 111 = .ok (.getfield 30, 3) := by decide +kernel
theorem dX6_copyFrom_114 : decode cX6_copyFrom 114 = .ok (.iconst 0, 1) := by decide +kernel
theorem dX6_copyFrom_115 : decode cX6_copyFrom 115 = .ok (.bipush 8, 2) := by decide +kernel
theorem dX6_copyFrom_117 : decode cX6_copyFrom 117 = .ok (.invokestatic 33, 3) := by decide +kernel
theorem dX6_copyFrom_120 : decode cX6_copyFrom 120 = .ok (.aload_n 0, 1) := by decide +kernel
theorem dX6_copyFrom_121 : decode cX6_copyFrom 121 = .ok (.aload_n 1, 1) := by decide +kernel
theorem dX6_copyFrom_122 : decode cX6_copyFrom 122 = .ok (.getfield 46, 3) := by decide +kernel
theorem dX6_copyFrom_125 : decode cX6_copyFrom 125 = .ok (.putfield 46, 3) := by decide +kernel
theorem dX6_copyFrom_128 : decode cX6_copyFrom 128 = .ok (.aload_n 0, 1) := by decide +kernel
theorem dX6_copyFrom_129 : decode cX6_copyFrom 129 = .ok (.aload_n 1, 1) := by decide +kernel
theorem dX6_copyFrom_130 : decode cX6_copyFrom 130 = .ok (.getfield 49, 3) := by decide +kernel
theorem dX6_copyFrom_133 : decode cX6_copyFrom 133 = .ok (.putfield 49, 3) := by decide +kernel
theorem dX6_copyFrom_136 : decode cX6_copyFrom 136 = .ok (.return_, 1) := by decide +kernel
theorem dX6_isInPress_0 : decode cX6_isInPress 0 = .ok (.aload_n 0, 1) := by decide +kernel
theorem dX6_isInPress_1 : decode cX6_isInPress 1 = .ok (.getfield 39, 3) := by decide +kernel
theorem dX6_isInPress_4 : decode cX6_isInPress 4 = .ok (.iload_n 1, 1) := by decide +kernel
theorem dX6_isInPress_5 : decode cX6_isInPress 5 = .ok (.ishr, 1) := by decide +kernel
theorem dX6_isInPress_6 : decode cX6_isInPress 6 = .ok (.iconst 1, 1) := by decide +kernel
theorem dX6_isInPress_7 : decode cX6_isInPress 7 = .ok (.iand, 1) := by decide +kernel
theorem dX6_isInPress_8 : decode cX6_isInPress 8 = .ok (.ifCond .eq 7, 3) := by decide +kernel
theorem dX6_isInPress_11 : decode cX6_isInPress 11 = .ok (.iconst 1, 1) := by decide +kernel
theorem dX6_isInPress_12 : decode cX6_isInPress 12 = .ok (.goto 4, 3) := by decide +kernel
theorem dX6_isInPress_15 : decode cX6_isInPress 15 = .ok (.iconst 0, 1) := by decide +kernel
theorem dX6_isInPress_16 : decode cX6_isInPress 16 = .ok (.ireturn, 1) := by decide +kernel
theorem dX6_wholeCells_0 : decode cX6_wholeCells 0 = .ok (.iconst 0, 1) := by decide +kernel
theorem dX6_wholeCells_1 : decode cX6_wholeCells 1 = .ok (.istore_n 1, 1) := by decide +kernel
theorem dX6_wholeCells_2 : decode cX6_wholeCells 2 = .ok (.iconst 0, 1) := by decide +kernel
theorem dX6_wholeCells_3 : decode cX6_wholeCells 3 = .ok (.istore_n 2, 1) := by decide +kernel
theorem dX6_wholeCells_4 : decode cX6_wholeCells 4 = .ok (.iload_n 2, 1) := by decide +kernel
theorem dX6_wholeCells_5 : decode cX6_wholeCells 5 = .ok (.bipush 6, 2) := by decide +kernel
theorem dX6_wholeCells_7 : decode cX6_wholeCells 7 = .ok (.if_icmp .ge 24, 3) := by decide +kernel
theorem dX6_wholeCells_10 : decode cX6_wholeCells 10 = .ok (.iload_n 1, 1) := by decide +kernel
theorem dX6_wholeCells_11 : decode cX6_wholeCells 11 = .ok (.bipush 16, 2) := by decide +kernel
theorem dX6_wholeCells_13 : decode cX6_wholeCells 13 = .ok (.aload_n 0, 1) := by decide +kernel
theorem dX6_wholeCells_14 : decode cX6_wholeCells 14 = .ok (.getfield 9, 3) := by decide +kernel
theorem dX6_wholeCells_17 : decode cX6_wholeCells 17 = .ok (.iload_n 2, 1) := by decide +kernel
theorem dX6_wholeCells_18 : decode cX6_wholeCells 18 = .ok (.iaload, 1) := by decide +kernel
theorem dX6_wholeCells_19 : decode cX6_wholeCells 19 = .ok (.invokestatic 52, 3) := by decide +kernel
theorem dX6_wholeCells_22 : decode cX6_wholeCells 22 = .ok (.isub, 1) := by decide +kernel
theorem dX6_wholeCells_23 : decode cX6_wholeCells 23 = .ok (.iadd, 1) := by decide +kernel
theorem dX6_wholeCells_24 : decode cX6_wholeCells 24 = .ok (.istore_n 1, 1) := by decide +kernel
theorem dX6_wholeCells_25 : decode cX6_wholeCells 25 = .ok (.iinc 2 1, 3) := by decide +kernel
theorem dX6_wholeCells_28 : decode cX6_wholeCells 28 = .ok (.goto (-24), 3) := by decide +kernel
theorem dX6_wholeCells_31 : decode cX6_wholeCells 31 = .ok (.iload_n 1, 1) := by decide +kernel
theorem dX6_wholeCells_32 : decode cX6_wholeCells 32 = .ok (.ireturn, 1) := by decide +kernel
theorem dX6_bareRobes_0 : decode cX6_bareRobes 0 = .ok (.iconst 0, 1) := by decide +kernel
theorem dX6_bareRobes_1 : decode cX6_bareRobes 1 = .ok (.istore_n 1, 1) := by decide +kernel
theorem dX6_bareRobes_2 : decode cX6_bareRobes 2 = .ok (.iconst 0, 1) := by decide +kernel
theorem dX6_bareRobes_3 : decode cX6_bareRobes 3 = .ok (.istore_n 2, 1) := by decide +kernel
theorem dX6_bareRobes_4 : decode cX6_bareRobes 4 = .ok (.iload_n 2, 1) := by decide +kernel
theorem dX6_bareRobes_5 : decode cX6_bareRobes 5 = .ok (.bipush 6, 2) := by decide +kernel
theorem dX6_bareRobes_7 : decode cX6_bareRobes 7 = .ok (.if_icmp .ge 26, 3) := by decide +kernel
theorem dX6_bareRobes_10 : decode cX6_bareRobes 10 = .ok (.aload_n 0, 1) := by decide +kernel
theorem dX6_bareRobes_11 : decode cX6_bareRobes 11 = .ok (.getfield 9, 3) := by decide +kernel
theorem dX6_bareRobes_14 : decode cX6_bareRobes 14 = .ok (.iload_n 2, 1) := by decide +kernel
theorem dX6_bareRobes_15 : decode cX6_bareRobes 15 = .ok (.iaload, 1) := by decide +kernel
theorem dX6_bareRobes_16 : decode cX6_bareRobes 16 = .ok (.ldc 58, 2) := by decide +kernel
theorem dX6_bareRobes_18 : decode cX6_bareRobes 18 = .ok (.if_icmp .ne 9, 3) := by decide +kernel
theorem dX6_bareRobes_21 : decode cX6_bareRobes 21 = .ok (.iload_n 1, 1) := by decide +kernel
theorem dX6_bareRobes_22 : decode cX6_bareRobes 22 = .ok (.iconst 1, 1) := by decide +kernel
theorem dX6_bareRobes_23 : decode cX6_bareRobes 23 = .ok (.iload_n 2, 1) := by decide +kernel
theorem dX6_bareRobes_24 : decode cX6_bareRobes 24 = .ok (.ishl, 1) := by decide +kernel
theorem dX6_bareRobes_25 : decode cX6_bareRobes 25 = .ok (.ior, 1) := by decide +kernel
theorem dX6_bareRobes_26 : decode cX6_bareRobes 26 = .ok (.istore_n 1, 1) := by decide +kernel
theorem dX6_bareRobes_27 : decode cX6_bareRobes 27 = .ok (.iinc 2 1, 3) := by decide +kernel
theorem dX6_bareRobes_30 : decode cX6_bareRobes 30 = .ok (.goto (-26), 3) := by decide +kernel
theorem dX6_bareRobes_33 : decode cX6_bareRobes 33 = .ok (.iload_n 1, 1) := by decide +kernel
theorem dX6_bareRobes_34 : decode cX6_bareRobes 34 = .ok (.ireturn, 1) := by decide +kernel
theorem dX6_falseSayings_0 : decode cX6_falseSayings 0 = .ok (.iconst 0, 1) := by decide +kernel
theorem dX6_falseSayings_1 : decode cX6_falseSayings 1 = .ok (.istore_n 1, 1) := by decide +kernel
theorem dX6_falseSayings_2 : decode cX6_falseSayings 2 = .ok (.iconst 0, 1) := by decide +kernel
theorem dX6_falseSayings_3 : decode cX6_falseSayings 3 = .ok (.istore_n 2, 1) := by decide +kernel
theorem dX6_falseSayings_4 : decode cX6_falseSayings 4 = .ok (.iload_n 2, 1) := by decide +kernel
theorem dX6_falseSayings_5 : decode cX6_falseSayings 5 = .ok (.bipush 10, 2) := by decide +kernel
theorem dX6_falseSayings_7 : decode cX6_falseSayings 7 = .ok (.if_icmp .ge 24, 3) := by decide +kernel
theorem dX6_falseSayings_10 : decode cX6_falseSayings 10 = .ok (.aload_n 0, 1) := by decide +kernel
theorem dX6_falseSayings_11 : decode cX6_falseSayings 11 = .ok (.getfield 24, 3) := by decide +kernel
theorem dX6_falseSayings_14 : decode cX6_falseSayings 14 = .ok (.iload_n 2, 1) := by decide +kernel
theorem dX6_falseSayings_15 : decode cX6_falseSayings 15 = .ok (.iaload, 1) := by decide +kernel
theorem dX6_falseSayings_16 : decode cX6_falseSayings 16 = .ok (.ifCond .le 9, 3) := by decide +kernel
theorem dX6_falseSayings_19 : decode cX6_falseSayings 19 = .ok (.iload_n 1, 1) := by decide +kernel
theorem dX6_falseSayings_20 : decode cX6_falseSayings 20 = .ok (.iconst 1, 1) := by decide +kernel
theorem dX6_falseSayings_21 : decode cX6_falseSayings 21 = .ok (.iload_n 2, 1) := by decide +kernel
theorem dX6_falseSayings_22 : decode cX6_falseSayings 22 = .ok (.ishl, 1) := by decide +kernel
theorem dX6_falseSayings_23 : decode cX6_falseSayings 23 = .ok (.ior, 1) := by decide +kernel
theorem dX6_falseSayings_24 : decode cX6_falseSayings 24 = .ok (.istore_n 1, 1) := by decide +kernel
theorem dX6_falseSayings_25 : decode cX6_falseSayings 25 = .ok (.iinc 2 1, 3) := by decide +kernel
theorem dX6_falseSayings_28 : decode cX6_falseSayings 28 = .ok (.goto (-24), 3) := by decide +kernel
theorem dX6_falseSayings_31 : decode cX6_falseSayings 31 = .ok (.iload_n 1, 1) := by decide +kernel
theorem dX6_falseSayings_32 : decode cX6_falseSayings 32 = .ok (.ireturn, 1) := by decide +kernel
theorem dX6_sayingsIn_0 : decode cX6_sayingsIn 0 = .ok (.iconst 0, 1) := by decide +kernel
theorem dX6_sayingsIn_1 : decode cX6_sayingsIn 1 = .ok (.istore_n 2, 1) := by decide +kernel
theorem dX6_sayingsIn_2 : decode cX6_sayingsIn 2 = .ok (.iconst 0, 1) := by decide +kernel
theorem dX6_sayingsIn_3 : decode cX6_sayingsIn 3 = .ok (.istore_n 3, 1) := by decide +kernel
theorem dX6_sayingsIn_4 : decode cX6_sayingsIn 4 = .ok (.iload_n 3, 1) := by decide +kernel
theorem dX6_sayingsIn_5 : decode cX6_sayingsIn 5 = .ok (.bipush 10, 2) := by decide +kernel
theorem dX6_sayingsIn_7 : decode cX6_sayingsIn 7 = .ok (.if_icmp .ge 25, 3) := by decide +kernel
theorem dX6_sayingsIn_10 : decode cX6_sayingsIn 10 = .ok (.aload_n 0, 1) := by decide +kernel
theorem dX6_sayingsIn_11 : decode cX6_sayingsIn 11 = .ok (.getfield 18, 3) := by decide +kernel
theorem dX6_sayingsIn_14 : decode cX6_sayingsIn 14 = .ok (.iload_n 3, 1) := by decide +kernel
theorem dX6_sayingsIn_15 : decode cX6_sayingsIn 15 = .ok (.iaload, 1) := by decide +kernel
theorem dX6_sayingsIn_16 : decode cX6_sayingsIn 16 = .ok (.iload_n 1, 1) := by decide +kernel
theorem dX6_sayingsIn_17 : decode cX6_sayingsIn 17 = .ok (.if_icmp .ne 9, 3) := by decide +kernel
theorem dX6_sayingsIn_20 : decode cX6_sayingsIn 20 = .ok (.iload_n 2, 1) := by decide +kernel
theorem dX6_sayingsIn_21 : decode cX6_sayingsIn 21 = .ok (.iconst 1, 1) := by decide +kernel
theorem dX6_sayingsIn_22 : decode cX6_sayingsIn 22 = .ok (.iload_n 3, 1) := by decide +kernel
theorem dX6_sayingsIn_23 : decode cX6_sayingsIn 23 = .ok (.ishl, 1) := by decide +kernel
theorem dX6_sayingsIn_24 : decode cX6_sayingsIn 24 = .ok (.ior, 1) := by decide +kernel
theorem dX6_sayingsIn_25 : decode cX6_sayingsIn 25 = .ok (.istore_n 2, 1) := by decide +kernel
theorem dX6_sayingsIn_26 : decode cX6_sayingsIn 26 = .ok (.iinc 3 1, 3) := by decide +kernel
theorem dX6_sayingsIn_29 : decode cX6_sayingsIn 29 = .ok (.goto (-25), 3) := by decide +kernel
theorem dX6_sayingsIn_32 : decode cX6_sayingsIn 32 = .ok (.iload_n 2, 1) := by decide +kernel
theorem dX6_sayingsIn_33 : decode cX6_sayingsIn 33 = .ok (.ireturn, 1) := by decide +kernel
theorem dX6_shapeOfAll_0 : decode cX6_shapeOfAll 0 = .ok (.iconst 0, 1) := by decide +kernel
theorem dX6_shapeOfAll_1 : decode cX6_shapeOfAll 1 = .ok (.istore_n 2, 1) := by decide +kernel
theorem dX6_shapeOfAll_2 : decode cX6_shapeOfAll 2 = .ok (.iconst 0, 1) := by decide +kernel
theorem dX6_shapeOfAll_3 : decode cX6_shapeOfAll 3 = .ok (.istore_n 3, 1) := by decide +kernel
theorem dX6_shapeOfAll_4 : decode cX6_shapeOfAll 4 = .ok (.iload_n 3, 1) := by decide +kernel
theorem dX6_shapeOfAll_5 : decode cX6_shapeOfAll 5 = .ok (.bipush 10, 2) := by decide +kernel
theorem dX6_shapeOfAll_7 : decode cX6_shapeOfAll 7 = .ok (.if_icmp .ge 26, 3) := by decide +kernel
theorem dX6_shapeOfAll_10 : decode cX6_shapeOfAll 10 = .ok (.iload_n 1, 1) := by decide +kernel
theorem dX6_shapeOfAll_11 : decode cX6_shapeOfAll 11 = .ok (.iload_n 3, 1) := by decide +kernel
theorem dX6_shapeOfAll_12 : decode cX6_shapeOfAll 12 = .ok (.ishr, 1) := by decide +kernel
theorem dX6_shapeOfAll_13 : decode cX6_shapeOfAll 13 = .ok (.iconst 1, 1) := by decide +kernel
theorem dX6_shapeOfAll_14 : decode cX6_shapeOfAll 14 = .ok (.iand, 1) := by decide +kernel
theorem dX6_shapeOfAll_15 : decode cX6_shapeOfAll 15 = .ok (.ifCond .eq 12, 3) := by decide +kernel
theorem dX6_shapeOfAll_18 : decode cX6_shapeOfAll 18 = .ok (.iload_n 2, 1) := by decide +kernel
theorem dX6_shapeOfAll_19 : decode cX6_shapeOfAll 19 = .ok (.aload_n 0, 1) := by decide +kernel
theorem dX6_shapeOfAll_20 : decode cX6_shapeOfAll 20 = .ok (.getfield 21, 3) := by decide +kernel
theorem dX6_shapeOfAll_23 : decode cX6_shapeOfAll 23 = .ok (.iload_n 3, 1) := by decide +kernel
theorem dX6_shapeOfAll_24 : decode cX6_shapeOfAll 24 = .ok (.iaload, 1) := by decide +kernel
theorem dX6_shapeOfAll_25 : decode cX6_shapeOfAll 25 = .ok (.ior, 1) := by decide +kernel
theorem dX6_shapeOfAll_26 : decode cX6_shapeOfAll 26 = .ok (.istore_n 2, 1) := by decide +kernel
theorem dX6_shapeOfAll_27 : decode cX6_shapeOfAll 27 = .ok (.iinc 3 1, 3) := by decide +kernel
theorem dX6_shapeOfAll_30 : decode cX6_shapeOfAll 30 = .ok (.goto (-26), 3) := by decide +kernel
theorem dX6_shapeOfAll_33 : decode cX6_shapeOfAll 33 = .ok (.iload_n 2, 1) := by decide +kernel
theorem dX6_shapeOfAll_34 : decode cX6_shapeOfAll 34 = .ok (.ireturn, 1) := by decide +kernel
theorem dX6_addSight_0 : decode cX6_addSight 0 = .ok (.aload_n 0, 1) := by decide +kernel
theorem dX6_addSight_1 : decode cX6_addSight 1 = .ok (.getfield 49, 3) := by decide +kernel
theorem dX6_addSight_4 : decode cX6_addSight 4 = .ok (.bipush 8, 2) := by decide +kernel
theorem dX6_addSight_6 : decode cX6_addSight 6 = .ok (.if_icmp .lt 4, 3) := by decide +kernel
theorem dX6_addSight_9 : decode cX6_addSight 9 = .ok (.return_, 1) := by decide +kernel
theorem dX6_addSight_10 : decode cX6_addSight 10 = .ok (.iconst 1, 1) := by decide +kernel
theorem dX6_addSight_11 : decode cX6_addSight 11 = .ok (.aload_n 0, 1) := by decide +kernel
theorem dX6_addSight_12 : decode cX6_addSight 12 = .ok (.getfield 49, 3) := by decide +kernel
theorem dX6_addSight_15 : decode cX6_addSight 15 = .ok (.ishl, 1) := by decide +kernel
theorem dX6_addSight_16 : decode cX6_addSight 16 = .ok (.istore_n 3, 1) := by decide +kernel
theorem dX6_addSight_17 : decode cX6_addSight 17 = .ok (.aload_n 0, 1) := by decide +kernel
theorem dX6_addSight_18 : decode cX6_addSight 18 = .ok (.getfield 30, 3) := by decide +kernel
theorem dX6_addSight_21 : decode cX6_addSight 21 = .ok (.aload_n 0, 1) := by decide +kernel
theorem dX6_addSight_22 : decode cX6_addSight 22 = .ok (.getfield 49, 3) := by decide +kernel
theorem dX6_addSight_25 : decode cX6_addSight 25 = .ok (.iload_n 1, 1) := by decide +kernel
theorem dX6_addSight_26 : decode cX6_addSight 26 = .ok (.iastore, 1) := by decide +kernel
theorem dX6_addSight_27 : decode cX6_addSight 27 = .ok (.aload_n 0, 1) := by decide +kernel
theorem dX6_addSight_28 : decode cX6_addSight 28 = .ok (.iload_n 2, 1) := by decide +kernel
theorem dX6_addSight_29 : decode cX6_addSight 29 = .ok (.ifCond .eq 12, 3) := by decide +kernel
theorem dX6_addSight_32 : decode cX6_addSight 32 = .ok (.aload_n 0, 1) := by decide +kernel
theorem dX6_addSight_33 : decode cX6_addSight 33 = .ok (.getfield 46, 3) := by decide +kernel
theorem dX6_addSight_36 : decode cX6_addSight 36 = .ok (.iload_n 3, 1) := by decide +kernel
theorem dX6_addSight_37 : decode cX6_addSight 37 = .ok (.ior, 1) := by decide +kernel
theorem dX6_addSight_38 : decode cX6_addSight 38 = .ok (.goto 11, 3) := by decide +kernel
theorem dX6_addSight_41 : decode cX6_addSight 41 = .ok (.aload_n 0, 1) := by decide +kernel
theorem dX6_addSight_42 : decode cX6_addSight 42 = .ok (.getfield 46, 3) := by decide +kernel
theorem dX6_addSight_45 : decode cX6_addSight 45 = .ok (.iload_n 3, 1) := by decide +kernel
theorem dX6_addSight_46 : decode cX6_addSight 46 = .ok (.iconst (-1), 1) := by decide +kernel
theorem dX6_addSight_47 : decode cX6_addSight 47 = .ok (.ixor, 1) := by decide +kernel
theorem dX6_addSight_48 : decode cX6_addSight 48 = .ok (.iand, 1) := by decide +kernel
theorem dX6_addSight_49 : decode cX6_addSight 49 = .ok (.putfield 46, 3) := by decide +kernel
theorem dX6_addSight_52 : decode cX6_addSight 52 = .ok (.aload_n 0, 1) := by decide +kernel
theorem dX6_addSight_53 : decode cX6_addSight 53 = .ok (.dup, 1) := by decide +kernel
theorem dX6_addSight_54 : decode cX6_addSight 54 = .ok (.getfield 49, 3) := by decide +kernel
theorem dX6_addSight_57 : decode cX6_addSight 57 = .ok (.iconst 1, 1) := by decide +kernel
theorem dX6_addSight_58 : decode cX6_addSight 58 = .ok (.iadd, 1) := by decide +kernel
theorem dX6_addSight_59 : decode cX6_addSight 59 = .ok (.putfield 49, 3) := by decide +kernel
theorem dX6_addSight_62 : decode cX6_addSight 62 = .ok (.return_, 1) := by decide +kernel
theorem dX6_fitsSights_0 : decode cX6_fitsSights 0 = .ok (.iconst 0, 1) := by decide +kernel
theorem dX6_fitsSights_1 : decode cX6_fitsSights 1 = .ok (.istore_n 2, 1) := by decide +kernel
theorem dX6_fitsSights_2 : decode cX6_fitsSights 2 = .ok (.iload_n 2, 1) := by decide +kernel
theorem dX6_fitsSights_3 : decode cX6_fitsSights 3 = .ok (.aload_n 0, 1) := by decide +kernel
theorem dX6_fitsSights_4 : decode cX6_fitsSights 4 = .ok (.getfield 49, 3) := by decide +kernel
theorem dX6_fitsSights_7 : decode cX6_fitsSights 7 = .ok (.if_icmp .ge 54, 3) := by decide +kernel
theorem dX6_fitsSights_10 : decode cX6_fitsSights 10 = .ok (.iload_n 2, 1) := by decide +kernel
theorem dX6_fitsSights_11 : decode cX6_fitsSights 11 = .ok (.bipush 8, 2) := by decide +kernel
theorem dX6_fitsSights_13 : decode cX6_fitsSights 13 = .ok (.if_icmp .ge 48, 3) := by decide +kernel
theorem dX6_fitsSights_16 : decode cX6_fitsSights 16 = .ok (.aload_n 0, 1) := by decide +kernel
theorem dX6_fitsSights_17 : decode cX6_fitsSights 17 = .ok (.getfield 46, 3) := by decide +kernel
theorem dX6_fitsSights_20 : decode cX6_fitsSights 20 = .ok (.iload_n 2, 1) := by decide +kernel
theorem dX6_fitsSights_21 : decode cX6_fitsSights 21 = .ok (.ishr, 1) := by decide +kernel
theorem dX6_fitsSights_22 : decode cX6_fitsSights 22 = .ok (.iconst 1, 1) := by decide +kernel
theorem dX6_fitsSights_23 : decode cX6_fitsSights 23 = .ok (.iand, 1) := by decide +kernel
theorem dX6_fitsSights_24 : decode cX6_fitsSights 24 = .ok (.ifCond .eq 7, 3) := by decide +kernel
theorem dX6_fitsSights_27 : decode cX6_fitsSights 27 = .ok (.iconst 1, 1) := by decide +kernel
theorem dX6_fitsSights_28 : decode cX6_fitsSights 28 = .ok (.goto 4, 3) := by decide +kernel
theorem dX6_fitsSights_31 : decode cX6_fitsSights 31 = .ok (.iconst 0, 1) := by decide +kernel
theorem dX6_fitsSights_32 : decode cX6_fitsSights 32 = .ok (.istore_n 3, 1) := by decide +kernel
theorem dX6_fitsSights_33 : decode cX6_fitsSights 33 = .ok (.aload_n 0, 1) := by decide +kernel
theorem dX6_fitsSights_34 : decode cX6_fitsSights 34 = .ok (.getfield 30, 3) := by decide +kernel
theorem dX6_fitsSights_37 : decode cX6_fitsSights 37 = .ok (.iload_n 2, 1) := by decide +kernel
theorem dX6_fitsSights_38 : decode cX6_fitsSights 38 = .ok (.iaload, 1) := by decide +kernel
theorem dX6_fitsSights_39 : decode cX6_fitsSights 39 = .ok (.iload_n 1, 1) := by decide +kernel
theorem dX6_fitsSights_40 : decode cX6_fitsSights 40 = .ok (.iand, 1) := by decide +kernel
theorem dX6_fitsSights_41 : decode cX6_fitsSights 41 = .ok (.ifCond .eq 7, 3) := by decide +kernel
theorem dX6_fitsSights_44 : decode cX6_fitsSights 44 = .ok (.iconst 1, 1) := by decide +kernel
theorem dX6_fitsSights_45 : decode cX6_fitsSights 45 = .ok (.goto 4, 3) := by decide +kernel
theorem dX6_fitsSights_48 : decode cX6_fitsSights 48 = .ok (.iconst 0, 1) := by decide +kernel
theorem dX6_fitsSights_49 : decode cX6_fitsSights 49 = .ok (.iload_n 3, 1) := by decide +kernel
theorem dX6_fitsSights_50 : decode cX6_fitsSights 50 = .ok (.if_icmp .eq 5, 3) := by decide +kernel
theorem dX6_fitsSights_53 : decode cX6_fitsSights 53 = .ok (.iconst 0, 1) := by decide +kernel
theorem dX6_fitsSights_54 : decode cX6_fitsSights 54 = .ok (.ireturn, 1) := by decide +kernel
theorem dX6_fitsSights_55 : decode cX6_fitsSights 55 = .ok (.iinc 2 1, 3) := by decide +kernel
theorem dX6_fitsSights_58 : decode cX6_fitsSights 58 = .ok (.goto (-56), 3) := by decide +kernel
theorem dX6_fitsSights_61 : decode cX6_fitsSights 61 = .ok (.iconst 1, 1) := by decide +kernel
theorem dX6_fitsSights_62 : decode cX6_fitsSights 62 = .ok (.ireturn, 1) := by decide +kernel
