theorem dX8_init_0 : decode cX8_init 0 = .ok (.aload_n 0, 1) := by decide +kernel
theorem dX8_init_1 : decode cX8_init 1 = .ok (.invokespecial 1, 3) := by decide +kernel
theorem dX8_init_4 : decode cX8_init 4 = .ok (.aload_n 0, 1) := by decide +kernel
theorem dX8_init_5 : decode cX8_init 5 = .ok (.bipush 24, 2) := by decide +kernel
theorem dX8_init_7 : decode cX8_init 7 = .ok (.newarray .int, 2) := by decide +kernel
theorem dX8_init_9 : decode cX8_init 9 = .ok (.putfield 7, 3) := by decide +kernel
theorem dX8_init_12 : decode cX8_init 12 = .ok (.aload_n 0, 1) := by decide +kernel
theorem dX8_init_13 : decode cX8_init 13 = .ok (.bipush 24, 2) := by decide +kernel
theorem dX8_init_15 : decode cX8_init 15 = .ok (.newarray .int, 2) := by decide +kernel
theorem dX8_init_17 : decode cX8_init 17 = .ok (.putfield 13, 3) := by decide +kernel
theorem dX8_init_20 : decode cX8_init 20 = .ok (.aload_n 0, 1) := by decide +kernel
theorem dX8_init_21 : decode cX8_init 21 = .ok (.bipush 10, 2) := by decide +kernel
theorem dX8_init_23 : decode cX8_init 23 = .ok (.newarray .int, 2) := by decide +kernel
theorem dX8_init_25 : decode cX8_init 25 = .ok (.putfield 16, 3) := by decide +kernel
theorem dX8_init_28 : decode cX8_init 28 = .ok (.aload_n 0, 1) := by decide +kernel
theorem dX8_init_29 : decode cX8_init 29 = .ok (.bipush 10, 2) := by decide +kernel
theorem dX8_init_31 : decode cX8_init 31 = .ok (.newarray .int, 2) := by decide +kernel
theorem dX8_init_33 : decode cX8_init 33 = .ok (.putfield 19, 3) := by decide +kernel
theorem dX8_init_36 : decode cX8_init 36 = .ok (.aload_n 0, 1) := by decide +kernel
theorem dX8_init_37 : decode cX8_init 37 = .ok (.iconst 5, 1) := by decide +kernel
theorem dX8_init_38 : decode cX8_init 38 = .ok (.newarray .int, 2) := by decide +kernel
theorem dX8_init_40 : decode cX8_init 40 = .ok (.putfield 22, 3) := by decide +kernel
theorem dX8_init_43 : decode cX8_init 43 = .ok (.aload_n 0, 1) := by decide +kernel
theorem dX8_init_44 : decode cX8_init 44 = .ok (.bipush 16, 2) := by decide +kernel
theorem dX8_init_46 : decode cX8_init 46 = .ok (.newarray .int, 2) := by decide +kernel
theorem dX8_init_48 : decode cX8_init 48 = .ok (.putfield 25, 3) := by decide +kernel
theorem dX8_init_51 : decode cX8_init 51 = .ok (.aload_n 0, 1) := by decide +kernel
theorem dX8_init_52 : decode cX8_init 52 = .ok (.bipush 60, 2) := by decide +kernel
theorem dX8_init_54 : decode cX8_init 54 = .ok (.newarray .int, 2) := by decide +kernel
theorem dX8_init_56 : decode cX8_init 56 = .ok (.putfield 28, 3) := by decide +kernel
theorem dX8_init_59 : decode cX8_init 59 = .ok (.aload_n 0, 1) := by decide +kernel
theorem dX8_init_60 : decode cX8_init 60 = .ok (.bipush 17, 2) := by decide +kernel
theorem dX8_init_62 : decode cX8_init 62 = .ok (.newarray .int, 2) := by decide +kernel
theorem dX8_init_64 : decode cX8_init 64 = .ok (.putfield 31, 3) := by decide +kernel
theorem dX8_init_67 : decode cX8_init 67 = .ok (.aload_n 0, 1) := by decide +kernel
theorem dX8_init_68 : decode cX8_init 68 = .ok (.bipush 10, 2) := by decide +kernel
theorem dX8_init_70 : decode cX8_init 70 = .ok (.newarray .int, 2) := by decide +kernel
theorem dX8_init_72 : decode cX8_init 72 = .ok (.putfield 34, 3) := by decide +kernel
theorem dX8_init_75 : decode cX8_init 75 = .ok (.aload_n 0, 1) := by decide +kernel
theorem dX8_init_76 : decode cX8_init 76 = .ok (.bipush 17, 2) := by decide +kernel
theorem dX8_init_78 : decode cX8_init 78 = .ok (.newarray .int, 2) := by decide +kernel
theorem dX8_init_80 : decode cX8_init 80 = .ok (.putfield 37, 3) := by decide +kernel
theorem dX8_init_83 : decode cX8_init 83 = .ok (.aload_n 0, 1) := by decide +kernel
theorem dX8_init_84 : decode cX8_init 84 = .ok (.bipush 40, 2) := by decide +kernel
theorem dX8_init_86 : decode cX8_init 86 = .ok (.newarray .boolean, 2) := by decide +kernel
theorem dX8_init_88 : decode cX8_init 88 = .ok (.putfield 40, 3) := by decide +kernel
theorem dX8_init_91 : decode cX8_init 91 = .ok (.aload_n 0, 1) := by decide +kernel
theorem dX8_init_92 : decode cX8_init 92 = .ok (.bipush 17, 2) := by decide +kernel
theorem dX8_init_94 : decode cX8_init 94 = .ok (.newarray .long, 2) := by decide +kernel
theorem dX8_init_96 : decode cX8_init 96 = .ok (.putfield 44, 3) := by decide +kernel
theorem dX8_init_99 : decode cX8_init 99 = .ok (.aload_n 0, 1) := by decide +kernel
theorem dX8_init_100 : decode cX8_init 100 = .ok (.sipush 160, 3) := by decide +kernel
theorem dX8_init_103 : decode cX8_init 103 = .ok (.newarray .int, 2) := by decide +kernel
theorem dX8_init_105 : decode cX8_init 105 = .ok (.putfield 48, 3) := by decide +kernel
theorem dX8_init_108 : decode cX8_init 108 = .ok (.aload_n 0, 1) := by decide +kernel
theorem dX8_init_109 : decode cX8_init 109 = .ok (.iconst 2, 1) := by decide +kernel
theorem dX8_init_110 : decode cX8_init 110 = .ok (.newarray .boolean, 2) := by decide +kernel
theorem dX8_init_112 : decode cX8_init 112 = .ok (.putfield 51, 3) := by decide +kernel
theorem dX8_init_115 : decode cX8_init 115 = .ok (.aload_n 0, 1) := by decide +kernel
theorem dX8_init_116 : decode cX8_init 116 = .ok (.iconst 0, 1) := by decide +kernel
theorem dX8_init_117 : decode cX8_init 117 = .ok (.putfield 54, 3) := by decide +kernel
theorem dX8_init_120 : decode cX8_init 120 = .ok (.return_, 1) := by decide +kernel
theorem dX8_in_0 : decode cX8_in 0 = .ok (.iload_n 0, 1) := by decide +kernel
theorem dX8_in_1 : decode cX8_in 1 = .ok (.iload_n 1, 1) := by decide +kernel
theorem dX8_in_2 : decode cX8_in 2 = .ok (.if_icmp .lt 12, 3) := by decide +kernel
theorem dX8_in_5 : decode cX8_in 5 = .ok (.iload_n 0, 1) := by decide +kernel
theorem dX8_in_6 : decode cX8_in 6 = .ok (.iload_n 2, 1) := by decide +kernel
theorem dX8_in_7 : decode cX8_in 7 = .ok (.if_icmp .gt 7, 3) := by decide +kernel
theorem dX8_in_10 : decode cX8_in 10 = .ok (.iconst 1, 1) := by decide +kernel
theorem dX8_in_11 : decode cX8_in 11 = .ok (.goto 4, 3) := by decide +kernel
theorem dX8_in_14 : decode cX8_in 14 = .ok (.iconst 0, 1) := by decide +kernel
theorem dX8_in_15 : decode cX8_in 15 = .ok (.ireturn, 1) := by decide +kernel
theorem dX8_has_0 : decode cX8_has 0 = .ok (.iload_n 0, 1) := by decide +kernel
theorem dX8_has_1 : decode cX8_has 1 = .ok (.iload_n 1, 1) := by decide +kernel
theorem dX8_has_2 : decode cX8_has 2 = .ok (.ishr, 1) := by decide +kernel
theorem dX8_has_3 : decode cX8_has 3 = .ok (.iconst 1, 1) := by decide +kernel
theorem dX8_has_4 : decode cX8_has 4 = .ok (.iand, 1) := by decide +kernel
theorem dX8_has_5 : decode cX8_has 5 = .ok (.iconst 1, 1) := by decide +kernel
theorem dX8_has_6 : decode cX8_has 6 = .ok (.if_icmp .ne 7, 3) := by decide +kernel
theorem dX8_has_9 : decode cX8_has 9 = .ok (.iconst 1, 1) := by decide +kernel
theorem dX8_has_10 : decode cX8_has 10 = .ok (.goto 4, 3) := by decide +kernel
theorem dX8_has_13 : decode cX8_has 13 = .ok (.iconst 0, 1) := by decide +kernel
theorem dX8_has_14 : decode cX8_has 14 = .ok (.ireturn, 1) := by decide +kernel
theorem dX8_bits_0 : decode cX8_bits 0 = .ok (.iconst 0, 1) := by decide +kernel
theorem dX8_bits_1 : decode cX8_bits 1 = .ok (.istore_n 1, 1) := by decide +kernel
theorem dX8_bits_2 : decode cX8_bits 2 = .ok (.iconst 0, 1) := by decide +kernel
theorem dX8_bits_3 : decode cX8_bits 3 = .ok (.istore_n 2, 1) := by decide +kernel
theorem dX8_bits_4 : decode cX8_bits 4 = .ok (.iload_n 2, 1) := by decide +kernel
theorem dX8_bits_5 : decode cX8_bits 5 = .ok (.bipush 16, 2) := by decide +kernel
theorem dX8_bits_7 : decode cX8_bits 7 = .ok (.if_icmp .ge 17, 3) := by decide +kernel
theorem dX8_bits_10 : decode cX8_bits 10 = .ok (.iload_n 1, 1) := by decide +kernel
theorem dX8_bits_11 : decode cX8_bits 11 = .ok (.iload_n 0, 1) := by decide +kernel
theorem dX8_bits_12 : decode cX8_bits 12 = .ok (.iload_n 2, 1) := by decide +kernel
theorem dX8_bits_13 : decode cX8_bits 13 = .ok (.ishr, 1) := by decide +kernel
theorem dX8_bits_14 : decode cX8_bits 14 = .ok (.iconst 1, 1) := by decide +kernel
theorem dX8_bits_15 : decode cX8_bits 15 = .ok (.iand, 1) := by decide +kernel
theorem dX8_bits_16 : decode cX8_bits 16 = .ok (.iadd, 1) := by decide +kernel
theorem dX8_bits_17 : decode cX8_bits 17 = .ok (.istore_n 1, 1) := by decide +kernel
theorem dX8_bits_18 : decode cX8_bits 18 = .ok (.iinc 2 1, 3) := by decide +kernel
theorem dX8_bits_21 : decode cX8_bits 21 = .ok (.goto (-17), 3) := by decide +kernel
theorem dX8_bits_24 : decode cX8_bits 24 = .ok (.iload_n 1, 1) := by decide +kernel
theorem dX8_bits_25 : decode cX8_bits 25 = .ok (.ireturn, 1) := by decide +kernel
theorem dX8_isRobe_0 : decode cX8_isRobe 0 = .ok (.iload_n 0, 1) := by decide +kernel
theorem dX8_isRobe_1 : decode cX8_isRobe 1 = .ok (.iconst 0, 1) := by decide +kernel
theorem dX8_isRobe_2 : decode cX8_isRobe 2 = .ok (.iconst 5, 1) := by decide +kernel
theorem dX8_isRobe_3 : decode cX8_isRobe 3 = .ok (.invokestatic 58, 3) := by decide +kernel
theorem dX8_isRobe_6 : decode cX8_isRobe 6 = .ok (.ireturn, 1) := by decide +kernel
theorem dX8_isSaying_0 : decode cX8_isSaying 0 = .ok (.iload_n 0, 1) := by decide +kernel
theorem dX8_isSaying_1 : decode cX8_isSaying 1 = .ok (.iconst 0, 1) := by decide +kernel
theorem dX8_isSaying_2 : decode cX8_isSaying 2 = .ok (.bipush 9, 2) := by decide +kernel
theorem dX8_isSaying_4 : decode cX8_isSaying 4 = .ok (.invokestatic 58, 3) := by decide +kernel
theorem dX8_isSaying_7 : decode cX8_isSaying 7 = .ok (.ireturn, 1) := by decide +kernel
theorem dX8_robe_0 : decode cX8_robe 0 = .ok (.iload_n 1, 1) := by decide +kernel
theorem dX8_robe_1 : decode cX8_robe 1 = .ok (.invokestatic 62, 3) := by decide +kernel
theorem dX8_robe_4 : decode cX8_robe 4 = .ok (.ifCond .ne 5, 3) := by decide +kernel
theorem dX8_robe_7 : decode cX8_robe 7 = .ok (.iconst (-1), 1) := by decide +kernel
theorem dX8_robe_8 : decode cX8_robe 8 = .ok (.ireturn, 1) := by decide +kernel
theorem dX8_robe_9 : decode cX8_robe 9 = .ok (.iload_n 2, 1) := by decide +kernel
theorem dX8_robe_10 : decode cX8_robe 10 = .ok (.iconst 0, 1) := by decide +kernel
theorem dX8_robe_11 : decode cX8_robe 11 = .ok (.ldc 66, 2) := by decide +kernel
theorem dX8_robe_13 : decode cX8_robe 13 = .ok (.invokestatic 58, 3) := by decide +kernel
theorem dX8_robe_16 : decode cX8_robe 16 = .ok (.ifCond .eq 13, 3) := by decide +kernel
theorem dX8_robe_19 : decode cX8_robe 19 = .ok (.iload_n 3, 1) := by decide +kernel
theorem dX8_robe_20 : decode cX8_robe 20 = .ok (.iconst 0, 1) := by decide +kernel
theorem dX8_robe_21 : decode cX8_robe 21 = .ok (.bipush 9, 2) := by decide +kernel
theorem dX8_robe_23 : decode cX8_robe 23 = .ok (.invokestatic 58, 3) := by decide +kernel
theorem dX8_robe_26 : decode cX8_robe 26 = .ok (.ifCond .ne 6, 3) := by decide +kernel
theorem dX8_robe_29 : decode cX8_robe 29 = .ok (.bipush (-2), 2) := by decide +kernel
theorem dX8_robe_31 : decode cX8_robe 31 = .ok (.ireturn, 1) := by decide +kernel
theorem dX8_robe_32 : decode cX8_robe 32 = .ok (.aload_n 0, 1) := by decide +kernel
theorem dX8_robe_33 : decode cX8_robe 33 = .ok (.getfield 7, 3) := by decide +kernel
theorem dX8_robe_36 : decode cX8_robe 36 = .ok (.iload_n 1, 1) := by decide +kernel
theorem dX8_robe_37 : decode cX8_robe 37 = .ok (.iaload, 1) := by decide +kernel
theorem dX8_robe_38 : decode cX8_robe 38 = .ok (.istore 4, 2) := by decide +kernel
theorem dX8_robe_40 : decode cX8_robe 40 = .ok (.aload_n 0, 1) := by decide +kernel
theorem dX8_robe_41 : decode cX8_robe 41 = .ok (.getfield 7, 3) := by decide +kernel
theorem dX8_robe_44 : decode cX8_robe 44 = .ok (.iload_n 1, 1) := by decide +kernel
theorem dX8_robe_45 : decode cX8_robe 45 = .ok (.iload_n 2, 1) := by decide +kernel
theorem dX8_robe_46 : decode cX8_robe 46 = .ok (.iastore, 1) := by decide +kernel
theorem dX8_robe_47 : decode cX8_robe 47 = .ok (.aload_n 0, 1) := by decide +kernel
theorem dX8_robe_48 : decode cX8_robe 48 = .ok (.getfield 7, 3) := by decide +kernel
theorem dX8_robe_51 : decode cX8_robe 51 = .ok (.bipush 6, 2) := by decide +kernel
theorem dX8_robe_53 : decode cX8_robe 53 = .ok (.iload_n 1, 1) := by decide +kernel
theorem dX8_robe_54 : decode cX8_robe 54 = .ok (.iadd, 1) := by decide +kernel
theorem dX8_robe_55 : decode cX8_robe 55 = .ok (.iload_n 3, 1) := by decide +kernel
theorem dX8_robe_56 : decode cX8_robe 56 = .ok (.iastore, 1) := by decide +kernel
theorem dX8_robe_57 : decode cX8_robe 57 = .ok (.aload_n 0, 1) := by decide +kernel
theorem dX8_robe_58 : decode cX8_robe 58 = .ok (.getfield 7, 3) := by decide +kernel
theorem dX8_robe_61 : decode cX8_robe 61 = .ok (.bipush 22, 2) := by decide +kernel
theorem dX8_robe_63 : decode cX8_robe 63 = .ok (.dup2, 1) := by decide +kernel
theorem dX8_robe_64 : decode cX8_robe 64 = .ok (.iaload, 1) := by decide +kernel
theorem dX8_robe_65 : decode cX8_robe 65 = .ok (.iconst 1, 1) := by decide +kernel
theorem dX8_robe_66 : decode cX8_robe 66 = .ok (.iload_n 1, 1) := by decide +kernel
theorem dX8_robe_67 : decode cX8_robe 67 = .ok (.ishl, 1) := by decide +kernel
theorem dX8_robe_68 : decode cX8_robe 68 = .ok (.iconst (-1), 1) := by decide +kernel
theorem dX8_robe_69 : decode cX8_robe 69 = .ok (.ixor, 1) := by decide +kernel
theorem dX8_robe_70 : decode cX8_robe 70 = .ok (.iand, 1) := by decide +kernel
theorem dX8_robe_71 : decode cX8_robe 71 = .ok (.iastore, 1) := by decide +kernel
theorem dX8_robe_72 : decode cX8_robe 72 = .ok (.iload 4, 2) := by decide +kernel
theorem dX8_robe_74 : decode cX8_robe 74 = .ok (.ireturn, 1) := by decide +kernel
theorem dX8_saying_0 : decode cX8_saying 0 = .ok (.iload_n 1, 1) := by decide +kernel
theorem dX8_saying_1 : decode cX8_saying 1 = .ok (.invokestatic 67, 3) := by decide +kernel
theorem dX8_saying_4 : decode cX8_saying 4 = .ok (.ifCond .eq 10, 3) := by decide +kernel
theorem dX8_saying_7 : decode cX8_saying 7 = .ok (.iload_n 2, 1) := by decide +kernel
theorem dX8_saying_8 : decode cX8_saying 8 = .ok (.invokestatic 62, 3) := by decide +kernel
theorem dX8_saying_11 : decode cX8_saying 11 = .ok (.ifCond .ne 5, 3) := by decide +kernel
theorem dX8_saying_14 : decode cX8_saying 14 = .ok (.iconst (-1), 1) := by decide +kernel
theorem dX8_saying_15 : decode cX8_saying 15 = .ok (.ireturn, 1) := by decide +kernel
theorem dX8_saying_16 : decode cX8_saying 16 = .ok (.iload_n 3, 1) := by decide +kernel
theorem dX8_saying_17 : decode cX8_saying 17 = .ok (.iconst 0, 1) := by decide +kernel
theorem dX8_saying_18 : decode cX8_saying 18 = .ok (.ldc 66, 2) := by decide +kernel
theorem dX8_saying_20 : decode cX8_saying 20 = .ok (.invokestatic 58, 3) := by decide +kernel
theorem dX8_saying_23 : decode cX8_saying 23 = .ok (.ifCond .eq 14, 3) := by decide +kernel
theorem dX8_saying_26 : decode cX8_saying 26 = .ok (.iload 4, 2) := by decide +kernel
theorem dX8_saying_28 : decode cX8_saying 28 = .ok (.iconst 0, 1) := by decide +kernel
theorem dX8_saying_29 : decode cX8_saying 29 = .ok (.bipush 9, 2) := by decide +kernel
theorem dX8_saying_31 : decode cX8_saying 31 = .ok (.invokestatic 58, 3) := by decide +kernel
theorem dX8_saying_34 : decode cX8_saying 34 = .ok (.ifCond .ne 6, 3) := by decide +kernel
theorem dX8_saying_37 : decode cX8_saying 37 = .ok (.bipush (-2), 2) := by decide +kernel
theorem dX8_saying_39 : decode cX8_saying 39 = .ok (.ireturn, 1) := by decide +kernel
theorem dX8_saying_40 : decode cX8_saying 40 = .ok (.aload_n 0, 1) := by decide +kernel
theorem dX8_saying_41 : decode cX8_saying 41 = .ok (.getfield 7, 3) := by decide +kernel
theorem dX8_saying_44 : decode cX8_saying 44 = .ok (.bipush 12, 2) := by decide +kernel
theorem dX8_saying_46 : decode cX8_saying 46 = .ok (.iload_n 1, 1) := by decide +kernel
theorem dX8_saying_47 : decode cX8_saying 47 = .ok (.iadd, 1) := by decide +kernel
theorem dX8_saying_48 : decode cX8_saying 48 = .ok (.iaload, 1) := by decide +kernel
theorem dX8_saying_49 : decode cX8_saying 49 = .ok (.istore 5, 2) := by decide +kernel
theorem dX8_saying_51 : decode cX8_saying 51 = .ok (.aload_n 0, 1) := by decide +kernel
theorem dX8_saying_52 : decode cX8_saying 52 = .ok (.getfield 16, 3) := by decide +kernel
theorem dX8_saying_55 : decode cX8_saying 55 = .ok (.iload_n 1, 1) := by decide +kernel
theorem dX8_saying_56 : decode cX8_saying 56 = .ok (.iload_n 2, 1) := by decide +kernel
theorem dX8_saying_57 : decode cX8_saying 57 = .ok (.iastore, 1) := by decide +kernel
theorem dX8_saying_58 : decode cX8_saying 58 = .ok (.aload_n 0, 1) := by decide +kernel
theorem dX8_saying_59 : decode cX8_saying 59 = .ok (.getfield 19, 3) := by decide +kernel
theorem dX8_saying_62 : decode cX8_saying 62 = .ok (.iload_n 1, 1) := by decide +kernel
theorem dX8_saying_63 : decode cX8_saying 63 = .ok (.iload_n 3, 1) := by decide +kernel
theorem dX8_saying_64 : decode cX8_saying 64 = .ok (.iastore, 1) := by decide +kernel
theorem dX8_saying_65 : decode cX8_saying 65 = .ok (.aload_n 0, 1) := by decide +kernel
theorem dX8_saying_66 : decode cX8_saying 66 = .ok (.getfield 7, 3) := by decide +kernel
theorem dX8_saying_69 : decode cX8_saying 69 = .ok (.bipush 12, 2) := by decide +kernel
theorem dX8_saying_71 : decode cX8_saying 71 = .ok (.iload_n 1, 1) := by decide +kernel
theorem dX8_saying_72 : decode cX8_saying 72 = .ok (.iadd, 1) := by decide +kernel
theorem dX8_saying_73 : decode cX8_saying 73 = .ok (.iload 4, 2) := by decide +kernel
theorem dX8_saying_75 : decode cX8_saying 75 = .ok (.iastore, 1) := by decide +kernel
theorem dX8_saying_76 : decode cX8_saying 76 = .ok (.iload 5, 2) := by decide +kernel
theorem dX8_saying_78 : decode cX8_saying 78 = .ok (.ireturn, 1) := by decide +kernel
theorem dX8_occasion_0 : decode cX8_occasion 0 = .ok (.iload_n 1, 1) := by decide +kernel
theorem dX8_occasion_1 : decode cX8_occasion 1 = .ok (.iconst 0, 1) := by decide +kernel
theorem dX8_occasion_2 : decode cX8_occasion 2 = .ok (.iconst 4, 1) := by decide +kernel
theorem dX8_occasion_3 : decode cX8_occasion 3 = .ok (.invokestatic 58, 3) := by decide +kernel
theorem dX8_occasion_6 : decode cX8_occasion 6 = .ok (.ifCond .ne 5, 3) := by decide +kernel
theorem dX8_occasion_9 : decode cX8_occasion 9 = .ok (.iconst (-1), 1) := by decide +kernel
theorem dX8_occasion_10 : decode cX8_occasion 10 = .ok (.ireturn, 1) := by decide +kernel
theorem dX8_occasion_11 : decode cX8_occasion 11 = .ok (.iload_n 2, 1) := by decide +kernel
theorem dX8_occasion_12 : decode cX8_occasion 12 = .ok (.iconst 0, 1) := by decide +kernel
theorem dX8_occasion_13 : decode cX8_occasion 13 = .ok (.ldc 66, 2) := by decide +kernel
theorem dX8_occasion_15 : decode cX8_occasion 15 = .ok (.invokestatic 58, 3) := by decide +kernel
theorem dX8_occasion_18 : decode cX8_occasion 18 = .ok (.ifCond .ne 6, 3) := by decide +kernel
theorem dX8_occasion_21 : decode cX8_occasion 21 = .ok (.bipush (-2), 2) := by decide +kernel
theorem dX8_occasion_23 : decode cX8_occasion 23 = .ok (.ireturn, 1) := by decide +kernel
theorem dX8_occasion_24 : decode cX8_occasion 24 = .ok (.aload_n 0, 1) := by decide +kernel
theorem dX8_occasion_25 : decode cX8_occasion 25 = .ok (.getfield 22, 3) := by decide +kernel
theorem dX8_occasion_28 : decode cX8_occasion 28 = .ok (.iload_n 1, 1) := by decide +kernel
theorem dX8_occasion_29 : decode cX8_occasion 29 = .ok (.iaload, 1) := by decide +kernel
theorem dX8_occasion_30 : decode cX8_occasion 30 = .ok (.istore_n 3, 1) := by decide +kernel
theorem dX8_occasion_31 : decode cX8_occasion 31 = .ok (.aload_n 0, 1) := by decide +kernel
theorem dX8_occasion_32 : decode cX8_occasion 32 = .ok (.getfield 22, 3) := by decide +kernel
theorem dX8_occasion_35 : decode cX8_occasion 35 = .ok (.iload_n 1, 1) := by decide +kernel
theorem dX8_occasion_36 : decode cX8_occasion 36 = .ok (.iload_n 2, 1) := by decide +kernel
theorem dX8_occasion_37 : decode cX8_occasion 37 = .ok (.iastore, 1) := by decide +kernel
theorem dX8_occasion_38 : decode cX8_occasion 38 = .ok (.iload_n 3, 1) := by decide +kernel
theorem dX8_occasion_39 : decode cX8_occasion 39 = .ok (.ireturn, 1) := by decide +kernel
theorem dX8_say_0 : decode cX8_say 0 = .ok (.iload_n 1, 1) := by decide +kernel
theorem dX8_say_1 : decode cX8_say 1 = .ok (.bipush 33, 2) := by decide +kernel
theorem dX8_say_3 : decode cX8_say 3 = .ok (.bipush 126, 2) := by decide +kernel
theorem dX8_say_5 : decode cX8_say 5 = .ok (.invokestatic 58, 3) := by decide +kernel
theorem dX8_say_8 : decode cX8_say 8 = .ok (.ifCond .ne 6, 3) := by decide +kernel
theorem dX8_say_11 : decode cX8_say 11 = .ok (.bipush (-2), 2) := by decide +kernel
theorem dX8_say_13 : decode cX8_say 13 = .ok (.ireturn, 1) := by decide +kernel
theorem dX8_say_14 : decode cX8_say 14 = .ok (.aload_n 0, 1) := by decide +kernel
theorem dX8_say_15 : decode cX8_say 15 = .ok (.getfield 70, 3) := by decide +kernel
theorem dX8_say_18 : decode cX8_say 18 = .ok (.bipush 60, 2) := by decide +kernel
theorem dX8_say_20 : decode cX8_say 20 = .ok (.if_icmp .ne 6, 3) := by decide +kernel
theorem dX8_say_23 : decode cX8_say 23 = .ok (.bipush (-4), 2) := by decide +kernel
theorem dX8_say_25 : decode cX8_say 25 = .ok (.ireturn, 1) := by decide +kernel
theorem dX8_say_26 : decode cX8_say 26 = .ok (.aload_n 0, 1) := by decide +kernel
theorem dX8_say_27 : decode cX8_say 27 = .ok (.getfield 28, 3) := by decide +kernel
theorem dX8_say_30 : decode cX8_say 30 = .ok (.aload_n 0, 1) := by decide +kernel
theorem dX8_say_31 : decode cX8_say 31 = .ok (.getfield 70, 3) := by decide +kernel
theorem dX8_say_34 : decode cX8_say 34 = .ok (.iload_n 1, 1) := by decide +kernel
theorem dX8_say_35 : decode cX8_say 35 = .ok (.iastore, 1) := by decide +kernel
theorem dX8_say_36 : decode cX8_say 36 = .ok (.aload_n 0, 1) := by decide +kernel
theorem dX8_say_37 : decode cX8_say 37 = .ok (.dup, 1) := by decide +kernel
theorem dX8_say_38 : decode cX8_say 38 = .ok (.getfield 70, 3) := by decide +kernel
theorem dX8_say_41 : decode cX8_say 41 = .ok (.iconst 1, 1) := by decide +kernel
theorem dX8_say_42 : decode cX8_say 42 = .ok (.iadd, 1) := by decide +kernel
theorem dX8_say_43 : decode cX8_say 43 = .ok (.putfield 70, 3) := by decide +kernel
theorem dX8_say_46 : decode cX8_say 46 = .ok (.aload_n 0, 1) := by decide +kernel
theorem dX8_say_47 : decode cX8_say 47 = .ok (.getfield 70, 3) := by decide +kernel
theorem dX8_say_50 : decode cX8_say 50 = .ok (.ireturn, 1) := by decide +kernel
theorem dX8_wipe_0 : decode cX8_wipe 0 = .ok (.aload_n 0, 1) := by decide +kernel
theorem dX8_wipe_1 : decode cX8_wipe 1 = .ok (.getfield 70, 3) := by decide +kernel
theorem dX8_wipe_4 : decode cX8_wipe 4 = .ok (.istore_n 1, 1) := by decide +kernel
theorem dX8_wipe_5 : decode cX8_wipe 5 = .ok (.aload_n 0, 1) := by decide +kernel
theorem dX8_wipe_6 : decode cX8_wipe 6 = .ok (.iconst 0, 1) := by decide +kernel
theorem dX8_wipe_7 : decode cX8_wipe 7 = .ok (.putfield 70, 3) := by decide +kernel
theorem dX8_wipe_10 : decode cX8_wipe 10 = .ok (.iload_n 1, 1) := by decide +kernel
theorem dX8_wipe_11 : decode cX8_wipe 11 = .ok (.ireturn, 1) := by decide +kernel
theorem dX8_faultOf_0 : decode cX8_faultOf 0 = .ok (.iconst 0, 1) := by decide +kernel
theorem dX8_faultOf_1 : decode cX8_faultOf 1 = .ok (.istore_n 1, 1) := by decide +kernel
theorem dX8_faultOf_2 : decode cX8_faultOf 2 = .ok (.iconst 0, 1) := by decide +kernel
theorem dX8_faultOf_3 : decode cX8_faultOf 3 = .ok (.istore_n 2, 1) := by decide +kernel
theorem dX8_faultOf_4 : decode cX8_faultOf 4 = .ok (.iload_n 2, 1) := by decide +kernel
theorem dX8_faultOf_5 : decode cX8_faultOf 5 = .ok (.aload_n 0, 1) := by decide +kernel
theorem dX8_faultOf_6 : decode cX8_faultOf 6 = .ok (.getfield 70, 3) := by decide +kernel
theorem dX8_faultOf_9 : decode cX8_faultOf 9 = .ok (.if_icmp .ge 121, 3) := by decide +kernel
theorem dX8_faultOf_12 : decode cX8_faultOf 12 = .ok (.aload_n 0, 1) := by decide +kernel
theorem dX8_faultOf_13 : decode cX8_faultOf 13 = .ok (.getfield 28, 3) := by decide +kernel
theorem dX8_faultOf_16 : decode cX8_faultOf 16 = .ok (.iload_n 2, 1) := by decide +kernel
theorem dX8_faultOf_17 : decode cX8_faultOf 17 = .ok (.iaload, 1) := by decide +kernel
theorem dX8_faultOf_18 : decode cX8_faultOf 18 = .ok (.istore_n 3, 1) := by decide +kernel
theorem dX8_faultOf_19 : decode cX8_faultOf 19 = .ok (.iload_n 1, 1) := by decide +kernel
theorem dX8_faultOf_20 : decode cX8_faultOf 20 = .ok (.ifCond .eq 35, 3) := by decide +kernel
theorem dX8_faultOf_23 : decode cX8_faultOf 23 = .ok (.iload_n 3, 1) := by decide +kernel
theorem dX8_faultOf_24 : decode cX8_faultOf 24 = .ok (.bipush 60, 2) := by decide +kernel
theorem dX8_faultOf_26 : decode cX8_faultOf 26 = .ok (.if_icmp .eq 21, 3) := by decide +kernel
theorem dX8_faultOf_29 : decode cX8_faultOf 29 = .ok (.iload_n 3, 1) := by decide +kernel
theorem dX8_faultOf_30 : decode cX8_faultOf 30 = .ok (.bipush 62, 2) := by decide +kernel
theorem dX8_faultOf_32 : decode cX8_faultOf 32 = .ok (.if_icmp .eq 15, 3) := by decide +kernel
theorem dX8_faultOf_35 : decode cX8_faultOf 35 = .ok (.iload_n 3, 1) := by decide +kernel
theorem dX8_faultOf_36 : decode cX8_faultOf 36 = .ok (.bipush 43, 2) := by decide +kernel
theorem dX8_faultOf_38 : decode cX8_faultOf 38 = .ok (.if_icmp .eq 9, 3) := by decide +kernel
theorem dX8_faultOf_41 : decode cX8_faultOf 41 = .ok (.iload_n 3, 1) := by decide +kernel
theorem dX8_faultOf_42 : decode cX8_faultOf 42 = .ok (.bipush 47, 2) := by decide +kernel
theorem dX8_faultOf_44 : decode cX8_faultOf 44 = .ok (.if_icmp .ne 7, 3) := by decide +kernel
theorem dX8_faultOf_47 : decode cX8_faultOf 47 = .ok (.iconst 1, 1) := by decide +kernel
theorem dX8_faultOf_48 : decode cX8_faultOf 48 = .ok (.goto 46, 3) := by decide +kernel
theorem dX8_faultOf_51 : decode cX8_faultOf 51 = .ok (.iconst 0, 1) := by decide +kernel
theorem dX8_faultOf_52 : decode cX8_faultOf 52 = .ok (.goto 42, 3) := by decide +kernel
theorem dX8_faultOf_55 : decode cX8_faultOf 55 = .ok (.iload_n 3, 1) := by decide +kernel
theorem dX8_faultOf_56 : decode cX8_faultOf 56 = .ok (.bipush 65, 2) := by decide +kernel
theorem dX8_faultOf_58 : decode cX8_faultOf 58 = .ok (.bipush 70, 2) := by decide +kernel
theorem dX8_faultOf_60 : decode cX8_faultOf 60 = .ok (.invokestatic 58, 3) := by decide +kernel
theorem dX8_faultOf_63 : decode cX8_faultOf 63 = .ok (.ifCond .ne 26, 3) := by decide +kernel
theorem dX8_faultOf_66 : decode cX8_faultOf 66 = .ok (.iload_n 3, 1) := by decide +kernel
theorem dX8_faultOf_67 : decode cX8_faultOf 67 = .ok (.bipush 48, 2) := by decide +kernel
theorem dX8_faultOf_69 : decode cX8_faultOf 69 = .ok (.bipush 57, 2) := by decide +kernel
theorem dX8_faultOf_71 : decode cX8_faultOf 71 = .ok (.invokestatic 58, 3) := by decide +kernel
theorem dX8_faultOf_74 : decode cX8_faultOf 74 = .ok (.ifCond .ne 15, 3) := by decide +kernel
theorem dX8_faultOf_77 : decode cX8_faultOf 77 = .ok (.iload_n 3, 1) := by decide +kernel
theorem dX8_faultOf_78 : decode cX8_faultOf 78 = .ok (.bipush 42, 2) := by decide +kernel
theorem dX8_faultOf_80 : decode cX8_faultOf 80 = .ok (.if_icmp .eq 9, 3) := by decide +kernel
theorem dX8_faultOf_83 : decode cX8_faultOf 83 = .ok (.iload_n 3, 1) := by decide +kernel
theorem dX8_faultOf_84 : decode cX8_faultOf 84 = .ok (.bipush 46, 2) := by decide +kernel
theorem dX8_faultOf_86 : decode cX8_faultOf 86 = .ok (.if_icmp .ne 7, 3) := by decide +kernel
theorem dX8_faultOf_89 : decode cX8_faultOf 89 = .ok (.iconst 1, 1) := by decide +kernel
theorem dX8_faultOf_90 : decode cX8_faultOf 90 = .ok (.goto 4, 3) := by decide +kernel
theorem dX8_faultOf_93 : decode cX8_faultOf 93 = .ok (.iconst 0, 1) := by decide +kernel
theorem dX8_faultOf_94 : decode cX8_faultOf 94 = .ok (.istore 4, 2) := by decide +kernel
theorem dX8_faultOf_96 : decode cX8_faultOf 96 = .ok (.iload 4, 2) := by decide +kernel
theorem dX8_faultOf_98 : decode cX8_faultOf 98 = .ok (.ifCond .ne 5, 3) := by decide +kernel
theorem dX8_faultOf_101 : decode cX8_faultOf 101 = .ok (.iload_n 2, 1) := by decide +kernel
theorem dX8_faultOf_102 : decode cX8_faultOf 102 = .ok (.ireturn, 1) := by decide +kernel
theorem dX8_faultOf_103 : decode cX8_faultOf 103 = .ok (.iload_n 1, 1) := by decide +kernel
theorem dX8_faultOf_104 : decode cX8_faultOf 104 = .ok (.ifCond .ne 18, 3) := by decide +kernel
theorem dX8_faultOf_107 : decode cX8_faultOf 107 = .ok (.iload_n 3, 1) := by decide +kernel
theorem dX8_faultOf_108 : decode cX8_faultOf 108 = .ok (.bipush 65, 2) := by decide +kernel
theorem dX8_faultOf_110 : decode cX8_faultOf 110 = .ok (.bipush 70, 2) := by decide +kernel
theorem dX8_faultOf_112 : decode cX8_faultOf 112 = .ok (.invokestatic 58, 3) := by decide +kernel
theorem dX8_faultOf_115 : decode cX8_faultOf 115 = .ok (.ifCond .eq 7, 3) := by decide +kernel
theorem dX8_faultOf_118 : decode cX8_faultOf 118 = .ok (.iconst 1, 1) := by decide +kernel
theorem dX8_faultOf_119 : decode cX8_faultOf 119 = .ok (.goto 4, 3) := by decide +kernel
theorem dX8_faultOf_122 : decode cX8_faultOf 122 = .ok (.iconst 0, 1) := by decide +kernel
theorem dX8_faultOf_123 : decode cX8_faultOf 123 = .ok (.istore_n 1, 1) := by decide +kernel
theorem dX8_faultOf_124 : decode cX8_faultOf 124 = .ok (.iinc 2 1, 3) := by decide +kernel
theorem dX8_faultOf_127 : decode cX8_faultOf 127 = .ok (.goto (-123), 3) := by decide +kernel
theorem dX8_faultOf_130 : decode cX8_faultOf 130 = .ok (.iload_n 1, 1) := by decide +kernel
theorem dX8_faultOf_131 : decode cX8_faultOf 131 = .ok (.ifCond .eq 10, 3) := by decide +kernel
theorem dX8_faultOf_134 : decode cX8_faultOf 134 = .ok (.aload_n 0, 1) := by decide +kernel
theorem dX8_faultOf_135 : decode cX8_faultOf 135 = .ok (.getfield 70, 3) := by decide +kernel
theorem dX8_faultOf_138 : decode cX8_faultOf 138 = .ok (.goto 5, 3) := by decide +kernel
theorem dX8_faultOf_141 : decode cX8_faultOf 141 = .ok (.bipush (-6), 2) := by decide +kernel
theorem dX8_faultOf_143 : decode cX8_faultOf 143 = .ok (.ireturn, 1) := by decide +kernel
theorem dX8_fault_0 : decode cX8_fault 0 = .ok (.aload_n 0, 1) := by decide +kernel
theorem dX8_fault_1 : decode cX8_fault 1 = .ok (.invokevirtual 73, 3) := by decide +kernel
theorem dX8_fault_4 : decode cX8_fault 4 = .ok (.ireturn, 1) := by decide +kernel
theorem dX8_asNow_0 : decode cX8_asNow 0 = .ok (.iconst 0, 1) := by decide +kernel
theorem dX8_asNow_1 : decode cX8_asNow 1 = .ok (.istore_n 1, 1) := by decide +kernel
theorem dX8_asNow_2 : decode cX8_asNow 2 = .ok (.iload_n 1, 1) := by decide +kernel
theorem dX8_asNow_3 : decode cX8_asNow 3 = .ok (.bipush 24, 2) := by decide +kernel
theorem dX8_asNow_5 : decode cX8_asNow 5 = .ok (.if_icmp .ge 21, 3) := by decide +kernel
theorem dX8_asNow_8 : decode cX8_asNow 8 = .ok (.aload_n 0, 1) := by decide +kernel
theorem dX8_asNow_9 : decode cX8_asNow 9 = .ok (.getfield 13, 3) := by decide +kernel
theorem dX8_asNow_12 : decode cX8_asNow 12 = .ok (.iload_n 1, 1) := by decide +kernel
theorem dX8_asNow_13 : decode cX8_asNow 13 = .ok (.aload_n 0, 1) := by decide +kernel
theorem dX8_asNow_14 : decode cX8_asNow 14 = .ok (.getfield 7, 3) := by decide +kernel
theorem dX8_asNow_17 : decode cX8_asNow 17 = .ok (.iload_n 1, 1) := by decide +kernel
theorem dX8_asNow_18 : decode cX8_asNow 18 = .ok (.iaload, 1) := by decide +kernel
theorem dX8_asNow_19 : decode cX8_asNow 19 = .ok (.iastore, 1) := by decide +kernel
theorem dX8_asNow_20 : decode cX8_asNow 20 = .ok (.iinc 1 1, 3) := by decide +kernel
theorem dX8_asNow_23 : decode cX8_asNow 23 = .ok (.goto (-21), 3) := by decide +kernel
theorem dX8_asNow_26 : decode cX8_asNow 26 = .ok (.aload_n 0, 1) := by decide +kernel
theorem dX8_asNow_27 : decode cX8_asNow 27 = .ok (.iconst 0, 1) := by decide +kernel
theorem dX8_asNow_28 : decode cX8_asNow 28 = .ok (.putfield 77, 3) := by decide +kernel
theorem dX8_asNow_31 : decode cX8_asNow 31 = .ok (.aload_n 0, 1) := by decide +kernel
theorem dX8_asNow_32 : decode cX8_asNow 32 = .ok (.bipush (-6), 2) := by decide +kernel
theorem dX8_asNow_34 : decode cX8_asNow 34 = .ok (.putfield 80, 3) := by decide +kernel
theorem dX8_asNow_37 : decode cX8_asNow 37 = .ok (.aload_n 0, 1) := by decide +kernel
theorem dX8_asNow_38 : decode cX8_asNow 38 = .ok (.bipush (-6), 2) := by decide +kernel
theorem dX8_asNow_40 : decode cX8_asNow 40 = .ok (.putfield 83, 3) := by decide +kernel
theorem dX8_asNow_43 : decode cX8_asNow 43 = .ok (.return_, 1) := by decide +kernel
theorem dX8_layIn_0 : decode cX8_layIn 0 = .ok (.aload_n 0, 1) := by decide +kernel
theorem dX8_layIn_1 : decode cX8_layIn 1 = .ok (.getfield 13, 3) := by decide +kernel
theorem dX8_layIn_4 : decode cX8_layIn 4 = .ok (.bipush 22, 2) := by decide +kernel
theorem dX8_layIn_6 : decode cX8_layIn 6 = .ok (.iaload, 1) := by decide +kernel
theorem dX8_layIn_7 : decode cX8_layIn 7 = .ok (.iload_n 1, 1) := by decide +kernel
theorem dX8_layIn_8 : decode cX8_layIn 8 = .ok (.invokestatic 86, 3) := by decide +kernel
theorem dX8_layIn_11 : decode cX8_layIn 11 = .ok (.ifCond .eq 5, 3) := by decide +kernel
theorem dX8_layIn_14 : decode cX8_layIn 14 = .ok (.iconst 1, 1) := by decide +kernel
theorem dX8_layIn_15 : decode cX8_layIn 15 = .ok (.ireturn, 1) := by decide +kernel
theorem dX8_layIn_16 : decode cX8_layIn 16 = .ok (.aload_n 0, 1) := by decide +kernel
theorem dX8_layIn_17 : decode cX8_layIn 17 = .ok (.getfield 13, 3) := by decide +kernel
theorem dX8_layIn_20 : decode cX8_layIn 20 = .ok (.bipush 22, 2) := by decide +kernel
theorem dX8_layIn_22 : decode cX8_layIn 22 = .ok (.dup2, 1) := by decide +kernel
theorem dX8_layIn_23 : decode cX8_layIn 23 = .ok (.iaload, 1) := by decide +kernel
theorem dX8_layIn_24 : decode cX8_layIn 24 = .ok (.iconst 1, 1) := by decide +kernel
theorem dX8_layIn_25 : decode cX8_layIn 25 = .ok (.iload_n 1, 1) := by decide +kernel
theorem dX8_layIn_26 : decode cX8_layIn 26 = .ok (.ishl, 1) := by decide +kernel
theorem dX8_layIn_27 : decode cX8_layIn 27 = .ok (.ior, 1) := by decide +kernel
theorem dX8_layIn_28 : decode cX8_layIn 28 = .ok (.iastore, 1) := by decide +kernel
theorem dX8_layIn_29 : decode cX8_layIn 29 = .ok (.iconst 0, 1) := by decide +kernel
theorem dX8_layIn_30 : decode cX8_layIn 30 = .ok (.ireturn, 1) := by decide +kernel
theorem dX8_takeOut_0 : decode cX8_takeOut 0 = .ok (.aload_n 0, 1) := by decide +kernel
theorem dX8_takeOut_1 : decode cX8_takeOut 1 = .ok (.getfield 13, 3) := by decide +kernel
theorem dX8_takeOut_4 : decode cX8_takeOut 4 = .ok (.bipush 22, 2) := by decide +kernel
theorem dX8_takeOut_6 : decode cX8_takeOut 6 = .ok (.iaload, 1) := by decide +kernel
theorem dX8_takeOut_7 : decode cX8_takeOut 7 = .ok (.iload_n 1, 1) := by decide +kernel
theorem dX8_takeOut_8 : decode cX8_takeOut 8 = .ok (.invokestatic 86, 3) := by decide +kernel
theorem dX8_takeOut_11 : decode cX8_takeOut 11 = .ok (.ifCond .ne 5, 3) := by decide +kernel
theorem dX8_takeOut_14 : decode cX8_takeOut 14 = .ok (.iconst 1, 1) := by decide +kernel
theorem dX8_takeOut_15 : decode cX8_takeOut 15 = .ok (.ireturn, 1) := by decide +kernel
theorem dX8_takeOut_16 : decode cX8_takeOut 16 = .ok (.aload_n 0, 1) := by decide +kernel
theorem dX8_takeOut_17 : decode cX8_takeOut 17 = .ok (.getfield 13, 3) := by decide +kernel
theorem dX8_takeOut_20 : decode cX8_takeOut 20 = .ok (.bipush 22, 2) := by decide +kernel
theorem dX8_takeOut_22 : decode cX8_takeOut 22 = .ok (.dup2, 1) := by decide +kernel
theorem dX8_takeOut_23 : decode cX8_takeOut 23 = .ok (.iaload, 1) := by decide +kernel
theorem dX8_takeOut_24 : decode cX8_takeOut 24 = .ok (.iconst 1, 1) := by decide +kernel
theorem dX8_takeOut_25 : decode cX8_takeOut 25 = .ok (.iload_n 1, 1) := by decide +kernel
theorem dX8_takeOut_26 : decode cX8_takeOut 26 = .ok (.ishl, 1) := by decide +kernel
theorem dX8_takeOut_27 : decode cX8_takeOut 27 = .ok (.iconst (-1), 1) := by decide +kernel
theorem dX8_takeOut_28 : decode cX8_takeOut 28 = .ok (.ixor, 1) := by decide +kernel
theorem dX8_takeOut_29 : decode cX8_takeOut 29 = .ok (.iand, 1) := by decide +kernel
theorem dX8_takeOut_30 : decode cX8_takeOut 30 = .ok (.iastore, 1) := by decide +kernel
theorem dX8_takeOut_31 : decode cX8_takeOut 31 = .ok (.iconst 0, 1) := by decide +kernel
theorem dX8_takeOut_32 : decode cX8_takeOut 32 = .ok (.ireturn, 1) := by decide +kernel
theorem dX8_strew_0 : decode cX8_strew 0 = .ok (.aload_n 0, 1) := by decide +kernel
theorem dX8_strew_1 : decode cX8_strew 1 = .ok (.getfield 13, 3) := by decide +kernel
theorem dX8_strew_4 : decode cX8_strew 4 = .ok (.bipush 22, 2) := by decide +kernel
theorem dX8_strew_6 : decode cX8_strew 6 = .ok (.iaload, 1) := by decide +kernel
theorem dX8_strew_7 : decode cX8_strew 7 = .ok (.iload_n 1, 1) := by decide +kernel
theorem dX8_strew_8 : decode cX8_strew 8 = .ok (.invokestatic 86, 3) := by decide +kernel
theorem dX8_strew_11 : decode cX8_strew 11 = .ok (.ifCond .eq 5, 3) := by decide +kernel
theorem dX8_strew_14 : decode cX8_strew 14 = .ok (.iconst 2, 1) := by decide +kernel
theorem dX8_strew_15 : decode cX8_strew 15 = .ok (.ireturn, 1) := by decide +kernel
theorem dX8_strew_16 : decode cX8_strew 16 = .ok (.aload_n 0, 1) := by decide +kernel
theorem dX8_strew_17 : decode cX8_strew 17 = .ok (.getfield 13, 3) := by decide +kernel
theorem dX8_strew_20 : decode cX8_strew 20 = .ok (.bipush 6, 2) := by decide +kernel
theorem dX8_strew_22 : decode cX8_strew 22 = .ok (.iload_n 1, 1) := by decide +kernel
theorem dX8_strew_23 : decode cX8_strew 23 = .ok (.iadd, 1) := by decide +kernel
theorem dX8_strew_24 : decode cX8_strew 24 = .ok (.iaload, 1) := by decide +kernel
theorem dX8_strew_25 : decode cX8_strew 25 = .ok (.bipush 9, 2) := by decide +kernel
theorem dX8_strew_27 : decode cX8_strew 27 = .ok (.if_icmp .ne 5, 3) := by decide +kernel
theorem dX8_strew_30 : decode cX8_strew 30 = .ok (.iconst 3, 1) := by decide +kernel
theorem dX8_strew_31 : decode cX8_strew 31 = .ok (.ireturn, 1) := by decide +kernel
theorem dX8_strew_32 : decode cX8_strew 32 = .ok (.aload_n 0, 1) := by decide +kernel
theorem dX8_strew_33 : decode cX8_strew 33 = .ok (.getfield 13, 3) := by decide +kernel
theorem dX8_strew_36 : decode cX8_strew 36 = .ok (.bipush 6, 2) := by decide +kernel
theorem dX8_strew_38 : decode cX8_strew 38 = .ok (.iload_n 1, 1) := by decide +kernel
theorem dX8_strew_39 : decode cX8_strew 39 = .ok (.iadd, 1) := by decide +kernel
theorem dX8_strew_40 : decode cX8_strew 40 = .ok (.dup2, 1) := by decide +kernel
theorem dX8_strew_41 : decode cX8_strew 41 = .ok (.iaload, 1) := by decide +kernel
theorem dX8_strew_42 : decode cX8_strew 42 = .ok (.iconst 1, 1) := by decide +kernel
theorem dX8_strew_43 : decode cX8_strew 43 = .ok (.iadd, 1) := by decide +kernel
theorem dX8_strew_44 : decode cX8_strew 44 = .ok (.iastore, 1) := by decide +kernel
theorem dX8_strew_45 : decode cX8_strew 45 = .ok (.iconst 0, 1) := by decide +kernel
theorem dX8_strew_46 : decode cX8_strew 46 = .ok (.ireturn, 1) := by decide +kernel
theorem dX8_darn_0 : decode cX8_darn 0 = .ok (.aload_n 0, 1) := by decide +kernel
theorem dX8_darn_1 : decode cX8_darn 1 = .ok (.getfield 13, 3) := by decide +kernel
theorem dX8_darn_4 : decode cX8_darn 4 = .ok (.bipush 22, 2) := by decide +kernel
theorem dX8_darn_6 : decode cX8_darn 6 = .ok (.iaload, 1) := by decide +kernel
theorem dX8_darn_7 : decode cX8_darn 7 = .ok (.iload_n 1, 1) := by decide +kernel
theorem dX8_darn_8 : decode cX8_darn 8 = .ok (.invokestatic 86, 3) := by decide +kernel
theorem dX8_darn_11 : decode cX8_darn 11 = .ok (.ifCond .eq 5, 3) := by decide +kernel
theorem dX8_darn_14 : decode cX8_darn 14 = .ok (.iconst 2, 1) := by decide +kernel
theorem dX8_darn_15 : decode cX8_darn 15 = .ok (.ireturn, 1) := by decide +kernel
theorem dX8_darn_16 : decode cX8_darn 16 = .ok (.aload_n 0, 1) := by decide +kernel
theorem dX8_darn_17 : decode cX8_darn 17 = .ok (.getfield 13, 3) := by decide +kernel
theorem dX8_darn_20 : decode cX8_darn 20 = .ok (.iload_n 1, 1) := by decide +kernel
theorem dX8_darn_21 : decode cX8_darn 21 = .ok (.iaload, 1) := by decide +kernel
theorem dX8_darn_22 : decode cX8_darn 22 = .ok (.ifCond .ne 5, 3) := by decide +kernel
theorem dX8_darn_25 : decode cX8_darn 25 = .ok (.iconst 3, 1) := by decide +kernel
theorem dX8_darn_26 : decode cX8_darn 26 = .ok (.ireturn, 1) := by decide +kernel
theorem dX8_darn_27 : decode cX8_darn 27 = .ok (.aload_n 0, 1) := by decide +kernel
theorem dX8_darn_28 : decode cX8_darn 28 = .ok (.getfield 13, 3) := by decide +kernel
theorem dX8_darn_31 : decode cX8_darn 31 = .ok (.iload_n 1, 1) := by decide +kernel
theorem dX8_darn_32 : decode cX8_darn 32 = .ok (.dup2, 1) := by decide +kernel
theorem dX8_darn_33 : decode cX8_darn 33 = .ok (.iaload, 1) := by decide +kernel
theorem dX8_darn_34 : decode cX8_darn 34 = .ok (.aload_n 0, 1) := by decide +kernel
theorem dX8_darn_35 : decode cX8_darn 35 = .ok (.getfield 13, 3) := by decide +kernel
theorem dX8_darn_38 : decode cX8_darn 38 = .ok (.iload_n 1, 1) := by decide +kernel
theorem dX8_darn_39 : decode cX8_darn 39 = .ok (.iaload, 1) := by decide +kernel
theorem dX8_darn_40 : decode cX8_darn 40 = .ok (.iconst 1, 1) := by decide +kernel
theorem dX8_darn_41 : decode cX8_darn 41 = .ok (.isub, 1) := by decide +kernel
theorem dX8_darn_42 : decode cX8_darn 42 = .ok (.iand, 1) := by decide +kernel
theorem dX8_darn_43 : decode cX8_darn 43 = .ok (.iastore, 1) := by decide +kernel
theorem dX8_darn_44 : decode cX8_darn 44 = .ok (.iconst 0, 1) := by decide +kernel
theorem dX8_darn_45 : decode cX8_darn 45 = .ok (.ireturn, 1) := by decide +kernel
theorem dX8_ownUp_0 : decode cX8_ownUp 0 = .ok (.aload_n 0, 1) := by decide +kernel
theorem dX8_ownUp_1 : decode cX8_ownUp 1 = .ok (.getfield 13, 3) := by decide +kernel
theorem dX8_ownUp_4 : decode cX8_ownUp 4 = .ok (.bipush 12, 2) := by decide +kernel
theorem dX8_ownUp_6 : decode cX8_ownUp 6 = .ok (.iload_n 1, 1) := by decide +kernel
theorem dX8_ownUp_7 : decode cX8_ownUp 7 = .ok (.iadd, 1) := by decide +kernel
theorem dX8_ownUp_8 : decode cX8_ownUp 8 = .ok (.iaload, 1) := by decide +kernel
theorem dX8_ownUp_9 : decode cX8_ownUp 9 = .ok (.ifCond .ne 5, 3) := by decide +kernel
theorem dX8_ownUp_12 : decode cX8_ownUp 12 = .ok (.iconst 4, 1) := by decide +kernel
theorem dX8_ownUp_13 : decode cX8_ownUp 13 = .ok (.ireturn, 1) := by decide +kernel
theorem dX8_ownUp_14 : decode cX8_ownUp 14 = .ok (.aload_n 0, 1) := by decide +kernel
theorem dX8_ownUp_15 : decode cX8_ownUp 15 = .ok (.getfield 13, 3) := by decide +kernel
theorem dX8_ownUp_18 : decode cX8_ownUp 18 = .ok (.bipush 12, 2) := by decide +kernel
theorem dX8_ownUp_20 : decode cX8_ownUp 20 = .ok (.iload_n 1, 1) := by decide +kernel
theorem dX8_ownUp_21 : decode cX8_ownUp 21 = .ok (.iadd, 1) := by decide +kernel
theorem dX8_ownUp_22 : decode cX8_ownUp 22 = .ok (.iconst 0, 1) := by decide +kernel
theorem dX8_ownUp_23 : decode cX8_ownUp 23 = .ok (.iastore, 1) := by decide +kernel
theorem dX8_ownUp_24 : decode cX8_ownUp 24 = .ok (.iconst 0, 1) := by decide +kernel
theorem dX8_ownUp_25 : decode cX8_ownUp 25 = .ok (.ireturn, 1) := by decide +kernel
theorem dX8_moths_0 : decode cX8_moths 0 = .ok (.aload_n 0, 1) := by decide +kernel
theorem dX8_moths_1 : decode cX8_moths 1 = .ok (.getfield 13, 3) := by decide +kernel
theorem dX8_moths_4 : decode cX8_moths 4 = .ok (.bipush 22, 2) := by decide +kernel
theorem dX8_moths_6 : decode cX8_moths 6 = .ok (.iaload, 1) := by decide +kernel
theorem dX8_moths_7 : decode cX8_moths 7 = .ok (.ifCond .ne 5, 3) := by decide +kernel
theorem dX8_moths_10 : decode cX8_moths 10 = .ok (.iconst 5, 1) := by decide +kernel
theorem dX8_moths_11 : decode cX8_moths 11 = .ok (.ireturn, 1) := by decide +kernel
theorem dX8_moths_12 : decode cX8_moths 12 = .ok (.iconst 0, 1) := by decide +kernel
theorem dX8_moths_13 : decode cX8_moths 13 = .ok (.istore_n 1, 1) := by decide +kernel
theorem dX8_moths_14 : decode cX8_moths 14 = .ok (.iload_n 1, 1) := by decide +kernel
theorem dX8_moths_15 : decode cX8_moths 15 = .ok (.bipush 10, 2) := by decide +kernel
theorem dX8_moths_17 : decode cX8_moths 17 = .ok (.if_icmp .ge 123, 3) := by decide +kernel
theorem dX8_moths_20 : decode cX8_moths 20 = .ok (.aload_n 0, 1) := by decide +kernel
theorem dX8_moths_21 : decode cX8_moths 21 = .ok (.getfield 16, 3) := by decide +kernel
theorem dX8_moths_24 : decode cX8_moths 24 = .ok (.iload_n 1, 1) := by decide +kernel
theorem dX8_moths_25 : decode cX8_moths 25 = .ok (.iaload, 1) := by decide +kernel
theorem dX8_moths_26 : decode cX8_moths 26 = .ok (.istore_n 2, 1) := by decide +kernel
theorem dX8_moths_27 : decode cX8_moths 27 = .ok (.aload_n 0, 1) := by decide +kernel
theorem dX8_moths_28 : decode cX8_moths 28 = .ok (.getfield 13, 3) := by decide +kernel
theorem dX8_moths_31 : decode cX8_moths 31 = .ok (.bipush 22, 2) := by decide +kernel
theorem dX8_moths_33 : decode cX8_moths 33 = .ok (.iaload, 1) := by decide +kernel
theorem dX8_moths_34 : decode cX8_moths 34 = .ok (.iload_n 2, 1) := by decide +kernel
theorem dX8_moths_35 : decode cX8_moths 35 = .ok (.invokestatic 86, 3) := by decide +kernel
theorem dX8_moths_38 : decode cX8_moths 38 = .ok (.ifCond .eq 25, 3) := by decide +kernel
theorem dX8_moths_41 : decode cX8_moths 41 = .ok (.aload_n 0, 1) := by decide +kernel
theorem dX8_moths_42 : decode cX8_moths 42 = .ok (.getfield 13, 3) := by decide +kernel
theorem dX8_moths_45 : decode cX8_moths 45 = .ok (.bipush 12, 2) := by decide +kernel
theorem dX8_moths_47 : decode cX8_moths 47 = .ok (.iload_n 1, 1) := by decide +kernel
theorem dX8_moths_48 : decode cX8_moths 48 = .ok (.iadd, 1) := by decide +kernel
theorem dX8_moths_49 : decode cX8_moths 49 = .ok (.iaload, 1) := by decide +kernel
theorem dX8_moths_50 : decode cX8_moths 50 = .ok (.aload_n 0, 1) := by decide +kernel
theorem dX8_moths_51 : decode cX8_moths 51 = .ok (.getfield 13, 3) := by decide +kernel
theorem dX8_moths_54 : decode cX8_moths 54 = .ok (.bipush 6, 2) := by decide +kernel
theorem dX8_moths_56 : decode cX8_moths 56 = .ok (.iload_n 2, 1) := by decide +kernel
theorem dX8_moths_57 : decode cX8_moths 57 = .ok (.iadd, 1) := by decide +kernel
theorem dX8_moths_58 : decode cX8_moths 58 = .ok (.iaload, 1) := by decide +kernel
theorem dX8_moths_59 : decode cX8_moths 59 = .ok (.isub, 1) := by decide +kernel
theorem dX8_moths_60 : decode cX8_moths 60 = .ok (.goto 4, 3) := by decide +kernel
theorem dX8_moths_63 : decode cX8_moths 63 = .ok (.iconst 0, 1) := by decide +kernel
theorem dX8_moths_64 : decode cX8_moths 64 = .ok (.istore_n 3, 1) := by decide +kernel
theorem dX8_moths_65 : decode cX8_moths 65 = .ok (.iconst 0, 1) := by decide +kernel
theorem dX8_moths_66 : decode cX8_moths 66 = .ok (.istore 4, 2) := by decide +kernel
theorem dX8_moths_68 : decode cX8_moths 68 = .ok (.iload 4, 2) := by decide +kernel
theorem dX8_moths_70 : decode cX8_moths 70 = .ok (.bipush 16, 2) := by decide +kernel
theorem dX8_moths_72 : decode cX8_moths 72 = .ok (.if_icmp .ge 62, 3) := by decide +kernel
theorem dX8_moths_75 : decode cX8_moths 75 = .ok (.iload_n 3, 1) := by decide +kernel
theorem dX8_moths_76 : decode cX8_moths 76 = .ok (.ifCond .le 58, 3) := by decide +kernel
theorem dX8_moths_79 : decode cX8_moths 79 = .ok (.aload_n 0, 1) := by decide +kernel
theorem dX8_moths_80 : decode cX8_moths 80 = .ok (.getfield 19, 3) := by decide +kernel
theorem dX8_moths_83 : decode cX8_moths 83 = .ok (.iload_n 1, 1) := by decide +kernel
theorem dX8_moths_84 : decode cX8_moths 84 = .ok (.iaload, 1) := by decide +kernel
theorem dX8_moths_85 : decode cX8_moths 85 = .ok (.aload_n 0, 1) := by decide +kernel
theorem dX8_moths_86 : decode cX8_moths 86 = .ok (.getfield 13, 3) := by decide +kernel
theorem dX8_moths_89 : decode cX8_moths 89 = .ok (.iload_n 2, 1) := by decide +kernel
theorem dX8_moths_90 : decode cX8_moths 90 = .ok (.iaload, 1) := by decide +kernel
theorem dX8_moths_91 : decode cX8_moths 91 = .ok (.iconst (-1), 1) := by decide +kernel
theorem dX8_moths_92 : decode cX8_moths 92 = .ok (.ixor, 1) := by decide +kernel
theorem dX8_moths_93 : decode cX8_moths 93 = .ok (.iand, 1) := by decide +kernel
theorem dX8_moths_94 : decode cX8_moths 94 = .ok (.iload 4, 2) := by decide +kernel
theorem dX8_moths_96 : decode cX8_moths 96 = .ok (.invokestatic 86, 3) := by decide +kernel
theorem dX8_moths_99 : decode cX8_moths 99 = .ok (.ifCond .eq 29, 3) := by decide +kernel
theorem dX8_moths_102 : decode cX8_moths 102 = .ok (.aload_n 0, 1) := by decide +kernel
theorem dX8_moths_103 : decode cX8_moths 103 = .ok (.getfield 13, 3) := by decide +kernel
theorem dX8_moths_106 : decode cX8_moths 106 = .ok (.iload_n 2, 1) := by decide +kernel
theorem dX8_moths_107 : decode cX8_moths 107 = .ok (.dup2, 1) := by decide +kernel
theorem dX8_moths_108 : decode cX8_moths 108 = .ok (.iaload, 1) := by decide +kernel
theorem dX8_moths_109 : decode cX8_moths 109 = .ok (.iconst 1, 1) := by decide +kernel
theorem dX8_moths_110 : decode cX8_moths 110 = .ok (.iload 4, 2) := by decide +kernel
theorem dX8_moths_112 : decode cX8_moths 112 = .ok (.ishl, 1) := by decide +kernel
theorem dX8_moths_113 : decode cX8_moths 113 = .ok (.ior, 1) := by decide +kernel
theorem dX8_moths_114 : decode cX8_moths 114 = .ok (.iastore, 1) := by decide +kernel
theorem dX8_moths_115 : decode cX8_moths 115 = .ok (.aload_n 0, 1) := by decide +kernel
theorem dX8_moths_116 : decode cX8_moths 116 = .ok (.dup, 1) := by decide +kernel
theorem dX8_moths_117 : decode cX8_moths 117 = .ok (.getfield 77, 3) := by decide +kernel
theorem dX8_moths_120 : decode cX8_moths 120 = .ok (.iconst 1, 1) := by decide +kernel
theorem dX8_moths_121 : decode cX8_moths 121 = .ok (.iadd, 1) := by decide +kernel
theorem dX8_moths_122 : decode cX8_moths 122 = .ok (.putfield 77, 3) := by decide +kernel
theorem dX8_moths_125 : decode cX8_moths 125 = .ok (.iinc 3 (-1), 3) := by decide +kernel
theorem dX8_moths_128 : decode cX8_moths 128 = .ok (.iinc 4 1, 3) := by decide +kernel
theorem dX8_moths_131 : decode cX8_moths 131 = .ok (.goto (-63), 3) := by decide +kernel
theorem dX8_moths_134 : decode cX8_moths 134 = .ok (.iinc 1 1, 3) := by decide +kernel
theorem dX8_moths_137 : decode cX8_moths 137 = .ok (.goto (-123), 3) := by decide +kernel
theorem dX8_moths_140 : decode cX8_moths 140 = .ok (.iconst 0, 1) := by decide +kernel
theorem dX8_moths_141 : decode cX8_moths 141 = .ok (.ireturn, 1) := by decide +kernel
theorem dX8_endYear_0 : decode cX8_endYear 0 = .ok (.aload_n 0, 1) := by decide +kernel
theorem dX8_endYear_1 : decode cX8_endYear 1 = .ok (.getfield 13, 3) := by decide +kernel
theorem dX8_endYear_4 : decode cX8_endYear 4 = .ok (.bipush 23, 2) := by decide +kernel
theorem dX8_endYear_6 : decode cX8_endYear 6 = .ok (.iaload, 1) := by decide +kernel
theorem dX8_endYear_7 : decode cX8_endYear 7 = .ok (.bipush 99, 2) := by decide +kernel
theorem dX8_endYear_9 : decode cX8_endYear 9 = .ok (.if_icmp .ne 6, 3) := by decide +kernel
theorem dX8_endYear_12 : decode cX8_endYear 12 = .ok (.bipush 6, 2) := by decide +kernel
theorem dX8_endYear_14 : decode cX8_endYear 14 = .ok (.ireturn, 1) := by decide +kernel
theorem dX8_endYear_15 : decode cX8_endYear 15 = .ok (.aload_n 0, 1) := by decide +kernel
theorem dX8_endYear_16 : decode cX8_endYear 16 = .ok (.getfield 13, 3) := by decide +kernel
theorem dX8_endYear_19 : decode cX8_endYear 19 = .ok (.bipush 23, 2) := by decide +kernel
theorem dX8_endYear_21 : decode cX8_endYear 21 = .ok (.dup2, 1) := by decide +kernel
theorem dX8_endYear_22 : decode cX8_endYear 22 = .ok (.iaload, 1) := by decide +kernel
theorem dX8_endYear_23 : decode cX8_endYear 23 = .ok (.iconst 1, 1) := by decide +kernel
theorem dX8_endYear_24 : decode cX8_endYear 24 = .ok (.iadd, 1) := by decide +kernel
theorem dX8_endYear_25 : decode cX8_endYear 25 = .ok (.iastore, 1) := by decide +kernel
theorem dX8_endYear_26 : decode cX8_endYear 26 = .ok (.iconst 0, 1) := by decide +kernel
theorem dX8_endYear_27 : decode cX8_endYear 27 = .ok (.istore_n 1, 1) := by decide +kernel
theorem dX8_endYear_28 : decode cX8_endYear 28 = .ok (.iload_n 1, 1) := by decide +kernel
theorem dX8_endYear_29 : decode cX8_endYear 29 = .ok (.bipush 6, 2) := by decide +kernel
theorem dX8_endYear_31 : decode cX8_endYear 31 = .ok (.if_icmp .ge 38, 3) := by decide +kernel
theorem dX8_endYear_34 : decode cX8_endYear 34 = .ok (.aload_n 0, 1) := by decide +kernel
theorem dX8_endYear_35 : decode cX8_endYear 35 = .ok (.getfield 13, 3) := by decide +kernel
theorem dX8_endYear_38 : decode cX8_endYear 38 = .ok (.bipush 6, 2) := by decide +kernel
theorem dX8_endYear_40 : decode cX8_endYear 40 = .ok (.iload_n 1, 1) := by decide +kernel
theorem dX8_endYear_41 : decode cX8_endYear 41 = .ok (.iadd, 1) := by decide +kernel
theorem dX8_endYear_42 : decode cX8_endYear 42 = .ok (.dup2, 1) := by decide +kernel
theorem dX8_endYear_43 : decode cX8_endYear 43 = .ok (.iaload, 1) := by decide +kernel
theorem dX8_endYear_44 : decode cX8_endYear 44 = .ok (.aload_n 0, 1) := by decide +kernel
theorem dX8_endYear_45 : decode cX8_endYear 45 = .ok (.getfield 13, 3) := by decide +kernel
theorem dX8_endYear_48 : decode cX8_endYear 48 = .ok (.bipush 6, 2) := by decide +kernel
theorem dX8_endYear_50 : decode cX8_endYear 50 = .ok (.iload_n 1, 1) := by decide +kernel
theorem dX8_endYear_51 : decode cX8_endYear 51 = .ok (.iadd, 1) := by decide +kernel
theorem dX8_endYear_52 : decode cX8_endYear 52 = .ok (.iaload, 1) := by decide +kernel
theorem dX8_endYear_53 : decode cX8_endYear 53 = .ok (.ifCond .le 7, 3) := by decide +kernel
theorem dX8_endYear_56 : decode cX8_endYear 56 = .ok (.iconst 1, 1) := by decide +kernel
theorem dX8_endYear_57 : decode cX8_endYear 57 = .ok (.goto 4, 3) := by decide +kernel
theorem dX8_endYear_60 : decode cX8_endYear 60 = .ok (.iconst 0, 1) := by decide +kernel
theorem dX8_endYear_61 : decode cX8_endYear 61 = .ok (.isub, 1) := by decide +kernel
theorem dX8_endYear_62 : decode cX8_endYear 62 = .ok (.iastore, 1) := by decide +kernel
theorem dX8_endYear_63 : decode cX8_endYear 63 = .ok (.iinc 1 1, 3) := by decide +kernel
theorem dX8_endYear_66 : decode cX8_endYear 66 = .ok (.goto (-38), 3) := by decide +kernel
theorem dX8_endYear_69 : decode cX8_endYear 69 = .ok (.iconst 0, 1) := by decide +kernel
theorem dX8_endYear_70 : decode cX8_endYear 70 = .ok (.ireturn, 1) := by decide +kernel
theorem dX8_goneNow_0 : decode cX8_goneNow 0 = .ok (.iconst 0, 1) := by decide +kernel
theorem dX8_goneNow_1 : decode cX8_goneNow 1 = .ok (.istore_n 1, 1) := by decide +kernel
theorem dX8_goneNow_2 : decode cX8_goneNow 2 = .ok (.iconst 0, 1) := by decide +kernel
theorem dX8_goneNow_3 : decode cX8_goneNow 3 = .ok (.istore_n 2, 1) := by decide +kernel
theorem dX8_goneNow_4 : decode cX8_goneNow 4 = .ok (.iload_n 2, 1) := by decide +kernel
theorem dX8_goneNow_5 : decode cX8_goneNow 5 = .ok (.bipush 6, 2) := by decide +kernel
theorem dX8_goneNow_7 : decode cX8_goneNow 7 = .ok (.if_icmp .ge 30, 3) := by decide +kernel
theorem dX8_goneNow_10 : decode cX8_goneNow 10 = .ok (.iload_n 1, 1) := by decide +kernel
theorem dX8_goneNow_11 : decode cX8_goneNow 11 = .ok (.aload_n 0, 1) := by decide +kernel
theorem dX8_goneNow_12 : decode cX8_goneNow 12 = .ok (.getfield 13, 3) := by decide +kernel
theorem dX8_goneNow_15 : decode cX8_goneNow 15 = .ok (.iload_n 2, 1) := by decide +kernel
theorem dX8_goneNow_16 : decode cX8_goneNow 16 = .ok (.iaload, 1) := by decide +kernel
theorem dX8_goneNow_17 : decode cX8_goneNow 17 = .ok (.ldc 66, 2) := by decide +kernel
theorem dX8_goneNow_19 : decode cX8_goneNow 19 = .ok (.if_icmp .ne 9, 3) := by decide +kernel
theorem dX8_goneNow_22 : decode cX8_goneNow 22 = .ok (.iconst 1, 1) := by decide +kernel
theorem dX8_goneNow_23 : decode cX8_goneNow 23 = .ok (.iload_n 2, 1) := by decide +kernel
theorem dX8_goneNow_24 : decode cX8_goneNow 24 = .ok (.ishl, 1) := by decide +kernel
theorem dX8_goneNow_25 : decode cX8_goneNow 25 = .ok (.goto 4, 3) := by decide +kernel
theorem dX8_goneNow_28 : decode cX8_goneNow 28 = .ok (.iconst 0, 1) := by decide +kernel
theorem dX8_goneNow_29 : decode cX8_goneNow 29 = .ok (.ior, 1) := by decide +kernel
theorem dX8_goneNow_30 : decode cX8_goneNow 30 = .ok (.istore_n 1, 1) := by decide +kernel
theorem dX8_goneNow_31 : decode cX8_goneNow 31 = .ok (.iinc 2 1, 3) := by decide +kernel
theorem dX8_goneNow_34 : decode cX8_goneNow 34 = .ok (.goto (-30), 3) := by decide +kernel
theorem dX8_goneNow_37 : decode cX8_goneNow 37 = .ok (.iload_n 1, 1) := by decide +kernel
theorem dX8_goneNow_38 : decode cX8_goneNow 38 = .ok (.ireturn, 1) := by decide +kernel
theorem dX8_robeAct_0 : decode cX8_robeAct 0 = .ok (.iload_n 2, 1) := by decide +kernel
theorem dX8_robeAct_1 : decode cX8_robeAct 1 = .ok (.bipush 60, 2) := by decide +kernel
theorem dX8_robeAct_3 : decode cX8_robeAct 3 = .ok (.if_icmp .ne 11, 3) := by decide +kernel
theorem dX8_robeAct_6 : decode cX8_robeAct 6 = .ok (.aload_n 0, 1) := by decide +kernel
theorem dX8_robeAct_7 : decode cX8_robeAct 7 = .ok (.iload_n 1, 1) := by decide +kernel
theorem dX8_robeAct_8 : decode cX8_robeAct 8 = .ok (.invokevirtual 90, 3) := by decide +kernel
theorem dX8_robeAct_11 : decode cX8_robeAct 11 = .ok (.goto 36, 3) := by decide +kernel
theorem dX8_robeAct_14 : decode cX8_robeAct 14 = .ok (.iload_n 2, 1) := by decide +kernel
theorem dX8_robeAct_15 : decode cX8_robeAct 15 = .ok (.bipush 62, 2) := by decide +kernel
theorem dX8_robeAct_17 : decode cX8_robeAct 17 = .ok (.if_icmp .ne 11, 3) := by decide +kernel
theorem dX8_robeAct_20 : decode cX8_robeAct 20 = .ok (.aload_n 0, 1) := by decide +kernel
theorem dX8_robeAct_21 : decode cX8_robeAct 21 = .ok (.iload_n 1, 1) := by decide +kernel
theorem dX8_robeAct_22 : decode cX8_robeAct 22 = .ok (.invokevirtual 94, 3) := by decide +kernel
theorem dX8_robeAct_25 : decode cX8_robeAct 25 = .ok (.goto 22, 3) := by decide +kernel
theorem dX8_robeAct_28 : decode cX8_robeAct 28 = .ok (.iload_n 2, 1) := by decide +kernel
theorem dX8_robeAct_29 : decode cX8_robeAct 29 = .ok (.bipush 43, 2) := by decide +kernel
theorem dX8_robeAct_31 : decode cX8_robeAct 31 = .ok (.if_icmp .ne 11, 3) := by decide +kernel
theorem dX8_robeAct_34 : decode cX8_robeAct 34 = .ok (.aload_n 0, 1) := by decide +kernel
theorem dX8_robeAct_35 : decode cX8_robeAct 35 = .ok (.iload_n 1, 1) := by decide +kernel
theorem dX8_robeAct_36 : decode cX8_robeAct 36 = .ok (.invokevirtual 97, 3) := by decide +kernel
theorem dX8_robeAct_39 : decode cX8_robeAct 39 = .ok (.goto 8, 3) := by decide +kernel
theorem dX8_robeAct_42 : decode cX8_robeAct 42 = .ok (.aload_n 0, 1) := by decide +kernel
theorem dX8_robeAct_43 : decode cX8_robeAct 43 = .ok (.iload_n 1, 1) := by decide +kernel
theorem dX8_robeAct_44 : decode cX8_robeAct 44 = .ok (.invokevirtual 100, 3) := by decide +kernel
theorem dX8_robeAct_47 : decode cX8_robeAct 47 = .ok (.ireturn, 1) := by decide +kernel
theorem dX8_goYears_0 : decode cX8_goYears 0 = .ok (.aload_n 0, 1) := by decide +kernel
theorem dX8_goYears_1 : decode cX8_goYears 1 = .ok (.invokevirtual 103, 3) := by decide +kernel
theorem dX8_goYears_4 : decode cX8_goYears 4 = .ok (.aload_n 0, 1) := by decide +kernel
theorem dX8_goYears_5 : decode cX8_goYears 5 = .ok (.iconst 0, 1) := by decide +kernel
theorem dX8_goYears_6 : decode cX8_goYears 6 = .ok (.putfield 106, 3) := by decide +kernel
theorem dX8_goYears_9 : decode cX8_goYears 9 = .ok (.iconst 0, 1) := by decide +kernel
theorem dX8_goYears_10 : decode cX8_goYears 10 = .ok (.istore_n 1, 1) := by decide +kernel
theorem dX8_goYears_11 : decode cX8_goYears 11 = .ok (.iload_n 1, 1) := by decide +kernel
theorem dX8_goYears_12 : decode cX8_goYears 12 = .ok (.aload_n 0, 1) := by decide +kernel
theorem dX8_goYears_13 : decode cX8_goYears 13 = .ok (.getfield 70, 3) := by decide +kernel
theorem dX8_goYears_16 : decode cX8_goYears 16 = .ok (.if_icmp .ge 182, 3) := by decide +kernel
theorem dX8_goYears_19 : decode cX8_goYears 19 = .ok (.aload_n 0, 1) := by decide +kernel
theorem dX8_goYears_20 : decode cX8_goYears 20 = .ok (.getfield 28, 3) := by decide +kernel
theorem dX8_goYears_23 : decode cX8_goYears 23 = .ok (.iload_n 1, 1) := by decide +kernel
theorem dX8_goYears_24 : decode cX8_goYears 24 = .ok (.iaload, 1) := by decide +kernel
theorem dX8_goYears_25 : decode cX8_goYears 25 = .ok (.istore_n 2, 1) := by decide +kernel
theorem dX8_goYears_26 : decode cX8_goYears 26 = .ok (.aload_n 0, 1) := by decide +kernel
theorem dX8_goYears_27 : decode cX8_goYears 27 = .ok (.invokevirtual 109, 3) := by decide +kernel
theorem dX8_goYears_30 : decode cX8_goYears 30 = .ok (.istore_n 3, 1) := by decide +kernel
theorem dX8_goYears_31 : decode cX8_goYears 31 = .ok (.iload_n 2, 1) := by decide +kernel
theorem dX8_goYears_32 : decode cX8_goYears 32 = .ok (.bipush 65, 2) := by decide +kernel
theorem dX8_goYears_34 : decode cX8_goYears 34 = .ok (.bipush 70, 2) := by decide +kernel
theorem dX8_goYears_36 : decode cX8_goYears 36 = .ok (.invokestatic 58, 3) := by decide +kernel
theorem dX8_goYears_39 : decode cX8_goYears 39 = .ok (.ifCond .eq 27, 3) := by decide +kernel
theorem dX8_goYears_42 : decode cX8_goYears 42 = .ok (.iinc 1 1, 3) := by decide +kernel
theorem dX8_goYears_45 : decode cX8_goYears 45 = .ok (.aload_n 0, 1) := by decide +kernel
theorem dX8_goYears_46 : decode cX8_goYears 46 = .ok (.aload_n 0, 1) := by decide +kernel
theorem dX8_goYears_47 : decode cX8_goYears 47 = .ok (.iload_n 2, 1) := by decide +kernel
theorem dX8_goYears_48 : decode cX8_goYears 48 = .ok (.bipush 65, 2) := by decide +kernel
theorem dX8_goYears_50 : decode cX8_goYears 50 = .ok (.isub, 1) := by decide +kernel
theorem dX8_goYears_51 : decode cX8_goYears 51 = .ok (.aload_n 0, 1) := by decide +kernel
theorem dX8_goYears_52 : decode cX8_goYears 52 = .ok (.getfield 28, 3) := by decide +kernel
theorem dX8_goYears_55 : decode cX8_goYears 55 = .ok (.iload_n 1, 1) := by decide +kernel
theorem dX8_goYears_56 : decode cX8_goYears 56 = .ok (.iaload, 1) := by decide +kernel
theorem dX8_goYears_57 : decode cX8_goYears 57 = .ok (.invokevirtual 112, 3) := by decide +kernel
theorem dX8_goYears_60 : decode cX8_goYears 60 = .ok (.putfield 116, 3) := by decide +kernel
theorem dX8_goYears_63 : decode cX8_goYears 63 = .ok (.goto 41, 3) := by decide +kernel
theorem dX8_goYears_66 : decode cX8_goYears 66 = .ok (.aload_n 0, 1) := by decide +kernel
theorem dX8_goYears_67 : decode cX8_goYears 67 = .ok (.iload_n 2, 1) := by decide +kernel
theorem dX8_goYears_68 : decode cX8_goYears 68 = .ok (.bipush 42, 2) := by decide +kernel
theorem dX8_goYears_70 : decode cX8_goYears 70 = .ok (.if_icmp .ne 10, 3) := by decide +kernel
theorem dX8_goYears_73 : decode cX8_goYears 73 = .ok (.aload_n 0, 1) := by decide +kernel
theorem dX8_goYears_74 : decode cX8_goYears 74 = .ok (.invokevirtual 119, 3) := by decide +kernel
theorem dX8_goYears_77 : decode cX8_goYears 77 = .ok (.goto 24, 3) := by decide +kernel
theorem dX8_goYears_80 : decode cX8_goYears 80 = .ok (.iload_n 2, 1) := by decide +kernel
theorem dX8_goYears_81 : decode cX8_goYears 81 = .ok (.bipush 46, 2) := by decide +kernel
theorem dX8_goYears_83 : decode cX8_goYears 83 = .ok (.if_icmp .ne 10, 3) := by decide +kernel
theorem dX8_goYears_86 : decode cX8_goYears 86 = .ok (.aload_n 0, 1) := by decide +kernel
theorem dX8_goYears_87 : decode cX8_goYears 87 = .ok (.invokevirtual 122, 3) := by decide +kernel
theorem dX8_goYears_90 : decode cX8_goYears 90 = .ok (.goto 11, 3) := by decide +kernel
theorem dX8_goYears_93 : decode cX8_goYears 93 = .ok (.aload_n 0, 1) := by decide +kernel
theorem dX8_goYears_94 : decode cX8_goYears 94 = .ok (.iload_n 2, 1) := by decide +kernel
theorem dX8_goYears_95 : decode cX8_goYears 95 = .ok (.bipush 48, 2) := by decide +kernel
theorem dX8_goYears_97 : decode cX8_goYears 97 = .ok (.isub, 1) := by decide +kernel
theorem dX8_goYears_98 : decode cX8_goYears 98 = .ok (.invokevirtual 125, 3) := by decide +kernel
theorem dX8_goYears_101 : decode cX8_goYears 101 = .ok (.putfield 116, 3) := by decide +kernel
theorem dX8_goYears_104 : decode cX8_goYears 104 = .ok (.aload_n 0, 1) := by decide +kernel
theorem dX8_goYears_105 : decode cX8_goYears 105 = .ok (.getfield 116, 3) := by decide +kernel
theorem dX8_goYears_108 : decode cX8_goYears 108 = .ok (.ifCond .le 8, 3) := by decide +kernel
theorem dX8_goYears_111 : decode cX8_goYears 111 = .ok (.aload_n 0, 1) := by decide +kernel
theorem dX8_goYears_112 : decode cX8_goYears 112 = .ok (.getfield 106, 3) := by decide +kernel
theorem dX8_goYears_115 : decode cX8_goYears 115 = .ok (.ireturn, 1) := by decide +kernel
theorem dX8_goYears_116 : decode cX8_goYears 116 = .ok (.aload_n 0, 1) := by decide +kernel
theorem dX8_goYears_117 : decode cX8_goYears 117 = .ok (.invokevirtual 109, 3) := by decide +kernel
theorem dX8_goYears_120 : decode cX8_goYears 120 = .ok (.iload_n 3, 1) := by decide +kernel
theorem dX8_goYears_121 : decode cX8_goYears 121 = .ok (.iconst (-1), 1) := by decide +kernel
theorem dX8_goYears_122 : decode cX8_goYears 122 = .ok (.ixor, 1) := by decide +kernel
theorem dX8_goYears_123 : decode cX8_goYears 123 = .ok (.iand, 1) := by decide +kernel
theorem dX8_goYears_124 : decode cX8_goYears 124 = .ok (.istore 4, 2) := by decide +kernel
theorem dX8_goYears_126 : decode cX8_goYears 126 = .ok (.iconst 5, 1) := by decide +kernel
theorem dX8_goYears_127 : decode cX8_goYears 127 = .ok (.istore 5, 2) := by decide +kernel
theorem dX8_goYears_129 : decode cX8_goYears 129 = .ok (.iload 5, 2) := by decide +kernel
theorem dX8_goYears_131 : decode cX8_goYears 131 = .ok (.ifCond .lt 51, 3) := by decide +kernel
theorem dX8_goYears_134 : decode cX8_goYears 134 = .ok (.aload_n 0, 1) := by decide +kernel
theorem dX8_goYears_135 : decode cX8_goYears 135 = .ok (.getfield 80, 3) := by decide +kernel
theorem dX8_goYears_138 : decode cX8_goYears 138 = .ok (.ifCond .lt 14, 3) := by decide +kernel
theorem dX8_goYears_141 : decode cX8_goYears 141 = .ok (.aload_n 0, 1) := by decide +kernel
theorem dX8_goYears_142 : decode cX8_goYears 142 = .ok (.getfield 80, 3) := by decide +kernel
theorem dX8_goYears_145 : decode cX8_goYears 145 = .ok (.aload_n 0, 1) := by decide +kernel
theorem dX8_goYears_146 : decode cX8_goYears 146 = .ok (.getfield 106, 3) := by decide +kernel
theorem dX8_goYears_149 : decode cX8_goYears 149 = .ok (.if_icmp .ne 33, 3) := by decide +kernel
theorem dX8_goYears_152 : decode cX8_goYears 152 = .ok (.iload 4, 2) := by decide +kernel
theorem dX8_goYears_154 : decode cX8_goYears 154 = .ok (.iload 5, 2) := by decide +kernel
theorem dX8_goYears_156 : decode cX8_goYears 156 = .ok (.invokestatic 86, 3) := by decide +kernel
theorem dX8_goYears_159 : decode cX8_goYears 159 = .ok (.ifCond .eq 17, 3) := by decide +kernel
theorem dX8_goYears_162 : decode cX8_goYears 162 = .ok (.aload_n 0, 1) := by decide +kernel
theorem dX8_goYears_163 : decode cX8_goYears 163 = .ok (.aload_n 0, 1) := by decide +kernel
theorem dX8_goYears_164 : decode cX8_goYears 164 = .ok (.getfield 106, 3) := by decide +kernel
theorem dX8_goYears_167 : decode cX8_goYears 167 = .ok (.putfield 80, 3) := by decide +kernel
theorem dX8_goYears_170 : decode cX8_goYears 170 = .ok (.aload_n 0, 1) := by decide +kernel
theorem dX8_goYears_171 : decode cX8_goYears 171 = .ok (.iload 5, 2) := by decide +kernel
theorem dX8_goYears_173 : decode cX8_goYears 173 = .ok (.putfield 83, 3) := by decide +kernel
theorem dX8_goYears_176 : decode cX8_goYears 176 = .ok (.iinc 5 (-1), 3) := by decide +kernel
theorem dX8_goYears_179 : decode cX8_goYears 179 = .ok (.goto (-50), 3) := by decide +kernel
theorem dX8_goYears_182 : decode cX8_goYears 182 = .ok (.iinc 1 1, 3) := by decide +kernel
theorem dX8_goYears_185 : decode cX8_goYears 185 = .ok (.aload_n 0, 1) := by decide +kernel
theorem dX8_goYears_186 : decode cX8_goYears 186 = .ok (.dup, 1) := by decide +kernel
theorem dX8_goYears_187 : decode cX8_goYears 187 = .ok (.getfield 106, 3) := by decide +kernel
theorem dX8_goYears_190 : decode cX8_goYears 190 = .ok (.iconst 1, 1) := by decide +kernel
theorem dX8_goYears_191 : decode cX8_goYears 191 = .ok (.iadd, 1) := by decide +kernel
theorem dX8_goYears_192 : decode cX8_goYears 192 = .ok (.putfield 106, 3) := by decide +kernel
theorem dX8_goYears_195 : decode cX8_goYears 195 = .ok (.goto (-184), 3) := by decide +kernel
theorem dX8_goYears_198 : decode cX8_goYears 198 = .ok (.bipush (-6), 2) := by decide +kernel
theorem dX8_goYears_200 : decode cX8_goYears 200 = .ok (.ireturn, 1) := by decide +kernel
theorem dX8_judge_0 : decode cX8_judge 0 = .ok (.iload_n 1, 1) := by decide +kernel
theorem dX8_judge_1 : decode cX8_judge 1 = .ok (.iconst 0, 1) := by decide +kernel
theorem dX8_judge_2 : decode cX8_judge 2 = .ok (.iconst 1, 1) := by decide +kernel
theorem dX8_judge_3 : decode cX8_judge 3 = .ok (.invokestatic 58, 3) := by decide +kernel
theorem dX8_judge_6 : decode cX8_judge 6 = .ok (.ifCond .ne 6, 3) := by decide +kernel
theorem dX8_judge_9 : decode cX8_judge 9 = .ok (.bipush (-2), 2) := by decide +kernel
theorem dX8_judge_11 : decode cX8_judge 11 = .ok (.ireturn, 1) := by decide +kernel
theorem dX8_judge_12 : decode cX8_judge 12 = .ok (.aload_n 0, 1) := by decide +kernel
theorem dX8_judge_13 : decode cX8_judge 13 = .ok (.invokevirtual 73, 3) := by decide +kernel
theorem dX8_judge_16 : decode cX8_judge 16 = .ok (.ifCond .lt 6, 3) := by decide +kernel
theorem dX8_judge_19 : decode cX8_judge 19 = .ok (.bipush (-5), 2) := by decide +kernel
theorem dX8_judge_21 : decode cX8_judge 21 = .ok (.ireturn, 1) := by decide +kernel
theorem dX8_judge_22 : decode cX8_judge 22 = .ok (.aload_n 0, 1) := by decide +kernel
theorem dX8_judge_23 : decode cX8_judge 23 = .ok (.invokevirtual 128, 3) := by decide +kernel
theorem dX8_judge_26 : decode cX8_judge 26 = .ok (.istore_n 2, 1) := by decide +kernel
theorem dX8_judge_27 : decode cX8_judge 27 = .ok (.iload_n 2, 1) := by decide +kernel
theorem dX8_judge_28 : decode cX8_judge 28 = .ok (.ifCond .lt 7, 3) := by decide +kernel
theorem dX8_judge_31 : decode cX8_judge 31 = .ok (.iload_n 1, 1) := by decide +kernel
theorem dX8_judge_32 : decode cX8_judge 32 = .ok (.ifCond .ne 7, 3) := by decide +kernel
theorem dX8_judge_35 : decode cX8_judge 35 = .ok (.iload_n 2, 1) := by decide +kernel
theorem dX8_judge_36 : decode cX8_judge 36 = .ok (.goto 7, 3) := by decide +kernel
theorem dX8_judge_39 : decode cX8_judge 39 = .ok (.aload_n 0, 1) := by decide +kernel
theorem dX8_judge_40 : decode cX8_judge 40 = .ok (.getfield 116, 3) := by decide +kernel
theorem dX8_judge_43 : decode cX8_judge 43 = .ok (.ireturn, 1) := by decide +kernel
theorem dX8_barOfYears_0 : decode cX8_barOfYears 0 = .ok (.aload_n 0, 1) := by decide +kernel
theorem dX8_barOfYears_1 : decode cX8_barOfYears 1 = .ok (.invokevirtual 73, 3) := by decide +kernel
theorem dX8_barOfYears_4 : decode cX8_barOfYears 4 = .ok (.ifCond .ge 10, 3) := by decide +kernel
theorem dX8_barOfYears_7 : decode cX8_barOfYears 7 = .ok (.aload_n 0, 1) := by decide +kernel
theorem dX8_barOfYears_8 : decode cX8_barOfYears 8 = .ok (.invokevirtual 128, 3) := by decide +kernel
theorem dX8_barOfYears_11 : decode cX8_barOfYears 11 = .ok (.ifCond .lt 8, 3) := by decide +kernel
theorem dX8_barOfYears_14 : decode cX8_barOfYears 14 = .ok (.bipush (-5), 2) := by decide +kernel
theorem dX8_barOfYears_16 : decode cX8_barOfYears 16 = .ok (.goto 4, 3) := by decide +kernel
theorem dX8_barOfYears_19 : decode cX8_barOfYears 19 = .ok (.iconst 0, 1) := by decide +kernel
theorem dX8_barOfYears_20 : decode cX8_barOfYears 20 = .ok (.ireturn, 1) := by decide +kernel
theorem dX8_done_0 : decode cX8_done 0 = .ok (.aload_n 0, 1) := by decide +kernel
theorem dX8_done_1 : decode cX8_done 1 = .ok (.invokevirtual 131, 3) := by decide +kernel
theorem dX8_done_4 : decode cX8_done 4 = .ok (.ifCond .ge 6, 3) := by decide +kernel
theorem dX8_done_7 : decode cX8_done 7 = .ok (.bipush (-5), 2) := by decide +kernel
theorem dX8_done_9 : decode cX8_done 9 = .ok (.ireturn, 1) := by decide +kernel
theorem dX8_done_10 : decode cX8_done 10 = .ok (.iconst 0, 1) := by decide +kernel
theorem dX8_done_11 : decode cX8_done 11 = .ok (.istore_n 1, 1) := by decide +kernel
theorem dX8_done_12 : decode cX8_done 12 = .ok (.iload_n 1, 1) := by decide +kernel
theorem dX8_done_13 : decode cX8_done 13 = .ok (.bipush 24, 2) := by decide +kernel
theorem dX8_done_15 : decode cX8_done 15 = .ok (.if_icmp .ge 21, 3) := by decide +kernel
theorem dX8_done_18 : decode cX8_done 18 = .ok (.aload_n 0, 1) := by decide +kernel
theorem dX8_done_19 : decode cX8_done 19 = .ok (.getfield 7, 3) := by decide +kernel
theorem dX8_done_22 : decode cX8_done 22 = .ok (.iload_n 1, 1) := by decide +kernel
theorem dX8_done_23 : decode cX8_done 23 = .ok (.aload_n 0, 1) := by decide +kernel
theorem dX8_done_24 : decode cX8_done 24 = .ok (.getfield 13, 3) := by decide +kernel
theorem dX8_done_27 : decode cX8_done 27 = .ok (.iload_n 1, 1) := by decide +kernel
theorem dX8_done_28 : decode cX8_done 28 = .ok (.iaload, 1) := by decide +kernel
theorem dX8_done_29 : decode cX8_done 29 = .ok (.iastore, 1) := by decide +kernel
theorem dX8_done_30 : decode cX8_done 30 = .ok (.iinc 1 1, 3) := by decide +kernel
theorem dX8_done_33 : decode cX8_done 33 = .ok (.goto (-21), 3) := by decide +kernel
theorem dX8_done_36 : decode cX8_done 36 = .ok (.aload_n 0, 1) := by decide +kernel
theorem dX8_done_37 : decode cX8_done 37 = .ok (.iconst 0, 1) := by decide +kernel
theorem dX8_done_38 : decode cX8_done 38 = .ok (.putfield 70, 3) := by decide +kernel
theorem dX8_done_41 : decode cX8_done 41 = .ok (.aload_n 0, 1) := by decide +kernel
theorem dX8_done_42 : decode cX8_done 42 = .ok (.getfield 106, 3) := by decide +kernel
theorem dX8_done_45 : decode cX8_done 45 = .ok (.ireturn, 1) := by decide +kernel
theorem dX8_behind_0 : decode cX8_behind 0 = .ok (.iload_n 1, 1) := by decide +kernel
theorem dX8_behind_1 : decode cX8_behind 1 = .ok (.invokestatic 62, 3) := by decide +kernel
theorem dX8_behind_4 : decode cX8_behind 4 = .ok (.ifCond .ne 5, 3) := by decide +kernel
theorem dX8_behind_7 : decode cX8_behind 7 = .ok (.iconst (-1), 1) := by decide +kernel
theorem dX8_behind_8 : decode cX8_behind 8 = .ok (.ireturn, 1) := by decide +kernel
theorem dX8_behind_9 : decode cX8_behind 9 = .ok (.iload_n 2, 1) := by decide +kernel
theorem dX8_behind_10 : decode cX8_behind 10 = .ok (.iconst 0, 1) := by decide +kernel
theorem dX8_behind_11 : decode cX8_behind 11 = .ok (.iconst 2, 1) := by decide +kernel
theorem dX8_behind_12 : decode cX8_behind 12 = .ok (.invokestatic 58, 3) := by decide +kernel
theorem dX8_behind_15 : decode cX8_behind 15 = .ok (.ifCond .ne 6, 3) := by decide +kernel
theorem dX8_behind_18 : decode cX8_behind 18 = .ok (.bipush (-2), 2) := by decide +kernel
theorem dX8_behind_20 : decode cX8_behind 20 = .ok (.ireturn, 1) := by decide +kernel
theorem dX8_behind_21 : decode cX8_behind 21 = .ok (.aload_n 0, 1) := by decide +kernel
theorem dX8_behind_22 : decode cX8_behind 22 = .ok (.invokevirtual 131, 3) := by decide +kernel
theorem dX8_behind_25 : decode cX8_behind 25 = .ok (.ifCond .ge 6, 3) := by decide +kernel
theorem dX8_behind_28 : decode cX8_behind 28 = .ok (.bipush (-5), 2) := by decide +kernel
theorem dX8_behind_30 : decode cX8_behind 30 = .ok (.ireturn, 1) := by decide +kernel
theorem dX8_behind_31 : decode cX8_behind 31 = .ok (.iload_n 2, 1) := by decide +kernel
theorem dX8_behind_32 : decode cX8_behind 32 = .ok (.iconst 2, 1) := by decide +kernel
theorem dX8_behind_33 : decode cX8_behind 33 = .ok (.if_icmp .ge 17, 3) := by decide +kernel
theorem dX8_behind_36 : decode cX8_behind 36 = .ok (.aload_n 0, 1) := by decide +kernel
theorem dX8_behind_37 : decode cX8_behind 37 = .ok (.getfield 13, 3) := by decide +kernel
theorem dX8_behind_40 : decode cX8_behind 40 = .ok (.bipush 6, 2) := by decide +kernel
theorem dX8_behind_42 : decode cX8_behind 42 = .ok (.iload_n 2, 1) := by decide +kernel
theorem dX8_behind_43 : decode cX8_behind 43 = .ok (.imul, 1) := by decide +kernel
theorem dX8_behind_44 : decode cX8_behind 44 = .ok (.iload_n 1, 1) := by decide +kernel
theorem dX8_behind_45 : decode cX8_behind 45 = .ok (.iadd, 1) := by decide +kernel
theorem dX8_behind_46 : decode cX8_behind 46 = .ok (.iaload, 1) := by decide +kernel
theorem dX8_behind_47 : decode cX8_behind 47 = .ok (.goto 14, 3) := by decide +kernel
theorem dX8_behind_50 : decode cX8_behind 50 = .ok (.aload_n 0, 1) := by decide +kernel
theorem dX8_behind_51 : decode cX8_behind 51 = .ok (.getfield 13, 3) := by decide +kernel
theorem dX8_behind_54 : decode cX8_behind 54 = .ok (.bipush 22, 2) := by decide +kernel
theorem dX8_behind_56 : decode cX8_behind 56 = .ok (.iaload, 1) := by decide +kernel
theorem dX8_behind_57 : decode cX8_behind 57 = .ok (.iload_n 1, 1) := by decide +kernel
theorem dX8_behind_58 : decode cX8_behind 58 = .ok (.ishr, 1) := by decide +kernel
theorem dX8_behind_59 : decode cX8_behind 59 = .ok (.iconst 1, 1) := by decide +kernel
theorem dX8_behind_60 : decode cX8_behind 60 = .ok (.iand, 1) := by decide +kernel
theorem dX8_behind_61 : decode cX8_behind 61 = .ok (.ireturn, 1) := by decide +kernel
theorem dX8_untrue_0 : decode cX8_untrue 0 = .ok (.iload_n 1, 1) := by decide +kernel
theorem dX8_untrue_1 : decode cX8_untrue 1 = .ok (.invokestatic 67, 3) := by decide +kernel
theorem dX8_untrue_4 : decode cX8_untrue 4 = .ok (.ifCond .ne 5, 3) := by decide +kernel
theorem dX8_untrue_7 : decode cX8_untrue 7 = .ok (.iconst (-1), 1) := by decide +kernel
theorem dX8_untrue_8 : decode cX8_untrue 8 = .ok (.ireturn, 1) := by decide +kernel
theorem dX8_untrue_9 : decode cX8_untrue 9 = .ok (.aload_n 0, 1) := by decide +kernel
theorem dX8_untrue_10 : decode cX8_untrue 10 = .ok (.invokevirtual 131, 3) := by decide +kernel
theorem dX8_untrue_13 : decode cX8_untrue 13 = .ok (.ifCond .ge 8, 3) := by decide +kernel
theorem dX8_untrue_16 : decode cX8_untrue 16 = .ok (.bipush (-5), 2) := by decide +kernel
theorem dX8_untrue_18 : decode cX8_untrue 18 = .ok (.goto 12, 3) := by decide +kernel
theorem dX8_untrue_21 : decode cX8_untrue 21 = .ok (.aload_n 0, 1) := by decide +kernel
theorem dX8_untrue_22 : decode cX8_untrue 22 = .ok (.getfield 13, 3) := by decide +kernel
theorem dX8_untrue_25 : decode cX8_untrue 25 = .ok (.bipush 12, 2) := by decide +kernel
theorem dX8_untrue_27 : decode cX8_untrue 27 = .ok (.iload_n 1, 1) := by decide +kernel
theorem dX8_untrue_28 : decode cX8_untrue 28 = .ok (.iadd, 1) := by decide +kernel
theorem dX8_untrue_29 : decode cX8_untrue 29 = .ok (.iaload, 1) := by decide +kernel
theorem dX8_untrue_30 : decode cX8_untrue 30 = .ok (.ireturn, 1) := by decide +kernel
theorem dX8_eaten_0 : decode cX8_eaten 0 = .ok (.iload_n 1, 1) := by decide +kernel
theorem dX8_eaten_1 : decode cX8_eaten 1 = .ok (.iconst 0, 1) := by decide +kernel
theorem dX8_eaten_2 : decode cX8_eaten 2 = .ok (.iconst 3, 1) := by decide +kernel
theorem dX8_eaten_3 : decode cX8_eaten 3 = .ok (.invokestatic 58, 3) := by decide +kernel
theorem dX8_eaten_6 : decode cX8_eaten 6 = .ok (.ifCond .ne 6, 3) := by decide +kernel
theorem dX8_eaten_9 : decode cX8_eaten 9 = .ok (.bipush (-2), 2) := by decide +kernel
theorem dX8_eaten_11 : decode cX8_eaten 11 = .ok (.ireturn, 1) := by decide +kernel
theorem dX8_eaten_12 : decode cX8_eaten 12 = .ok (.aload_n 0, 1) := by decide +kernel
theorem dX8_eaten_13 : decode cX8_eaten 13 = .ok (.invokevirtual 131, 3) := by decide +kernel
theorem dX8_eaten_16 : decode cX8_eaten 16 = .ok (.ifCond .ge 6, 3) := by decide +kernel
theorem dX8_eaten_19 : decode cX8_eaten 19 = .ok (.bipush (-5), 2) := by decide +kernel
theorem dX8_eaten_21 : decode cX8_eaten 21 = .ok (.ireturn, 1) := by decide +kernel
theorem dX8_eaten_22 : decode cX8_eaten 22 = .ok (.iload_n 1, 1) := by decide +kernel
theorem dX8_eaten_23 : decode cX8_eaten 23 = .ok (.ifCond .ne 10, 3) := by decide +kernel
theorem dX8_eaten_26 : decode cX8_eaten 26 = .ok (.aload_n 0, 1) := by decide +kernel
theorem dX8_eaten_27 : decode cX8_eaten 27 = .ok (.getfield 77, 3) := by decide +kernel
theorem dX8_eaten_30 : decode cX8_eaten 30 = .ok (.goto 34, 3) := by decide +kernel
theorem dX8_eaten_33 : decode cX8_eaten 33 = .ok (.iload_n 1, 1) := by decide +kernel
theorem dX8_eaten_34 : decode cX8_eaten 34 = .ok (.iconst 1, 1) := by decide +kernel
theorem dX8_eaten_35 : decode cX8_eaten 35 = .ok (.if_icmp .ne 10, 3) := by decide +kernel
theorem dX8_eaten_38 : decode cX8_eaten 38 = .ok (.aload_n 0, 1) := by decide +kernel
theorem dX8_eaten_39 : decode cX8_eaten 39 = .ok (.getfield 80, 3) := by decide +kernel
theorem dX8_eaten_42 : decode cX8_eaten 42 = .ok (.goto 22, 3) := by decide +kernel
theorem dX8_eaten_45 : decode cX8_eaten 45 = .ok (.iload_n 1, 1) := by decide +kernel
theorem dX8_eaten_46 : decode cX8_eaten 46 = .ok (.iconst 2, 1) := by decide +kernel
theorem dX8_eaten_47 : decode cX8_eaten 47 = .ok (.if_icmp .ne 10, 3) := by decide +kernel
theorem dX8_eaten_50 : decode cX8_eaten 50 = .ok (.aload_n 0, 1) := by decide +kernel
theorem dX8_eaten_51 : decode cX8_eaten 51 = .ok (.getfield 83, 3) := by decide +kernel
theorem dX8_eaten_54 : decode cX8_eaten 54 = .ok (.goto 10, 3) := by decide +kernel
theorem dX8_eaten_57 : decode cX8_eaten 57 = .ok (.aload_n 0, 1) := by decide +kernel
theorem dX8_eaten_58 : decode cX8_eaten 58 = .ok (.getfield 13, 3) := by decide +kernel
theorem dX8_eaten_61 : decode cX8_eaten 61 = .ok (.bipush 23, 2) := by decide +kernel
theorem dX8_eaten_63 : decode cX8_eaten 63 = .ok (.iaload, 1) := by decide +kernel
theorem dX8_eaten_64 : decode cX8_eaten 64 = .ok (.ireturn, 1) := by decide +kernel
theorem dX8_blame_0 : decode cX8_blame 0 = .ok (.iload_n 1, 1) := by decide +kernel
theorem dX8_blame_1 : decode cX8_blame 1 = .ok (.invokestatic 62, 3) := by decide +kernel
theorem dX8_blame_4 : decode cX8_blame 4 = .ok (.ifCond .ne 5, 3) := by decide +kernel
theorem dX8_blame_7 : decode cX8_blame 7 = .ok (.iconst (-1), 1) := by decide +kernel
theorem dX8_blame_8 : decode cX8_blame 8 = .ok (.ireturn, 1) := by decide +kernel
theorem dX8_blame_9 : decode cX8_blame 9 = .ok (.iload_n 2, 1) := by decide +kernel
theorem dX8_blame_10 : decode cX8_blame 10 = .ok (.iconst 0, 1) := by decide +kernel
theorem dX8_blame_11 : decode cX8_blame 11 = .ok (.iconst 1, 1) := by decide +kernel
theorem dX8_blame_12 : decode cX8_blame 12 = .ok (.invokestatic 58, 3) := by decide +kernel
theorem dX8_blame_15 : decode cX8_blame 15 = .ok (.ifCond .ne 6, 3) := by decide +kernel
theorem dX8_blame_18 : decode cX8_blame 18 = .ok (.bipush (-2), 2) := by decide +kernel
theorem dX8_blame_20 : decode cX8_blame 20 = .ok (.ireturn, 1) := by decide +kernel
theorem dX8_blame_21 : decode cX8_blame 21 = .ok (.bipush (-6), 2) := by decide +kernel
theorem dX8_blame_23 : decode cX8_blame 23 = .ok (.istore_n 3, 1) := by decide +kernel
theorem dX8_blame_24 : decode cX8_blame 24 = .ok (.iconst 0, 1) := by decide +kernel
theorem dX8_blame_25 : decode cX8_blame 25 = .ok (.istore 4, 2) := by decide +kernel
theorem dX8_blame_27 : decode cX8_blame 27 = .ok (.iload 4, 2) := by decide +kernel
theorem dX8_blame_29 : decode cX8_blame 29 = .ok (.sipush 1024, 3) := by decide +kernel
theorem dX8_blame_32 : decode cX8_blame 32 = .ok (.if_icmp .ge 144, 3) := by decide +kernel
theorem dX8_blame_35 : decode cX8_blame 35 = .ok (.iconst 0, 1) := by decide +kernel
theorem dX8_blame_36 : decode cX8_blame 36 = .ok (.istore 5, 2) := by decide +kernel
theorem dX8_blame_38 : decode cX8_blame 38 = .ok (.iconst 1, 1) := by decide +kernel
theorem dX8_blame_39 : decode cX8_blame 39 = .ok (.istore 6, 2) := by decide +kernel
theorem dX8_blame_41 : decode cX8_blame 41 = .ok (.iconst 0, 1) := by decide +kernel
theorem dX8_blame_42 : decode cX8_blame 42 = .ok (.istore 7, 2) := by decide +kernel
theorem dX8_blame_44 : decode cX8_blame 44 = .ok (.iload 7, 2) := by decide +kernel
theorem dX8_blame_46 : decode cX8_blame 46 = .ok (.bipush 10, 2) := by decide +kernel
theorem dX8_blame_48 : decode cX8_blame 48 = .ok (.if_icmp .ge 68, 3) := by decide +kernel
theorem dX8_blame_51 : decode cX8_blame 51 = .ok (.iload 6, 2) := by decide +kernel
theorem dX8_blame_53 : decode cX8_blame 53 = .ok (.ifCond .eq 28, 3) := by decide +kernel
theorem dX8_blame_56 : decode cX8_blame 56 = .ok (.iload 4, 2) := by decide +kernel
theorem dX8_blame_58 : decode cX8_blame 58 = .ok (.iload 7, 2) := by decide +kernel
theorem dX8_blame_60 : decode cX8_blame 60 = .ok (.invokestatic 86, 3) := by decide +kernel
theorem dX8_blame_63 : decode cX8_blame 63 = .ok (.ifCond .eq 14, 3) := by decide +kernel
theorem dX8_blame_66 : decode cX8_blame 66 = .ok (.aload_n 0, 1) := by decide +kernel
theorem dX8_blame_67 : decode cX8_blame 67 = .ok (.getfield 16, 3) := by decide +kernel
theorem dX8_blame_70 : decode cX8_blame 70 = .ok (.iload 7, 2) := by decide +kernel
theorem dX8_blame_72 : decode cX8_blame 72 = .ok (.iaload, 1) := by decide +kernel
theorem dX8_blame_73 : decode cX8_blame 73 = .ok (.iload_n 1, 1) := by decide +kernel
theorem dX8_blame_74 : decode cX8_blame 74 = .ok (.if_icmp .ne 7, 3) := by decide +kernel
theorem dX8_blame_77 : decode cX8_blame 77 = .ok (.iconst 1, 1) := by decide +kernel
theorem dX8_blame_78 : decode cX8_blame 78 = .ok (.goto 4, 3) := by decide +kernel
theorem dX8_blame_81 : decode cX8_blame 81 = .ok (.iconst 0, 1) := by decide +kernel
theorem dX8_blame_82 : decode cX8_blame 82 = .ok (.istore 6, 2) := by decide +kernel
theorem dX8_blame_84 : decode cX8_blame 84 = .ok (.iload 5, 2) := by decide +kernel
theorem dX8_blame_86 : decode cX8_blame 86 = .ok (.iload 4, 2) := by decide +kernel
theorem dX8_blame_88 : decode cX8_blame 88 = .ok (.iload 7, 2) := by decide +kernel
theorem dX8_blame_90 : decode cX8_blame 90 = .ok (.invokestatic 86, 3) := by decide +kernel
theorem dX8_blame_93 : decode cX8_blame 93 = .ok (.ifCond .eq 13, 3) := by decide +kernel
theorem dX8_blame_96 : decode cX8_blame 96 = .ok (.aload_n 0, 1) := by decide +kernel
theorem dX8_blame_97 : decode cX8_blame 97 = .ok (.getfield 19, 3) := by decide +kernel
theorem dX8_blame_100 : decode cX8_blame 100 = .ok (.iload 7, 2) := by decide +kernel
theorem dX8_blame_102 : decode cX8_blame 102 = .ok (.iaload, 1) := by decide +kernel
theorem dX8_blame_103 : decode cX8_blame 103 = .ok (.goto 4, 3) := by decide +kernel
theorem dX8_blame_106 : decode cX8_blame 106 = .ok (.iconst 0, 1) := by decide +kernel
theorem dX8_blame_107 : decode cX8_blame 107 = .ok (.ior, 1) := by decide +kernel
theorem dX8_blame_108 : decode cX8_blame 108 = .ok (.istore 5, 2) := by decide +kernel
theorem dX8_blame_110 : decode cX8_blame 110 = .ok (.iinc 7 1, 3) := by decide +kernel
theorem dX8_blame_113 : decode cX8_blame 113 = .ok (.goto (-69), 3) := by decide +kernel
theorem dX8_blame_116 : decode cX8_blame 116 = .ok (.iload 6, 2) := by decide +kernel
theorem dX8_blame_118 : decode cX8_blame 118 = .ok (.ifCond .eq 37, 3) := by decide +kernel
theorem dX8_blame_121 : decode cX8_blame 121 = .ok (.aload_n 0, 1) := by decide +kernel
theorem dX8_blame_122 : decode cX8_blame 122 = .ok (.getfield 7, 3) := by decide +kernel
theorem dX8_blame_125 : decode cX8_blame 125 = .ok (.iload_n 1, 1) := by decide +kernel
theorem dX8_blame_126 : decode cX8_blame 126 = .ok (.iaload, 1) := by decide +kernel
theorem dX8_blame_127 : decode cX8_blame 127 = .ok (.iload 5, 2) := by decide +kernel
theorem dX8_blame_129 : decode cX8_blame 129 = .ok (.iconst (-1), 1) := by decide +kernel
theorem dX8_blame_130 : decode cX8_blame 130 = .ok (.ixor, 1) := by decide +kernel
theorem dX8_blame_131 : decode cX8_blame 131 = .ok (.iand, 1) := by decide +kernel
theorem dX8_blame_132 : decode cX8_blame 132 = .ok (.ifCond .ne 23, 3) := by decide +kernel
theorem dX8_blame_135 : decode cX8_blame 135 = .ok (.iload_n 3, 1) := by decide +kernel
theorem dX8_blame_136 : decode cX8_blame 136 = .ok (.ifCond .lt 15, 3) := by decide +kernel
theorem dX8_blame_139 : decode cX8_blame 139 = .ok (.iload 4, 2) := by decide +kernel
theorem dX8_blame_141 : decode cX8_blame 141 = .ok (.invokestatic 134, 3) := by decide +kernel
theorem dX8_blame_144 : decode cX8_blame 144 = .ok (.iload_n 3, 1) := by decide +kernel
theorem dX8_blame_145 : decode cX8_blame 145 = .ok (.invokestatic 134, 3) := by decide +kernel
theorem dX8_blame_148 : decode cX8_blame 148 = .ok (.if_icmp .ge 7, 3) := by decide +kernel
theorem dX8_blame_151 : decode cX8_blame 151 = .ok (.iconst 1, 1) := by decide +kernel
theorem dX8_blame_152 : decode cX8_blame 152 = .ok (.goto 4, 3) := by decide +kernel
theorem dX8_blame_155 : decode cX8_blame 155 = .ok (.iconst 0, 1) := by decide +kernel
theorem dX8_blame_156 : decode cX8_blame 156 = .ok (.istore 7, 2) := by decide +kernel
theorem dX8_blame_158 : decode cX8_blame 158 = .ok (.iload 7, 2) := by decide +kernel
theorem dX8_blame_160 : decode cX8_blame 160 = .ok (.ifCond .eq 8, 3) := by decide +kernel
theorem dX8_blame_163 : decode cX8_blame 163 = .ok (.iload 4, 2) := by decide +kernel
theorem dX8_blame_165 : decode cX8_blame 165 = .ok (.goto 4, 3) := by decide +kernel
theorem dX8_blame_168 : decode cX8_blame 168 = .ok (.iload_n 3, 1) := by decide +kernel
theorem dX8_blame_169 : decode cX8_blame 169 = .ok (.istore_n 3, 1) := by decide +kernel
theorem dX8_blame_170 : decode cX8_blame 170 = .ok (.iinc 4 1, 3) := by decide +kernel
theorem dX8_blame_173 : decode cX8_blame 173 = .ok (.goto (-146), 3) := by decide +kernel
theorem dX8_blame_176 : decode cX8_blame 176 = .ok (.iload_n 3, 1) := by decide +kernel
theorem dX8_blame_177 : decode cX8_blame 177 = .ok (.ifCond .lt 8, 3) := by decide +kernel
theorem dX8_blame_180 : decode cX8_blame 180 = .ok (.iload_n 2, 1) := by decide +kernel
theorem dX8_blame_181 : decode cX8_blame 181 = .ok (.iconst 1, 1) := by decide +kernel
theorem dX8_blame_182 : decode cX8_blame 182 = .ok (.if_icmp .ne 7, 3) := by decide +kernel
theorem dX8_blame_185 : decode cX8_blame 185 = .ok (.iload_n 3, 1) := by decide +kernel
theorem dX8_blame_186 : decode cX8_blame 186 = .ok (.goto 7, 3) := by decide +kernel
theorem dX8_blame_189 : decode cX8_blame 189 = .ok (.iload_n 3, 1) := by decide +kernel
theorem dX8_blame_190 : decode cX8_blame 190 = .ok (.invokestatic 134, 3) := by decide +kernel
theorem dX8_blame_193 : decode cX8_blame 193 = .ok (.ireturn, 1) := by decide +kernel
theorem dX8_wholeFrom_0 : decode cX8_wholeFrom 0 = .ok (.iconst 0, 1) := by decide +kernel
theorem dX8_wholeFrom_1 : decode cX8_wholeFrom 1 = .ok (.istore_n 3, 1) := by decide +kernel
theorem dX8_wholeFrom_2 : decode cX8_wholeFrom 2 = .ok (.iload_n 2, 1) := by decide +kernel
theorem dX8_wholeFrom_3 : decode cX8_wholeFrom 3 = .ok (.iload_n 3, 1) := by decide +kernel
theorem dX8_wholeFrom_4 : decode cX8_wholeFrom 4 = .ok (.iadd, 1) := by decide +kernel
theorem dX8_wholeFrom_5 : decode cX8_wholeFrom 5 = .ok (.bipush 16, 2) := by decide +kernel
theorem dX8_wholeFrom_7 : decode cX8_wholeFrom 7 = .ok (.if_icmp .ge 24, 3) := by decide +kernel
theorem dX8_wholeFrom_10 : decode cX8_wholeFrom 10 = .ok (.aload_n 0, 1) := by decide +kernel
theorem dX8_wholeFrom_11 : decode cX8_wholeFrom 11 = .ok (.getfield 7, 3) := by decide +kernel
theorem dX8_wholeFrom_14 : decode cX8_wholeFrom 14 = .ok (.iload_n 1, 1) := by decide +kernel
theorem dX8_wholeFrom_15 : decode cX8_wholeFrom 15 = .ok (.iaload, 1) := by decide +kernel
theorem dX8_wholeFrom_16 : decode cX8_wholeFrom 16 = .ok (.iload_n 2, 1) := by decide +kernel
theorem dX8_wholeFrom_17 : decode cX8_wholeFrom 17 = .ok (.iload_n 3, 1) := by decide +kernel
theorem dX8_wholeFrom_18 : decode cX8_wholeFrom 18 = .ok (.iadd, 1) := by decide +kernel
theorem dX8_wholeFrom_19 : decode cX8_wholeFrom 19 = .ok (.invokestatic 86, 3) := by decide +kernel
theorem dX8_wholeFrom_22 : decode cX8_wholeFrom 22 = .ok (.ifCond .ne 9, 3) := by decide +kernel
theorem dX8_wholeFrom_25 : decode cX8_wholeFrom 25 = .ok (.iinc 3 1, 3) := by decide +kernel
theorem dX8_wholeFrom_28 : decode cX8_wholeFrom 28 = .ok (.goto (-26), 3) := by decide +kernel
theorem dX8_wholeFrom_31 : decode cX8_wholeFrom 31 = .ok (.iload_n 3, 1) := by decide +kernel
theorem dX8_wholeFrom_32 : decode cX8_wholeFrom 32 = .ok (.ireturn, 1) := by decide +kernel
theorem dX8_cuts_0 : decode cX8_cuts 0 = .ok (.iload_n 1, 1) := by decide +kernel
theorem dX8_cuts_1 : decode cX8_cuts 1 = .ok (.invokestatic 62, 3) := by decide +kernel
theorem dX8_cuts_4 : decode cX8_cuts 4 = .ok (.ifCond .ne 5, 3) := by decide +kernel
theorem dX8_cuts_7 : decode cX8_cuts 7 = .ok (.iconst (-1), 1) := by decide +kernel
theorem dX8_cuts_8 : decode cX8_cuts 8 = .ok (.ireturn, 1) := by decide +kernel
theorem dX8_cuts_9 : decode cX8_cuts 9 = .ok (.iload_n 2, 1) := by decide +kernel
theorem dX8_cuts_10 : decode cX8_cuts 10 = .ok (.iconst 1, 1) := by decide +kernel
theorem dX8_cuts_11 : decode cX8_cuts 11 = .ok (.bipush 16, 2) := by decide +kernel
theorem dX8_cuts_13 : decode cX8_cuts 13 = .ok (.invokestatic 58, 3) := by decide +kernel
theorem dX8_cuts_16 : decode cX8_cuts 16 = .ok (.ifCond .eq 35, 3) := by decide +kernel
theorem dX8_cuts_19 : decode cX8_cuts 19 = .ok (.iload 4, 2) := by decide +kernel
theorem dX8_cuts_21 : decode cX8_cuts 21 = .ok (.iconst 1, 1) := by decide +kernel
theorem dX8_cuts_22 : decode cX8_cuts 22 = .ok (.bipush 16, 2) := by decide +kernel
theorem dX8_cuts_24 : decode cX8_cuts 24 = .ok (.invokestatic 58, 3) := by decide +kernel
theorem dX8_cuts_27 : decode cX8_cuts 27 = .ok (.ifCond .eq 24, 3) := by decide +kernel
theorem dX8_cuts_30 : decode cX8_cuts 30 = .ok (.iload_n 3, 1) := by decide +kernel
theorem dX8_cuts_31 : decode cX8_cuts 31 = .ok (.iconst 0, 1) := by decide +kernel
theorem dX8_cuts_32 : decode cX8_cuts 32 = .ok (.bipush 99, 2) := by decide +kernel
theorem dX8_cuts_34 : decode cX8_cuts 34 = .ok (.invokestatic 58, 3) := by decide +kernel
theorem dX8_cuts_37 : decode cX8_cuts 37 = .ok (.ifCond .eq 14, 3) := by decide +kernel
theorem dX8_cuts_40 : decode cX8_cuts 40 = .ok (.iload 5, 2) := by decide +kernel
theorem dX8_cuts_42 : decode cX8_cuts 42 = .ok (.iconst 0, 1) := by decide +kernel
theorem dX8_cuts_43 : decode cX8_cuts 43 = .ok (.bipush 99, 2) := by decide +kernel
theorem dX8_cuts_45 : decode cX8_cuts 45 = .ok (.invokestatic 58, 3) := by decide +kernel
theorem dX8_cuts_48 : decode cX8_cuts 48 = .ok (.ifCond .ne 6, 3) := by decide +kernel
theorem dX8_cuts_51 : decode cX8_cuts 51 = .ok (.bipush (-2), 2) := by decide +kernel
theorem dX8_cuts_53 : decode cX8_cuts 53 = .ok (.ireturn, 1) := by decide +kernel
theorem dX8_cuts_54 : decode cX8_cuts 54 = .ok (.aload_n 0, 1) := by decide +kernel
theorem dX8_cuts_55 : decode cX8_cuts 55 = .ok (.getfield 31, 3) := by decide +kernel
theorem dX8_cuts_58 : decode cX8_cuts 58 = .ok (.bipush 16, 2) := by decide +kernel
theorem dX8_cuts_60 : decode cX8_cuts 60 = .ok (.iconst 0, 1) := by decide +kernel
theorem dX8_cuts_61 : decode cX8_cuts 61 = .ok (.iastore, 1) := by decide +kernel
theorem dX8_cuts_62 : decode cX8_cuts 62 = .ok (.bipush 15, 2) := by decide +kernel
theorem dX8_cuts_64 : decode cX8_cuts 64 = .ok (.istore 6, 2) := by decide +kernel
theorem dX8_cuts_66 : decode cX8_cuts 66 = .ok (.iload 6, 2) := by decide +kernel
theorem dX8_cuts_68 : decode cX8_cuts 68 = .ok (.ifCond .lt 123, 3) := by decide +kernel
theorem dX8_cuts_71 : decode cX8_cuts 71 = .ok (.aload_n 0, 1) := by decide +kernel
theorem dX8_cuts_72 : decode cX8_cuts 72 = .ok (.iload_n 1, 1) := by decide +kernel
theorem dX8_cuts_73 : decode cX8_cuts 73 = .ok (.iload 6, 2) := by decide +kernel
theorem dX8_cuts_75 : decode cX8_cuts 75 = .ok (.invokevirtual 137, 3) := by decide +kernel
theorem dX8_cuts_78 : decode cX8_cuts 78 = .ok (.istore 7, 2) := by decide +kernel
theorem dX8_cuts_80 : decode cX8_cuts 80 = .ok (.aload_n 0, 1) := by decide +kernel
theorem dX8_cuts_81 : decode cX8_cuts 81 = .ok (.getfield 31, 3) := by decide +kernel
theorem dX8_cuts_84 : decode cX8_cuts 84 = .ok (.iload 6, 2) := by decide +kernel
theorem dX8_cuts_86 : decode cX8_cuts 86 = .ok (.iconst 1, 1) := by decide +kernel
theorem dX8_cuts_87 : decode cX8_cuts 87 = .ok (.iadd, 1) := by decide +kernel
theorem dX8_cuts_88 : decode cX8_cuts 88 = .ok (.iaload, 1) := by decide +kernel
theorem dX8_cuts_89 : decode cX8_cuts 89 = .ok (.istore 8, 2) := by decide +kernel
theorem dX8_cuts_91 : decode cX8_cuts 91 = .ok (.iload_n 2, 1) := by decide +kernel
theorem dX8_cuts_92 : decode cX8_cuts 92 = .ok (.iload 7, 2) := by decide +kernel
theorem dX8_cuts_94 : decode cX8_cuts 94 = .ok (.if_icmp .gt 33, 3) := by decide +kernel
theorem dX8_cuts_97 : decode cX8_cuts 97 = .ok (.aload_n 0, 1) := by decide +kernel
theorem dX8_cuts_98 : decode cX8_cuts 98 = .ok (.getfield 31, 3) := by decide +kernel
theorem dX8_cuts_101 : decode cX8_cuts 101 = .ok (.iload 6, 2) := by decide +kernel
theorem dX8_cuts_103 : decode cX8_cuts 103 = .ok (.iload_n 2, 1) := by decide +kernel
theorem dX8_cuts_104 : decode cX8_cuts 104 = .ok (.iadd, 1) := by decide +kernel
theorem dX8_cuts_105 : decode cX8_cuts 105 = .ok (.iaload, 1) := by decide +kernel
theorem dX8_cuts_106 : decode cX8_cuts 106 = .ok (.iload_n 3, 1) := by decide +kernel
theorem dX8_cuts_107 : decode cX8_cuts 107 = .ok (.iadd, 1) := by decide +kernel
theorem dX8_cuts_108 : decode cX8_cuts 108 = .ok (.iload 8, 2) := by decide +kernel
theorem dX8_cuts_110 : decode cX8_cuts 110 = .ok (.if_icmp .le 17, 3) := by decide +kernel
theorem dX8_cuts_113 : decode cX8_cuts 113 = .ok (.aload_n 0, 1) := by decide +kernel
theorem dX8_cuts_114 : decode cX8_cuts 114 = .ok (.getfield 31, 3) := by decide +kernel
theorem dX8_cuts_117 : decode cX8_cuts 117 = .ok (.iload 6, 2) := by decide +kernel
theorem dX8_cuts_119 : decode cX8_cuts 119 = .ok (.iload_n 2, 1) := by decide +kernel
theorem dX8_cuts_120 : decode cX8_cuts 120 = .ok (.iadd, 1) := by decide +kernel
theorem dX8_cuts_121 : decode cX8_cuts 121 = .ok (.iaload, 1) := by decide +kernel
theorem dX8_cuts_122 : decode cX8_cuts 122 = .ok (.iload_n 3, 1) := by decide +kernel
theorem dX8_cuts_123 : decode cX8_cuts 123 = .ok (.iadd, 1) := by decide +kernel
theorem dX8_cuts_124 : decode cX8_cuts 124 = .ok (.goto 5, 3) := by decide +kernel
theorem dX8_cuts_127 : decode cX8_cuts 127 = .ok (.iload 8, 2) := by decide +kernel
theorem dX8_cuts_129 : decode cX8_cuts 129 = .ok (.istore 8, 2) := by decide +kernel
theorem dX8_cuts_131 : decode cX8_cuts 131 = .ok (.iload 4, 2) := by decide +kernel
theorem dX8_cuts_133 : decode cX8_cuts 133 = .ok (.iload 7, 2) := by decide +kernel
theorem dX8_cuts_135 : decode cX8_cuts 135 = .ok (.if_icmp .gt 37, 3) := by decide +kernel
theorem dX8_cuts_138 : decode cX8_cuts 138 = .ok (.aload_n 0, 1) := by decide +kernel
theorem dX8_cuts_139 : decode cX8_cuts 139 = .ok (.getfield 31, 3) := by decide +kernel
theorem dX8_cuts_142 : decode cX8_cuts 142 = .ok (.iload 6, 2) := by decide +kernel
theorem dX8_cuts_144 : decode cX8_cuts 144 = .ok (.iload 4, 2) := by decide +kernel
theorem dX8_cuts_146 : decode cX8_cuts 146 = .ok (.iadd, 1) := by decide +kernel
theorem dX8_cuts_147 : decode cX8_cuts 147 = .ok (.iaload, 1) := by decide +kernel
theorem dX8_cuts_148 : decode cX8_cuts 148 = .ok (.iload 5, 2) := by decide +kernel
theorem dX8_cuts_150 : decode cX8_cuts 150 = .ok (.iadd, 1) := by decide +kernel
theorem dX8_cuts_151 : decode cX8_cuts 151 = .ok (.iload 8, 2) := by decide +kernel
theorem dX8_cuts_153 : decode cX8_cuts 153 = .ok (.if_icmp .le 19, 3) := by decide +kernel
theorem dX8_cuts_156 : decode cX8_cuts 156 = .ok (.aload_n 0, 1) := by decide +kernel
theorem dX8_cuts_157 : decode cX8_cuts 157 = .ok (.getfield 31, 3) := by decide +kernel
theorem dX8_cuts_160 : decode cX8_cuts 160 = .ok (.iload 6, 2) := by decide +kernel
theorem dX8_cuts_162 : decode cX8_cuts 162 = .ok (.iload 4, 2) := by decide +kernel
theorem dX8_cuts_164 : decode cX8_cuts 164 = .ok (.iadd, 1) := by decide +kernel
theorem dX8_cuts_165 : decode cX8_cuts 165 = .ok (.iaload, 1) := by decide +kernel
theorem dX8_cuts_166 : decode cX8_cuts 166 = .ok (.iload 5, 2) := by decide +kernel
theorem dX8_cuts_168 : decode cX8_cuts 168 = .ok (.iadd, 1) := by decide +kernel
theorem dX8_cuts_169 : decode cX8_cuts 169 = .ok (.goto 5, 3) := by decide +kernel
theorem dX8_cuts_172 : decode cX8_cuts 172 = .ok (.iload 8, 2) := by decide +kernel
theorem dX8_cuts_174 : decode cX8_cuts 174 = .ok (.istore 8, 2) := by decide +kernel
theorem dX8_cuts_176 : decode cX8_cuts 176 = .ok (.aload_n 0, 1) := by decide +kernel
theorem dX8_cuts_177 : decode cX8_cuts 177 = .ok (.getfield 31, 3) := by decide +kernel
theorem dX8_cuts_180 : decode cX8_cuts 180 = .ok (.iload 6, 2) := by decide +kernel
theorem dX8_cuts_182 : decode cX8_cuts 182 = .ok (.iload 8, 2) := by decide +kernel
theorem dX8_cuts_184 : decode cX8_cuts 184 = .ok (.iastore, 1) := by decide +kernel
theorem dX8_cuts_185 : decode cX8_cuts 185 = .ok (.iinc 6 (-1), 3) := by decide +kernel
theorem dX8_cuts_188 : decode cX8_cuts 188 = .ok (.goto (-122), 3) := by decide +kernel
theorem dX8_cuts_191 : decode cX8_cuts 191 = .ok (.aload_n 0, 1) := by decide +kernel
theorem dX8_cuts_192 : decode cX8_cuts 192 = .ok (.getfield 31, 3) := by decide +kernel
theorem dX8_cuts_195 : decode cX8_cuts 195 = .ok (.iconst 0, 1) := by decide +kernel
theorem dX8_cuts_196 : decode cX8_cuts 196 = .ok (.iaload, 1) := by decide +kernel
theorem dX8_cuts_197 : decode cX8_cuts 197 = .ok (.ireturn, 1) := by decide +kernel
theorem dX8_wear_0 : decode cX8_wear 0 = .ok (.iload_n 1, 1) := by decide +kernel
theorem dX8_wear_1 : decode cX8_wear 1 = .ok (.iconst (-1), 1) := by decide +kernel
theorem dX8_wear_2 : decode cX8_wear 2 = .ok (.iconst 4, 1) := by decide +kernel
theorem dX8_wear_3 : decode cX8_wear 3 = .ok (.invokestatic 58, 3) := by decide +kernel
theorem dX8_wear_6 : decode cX8_wear 6 = .ok (.ifCond .ne 5, 3) := by decide +kernel
theorem dX8_wear_9 : decode cX8_wear 9 = .ok (.iconst (-1), 1) := by decide +kernel
theorem dX8_wear_10 : decode cX8_wear 10 = .ok (.ireturn, 1) := by decide +kernel
theorem dX8_wear_11 : decode cX8_wear 11 = .ok (.ldc 140, 2) := by decide +kernel
theorem dX8_wear_13 : decode cX8_wear 13 = .ok (.istore_n 2, 1) := by decide +kernel
theorem dX8_wear_14 : decode cX8_wear 14 = .ok (.iconst 0, 1) := by decide +kernel
theorem dX8_wear_15 : decode cX8_wear 15 = .ok (.istore_n 3, 1) := by decide +kernel
theorem dX8_wear_16 : decode cX8_wear 16 = .ok (.iconst 0, 1) := by decide +kernel
theorem dX8_wear_17 : decode cX8_wear 17 = .ok (.istore 4, 2) := by decide +kernel
theorem dX8_wear_19 : decode cX8_wear 19 = .ok (.iload 4, 2) := by decide +kernel
theorem dX8_wear_21 : decode cX8_wear 21 = .ok (.sipush 7776, 3) := by decide +kernel
theorem dX8_wear_24 : decode cX8_wear 24 = .ok (.if_icmp .ge 125, 3) := by decide +kernel
theorem dX8_wear_27 : decode cX8_wear 27 = .ok (.iload 4, 2) := by decide +kernel
theorem dX8_wear_29 : decode cX8_wear 29 = .ok (.istore 5, 2) := by decide +kernel
theorem dX8_wear_31 : decode cX8_wear 31 = .ok (.iconst 0, 1) := by decide +kernel
theorem dX8_wear_32 : decode cX8_wear 32 = .ok (.istore 6, 2) := by decide +kernel
theorem dX8_wear_34 : decode cX8_wear 34 = .ok (.iconst 0, 1) := by decide +kernel
