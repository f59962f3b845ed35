theorem dX7_init_0 : decode cX7_init 0 = .ok (.aload_n 0, 1) := by decide +kernel
theorem dX7_init_1 : decode cX7_init 1 = .ok (.invokespecial 1, 3) := by decide +kernel
theorem dX7_init_4 : decode cX7_init 4 = .ok (.aload_n 0, 1) := by decide +kernel
theorem dX7_init_5 : decode cX7_init 5 = .ok (.new 7, 3) := by decide +kernel
theorem dX7_init_8 : decode cX7_init 8 = .ok (.dup, 1) := by decide +kernel
theorem dX7_init_9 : decode cX7_init 9 = .ok (.invokespecial 9, 3) := by decide +kernel
theorem dX7_init_12 : decode cX7_init 12 = .ok (.putfield 10, 3) := by decide +kernel
theorem dX7_init_15 : decode cX7_init 15 = .ok (.aload_n 0, 1) := by decide +kernel
theorem dX7_init_16 : decode cX7_init 16 = .ok (.new 16, 3) := by decide +kernel
theorem dX7_init_19 : decode cX7_init 19 = .ok (.dup, 1) := by decide +kernel
theorem dX7_init_20 : decode cX7_init 20 = .ok (.invokespecial 18, 3) := by decide +kernel
theorem dX7_init_23 : decode cX7_init 23 = .ok (.putfield 19, 3) := by decide +kernel
theorem dX7_init_26 : decode cX7_init 26 = .ok (.aload_n 0, 1) := by decide +kernel
theorem dX7_init_27 : decode cX7_init 27 = .ok (.new 23, 3) := by decide +kernel
theorem dX7_init_30 : decode cX7_init 30 = .ok (.dup, 1) := by decide +kernel
theorem dX7_init_31 : decode cX7_init 31 = .ok (.invokespecial 25, 3) := by decide +kernel
theorem dX7_init_34 : decode cX7_init 34 = .ok (.putfield 26, 3) := by decide +kernel
theorem dX7_init_37 : decode cX7_init 37 = .ok (.aload_n 0, 1) := by decide +kernel
theorem dX7_init_38 : decode cX7_init 38 = .ok (.iconst 2, 1) := by decide +kernel
theorem dX7_init_39 : decode cX7_init 39 = .ok (.anewarray 7, 3) := by decide +kernel
theorem dX7_init_42 : decode cX7_init 42 = .ok (.putfield 30, 3) := by decide +kernel
theorem dX7_init_45 : decode cX7_init 45 = .ok (.aload_n 0, 1) := by decide +kernel
theorem dX7_init_46 : decode cX7_init 46 = .ok (.new 34, 3) := by decide +kernel
theorem dX7_init_49 : decode cX7_init 49 = .ok (.dup, 1) := by decide +kernel
theorem dX7_init_50 : decode cX7_init 50 = .ok (.invokespecial 36, 3) := by decide +kernel
theorem dX7_init_53 : decode cX7_init 53 = .ok (.putfield 37, 3) := by decide +kernel
theorem dX7_init_56 : decode cX7_init 56 = .ok (.aload_n 0, 1) := by decide +kernel
theorem dX7_init_57 : decode cX7_init 57 = .ok (.new 41, 3) := by decide +kernel
theorem dX7_init_60 : decode cX7_init 60 = .ok (.dup, 1) := by decide +kernel
theorem dX7_init_61 : decode cX7_init 61 = .ok (.invokespecial 43, 3) := by decide +kernel
theorem dX7_init_64 : decode cX7_init 64 = .ok (.putfield 44, 3) := by decide +kernel
theorem dX7_init_67 : decode cX7_init 67 = .ok (.aload_n 0, 1) := by decide +kernel
theorem dX7_init_68 : decode cX7_init 68 = .ok (.new 48, 3) := by decide +kernel
theorem dX7_init_71 : decode cX7_init 71 = .ok (.dup, 1) := by decide +kernel
theorem dX7_init_72 : decode cX7_init 72 = .ok (.invokespecial 50, 3) := by decide +kernel
theorem dX7_init_75 : decode cX7_init 75 = .ok (.putfield 51, 3) := by decide +kernel
theorem dX7_init_78 : decode cX7_init 78 = .ok (.aload_n 0, 1) := by decide +kernel
theorem dX7_init_79 : decode cX7_init 79 = .ok (.new 55, 3) := by decide +kernel
theorem dX7_init_82 : decode cX7_init 82 = .ok (.dup, 1) := by decide +kernel
theorem dX7_init_83 : decode cX7_init 83 = .ok (.invokespecial 57, 3) := by decide +kernel
theorem dX7_init_86 : decode cX7_init 86 = .ok (.putfield 58, 3) := by decide +kernel
theorem dX7_init_89 : decode cX7_init 89 = .ok (.return_, 1) := by decide +kernel
theorem dX7_robe_0 : decode cX7_robe 0 = .ok (.iload_n 1, 1) := by decide +kernel
theorem dX7_robe_1 : decode cX7_robe 1 = .ok (.invokestatic 62, 3) := by decide +kernel
theorem dX7_robe_4 : decode cX7_robe 4 = .ok (.ifCond .ne 5, 3) := by decide +kernel
theorem dX7_robe_7 : decode cX7_robe 7 = .ok (.iconst (-1), 1) := by decide +kernel
theorem dX7_robe_8 : decode cX7_robe 8 = .ok (.ireturn, 1) := by decide +kernel
theorem dX7_robe_9 : decode cX7_robe 9 = .ok (.iload_n 2, 1) := by decide +kernel
theorem dX7_robe_10 : decode cX7_robe 10 = .ok (.iconst 0, 1) := by decide +kernel
theorem dX7_robe_11 : decode cX7_robe 11 = .ok (.ldc 66, 2) := by decide +kernel
theorem dX7_robe_13 : decode cX7_robe 13 = .ok (.invokestatic 67, 3) := by decide +kernel
theorem dX7_robe_16 : decode cX7_robe 16 = .ok (.ifCond .eq 13, 3) := by decide +kernel
theorem dX7_robe_19 : decode cX7_robe 19 = .ok (.iload_n 3, 1) := by decide +kernel
theorem dX7_robe_20 : decode cX7_robe 20 = .ok (.iconst 0, 1) := by decide +kernel
theorem dX7_robe_21 : decode cX7_robe 21 = .ok (.bipush 9, 2) := by decide +kernel
theorem dX7_robe_23 : decode cX7_robe 23 = .ok (.invokestatic 67, 3) := by decide +kernel
theorem dX7_robe_26 : decode cX7_robe 26 = .ok (.ifCond .ne 6, 3) := by decide +kernel
theorem dX7_robe_29 : decode cX7_robe 29 = .ok (.bipush (-2), 2) := by decide +kernel
theorem dX7_robe_31 : decode cX7_robe 31 = .ok (.ireturn, 1) := by decide +kernel
theorem dX7_robe_32 : decode cX7_robe 32 = .ok (.aload_n 0, 1) := by decide +kernel
theorem dX7_robe_33 : decode cX7_robe 33 = .ok (.getfield 10, 3) := by decide +kernel
theorem dX7_robe_36 : decode cX7_robe 36 = .ok (.getfield 71, 3) := by decide +kernel
theorem dX7_robe_39 : decode cX7_robe 39 = .ok (.iload_n 1, 1) := by decide +kernel
theorem dX7_robe_40 : decode cX7_robe 40 = .ok (.iaload, 1) := by decide +kernel
theorem dX7_robe_41 : decode cX7_robe 41 = .ok (.istore 4, 2) := by decide +kernel
theorem dX7_robe_43 : decode cX7_robe 43 = .ok (.aload_n 0, 1) := by decide +kernel
theorem dX7_robe_44 : decode cX7_robe 44 = .ok (.getfield 10, 3) := by decide +kernel
theorem dX7_robe_47 : decode cX7_robe 47 = .ok (.getfield 71, 3) := by decide +kernel
theorem dX7_robe_50 : decode cX7_robe 50 = .ok (.iload_n 1, 1) := by decide +kernel
theorem dX7_robe_51 : decode cX7_robe 51 = .ok (.iload_n 2, 1) := by decide +kernel
theorem dX7_robe_52 : decode cX7_robe 52 = .ok (.iastore, 1) := by decide +kernel
theorem dX7_robe_53 : decode cX7_robe 53 = .ok (.aload_n 0, 1) := by decide +kernel
theorem dX7_robe_54 : decode cX7_robe 54 = .ok (.getfield 10, 3) := by decide +kernel
theorem dX7_robe_57 : decode cX7_robe 57 = .ok (.getfield 75, 3) := by decide +kernel
theorem dX7_robe_60 : decode cX7_robe 60 = .ok (.iload_n 1, 1) := by decide +kernel
theorem dX7_robe_61 : decode cX7_robe 61 = .ok (.iload_n 3, 1) := by decide +kernel
theorem dX7_robe_62 : decode cX7_robe 62 = .ok (.iastore, 1) := by decide +kernel
theorem dX7_robe_63 : decode cX7_robe 63 = .ok (.aload_n 0, 1) := by decide +kernel
theorem dX7_robe_64 : decode cX7_robe 64 = .ok (.getfield 10, 3) := by decide +kernel
theorem dX7_robe_67 : decode cX7_robe 67 = .ok (.dup, 1) := by decide +kernel
theorem dX7_robe_68 : decode cX7_robe 68 = .ok (.getfield 78, 3) := by decide +kernel
theorem dX7_robe_71 : decode cX7_robe 71 = .ok (.iconst 1, 1) := by decide +kernel
theorem dX7_robe_72 : decode cX7_robe 72 = .ok (.iload_n 1, 1) := by decide +kernel
theorem dX7_robe_73 : decode cX7_robe 73 = .ok (.ishl, 1) := by decide +kernel
theorem dX7_robe_74 : decode cX7_robe 74 = .ok (.iconst (-1), 1) := by decide +kernel
theorem dX7_robe_75 : decode cX7_robe 75 = .ok (.ixor, 1) := by decide +kernel
theorem dX7_robe_76 : decode cX7_robe 76 = .ok (.iand, 1) := by decide +kernel
theorem dX7_robe_77 : decode cX7_robe 77 = .ok (.putfield 78, 3) := by decide +kernel
theorem dX7_robe_80 : decode cX7_robe 80 = .ok (.iload 4, 2) := by decide +kernel
theorem dX7_robe_82 : decode cX7_robe 82 = .ok (.ireturn, 1) := by decide +kernel
theorem dX7_saying_0 : decode cX7_saying 0 = .ok (.iload_n 1, 1) := by decide +kernel
theorem dX7_saying_1 : decode cX7_saying 1 = .ok (.invokestatic 82, 3) := by decide +kernel
theorem dX7_saying_4 : decode cX7_saying 4 = .ok (.ifCond .eq 10, 3) := by decide +kernel
theorem dX7_saying_7 : decode cX7_saying 7 = .ok (.iload_n 2, 1) := by decide +kernel
theorem dX7_saying_8 : decode cX7_saying 8 = .ok (.invokestatic 62, 3) := by decide +kernel
theorem dX7_saying_11 : decode cX7_saying 11 = .ok (.ifCond .ne 5, 3) := by decide +kernel
theorem dX7_saying_14 : decode cX7_saying 14 = .ok (.iconst (-1), 1) := by decide +kernel
theorem dX7_saying_15 : decode cX7_saying 15 = .ok (.ireturn, 1) := by decide +kernel
theorem dX7_saying_16 : decode cX7_saying 16 = .ok (.iload_n 3, 1) := by decide +kernel
theorem dX7_saying_17 : decode cX7_saying 17 = .ok (.iconst 0, 1) := by decide +kernel
theorem dX7_saying_18 : decode cX7_saying 18 = .ok (.ldc 66, 2) := by decide +kernel
theorem dX7_saying_20 : decode cX7_saying 20 = .ok (.invokestatic 67, 3) := by decide +kernel
theorem dX7_saying_23 : decode cX7_saying 23 = .ok (.ifCond .eq 14, 3) := by decide +kernel
theorem dX7_saying_26 : decode cX7_saying 26 = .ok (.iload 4, 2) := by decide +kernel
theorem dX7_saying_28 : decode cX7_saying 28 = .ok (.iconst 0, 1) := by decide +kernel
theorem dX7_saying_29 : decode cX7_saying 29 = .ok (.bipush 9, 2) := by decide +kernel
theorem dX7_saying_31 : decode cX7_saying 31 = .ok (.invokestatic 67, 3) := by decide +kernel
theorem dX7_saying_34 : decode cX7_saying 34 = .ok (.ifCond .ne 6, 3) := by decide +kernel
theorem dX7_saying_37 : decode cX7_saying 37 = .ok (.bipush (-2), 2) := by decide +kernel
theorem dX7_saying_39 : decode cX7_saying 39 = .ok (.ireturn, 1) := by decide +kernel
theorem dX7_saying_40 : decode cX7_saying 40 = .ok (.aload_n 0, 1) := by decide +kernel
theorem dX7_saying_41 : decode cX7_saying 41 = .ok (.getfield 10, 3) := by decide +kernel
theorem dX7_saying_44 : decode cX7_saying 44 = .ok (.getfield 85, 3) := by decide +kernel
theorem dX7_saying_47 : decode cX7_saying 47 = .ok (.iload_n 1, 1) := by decide +kernel
theorem dX7_saying_48 : decode cX7_saying 48 = .ok (.iaload, 1) := by decide +kernel
theorem dX7_saying_49 : decode cX7_saying 49 = .ok (.istore 5, 2) := by decide +kernel
theorem dX7_saying_51 : decode cX7_saying 51 = .ok (.aload_n 0, 1) := by decide +kernel
theorem dX7_saying_52 : decode cX7_saying 52 = .ok (.getfield 10, 3) := by decide +kernel
theorem dX7_saying_55 : decode cX7_saying 55 = .ok (.getfield 88, 3) := by decide +kernel
theorem dX7_saying_58 : decode cX7_saying 58 = .ok (.iload_n 1, 1) := by decide +kernel
theorem dX7_saying_59 : decode cX7_saying 59 = .ok (.iload_n 2, 1) := by decide +kernel
theorem dX7_saying_60 : decode cX7_saying 60 = .ok (.iastore, 1) := by decide +kernel
theorem dX7_saying_61 : decode cX7_saying 61 = .ok (.aload_n 0, 1) := by decide +kernel
theorem dX7_saying_62 : decode cX7_saying 62 = .ok (.getfield 10, 3) := by decide +kernel
theorem dX7_saying_65 : decode cX7_saying 65 = .ok (.getfield 91, 3) := by decide +kernel
theorem dX7_saying_68 : decode cX7_saying 68 = .ok (.iload_n 1, 1) := by decide +kernel
theorem dX7_saying_69 : decode cX7_saying 69 = .ok (.iload_n 3, 1) := by decide +kernel
theorem dX7_saying_70 : decode cX7_saying 70 = .ok (.iastore, 1) := by decide +kernel
theorem dX7_saying_71 : decode cX7_saying 71 = .ok (.aload_n 0, 1) := by decide +kernel
theorem dX7_saying_72 : decode cX7_saying 72 = .ok (.getfield 10, 3) := by decide +kernel
theorem dX7_saying_75 : decode cX7_saying 75 = .ok (.getfield 85, 3) := by decide +kernel
theorem dX7_saying_78 : decode cX7_saying 78 = .ok (.iload_n 1, 1) := by decide +kernel
theorem dX7_saying_79 : decode cX7_saying 79 = .ok (.iload 4, 2) := by decide +kernel
theorem dX7_saying_81 : decode cX7_saying 81 = .ok (.iastore, 1) := by decide +kernel
theorem dX7_saying_82 : decode cX7_saying 82 = .ok (.iload 5, 2) := by decide +kernel
theorem dX7_saying_84 : decode cX7_saying 84 = .ok (.ireturn, 1) := by decide +kernel
theorem dX7_occasion_0 : decode cX7_occasion 0 = .ok (.iload_n 1, 1) := by decide +kernel
theorem dX7_occasion_1 : decode cX7_occasion 1 = .ok (.invokestatic 94, 3) := by decide +kernel
theorem dX7_occasion_4 : decode cX7_occasion 4 = .ok (.ifCond .ne 5, 3) := by decide +kernel
theorem dX7_occasion_7 : decode cX7_occasion 7 = .ok (.iconst (-1), 1) := by decide +kernel
theorem dX7_occasion_8 : decode cX7_occasion 8 = .ok (.ireturn, 1) := by decide +kernel
theorem dX7_occasion_9 : decode cX7_occasion 9 = .ok (.iload_n 2, 1) := by decide +kernel
theorem dX7_occasion_10 : decode cX7_occasion 10 = .ok (.iconst 0, 1) := by decide +kernel
theorem dX7_occasion_11 : decode cX7_occasion 11 = .ok (.ldc 66, 2) := by decide +kernel
theorem dX7_occasion_13 : decode cX7_occasion 13 = .ok (.invokestatic 67, 3) := by decide +kernel
theorem dX7_occasion_16 : decode cX7_occasion 16 = .ok (.ifCond .ne 6, 3) := by decide +kernel
theorem dX7_occasion_19 : decode cX7_occasion 19 = .ok (.bipush (-2), 2) := by decide +kernel
theorem dX7_occasion_21 : decode cX7_occasion 21 = .ok (.ireturn, 1) := by decide +kernel
theorem dX7_occasion_22 : decode cX7_occasion 22 = .ok (.aload_n 0, 1) := by decide +kernel
theorem dX7_occasion_23 : decode cX7_occasion 23 = .ok (.getfield 10, 3) := by decide +kernel
theorem dX7_occasion_26 : decode cX7_occasion 26 = .ok (.getfield 97, 3) := by decide +kernel
theorem dX7_occasion_29 : decode cX7_occasion 29 = .ok (.iload_n 1, 1) := by decide +kernel
theorem dX7_occasion_30 : decode cX7_occasion 30 = .ok (.iaload, 1) := by decide +kernel
theorem dX7_occasion_31 : decode cX7_occasion 31 = .ok (.istore_n 3, 1) := by decide +kernel
theorem dX7_occasion_32 : decode cX7_occasion 32 = .ok (.aload_n 0, 1) := by decide +kernel
theorem dX7_occasion_33 : decode cX7_occasion 33 = .ok (.getfield 10, 3) := by decide +kernel
theorem dX7_occasion_36 : decode cX7_occasion 36 = .ok (.getfield 97, 3) := by decide +kernel
theorem dX7_occasion_39 : decode cX7_occasion 39 = .ok (.iload_n 1, 1) := by decide +kernel
theorem dX7_occasion_40 : decode cX7_occasion 40 = .ok (.iload_n 2, 1) := by decide +kernel
theorem dX7_occasion_41 : decode cX7_occasion 41 = .ok (.iastore, 1) := by decide +kernel
theorem dX7_occasion_42 : decode cX7_occasion 42 = .ok (.iload_n 3, 1) := by decide +kernel
theorem dX7_occasion_43 : decode cX7_occasion 43 = .ok (.ireturn, 1) := by decide +kernel
theorem dX7_say_0 : decode cX7_say 0 = .ok (.iload_n 1, 1) := by decide +kernel
theorem dX7_say_1 : decode cX7_say 1 = .ok (.bipush 33, 2) := by decide +kernel
theorem dX7_say_3 : decode cX7_say 3 = .ok (.bipush 126, 2) := by decide +kernel
theorem dX7_say_5 : decode cX7_say 5 = .ok (.invokestatic 67, 3) := by decide +kernel
theorem dX7_say_8 : decode cX7_say 8 = .ok (.ifCond .ne 6, 3) := by decide +kernel
theorem dX7_say_11 : decode cX7_say 11 = .ok (.bipush (-2), 2) := by decide +kernel
theorem dX7_say_13 : decode cX7_say 13 = .ok (.ireturn, 1) := by decide +kernel
theorem dX7_say_14 : decode cX7_say 14 = .ok (.aload_n 0, 1) := by decide +kernel
theorem dX7_say_15 : decode cX7_say 15 = .ok (.getfield 19, 3) := by decide +kernel
theorem dX7_say_18 : decode cX7_say 18 = .ok (.getfield 100, 3) := by decide +kernel
theorem dX7_say_21 : decode cX7_say 21 = .ok (.bipush 60, 2) := by decide +kernel
theorem dX7_say_23 : decode cX7_say 23 = .ok (.if_icmp .lt 6, 3) := by decide +kernel
theorem dX7_say_26 : decode cX7_say 26 = .ok (.bipush (-4), 2) := by decide +kernel
theorem dX7_say_28 : decode cX7_say 28 = .ok (.ireturn, 1) := by decide +kernel
theorem dX7_say_29 : decode cX7_say 29 = .ok (.aload_n 0, 1) := by decide +kernel
theorem dX7_say_30 : decode cX7_say 30 = .ok (.getfield 19, 3) := by decide +kernel
theorem dX7_say_33 : decode cX7_say 33 = .ok (.iload_n 1, 1) := by decide +kernel
theorem dX7_say_34 : decode cX7_say 34 = .ok (.invokevirtual 103, 3) := by decide +kernel
theorem dX7_say_37 : decode cX7_say 37 = .ok (.aload_n 0, 1) := by decide +kernel
theorem dX7_say_38 : decode cX7_say 38 = .ok (.getfield 19, 3) := by decide +kernel
theorem dX7_say_41 : decode cX7_say 41 = .ok (.getfield 100, 3) := by decide +kernel
theorem dX7_say_44 : decode cX7_say 44 = .ok (.ireturn, 1) := by decide +kernel
theorem dX7_wipe_0 : decode cX7_wipe 0 = .ok (.aload_n 0, 1) := by decide +kernel
theorem dX7_wipe_1 : decode cX7_wipe 1 = .ok (.getfield 19, 3) := by decide +kernel
theorem dX7_wipe_4 : decode cX7_wipe 4 = .ok (.getfield 100, 3) := by decide +kernel
theorem dX7_wipe_7 : decode cX7_wipe 7 = .ok (.istore_n 1, 1) := by decide +kernel
theorem dX7_wipe_8 : decode cX7_wipe 8 = .ok (.aload_n 0, 1) := by decide +kernel
theorem dX7_wipe_9 : decode cX7_wipe 9 = .ok (.getfield 19, 3) := by decide +kernel
theorem dX7_wipe_12 : decode cX7_wipe 12 = .ok (.iconst 0, 1) := by decide +kernel
theorem dX7_wipe_13 : decode cX7_wipe 13 = .ok (.putfield 100, 3) := by decide +kernel
theorem dX7_wipe_16 : decode cX7_wipe 16 = .ok (.iload_n 1, 1) := by decide +kernel
theorem dX7_wipe_17 : decode cX7_wipe 17 = .ok (.ireturn, 1) := by decide +kernel
theorem dX7_fault_0 : decode cX7_fault 0 = .ok (.aload_n 0, 1) := by decide +kernel
theorem dX7_fault_1 : decode cX7_fault 1 = .ok (.getfield 19, 3) := by decide +kernel
theorem dX7_fault_4 : decode cX7_fault 4 = .ok (.invokevirtual 107, 3) := by decide +kernel
theorem dX7_fault_7 : decode cX7_fault 7 = .ok (.ireturn, 1) := by decide +kernel
theorem dX7_judge_0 : decode cX7_judge 0 = .ok (.iload_n 1, 1) := by decide +kernel
theorem dX7_judge_1 : decode cX7_judge 1 = .ok (.iconst 0, 1) := by decide +kernel
theorem dX7_judge_2 : decode cX7_judge 2 = .ok (.iconst 1, 1) := by decide +kernel
theorem dX7_judge_3 : decode cX7_judge 3 = .ok (.invokestatic 67, 3) := by decide +kernel
theorem dX7_judge_6 : decode cX7_judge 6 = .ok (.ifCond .ne 6, 3) := by decide +kernel
theorem dX7_judge_9 : decode cX7_judge 9 = .ok (.bipush (-2), 2) := by decide +kernel
theorem dX7_judge_11 : decode cX7_judge 11 = .ok (.ireturn, 1) := by decide +kernel
theorem dX7_judge_12 : decode cX7_judge 12 = .ok (.aload_n 0, 1) := by decide +kernel
theorem dX7_judge_13 : decode cX7_judge 13 = .ok (.getfield 19, 3) := by decide +kernel
theorem dX7_judge_16 : decode cX7_judge 16 = .ok (.invokevirtual 107, 3) := by decide +kernel
theorem dX7_judge_19 : decode cX7_judge 19 = .ok (.bipush (-6), 2) := by decide +kernel
theorem dX7_judge_21 : decode cX7_judge 21 = .ok (.if_icmp .eq 6, 3) := by decide +kernel
theorem dX7_judge_24 : decode cX7_judge 24 = .ok (.bipush (-5), 2) := by decide +kernel
theorem dX7_judge_26 : decode cX7_judge 26 = .ok (.ireturn, 1) := by decide +kernel
theorem dX7_judge_27 : decode cX7_judge 27 = .ok (.aload_n 0, 1) := by decide +kernel
theorem dX7_judge_28 : decode cX7_judge 28 = .ok (.invokevirtual 111, 3) := by decide +kernel
theorem dX7_judge_31 : decode cX7_judge 31 = .ok (.iload_n 1, 1) := by decide +kernel
theorem dX7_judge_32 : decode cX7_judge 32 = .ok (.ifCond .ne 13, 3) := by decide +kernel
theorem dX7_judge_35 : decode cX7_judge 35 = .ok (.aload_n 0, 1) := by decide +kernel
theorem dX7_judge_36 : decode cX7_judge 36 = .ok (.getfield 26, 3) := by decide +kernel
theorem dX7_judge_39 : decode cX7_judge 39 = .ok (.getfield 114, 3) := by decide +kernel
theorem dX7_judge_42 : decode cX7_judge 42 = .ok (.goto 10, 3) := by decide +kernel
theorem dX7_judge_45 : decode cX7_judge 45 = .ok (.aload_n 0, 1) := by decide +kernel
theorem dX7_judge_46 : decode cX7_judge 46 = .ok (.getfield 26, 3) := by decide +kernel
theorem dX7_judge_49 : decode cX7_judge 49 = .ok (.getfield 117, 3) := by decide +kernel
theorem dX7_judge_52 : decode cX7_judge 52 = .ok (.ireturn, 1) := by decide +kernel
theorem dX7_done_0 : decode cX7_done 0 = .ok (.aload_n 0, 1) := by decide +kernel
theorem dX7_done_1 : decode cX7_done 1 = .ok (.invokevirtual 120, 3) := by decide +kernel
theorem dX7_done_4 : decode cX7_done 4 = .ok (.ifCond .ne 6, 3) := by decide +kernel
theorem dX7_done_7 : decode cX7_done 7 = .ok (.bipush (-5), 2) := by decide +kernel
theorem dX7_done_9 : decode cX7_done 9 = .ok (.ireturn, 1) := by decide +kernel
theorem dX7_done_10 : decode cX7_done 10 = .ok (.aload_n 0, 1) := by decide +kernel
theorem dX7_done_11 : decode cX7_done 11 = .ok (.getfield 10, 3) := by decide +kernel
theorem dX7_done_14 : decode cX7_done 14 = .ok (.aload_n 0, 1) := by decide +kernel
theorem dX7_done_15 : decode cX7_done 15 = .ok (.getfield 26, 3) := by decide +kernel
theorem dX7_done_18 : decode cX7_done 18 = .ok (.getfield 124, 3) := by decide +kernel
theorem dX7_done_21 : decode cX7_done 21 = .ok (.invokevirtual 127, 3) := by decide +kernel
theorem dX7_done_24 : decode cX7_done 24 = .ok (.aload_n 0, 1) := by decide +kernel
theorem dX7_done_25 : decode cX7_done 25 = .ok (.getfield 19, 3) := by decide +kernel
theorem dX7_done_28 : decode cX7_done 28 = .ok (.iconst 0, 1) := by decide +kernel
theorem dX7_done_29 : decode cX7_done 29 = .ok (.putfield 100, 3) := by decide +kernel
theorem dX7_done_32 : decode cX7_done 32 = .ok (.aload_n 0, 1) := by decide +kernel
theorem dX7_done_33 : decode cX7_done 33 = .ok (.getfield 26, 3) := by decide +kernel
theorem dX7_done_36 : decode cX7_done 36 = .ok (.getfield 131, 3) := by decide +kernel
theorem dX7_done_39 : decode cX7_done 39 = .ok (.ireturn, 1) := by decide +kernel
theorem dX7_behind_0 : decode cX7_behind 0 = .ok (.iload_n 1, 1) := by decide +kernel
theorem dX7_behind_1 : decode cX7_behind 1 = .ok (.invokestatic 62, 3) := by decide +kernel
theorem dX7_behind_4 : decode cX7_behind 4 = .ok (.ifCond .ne 5, 3) := by decide +kernel
theorem dX7_behind_7 : decode cX7_behind 7 = .ok (.iconst (-1), 1) := by decide +kernel
theorem dX7_behind_8 : decode cX7_behind 8 = .ok (.ireturn, 1) := by decide +kernel
theorem dX7_behind_9 : decode cX7_behind 9 = .ok (.iload_n 2, 1) := by decide +kernel
theorem dX7_behind_10 : decode cX7_behind 10 = .ok (.iconst 0, 1) := by decide +kernel
theorem dX7_behind_11 : decode cX7_behind 11 = .ok (.iconst 2, 1) := by decide +kernel
theorem dX7_behind_12 : decode cX7_behind 12 = .ok (.invokestatic 67, 3) := by decide +kernel
theorem dX7_behind_15 : decode cX7_behind 15 = .ok (.ifCond .ne 6, 3) := by decide +kernel
theorem dX7_behind_18 : decode cX7_behind 18 = .ok (.bipush (-2), 2) := by decide +kernel
theorem dX7_behind_20 : decode cX7_behind 20 = .ok (.ireturn, 1) := by decide +kernel
theorem dX7_behind_21 : decode cX7_behind 21 = .ok (.aload_n 0, 1) := by decide +kernel
theorem dX7_behind_22 : decode cX7_behind 22 = .ok (.invokevirtual 120, 3) := by decide +kernel
theorem dX7_behind_25 : decode cX7_behind 25 = .ok (.ifCond .ne 6, 3) := by decide +kernel
theorem dX7_behind_28 : decode cX7_behind 28 = .ok (.bipush (-5), 2) := by decide +kernel
theorem dX7_behind_30 : decode cX7_behind 30 = .ok (.ireturn, 1) := by decide +kernel
theorem dX7_behind_31 : decode cX7_behind 31 = .ok (.iload_n 2, 1) := by decide +kernel
theorem dX7_behind_32 : decode cX7_behind 32 = .ok (.ifCond .ne 16, 3) := by decide +kernel
theorem dX7_behind_35 : decode cX7_behind 35 = .ok (.aload_n 0, 1) := by decide +kernel
theorem dX7_behind_36 : decode cX7_behind 36 = .ok (.getfield 26, 3) := by decide +kernel
theorem dX7_behind_39 : decode cX7_behind 39 = .ok (.getfield 124, 3) := by decide +kernel
theorem dX7_behind_42 : decode cX7_behind 42 = .ok (.getfield 71, 3) := by decide +kernel
theorem dX7_behind_45 : decode cX7_behind 45 = .ok (.iload_n 1, 1) := by decide +kernel
theorem dX7_behind_46 : decode cX7_behind 46 = .ok (.iaload, 1) := by decide +kernel
theorem dX7_behind_47 : decode cX7_behind 47 = .ok (.ireturn, 1) := by decide +kernel
theorem dX7_behind_48 : decode cX7_behind 48 = .ok (.iload_n 2, 1) := by decide +kernel
theorem dX7_behind_49 : decode cX7_behind 49 = .ok (.iconst 1, 1) := by decide +kernel
theorem dX7_behind_50 : decode cX7_behind 50 = .ok (.if_icmp .ne 16, 3) := by decide +kernel
theorem dX7_behind_53 : decode cX7_behind 53 = .ok (.aload_n 0, 1) := by decide +kernel
theorem dX7_behind_54 : decode cX7_behind 54 = .ok (.getfield 26, 3) := by decide +kernel
theorem dX7_behind_57 : decode cX7_behind 57 = .ok (.getfield 124, 3) := by decide +kernel
theorem dX7_behind_60 : decode cX7_behind 60 = .ok (.getfield 75, 3) := by decide +kernel
theorem dX7_behind_63 : decode cX7_behind 63 = .ok (.iload_n 1, 1) := by decide +kernel
theorem dX7_behind_64 : decode cX7_behind 64 = .ok (.iaload, 1) := by decide +kernel
theorem dX7_behind_65 : decode cX7_behind 65 = .ok (.ireturn, 1) := by decide +kernel
theorem dX7_behind_66 : decode cX7_behind 66 = .ok (.aload_n 0, 1) := by decide +kernel
theorem dX7_behind_67 : decode cX7_behind 67 = .ok (.getfield 26, 3) := by decide +kernel
theorem dX7_behind_70 : decode cX7_behind 70 = .ok (.getfield 124, 3) := by decide +kernel
theorem dX7_behind_73 : decode cX7_behind 73 = .ok (.iload_n 1, 1) := by decide +kernel
theorem dX7_behind_74 : decode cX7_behind 74 = .ok (.invokevirtual 134, 3) := by decide +kernel
theorem dX7_behind_77 : decode cX7_behind 77 = .ok (.ifCond .eq 7, 3) := by decide +kernel
theorem dX7_behind_80 : decode cX7_behind 80 = .ok (.iconst 1, 1) := by decide +kernel
theorem dX7_behind_81 : decode cX7_behind 81 = .ok (.goto 4, 3) := by decide +kernel
theorem dX7_behind_84 : decode cX7_behind 84 = .ok (.iconst 0, 1) := by decide +kernel
theorem dX7_behind_85 : decode cX7_behind 85 = .ok (.ireturn, 1) := by decide +kernel
theorem dX7_untrue_0 : decode cX7_untrue 0 = .ok (.iload_n 1, 1) := by decide +kernel
theorem dX7_untrue_1 : decode cX7_untrue 1 = .ok (.invokestatic 82, 3) := by decide +kernel
theorem dX7_untrue_4 : decode cX7_untrue 4 = .ok (.ifCond .ne 5, 3) := by decide +kernel
theorem dX7_untrue_7 : decode cX7_untrue 7 = .ok (.iconst (-1), 1) := by decide +kernel
theorem dX7_untrue_8 : decode cX7_untrue 8 = .ok (.ireturn, 1) := by decide +kernel
theorem dX7_untrue_9 : decode cX7_untrue 9 = .ok (.aload_n 0, 1) := by decide +kernel
theorem dX7_untrue_10 : decode cX7_untrue 10 = .ok (.invokevirtual 120, 3) := by decide +kernel
theorem dX7_untrue_13 : decode cX7_untrue 13 = .ok (.ifCond .ne 6, 3) := by decide +kernel
theorem dX7_untrue_16 : decode cX7_untrue 16 = .ok (.bipush (-5), 2) := by decide +kernel
theorem dX7_untrue_18 : decode cX7_untrue 18 = .ok (.ireturn, 1) := by decide +kernel
theorem dX7_untrue_19 : decode cX7_untrue 19 = .ok (.aload_n 0, 1) := by decide +kernel
theorem dX7_untrue_20 : decode cX7_untrue 20 = .ok (.getfield 26, 3) := by decide +kernel
theorem dX7_untrue_23 : decode cX7_untrue 23 = .ok (.getfield 124, 3) := by decide +kernel
theorem dX7_untrue_26 : decode cX7_untrue 26 = .ok (.getfield 85, 3) := by decide +kernel
theorem dX7_untrue_29 : decode cX7_untrue 29 = .ok (.iload_n 1, 1) := by decide +kernel
theorem dX7_untrue_30 : decode cX7_untrue 30 = .ok (.iaload, 1) := by decide +kernel
theorem dX7_untrue_31 : decode cX7_untrue 31 = .ok (.ireturn, 1) := by decide +kernel
theorem dX7_eaten_0 : decode cX7_eaten 0 = .ok (.iload_n 1, 1) := by decide +kernel
theorem dX7_eaten_1 : decode cX7_eaten 1 = .ok (.iconst 0, 1) := by decide +kernel
theorem dX7_eaten_2 : decode cX7_eaten 2 = .ok (.iconst 3, 1) := by decide +kernel
theorem dX7_eaten_3 : decode cX7_eaten 3 = .ok (.invokestatic 67, 3) := by decide +kernel
theorem dX7_eaten_6 : decode cX7_eaten 6 = .ok (.ifCond .ne 6, 3) := by decide +kernel
theorem dX7_eaten_9 : decode cX7_eaten 9 = .ok (.bipush (-2), 2) := by decide +kernel
theorem dX7_eaten_11 : decode cX7_eaten 11 = .ok (.ireturn, 1) := by decide +kernel
theorem dX7_eaten_12 : decode cX7_eaten 12 = .ok (.aload_n 0, 1) := by decide +kernel
theorem dX7_eaten_13 : decode cX7_eaten 13 = .ok (.invokevirtual 120, 3) := by decide +kernel
theorem dX7_eaten_16 : decode cX7_eaten 16 = .ok (.ifCond .ne 6, 3) := by decide +kernel
theorem dX7_eaten_19 : decode cX7_eaten 19 = .ok (.bipush (-5), 2) := by decide +kernel
theorem dX7_eaten_21 : decode cX7_eaten 21 = .ok (.ireturn, 1) := by decide +kernel
theorem dX7_eaten_22 : decode cX7_eaten 22 = .ok (.iload_n 1, 1) := by decide +kernel
theorem dX7_eaten_23 : decode cX7_eaten 23 = .ok (.tableswitch 49 0 2 #[25, 33, 41], 25) := by decide +kernel
theorem dX7_eaten_48 : decode cX7_eaten 48 = .ok (.aload_n 0, 1) := by decide +kernel
theorem dX7_eaten_49 : decode cX7_eaten 49 = .ok (.getfield 26, 3) := by decide +kernel
theorem dX7_eaten_52 : decode cX7_eaten 52 = .ok (.getfield 137, 3) := by decide +kernel
theorem dX7_eaten_55 : decode cX7_eaten 55 = .ok (.ireturn, 1) := by decide +kernel
theorem dX7_eaten_56 : decode cX7_eaten 56 = .ok (.aload_n 0, 1) := by decide +kernel
theorem dX7_eaten_57 : decode cX7_eaten 57 = .ok (.getfield 26, 3) := by decide +kernel
theorem dX7_eaten_60 : decode cX7_eaten 60 = .ok (.getfield 140, 3) := by decide +kernel
theorem dX7_eaten_63 : decode cX7_eaten 63 = .ok (.ireturn, 1) := by decide +kernel
theorem dX7_eaten_64 : decode cX7_eaten 64 = .ok (.aload_n 0, 1) := by decide +kernel
theorem dX7_eaten_65 : decode cX7_eaten 65 = .ok (.getfield 26, 3) := by decide +kernel
theorem dX7_eaten_68 : decode cX7_eaten 68 = .ok (.getfield 143, 3) := by decide +kernel
theorem dX7_eaten_71 : decode cX7_eaten 71 = .ok (.ireturn, 1) := by decide +kernel
theorem dX7_eaten_72 : decode cX7_eaten 72 = .ok (.aload_n 0, 1) := by decide +kernel
theorem dX7_eaten_73 : decode cX7_eaten 73 = .ok (.getfield 26, 3) := by decide +kernel
theorem dX7_eaten_76 : decode cX7_eaten 76 = .ok (.getfield 124, 3) := by decide +kernel
theorem dX7_eaten_79 : decode cX7_eaten 79 = .ok (.getfield 146, 3) := by decide +kernel
theorem dX7_eaten_82 : decode cX7_eaten 82 = .ok (.ireturn, 1) := by decide +kernel
theorem dX7_blame_0 : decode cX7_blame 0 = .ok (.iload_n 1, 1) := by decide +kernel
theorem dX7_blame_1 : decode cX7_blame 1 = .ok (.invokestatic 62, 3) := by decide +kernel
theorem dX7_blame_4 : decode cX7_blame 4 = .ok (.ifCond .ne 5, 3) := by decide +kernel
theorem dX7_blame_7 : decode cX7_blame 7 = .ok (.iconst (-1), 1) := by decide +kernel
theorem dX7_blame_8 : decode cX7_blame 8 = .ok (.ireturn, 1) := by decide +kernel
theorem dX7_blame_9 : decode cX7_blame 9 = .ok (.iload_n 2, 1) := by decide +kernel
theorem dX7_blame_10 : decode cX7_blame 10 = .ok (.iconst 0, 1) := by decide +kernel
theorem dX7_blame_11 : decode cX7_blame 11 = .ok (.iconst 1, 1) := by decide +kernel
theorem dX7_blame_12 : decode cX7_blame 12 = .ok (.invokestatic 67, 3) := by decide +kernel
theorem dX7_blame_15 : decode cX7_blame 15 = .ok (.ifCond .ne 6, 3) := by decide +kernel
theorem dX7_blame_18 : decode cX7_blame 18 = .ok (.bipush (-2), 2) := by decide +kernel
theorem dX7_blame_20 : decode cX7_blame 20 = .ok (.ireturn, 1) := by decide +kernel
theorem dX7_blame_21 : decode cX7_blame 21 = .ok (.aload_n 0, 1) := by decide +kernel
theorem dX7_blame_22 : decode cX7_blame 22 = .ok (.getfield 10, 3) := by decide +kernel
theorem dX7_blame_25 : decode cX7_blame 25 = .ok (.iload_n 1, 1) := by decide +kernel
theorem dX7_blame_26 : decode cX7_blame 26 = .ok (.invokestatic 149, 3) := by decide +kernel
theorem dX7_blame_29 : decode cX7_blame 29 = .ok (.istore_n 3, 1) := by decide +kernel
theorem dX7_blame_30 : decode cX7_blame 30 = .ok (.iload_n 3, 1) := by decide +kernel
theorem dX7_blame_31 : decode cX7_blame 31 = .ok (.bipush (-6), 2) := by decide +kernel
theorem dX7_blame_33 : decode cX7_blame 33 = .ok (.if_icmp .ne 6, 3) := by decide +kernel
theorem dX7_blame_36 : decode cX7_blame 36 = .ok (.bipush (-6), 2) := by decide +kernel
theorem dX7_blame_38 : decode cX7_blame 38 = .ok (.ireturn, 1) := by decide +kernel
theorem dX7_blame_39 : decode cX7_blame 39 = .ok (.iload_n 2, 1) := by decide +kernel
theorem dX7_blame_40 : decode cX7_blame 40 = .ok (.ifCond .ne 10, 3) := by decide +kernel
theorem dX7_blame_43 : decode cX7_blame 43 = .ok (.iload_n 3, 1) := by decide +kernel
theorem dX7_blame_44 : decode cX7_blame 44 = .ok (.invokestatic 153, 3) := by decide +kernel
theorem dX7_blame_47 : decode cX7_blame 47 = .ok (.goto 4, 3) := by decide +kernel
theorem dX7_blame_50 : decode cX7_blame 50 = .ok (.iload_n 3, 1) := by decide +kernel
theorem dX7_blame_51 : decode cX7_blame 51 = .ok (.ireturn, 1) := by decide +kernel
theorem dX7_cuts_0 : decode cX7_cuts 0 = .ok (.iload_n 1, 1) := by decide +kernel
theorem dX7_cuts_1 : decode cX7_cuts 1 = .ok (.invokestatic 62, 3) := by decide +kernel
theorem dX7_cuts_4 : decode cX7_cuts 4 = .ok (.ifCond .ne 5, 3) := by decide +kernel
theorem dX7_cuts_7 : decode cX7_cuts 7 = .ok (.iconst (-1), 1) := by decide +kernel
theorem dX7_cuts_8 : decode cX7_cuts 8 = .ok (.ireturn, 1) := by decide +kernel
theorem dX7_cuts_9 : decode cX7_cuts 9 = .ok (.iload_n 2, 1) := by decide +kernel
theorem dX7_cuts_10 : decode cX7_cuts 10 = .ok (.iconst 1, 1) := by decide +kernel
theorem dX7_cuts_11 : decode cX7_cuts 11 = .ok (.bipush 16, 2) := by decide +kernel
theorem dX7_cuts_13 : decode cX7_cuts 13 = .ok (.invokestatic 67, 3) := by decide +kernel
theorem dX7_cuts_16 : decode cX7_cuts 16 = .ok (.ifCond .eq 13, 3) := by decide +kernel
theorem dX7_cuts_19 : decode cX7_cuts 19 = .ok (.iload_n 3, 1) := by decide +kernel
theorem dX7_cuts_20 : decode cX7_cuts 20 = .ok (.iconst 0, 1) := by decide +kernel
theorem dX7_cuts_21 : decode cX7_cuts 21 = .ok (.bipush 99, 2) := by decide +kernel
theorem dX7_cuts_23 : decode cX7_cuts 23 = .ok (.invokestatic 67, 3) := by decide +kernel
theorem dX7_cuts_26 : decode cX7_cuts 26 = .ok (.ifCond .ne 6, 3) := by decide +kernel
theorem dX7_cuts_29 : decode cX7_cuts 29 = .ok (.bipush (-2), 2) := by decide +kernel
theorem dX7_cuts_31 : decode cX7_cuts 31 = .ok (.ireturn, 1) := by decide +kernel
theorem dX7_cuts_32 : decode cX7_cuts 32 = .ok (.iload 4, 2) := by decide +kernel
theorem dX7_cuts_34 : decode cX7_cuts 34 = .ok (.iconst 1, 1) := by decide +kernel
theorem dX7_cuts_35 : decode cX7_cuts 35 = .ok (.bipush 16, 2) := by decide +kernel
theorem dX7_cuts_37 : decode cX7_cuts 37 = .ok (.invokestatic 67, 3) := by decide +kernel
theorem dX7_cuts_40 : decode cX7_cuts 40 = .ok (.ifCond .eq 14, 3) := by decide +kernel
theorem dX7_cuts_43 : decode cX7_cuts 43 = .ok (.iload 5, 2) := by decide +kernel
theorem dX7_cuts_45 : decode cX7_cuts 45 = .ok (.iconst 0, 1) := by decide +kernel
theorem dX7_cuts_46 : decode cX7_cuts 46 = .ok (.bipush 99, 2) := by decide +kernel
theorem dX7_cuts_48 : decode cX7_cuts 48 = .ok (.invokestatic 67, 3) := by decide +kernel
theorem dX7_cuts_51 : decode cX7_cuts 51 = .ok (.ifCond .ne 6, 3) := by decide +kernel
theorem dX7_cuts_54 : decode cX7_cuts 54 = .ok (.bipush (-2), 2) := by decide +kernel
theorem dX7_cuts_56 : decode cX7_cuts 56 = .ok (.ireturn, 1) := by decide +kernel
theorem dX7_cuts_57 : decode cX7_cuts 57 = .ok (.aload_n 0, 1) := by decide +kernel
theorem dX7_cuts_58 : decode cX7_cuts 58 = .ok (.getfield 44, 3) := by decide +kernel
theorem dX7_cuts_61 : decode cX7_cuts 61 = .ok (.aload_n 0, 1) := by decide +kernel
theorem dX7_cuts_62 : decode cX7_cuts 62 = .ok (.getfield 10, 3) := by decide +kernel
theorem dX7_cuts_65 : decode cX7_cuts 65 = .ok (.getfield 71, 3) := by decide +kernel
theorem dX7_cuts_68 : decode cX7_cuts 68 = .ok (.iload_n 1, 1) := by decide +kernel
theorem dX7_cuts_69 : decode cX7_cuts 69 = .ok (.iaload, 1) := by decide +kernel
theorem dX7_cuts_70 : decode cX7_cuts 70 = .ok (.iload_n 2, 1) := by decide +kernel
theorem dX7_cuts_71 : decode cX7_cuts 71 = .ok (.iload_n 3, 1) := by decide +kernel
theorem dX7_cuts_72 : decode cX7_cuts 72 = .ok (.iload 4, 2) := by decide +kernel
theorem dX7_cuts_74 : decode cX7_cuts 74 = .ok (.iload 5, 2) := by decide +kernel
theorem dX7_cuts_76 : decode cX7_cuts 76 = .ok (.invokevirtual 159, 3) := by decide +kernel
theorem dX7_cuts_79 : decode cX7_cuts 79 = .ok (.ireturn, 1) := by decide +kernel
theorem dX7_wear_0 : decode cX7_wear 0 = .ok (.iload_n 1, 1) := by decide +kernel
theorem dX7_wear_1 : decode cX7_wear 1 = .ok (.iconst (-1), 1) := by decide +kernel
theorem dX7_wear_2 : decode cX7_wear 2 = .ok (.if_icmp .eq 12, 3) := by decide +kernel
theorem dX7_wear_5 : decode cX7_wear 5 = .ok (.iload_n 1, 1) := by decide +kernel
theorem dX7_wear_6 : decode cX7_wear 6 = .ok (.invokestatic 94, 3) := by decide +kernel
theorem dX7_wear_9 : decode cX7_wear 9 = .ok (.ifCond .ne 5, 3) := by decide +kernel
theorem dX7_wear_12 : decode cX7_wear 12 = .ok (.iconst (-1), 1) := by decide +kernel
theorem dX7_wear_13 : decode cX7_wear 13 = .ok (.ireturn, 1) := by decide +kernel
theorem dX7_wear_14 : decode cX7_wear 14 = .ok (.aload_n 0, 1) := by decide +kernel
theorem dX7_wear_15 : decode cX7_wear 15 = .ok (.getfield 51, 3) := by decide +kernel
theorem dX7_wear_18 : decode cX7_wear 18 = .ok (.aload_n 0, 1) := by decide +kernel
theorem dX7_wear_19 : decode cX7_wear 19 = .ok (.getfield 10, 3) := by decide +kernel
theorem dX7_wear_22 : decode cX7_wear 22 = .ok (.invokevirtual 163, 3) := by decide +kernel
theorem dX7_wear_25 : decode cX7_wear 25 = .ok (.iload_n 1, 1) := by decide +kernel
theorem dX7_wear_26 : decode cX7_wear 26 = .ok (.iconst (-1), 1) := by decide +kernel
theorem dX7_wear_27 : decode cX7_wear 27 = .ok (.if_icmp .ne 13, 3) := by decide +kernel
theorem dX7_wear_30 : decode cX7_wear 30 = .ok (.aload_n 0, 1) := by decide +kernel
theorem dX7_wear_31 : decode cX7_wear 31 = .ok (.getfield 51, 3) := by decide +kernel
theorem dX7_wear_34 : decode cX7_wear 34 = .ok (.invokevirtual 166, 3) := by decide +kernel
theorem dX7_wear_37 : decode cX7_wear 37 = .ok (.goto 11, 3) := by decide +kernel
theorem dX7_wear_40 : decode cX7_wear 40 = .ok (.aload_n 0, 1) := by decide +kernel
theorem dX7_wear_41 : decode cX7_wear 41 = .ok (.getfield 51, 3) := by decide +kernel
theorem dX7_wear_44 : decode cX7_wear 44 = .ok (.iload_n 1, 1) := by decide +kernel
theorem dX7_wear_45 : decode cX7_wear 45 = .ok (.invokevirtual 169, 3) := by decide +kernel
theorem dX7_wear_48 : decode cX7_wear 48 = .ok (.ireturn, 1) := by decide +kernel
theorem dX7_seen_0 : decode cX7_seen 0 = .ok (.iload_n 1, 1) := by decide +kernel
theorem dX7_seen_1 : decode cX7_seen 1 = .ok (.iconst 1, 1) := by decide +kernel
theorem dX7_seen_2 : decode cX7_seen 2 = .ok (.sipush 1023, 3) := by decide +kernel
theorem dX7_seen_5 : decode cX7_seen 5 = .ok (.invokestatic 67, 3) := by decide +kernel
theorem dX7_seen_8 : decode cX7_seen 8 = .ok (.ifCond .ne 6, 3) := by decide +kernel
theorem dX7_seen_11 : decode cX7_seen 11 = .ok (.bipush (-2), 2) := by decide +kernel
theorem dX7_seen_13 : decode cX7_seen 13 = .ok (.ireturn, 1) := by decide +kernel
theorem dX7_seen_14 : decode cX7_seen 14 = .ok (.aload_n 0, 1) := by decide +kernel
theorem dX7_seen_15 : decode cX7_seen 15 = .ok (.getfield 10, 3) := by decide +kernel
theorem dX7_seen_18 : decode cX7_seen 18 = .ok (.getfield 172, 3) := by decide +kernel
theorem dX7_seen_21 : decode cX7_seen 21 = .ok (.bipush 8, 2) := by decide +kernel
theorem dX7_seen_23 : decode cX7_seen 23 = .ok (.if_icmp .lt 6, 3) := by decide +kernel
theorem dX7_seen_26 : decode cX7_seen 26 = .ok (.bipush (-4), 2) := by decide +kernel
theorem dX7_seen_28 : decode cX7_seen 28 = .ok (.ireturn, 1) := by decide +kernel
theorem dX7_seen_29 : decode cX7_seen 29 = .ok (.aload_n 0, 1) := by decide +kernel
theorem dX7_seen_30 : decode cX7_seen 30 = .ok (.getfield 10, 3) := by decide +kernel
theorem dX7_seen_33 : decode cX7_seen 33 = .ok (.iload_n 1, 1) := by decide +kernel
theorem dX7_seen_34 : decode cX7_seen 34 = .ok (.iload_n 2, 1) := by decide +kernel
theorem dX7_seen_35 : decode cX7_seen 35 = .ok (.invokevirtual 175, 3) := by decide +kernel
theorem dX7_seen_38 : decode cX7_seen 38 = .ok (.aload_n 0, 1) := by decide +kernel
theorem dX7_seen_39 : decode cX7_seen 39 = .ok (.getfield 10, 3) := by decide +kernel
theorem dX7_seen_42 : decode cX7_seen 42 = .ok (.getfield 172, 3) := by decide +kernel
theorem dX7_seen_45 : decode cX7_seen 45 = .ok (.ireturn, 1) := by decide +kernel
theorem dX7_forget_0 : decode cX7_forget 0 = .ok (.aload_n 0, 1) := by decide +kernel
theorem dX7_forget_1 : decode cX7_forget 1 = .ok (.getfield 10, 3) := by decide +kernel
theorem dX7_forget_4 : decode cX7_forget 4 = .ok (.getfield 172, 3) := by decide +kernel
theorem dX7_forget_7 : decode cX7_forget 7 = .ok (.istore_n 1, 1) := by decide +kernel
theorem dX7_forget_8 : decode cX7_forget 8 = .ok (.aload_n 0, 1) := by decide +kernel
theorem dX7_forget_9 : decode cX7_forget 9 = .ok (.getfield 10, 3) := by decide +kernel
theorem dX7_forget_12 : decode cX7_forget 12 = .ok (.iconst 0, 1) := by decide +kernel
theorem dX7_forget_13 : decode cX7_forget 13 = .ok (.putfield 172, 3) := by decide +kernel
theorem dX7_forget_16 : decode cX7_forget 16 = .ok (.iload_n 1, 1) := by decide +kernel
theorem dX7_forget_17 : decode cX7_forget 17 = .ok (.ireturn, 1) := by decide +kernel
theorem dX7_liars_0 : decode cX7_liars 0 = .ok (.iload_n 1, 1) := by decide +kernel
theorem dX7_liars_1 : decode cX7_liars 1 = .ok (.iconst 0, 1) := by decide +kernel
theorem dX7_liars_2 : decode cX7_liars 2 = .ok (.iconst 3, 1) := by decide +kernel
theorem dX7_liars_3 : decode cX7_liars 3 = .ok (.invokestatic 67, 3) := by decide +kernel
theorem dX7_liars_6 : decode cX7_liars 6 = .ok (.ifCond .eq 12, 3) := by decide +kernel
theorem dX7_liars_9 : decode cX7_liars 9 = .ok (.iload_n 2, 1) := by decide +kernel
theorem dX7_liars_10 : decode cX7_liars 10 = .ok (.iconst 0, 1) := by decide +kernel
theorem dX7_liars_11 : decode cX7_liars 11 = .ok (.iconst 2, 1) := by decide +kernel
theorem dX7_liars_12 : decode cX7_liars 12 = .ok (.invokestatic 67, 3) := by decide +kernel
theorem dX7_liars_15 : decode cX7_liars 15 = .ok (.ifCond .ne 6, 3) := by decide +kernel
theorem dX7_liars_18 : decode cX7_liars 18 = .ok (.bipush (-2), 2) := by decide +kernel
theorem dX7_liars_20 : decode cX7_liars 20 = .ok (.ireturn, 1) := by decide +kernel
theorem dX7_liars_21 : decode cX7_liars 21 = .ok (.aload_n 0, 1) := by decide +kernel
theorem dX7_liars_22 : decode cX7_liars 22 = .ok (.getfield 37, 3) := by decide +kernel
theorem dX7_liars_25 : decode cX7_liars 25 = .ok (.aload_n 0, 1) := by decide +kernel
theorem dX7_liars_26 : decode cX7_liars 26 = .ok (.getfield 10, 3) := by decide +kernel
theorem dX7_liars_29 : decode cX7_liars 29 = .ok (.iload_n 1, 1) := by decide +kernel
theorem dX7_liars_30 : decode cX7_liars 30 = .ok (.invokevirtual 179, 3) := by decide +kernel
theorem dX7_liars_33 : decode cX7_liars 33 = .ok (.iload_n 2, 1) := by decide +kernel
theorem dX7_liars_34 : decode cX7_liars 34 = .ok (.ifCond .ne 11, 3) := by decide +kernel
theorem dX7_liars_37 : decode cX7_liars 37 = .ok (.aload_n 0, 1) := by decide +kernel
theorem dX7_liars_38 : decode cX7_liars 38 = .ok (.getfield 37, 3) := by decide +kernel
theorem dX7_liars_41 : decode cX7_liars 41 = .ok (.getfield 183, 3) := by decide +kernel
theorem dX7_liars_44 : decode cX7_liars 44 = .ok (.ireturn, 1) := by decide +kernel
theorem dX7_liars_45 : decode cX7_liars 45 = .ok (.iload_n 2, 1) := by decide +kernel
theorem dX7_liars_46 : decode cX7_liars 46 = .ok (.iconst 1, 1) := by decide +kernel
theorem dX7_liars_47 : decode cX7_liars 47 = .ok (.if_icmp .ne 13, 3) := by decide +kernel
theorem dX7_liars_50 : decode cX7_liars 50 = .ok (.aload_n 0, 1) := by decide +kernel
theorem dX7_liars_51 : decode cX7_liars 51 = .ok (.getfield 37, 3) := by decide +kernel
theorem dX7_liars_54 : decode cX7_liars 54 = .ok (.getfield 186, 3) := by decide +kernel
theorem dX7_liars_57 : decode cX7_liars 57 = .ok (.goto 10, 3) := by decide +kernel
theorem dX7_liars_60 : decode cX7_liars 60 = .ok (.aload_n 0, 1) := by decide +kernel
theorem dX7_liars_61 : decode cX7_liars 61 = .ok (.getfield 37, 3) := by decide +kernel
theorem dX7_liars_64 : decode cX7_liars 64 = .ok (.getfield 189, 3) := by decide +kernel
theorem dX7_liars_67 : decode cX7_liars 67 = .ok (.ireturn, 1) := by decide +kernel
theorem dX7_tries_0 : decode cX7_tries 0 = .ok (.iload_n 1, 1) := by decide +kernel
theorem dX7_tries_1 : decode cX7_tries 1 = .ok (.iconst 0, 1) := by decide +kernel
theorem dX7_tries_2 : decode cX7_tries 2 = .ok (.iconst 3, 1) := by decide +kernel
theorem dX7_tries_3 : decode cX7_tries 3 = .ok (.invokestatic 67, 3) := by decide +kernel
theorem dX7_tries_6 : decode cX7_tries 6 = .ok (.ifCond .eq 12, 3) := by decide +kernel
theorem dX7_tries_9 : decode cX7_tries 9 = .ok (.iload_n 2, 1) := by decide +kernel
theorem dX7_tries_10 : decode cX7_tries 10 = .ok (.iconst 0, 1) := by decide +kernel
theorem dX7_tries_11 : decode cX7_tries 11 = .ok (.iconst 1, 1) := by decide +kernel
theorem dX7_tries_12 : decode cX7_tries 12 = .ok (.invokestatic 67, 3) := by decide +kernel
theorem dX7_tries_15 : decode cX7_tries 15 = .ok (.ifCond .ne 6, 3) := by decide +kernel
theorem dX7_tries_18 : decode cX7_tries 18 = .ok (.bipush (-2), 2) := by decide +kernel
theorem dX7_tries_20 : decode cX7_tries 20 = .ok (.ireturn, 1) := by decide +kernel
theorem dX7_tries_21 : decode cX7_tries 21 = .ok (.aload_n 0, 1) := by decide +kernel
theorem dX7_tries_22 : decode cX7_tries 22 = .ok (.getfield 37, 3) := by decide +kernel
theorem dX7_tries_25 : decode cX7_tries 25 = .ok (.aload_n 0, 1) := by decide +kernel
theorem dX7_tries_26 : decode cX7_tries 26 = .ok (.getfield 10, 3) := by decide +kernel
theorem dX7_tries_29 : decode cX7_tries 29 = .ok (.iload_n 1, 1) := by decide +kernel
theorem dX7_tries_30 : decode cX7_tries 30 = .ok (.invokevirtual 179, 3) := by decide +kernel
theorem dX7_tries_33 : decode cX7_tries 33 = .ok (.aload_n 0, 1) := by decide +kernel
theorem dX7_tries_34 : decode cX7_tries 34 = .ok (.getfield 37, 3) := by decide +kernel
theorem dX7_tries_37 : decode cX7_tries 37 = .ok (.getfield 183, 3) := by decide +kernel
theorem dX7_tries_40 : decode cX7_tries 40 = .ok (.ifCond .ne 6, 3) := by decide +kernel
theorem dX7_tries_43 : decode cX7_tries 43 = .ok (.bipush (-6), 2) := by decide +kernel
theorem dX7_tries_45 : decode cX7_tries 45 = .ok (.ireturn, 1) := by decide +kernel
theorem dX7_tries_46 : decode cX7_tries 46 = .ok (.aload_n 0, 1) := by decide +kernel
theorem dX7_tries_47 : decode cX7_tries 47 = .ok (.getfield 37, 3) := by decide +kernel
theorem dX7_tries_50 : decode cX7_tries 50 = .ok (.invokevirtual 192, 3) := by decide +kernel
theorem dX7_tries_53 : decode cX7_tries 53 = .ok (.istore_n 3, 1) := by decide +kernel
theorem dX7_tries_54 : decode cX7_tries 54 = .ok (.iload_n 2, 1) := by decide +kernel
theorem dX7_tries_55 : decode cX7_tries 55 = .ok (.ifCond .ne 7, 3) := by decide +kernel
theorem dX7_tries_58 : decode cX7_tries 58 = .ok (.iload_n 3, 1) := by decide +kernel
theorem dX7_tries_59 : decode cX7_tries 59 = .ok (.goto 11, 3) := by decide +kernel
theorem dX7_tries_62 : decode cX7_tries 62 = .ok (.aload_n 0, 1) := by decide +kernel
theorem dX7_tries_63 : decode cX7_tries 63 = .ok (.getfield 37, 3) := by decide +kernel
theorem dX7_tries_66 : decode cX7_tries 66 = .ok (.iload_n 3, 1) := by decide +kernel
theorem dX7_tries_67 : decode cX7_tries 67 = .ok (.invokevirtual 195, 3) := by decide +kernel
theorem dX7_tries_70 : decode cX7_tries 70 = .ok (.ireturn, 1) := by decide +kernel
theorem dX7_darns_0 : decode cX7_darns 0 = .ok (.iload_n 1, 1) := by decide +kernel
theorem dX7_darns_1 : decode cX7_darns 1 = .ok (.invokestatic 62, 3) := by decide +kernel
theorem dX7_darns_4 : decode cX7_darns 4 = .ok (.ifCond .ne 5, 3) := by decide +kernel
theorem dX7_darns_7 : decode cX7_darns 7 = .ok (.iconst (-1), 1) := by decide +kernel
theorem dX7_darns_8 : decode cX7_darns 8 = .ok (.ireturn, 1) := by decide +kernel
theorem dX7_darns_9 : decode cX7_darns 9 = .ok (.iload_n 2, 1) := by decide +kernel
theorem dX7_darns_10 : decode cX7_darns 10 = .ok (.iconst 0, 1) := by decide +kernel
theorem dX7_darns_11 : decode cX7_darns 11 = .ok (.iconst 1, 1) := by decide +kernel
theorem dX7_darns_12 : decode cX7_darns 12 = .ok (.invokestatic 67, 3) := by decide +kernel
theorem dX7_darns_15 : decode cX7_darns 15 = .ok (.ifCond .ne 6, 3) := by decide +kernel
theorem dX7_darns_18 : decode cX7_darns 18 = .ok (.bipush (-2), 2) := by decide +kernel
theorem dX7_darns_20 : decode cX7_darns 20 = .ok (.ireturn, 1) := by decide +kernel
theorem dX7_darns_21 : decode cX7_darns 21 = .ok (.aload_n 0, 1) := by decide +kernel
theorem dX7_darns_22 : decode cX7_darns 22 = .ok (.getfield 10, 3) := by decide +kernel
theorem dX7_darns_25 : decode cX7_darns 25 = .ok (.getfield 71, 3) := by decide +kernel
theorem dX7_darns_28 : decode cX7_darns 28 = .ok (.iload_n 1, 1) := by decide +kernel
theorem dX7_darns_29 : decode cX7_darns 29 = .ok (.iaload, 1) := by decide +kernel
theorem dX7_darns_30 : decode cX7_darns 30 = .ok (.invokestatic 198, 3) := by decide +kernel
theorem dX7_darns_33 : decode cX7_darns 33 = .ok (.istore_n 3, 1) := by decide +kernel
theorem dX7_darns_34 : decode cX7_darns 34 = .ok (.iload_n 2, 1) := by decide +kernel
theorem dX7_darns_35 : decode cX7_darns 35 = .ok (.iconst 1, 1) := by decide +kernel
theorem dX7_darns_36 : decode cX7_darns 36 = .ok (.if_icmp .ne 5, 3) := by decide +kernel
theorem dX7_darns_39 : decode cX7_darns 39 = .ok (.iload_n 3, 1) := by decide +kernel
theorem dX7_darns_40 : decode cX7_darns 40 = .ok (.ireturn, 1) := by decide +kernel
theorem dX7_darns_41 : decode cX7_darns 41 = .ok (.iload_n 3, 1) := by decide +kernel
theorem dX7_darns_42 : decode cX7_darns 42 = .ok (.bipush (-6), 2) := by decide +kernel
theorem dX7_darns_44 : decode cX7_darns 44 = .ok (.if_icmp .ne 7, 3) := by decide +kernel
theorem dX7_darns_47 : decode cX7_darns 47 = .ok (.iconst 0, 1) := by decide +kernel
theorem dX7_darns_48 : decode cX7_darns 48 = .ok (.goto 4, 3) := by decide +kernel
theorem dX7_darns_51 : decode cX7_darns 51 = .ok (.iconst 1, 1) := by decide +kernel
theorem dX7_darns_52 : decode cX7_darns 52 = .ok (.ireturn, 1) := by decide +kernel
theorem dX7_chance_0 : decode cX7_chance 0 = .ok (.iload_n 1, 1) := by decide +kernel
theorem dX7_chance_1 : decode cX7_chance 1 = .ok (.iconst 0, 1) := by decide +kernel
theorem dX7_chance_2 : decode cX7_chance 2 = .ok (.bipush 16, 2) := by decide +kernel
theorem dX7_chance_4 : decode cX7_chance 4 = .ok (.invokestatic 67, 3) := by decide +kernel
theorem dX7_chance_7 : decode cX7_chance 7 = .ok (.ifCond .eq 13, 3) := by decide +kernel
theorem dX7_chance_10 : decode cX7_chance 10 = .ok (.iload_n 2, 1) := by decide +kernel
theorem dX7_chance_11 : decode cX7_chance 11 = .ok (.iconst 0, 1) := by decide +kernel
theorem dX7_chance_12 : decode cX7_chance 12 = .ok (.bipush 10, 2) := by decide +kernel
theorem dX7_chance_14 : decode cX7_chance 14 = .ok (.invokestatic 67, 3) := by decide +kernel
theorem dX7_chance_17 : decode cX7_chance 17 = .ok (.ifCond .ne 7, 3) := by decide +kernel
theorem dX7_chance_20 : decode cX7_chance 20 = .ok (.ldc2_w 201, 3) := by decide +kernel
theorem dX7_chance_23 : decode cX7_chance 23 = .ok (.lreturn, 1) := by decide +kernel
theorem dX7_chance_24 : decode cX7_chance 24 = .ok (.iload_n 3, 1) := by decide +kernel
theorem dX7_chance_25 : decode cX7_chance 25 = .ok (.iconst 0, 1) := by decide +kernel
theorem dX7_chance_26 : decode cX7_chance 26 = .ok (.bipush 16, 2) := by decide +kernel
theorem dX7_chance_28 : decode cX7_chance 28 = .ok (.invokestatic 67, 3) := by decide +kernel
theorem dX7_chance_31 : decode cX7_chance 31 = .ok (.ifCond .eq 13, 3) := by decide +kernel
theorem dX7_chance_34 : decode cX7_chance 34 = .ok (.iload 4, 2) := by decide +kernel
theorem dX7_chance_36 : decode cX7_chance 36 = .ok (.iconst 0, 1) := by decide +kernel
theorem dX7_chance_37 : decode cX7_chance 37 = .ok (.iconst 1, 1) := by decide +kernel
theorem dX7_chance_38 : decode cX7_chance 38 = .ok (.invokestatic 67, 3) := by decide +kernel
theorem dX7_chance_41 : decode cX7_chance 41 = .ok (.ifCond .ne 7, 3) := by decide +kernel
theorem dX7_chance_44 : decode cX7_chance 44 = .ok (.ldc2_w 201, 3) := by decide +kernel
theorem dX7_chance_47 : decode cX7_chance 47 = .ok (.lreturn, 1) := by decide +kernel
theorem dX7_chance_48 : decode cX7_chance 48 = .ok (.aload_n 0, 1) := by decide +kernel
theorem dX7_chance_49 : decode cX7_chance 49 = .ok (.getfield 58, 3) := by decide +kernel
theorem dX7_chance_52 : decode cX7_chance 52 = .ok (.iload_n 1, 1) := by decide +kernel
theorem dX7_chance_53 : decode cX7_chance 53 = .ok (.iload_n 2, 1) := by decide +kernel
theorem dX7_chance_54 : decode cX7_chance 54 = .ok (.iload_n 3, 1) := by decide +kernel
theorem dX7_chance_55 : decode cX7_chance 55 = .ok (.iload 4, 2) := by decide +kernel
theorem dX7_chance_57 : decode cX7_chance 57 = .ok (.invokevirtual 203, 3) := by decide +kernel
theorem dX7_chance_60 : decode cX7_chance 60 = .ok (.lreturn, 1) := by decide +kernel
theorem dX7_year_0 : decode cX7_year 0 = .ok (.iload_n 1, 1) := by decide +kernel
theorem dX7_year_1 : decode cX7_year 1 = .ok (.iconst 0, 1) := by decide +kernel
theorem dX7_year_2 : decode cX7_year 2 = .ok (.sipush 9999, 3) := by decide +kernel
theorem dX7_year_5 : decode cX7_year 5 = .ok (.invokestatic 67, 3) := by decide +kernel
theorem dX7_year_8 : decode cX7_year 8 = .ok (.ifCond .eq 22, 3) := by decide +kernel
theorem dX7_year_11 : decode cX7_year 11 = .ok (.iload_n 2, 1) := by decide +kernel
theorem dX7_year_12 : decode cX7_year 12 = .ok (.iconst 1, 1) := by decide +kernel
theorem dX7_year_13 : decode cX7_year 13 = .ok (.bipush 99, 2) := by decide +kernel
theorem dX7_year_15 : decode cX7_year 15 = .ok (.invokestatic 67, 3) := by decide +kernel
theorem dX7_year_18 : decode cX7_year 18 = .ok (.ifCond .eq 12, 3) := by decide +kernel
theorem dX7_year_21 : decode cX7_year 21 = .ok (.iload_n 3, 1) := by decide +kernel
theorem dX7_year_22 : decode cX7_year 22 = .ok (.iconst 0, 1) := by decide +kernel
theorem dX7_year_23 : decode cX7_year 23 = .ok (.iconst 2, 1) := by decide +kernel
theorem dX7_year_24 : decode cX7_year 24 = .ok (.invokestatic 67, 3) := by decide +kernel
theorem dX7_year_27 : decode cX7_year 27 = .ok (.ifCond .ne 6, 3) := by decide +kernel
theorem dX7_year_30 : decode cX7_year 30 = .ok (.bipush (-2), 2) := by decide +kernel
theorem dX7_year_32 : decode cX7_year 32 = .ok (.ireturn, 1) := by decide +kernel
theorem dX7_year_33 : decode cX7_year 33 = .ok (.aload_n 0, 1) := by decide +kernel
theorem dX7_year_34 : decode cX7_year 34 = .ok (.getfield 26, 3) := by decide +kernel
theorem dX7_year_37 : decode cX7_year 37 = .ok (.aload_n 0, 1) := by decide +kernel
theorem dX7_year_38 : decode cX7_year 38 = .ok (.getfield 10, 3) := by decide +kernel
theorem dX7_year_41 : decode cX7_year 41 = .ok (.invokevirtual 207, 3) := by decide +kernel
theorem dX7_year_44 : decode cX7_year 44 = .ok (.aload_n 0, 1) := by decide +kernel
theorem dX7_year_45 : decode cX7_year 45 = .ok (.getfield 26, 3) := by decide +kernel
theorem dX7_year_48 : decode cX7_year 48 = .ok (.iload_n 1, 1) := by decide +kernel
theorem dX7_year_49 : decode cX7_year 49 = .ok (.iload_n 2, 1) := by decide +kernel
theorem dX7_year_50 : decode cX7_year 50 = .ok (.invokevirtual 210, 3) := by decide +kernel
theorem dX7_year_53 : decode cX7_year 53 = .ok (.iload_n 3, 1) := by decide +kernel
theorem dX7_year_54 : decode cX7_year 54 = .ok (.ifCond .ne 14, 3) := by decide +kernel
theorem dX7_year_57 : decode cX7_year 57 = .ok (.aload_n 0, 1) := by decide +kernel
theorem dX7_year_58 : decode cX7_year 58 = .ok (.getfield 26, 3) := by decide +kernel
theorem dX7_year_61 : decode cX7_year 61 = .ok (.getfield 124, 3) := by decide +kernel
theorem dX7_year_64 : decode cX7_year 64 = .ok (.invokevirtual 214, 3) := by decide +kernel
theorem dX7_year_67 : decode cX7_year 67 = .ok (.ireturn, 1) := by decide +kernel
theorem dX7_year_68 : decode cX7_year 68 = .ok (.iload_n 3, 1) := by decide +kernel
theorem dX7_year_69 : decode cX7_year 69 = .ok (.iconst 1, 1) := by decide +kernel
theorem dX7_year_70 : decode cX7_year 70 = .ok (.if_icmp .ne 13, 3) := by decide +kernel
theorem dX7_year_73 : decode cX7_year 73 = .ok (.aload_n 0, 1) := by decide +kernel
theorem dX7_year_74 : decode cX7_year 74 = .ok (.getfield 26, 3) := by decide +kernel
theorem dX7_year_77 : decode cX7_year 77 = .ok (.getfield 137, 3) := by decide +kernel
theorem dX7_year_80 : decode cX7_year 80 = .ok (.goto 16, 3) := by decide +kernel
theorem dX7_year_83 : decode cX7_year 83 = .ok (.aload_n 0, 1) := by decide +kernel
theorem dX7_year_84 : decode cX7_year 84 = .ok (.getfield 26, 3) := by decide +kernel
theorem dX7_year_87 : decode cX7_year 87 = .ok (.getfield 124, 3) := by decide +kernel
theorem dX7_year_90 : decode cX7_year 90 = .ok (.invokevirtual 217, 3) := by decide +kernel
theorem dX7_year_93 : decode cX7_year 93 = .ok (.invokestatic 153, 3) := by decide +kernel
theorem dX7_year_96 : decode cX7_year 96 = .ok (.ireturn, 1) := by decide +kernel
theorem dX7_image_0 : decode cX7_image 0 = .ok (.iload_n 1, 1) := by decide +kernel
theorem dX7_image_1 : decode cX7_image 1 = .ok (.iconst 0, 1) := by decide +kernel
theorem dX7_image_2 : decode cX7_image 2 = .ok (.iconst 1, 1) := by decide +kernel
theorem dX7_image_3 : decode cX7_image 3 = .ok (.invokestatic 67, 3) := by decide +kernel
theorem dX7_image_6 : decode cX7_image 6 = .ok (.ifCond .ne 6, 3) := by decide +kernel
theorem dX7_image_9 : decode cX7_image 9 = .ok (.bipush (-2), 2) := by decide +kernel
theorem dX7_image_11 : decode cX7_image 11 = .ok (.ireturn, 1) := by decide +kernel
theorem dX7_image_12 : decode cX7_image 12 = .ok (.aload_n 0, 1) := by decide +kernel
theorem dX7_image_13 : decode cX7_image 13 = .ok (.getfield 30, 3) := by decide +kernel
theorem dX7_image_16 : decode cX7_image 16 = .ok (.iload_n 1, 1) := by decide +kernel
theorem dX7_image_17 : decode cX7_image 17 = .ok (.aaload, 1) := by decide +kernel
theorem dX7_image_18 : decode cX7_image 18 = .ok (.astore_n 2, 1) := by decide +kernel
theorem dX7_image_19 : decode cX7_image 19 = .ok (.aload_n 2, 1) := by decide +kernel
theorem dX7_image_20 : decode cX7_image 20 = .ok (.ifnonnull 18, 3) := by decide +kernel
theorem dX7_image_23 : decode cX7_image 23 = .ok (.new 7, 3) := by decide +kernel
theorem dX7_image_26 : decode cX7_image 26 = .ok (.dup, 1) := by decide +kernel
theorem dX7_image_27 : decode cX7_image 27 = .ok (.invokespecial 9, 3) := by decide +kernel
theorem dX7_image_30 : decode cX7_image 30 = .ok (.astore_n 2, 1) := by decide +kernel
theorem dX7_image_31 : decode cX7_image 31 = .ok (.aload_n 0, 1) := by decide +kernel
theorem dX7_image_32 : decode cX7_image 32 = .ok (.getfield 30, 3) := by decide +kernel
theorem dX7_image_35 : decode cX7_image 35 = .ok (.iload_n 1, 1) := by decide +kernel
theorem dX7_image_36 : decode cX7_image 36 = .ok (.aload_n 2, 1) := by decide +kernel
theorem dX7_image_37 : decode cX7_image 37 = .ok (.aastore, 1) := by decide +kernel
theorem dX7_image_38 : decode cX7_image 38 = .ok (.aload_n 2, 1) := by decide +kernel
theorem dX7_image_39 : decode cX7_image 39 = .ok (.aload_n 0, 1) := by decide +kernel
theorem dX7_image_40 : decode cX7_image 40 = .ok (.getfield 10, 3) := by decide +kernel
theorem dX7_image_43 : decode cX7_image 43 = .ok (.invokevirtual 127, 3) := by decide +kernel
theorem dX7_image_46 : decode cX7_image 46 = .ok (.iconst 1, 1) := by decide +kernel
theorem dX7_image_47 : decode cX7_image 47 = .ok (.ireturn, 1) := by decide +kernel
theorem dX7_restore_0 : decode cX7_restore 0 = .ok (.iload_n 1, 1) := by decide +kernel
theorem dX7_restore_1 : decode cX7_restore 1 = .ok (.iconst 0, 1) := by decide +kernel
theorem dX7_restore_2 : decode cX7_restore 2 = .ok (.iconst 1, 1) := by decide +kernel
theorem dX7_restore_3 : decode cX7_restore 3 = .ok (.invokestatic 67, 3) := by decide +kernel
theorem dX7_restore_6 : decode cX7_restore 6 = .ok (.ifCond .ne 6, 3) := by decide +kernel
theorem dX7_restore_9 : decode cX7_restore 9 = .ok (.bipush (-2), 2) := by decide +kernel
theorem dX7_restore_11 : decode cX7_restore 11 = .ok (.ireturn, 1) := by decide +kernel
theorem dX7_restore_12 : decode cX7_restore 12 = .ok (.aload_n 0, 1) := by decide +kernel
theorem dX7_restore_13 : decode cX7_restore 13 = .ok (.getfield 30, 3) := by decide +kernel
theorem dX7_restore_16 : decode cX7_restore 16 = .ok (.iload_n 1, 1) := by decide +kernel
theorem dX7_restore_17 : decode cX7_restore 17 = .ok (.aaload, 1) := by decide +kernel
theorem dX7_restore_18 : decode cX7_restore 18 = .ok (.astore_n 2, 1) := by decide +kernel
theorem dX7_restore_19 : decode cX7_restore 19 = .ok (.aload_n 2, 1) := by decide +kernel
theorem dX7_restore_20 : decode cX7_restore 20 = .ok (.ifnonnull 6, 3) := by decide +kernel
theorem dX7_restore_23 : decode cX7_restore 23 = .ok (.bipush (-3), 2) := by decide +kernel
theorem dX7_restore_25 : decode cX7_restore 25 = .ok (.ireturn, 1) := by decide +kernel
theorem dX7_restore_26 : decode cX7_restore 26 = .ok (.aload_n 0, 1) := by decide +kernel
theorem dX7_restore_27 : decode cX7_restore 27 = .ok (.getfield 10, 3) := by decide +kernel
theorem dX7_restore_30 : decode cX7_restore 30 = .ok (.aload_n 2, 1) := by decide +kernel
theorem dX7_restore_31 : decode cX7_restore 31 = .ok (.invokevirtual 127, 3) := by decide +kernel
theorem dX7_restore_34 : decode cX7_restore 34 = .ok (.iconst 1, 1) := by decide +kernel
theorem dX7_restore_35 : decode cX7_restore 35 = .ok (.ireturn, 1) := by decide +kernel
theorem dX7_told_0 : decode cX7_told 0 = .ok (.iload_n 1, 1) := by decide +kernel
theorem dX7_told_1 : decode cX7_told 1 = .ok (.iconst 0, 1) := by decide +kernel
theorem dX7_told_2 : decode cX7_told 2 = .ok (.iconst 4, 1) := by decide +kernel
theorem dX7_told_3 : decode cX7_told 3 = .ok (.invokestatic 67, 3) := by decide +kernel
theorem dX7_told_6 : decode cX7_told 6 = .ok (.ifCond .eq 9, 3) := by decide +kernel
theorem dX7_told_9 : decode cX7_told 9 = .ok (.aload_n 0, 1) := by decide +kernel
theorem dX7_told_10 : decode cX7_told 10 = .ok (.iload_n 1, 1) := by decide +kernel
theorem dX7_told_11 : decode cX7_told 11 = .ok (.invokevirtual 220, 3) := by decide +kernel
theorem dX7_told_14 : decode cX7_told 14 = .ok (.ireturn, 1) := by decide +kernel
theorem dX7_told_15 : decode cX7_told 15 = .ok (.iload_n 1, 1) := by decide +kernel
theorem dX7_told_16 : decode cX7_told 16 = .ok (.bipush 10, 2) := by decide +kernel
theorem dX7_told_18 : decode cX7_told 18 = .ok (.bipush 69, 2) := by decide +kernel
theorem dX7_told_20 : decode cX7_told 20 = .ok (.invokestatic 67, 3) := by decide +kernel
theorem dX7_told_23 : decode cX7_told 23 = .ok (.ifCond .eq 18, 3) := by decide +kernel
theorem dX7_told_26 : decode cX7_told 26 = .ok (.aload_n 0, 1) := by decide +kernel
theorem dX7_told_27 : decode cX7_told 27 = .ok (.iload_n 1, 1) := by decide +kernel
theorem dX7_told_28 : decode cX7_told 28 = .ok (.bipush 10, 2) := by decide +kernel
theorem dX7_told_30 : decode cX7_told 30 = .ok (.idiv, 1) := by decide +kernel
theorem dX7_told_31 : decode cX7_told 31 = .ok (.iconst 1, 1) := by decide +kernel
theorem dX7_told_32 : decode cX7_told 32 = .ok (.isub, 1) := by decide +kernel
theorem dX7_told_33 : decode cX7_told 33 = .ok (.iload_n 1, 1) := by decide +kernel
theorem dX7_told_34 : decode cX7_told 34 = .ok (.bipush 10, 2) := by decide +kernel
theorem dX7_told_36 : decode cX7_told 36 = .ok (.irem, 1) := by decide +kernel
theorem dX7_told_37 : decode cX7_told 37 = .ok (.invokevirtual 223, 3) := by decide +kernel
theorem dX7_told_40 : decode cX7_told 40 = .ok (.ireturn, 1) := by decide +kernel
theorem dX7_told_41 : decode cX7_told 41 = .ok (.iload_n 1, 1) := by decide +kernel
theorem dX7_told_42 : decode cX7_told 42 = .ok (.bipush 100, 2) := by decide +kernel
theorem dX7_told_44 : decode cX7_told 44 = .ok (.sipush 199, 3) := by decide +kernel
theorem dX7_told_47 : decode cX7_told 47 = .ok (.invokestatic 67, 3) := by decide +kernel
theorem dX7_told_50 : decode cX7_told 50 = .ok (.ifCond .eq 19, 3) := by decide +kernel
theorem dX7_told_53 : decode cX7_told 53 = .ok (.aload_n 0, 1) := by decide +kernel
theorem dX7_told_54 : decode cX7_told 54 = .ok (.iload_n 1, 1) := by decide +kernel
theorem dX7_told_55 : decode cX7_told 55 = .ok (.bipush 100, 2) := by decide +kernel
theorem dX7_told_57 : decode cX7_told 57 = .ok (.isub, 1) := by decide +kernel
theorem dX7_told_58 : decode cX7_told 58 = .ok (.bipush 10, 2) := by decide +kernel
theorem dX7_told_60 : decode cX7_told 60 = .ok (.idiv, 1) := by decide +kernel
theorem dX7_told_61 : decode cX7_told 61 = .ok (.iload_n 1, 1) := by decide +kernel
theorem dX7_told_62 : decode cX7_told 62 = .ok (.bipush 10, 2) := by decide +kernel
theorem dX7_told_64 : decode cX7_told 64 = .ok (.irem, 1) := by decide +kernel
theorem dX7_told_65 : decode cX7_told 65 = .ok (.invokevirtual 227, 3) := by decide +kernel
theorem dX7_told_68 : decode cX7_told 68 = .ok (.ireturn, 1) := by decide +kernel
theorem dX7_told_69 : decode cX7_told 69 = .ok (.iload_n 1, 1) := by decide +kernel
theorem dX7_told_70 : decode cX7_told 70 = .ok (.sipush 200, 3) := by decide +kernel
theorem dX7_told_73 : decode cX7_told 73 = .ok (.sipush 204, 3) := by decide +kernel
theorem dX7_told_76 : decode cX7_told 76 = .ok (.invokestatic 67, 3) := by decide +kernel
theorem dX7_told_79 : decode cX7_told 79 = .ok (.ifCond .eq 17, 3) := by decide +kernel
theorem dX7_told_82 : decode cX7_told 82 = .ok (.aload_n 0, 1) := by decide +kernel
theorem dX7_told_83 : decode cX7_told 83 = .ok (.getfield 10, 3) := by decide +kernel
theorem dX7_told_86 : decode cX7_told 86 = .ok (.getfield 97, 3) := by decide +kernel
theorem dX7_told_89 : decode cX7_told 89 = .ok (.iload_n 1, 1) := by decide +kernel
theorem dX7_told_90 : decode cX7_told 90 = .ok (.sipush 200, 3) := by decide +kernel
theorem dX7_told_93 : decode cX7_told 93 = .ok (.isub, 1) := by decide +kernel
theorem dX7_told_94 : decode cX7_told 94 = .ok (.iaload, 1) := by decide +kernel
theorem dX7_told_95 : decode cX7_told 95 = .ok (.ireturn, 1) := by decide +kernel
theorem dX7_told_96 : decode cX7_told 96 = .ok (.bipush (-2), 2) := by decide +kernel
theorem dX7_told_98 : decode cX7_told 98 = .ok (.ireturn, 1) := by decide +kernel
theorem dX7_toldOfAll_0 : decode cX7_toldOfAll 0 = .ok (.iload_n 1, 1) := by decide +kernel
theorem dX7_toldOfAll_1 : decode cX7_toldOfAll 1 = .ok (.tableswitch 63 0 3 #[31, 39, 47, 55], 31) := by decide +kernel
theorem dX7_toldOfAll_32 : decode cX7_toldOfAll 32 = .ok (.aload_n 0, 1) := by decide +kernel
theorem dX7_toldOfAll_33 : decode cX7_toldOfAll 33 = .ok (.getfield 19, 3) := by decide +kernel
theorem dX7_toldOfAll_36 : decode cX7_toldOfAll 36 = .ok (.getfield 100, 3) := by decide +kernel
theorem dX7_toldOfAll_39 : decode cX7_toldOfAll 39 = .ok (.ireturn, 1) := by decide +kernel
theorem dX7_toldOfAll_40 : decode cX7_toldOfAll 40 = .ok (.aload_n 0, 1) := by decide +kernel
theorem dX7_toldOfAll_41 : decode cX7_toldOfAll 41 = .ok (.getfield 10, 3) := by decide +kernel
theorem dX7_toldOfAll_44 : decode cX7_toldOfAll 44 = .ok (.getfield 146, 3) := by decide +kernel
theorem dX7_toldOfAll_47 : decode cX7_toldOfAll 47 = .ok (.ireturn, 1) := by decide +kernel
theorem dX7_toldOfAll_48 : decode cX7_toldOfAll 48 = .ok (.aload_n 0, 1) := by decide +kernel
theorem dX7_toldOfAll_49 : decode cX7_toldOfAll 49 = .ok (.getfield 10, 3) := by decide +kernel
theorem dX7_toldOfAll_52 : decode cX7_toldOfAll 52 = .ok (.getfield 78, 3) := by decide +kernel
theorem dX7_toldOfAll_55 : decode cX7_toldOfAll 55 = .ok (.ireturn, 1) := by decide +kernel
theorem dX7_toldOfAll_56 : decode cX7_toldOfAll 56 = .ok (.aload_n 0, 1) := by decide +kernel
theorem dX7_toldOfAll_57 : decode cX7_toldOfAll 57 = .ok (.getfield 10, 3) := by decide +kernel
theorem dX7_toldOfAll_60 : decode cX7_toldOfAll 60 = .ok (.getfield 172, 3) := by decide +kernel
theorem dX7_toldOfAll_63 : decode cX7_toldOfAll 63 = .ok (.ireturn, 1) := by decide +kernel
theorem dX7_toldOfAll_64 : decode cX7_toldOfAll 64 = .ok (.aload_n 0, 1) := by decide +kernel
theorem dX7_toldOfAll_65 : decode cX7_toldOfAll 65 = .ok (.getfield 10, 3) := by decide +kernel
theorem dX7_toldOfAll_68 : decode cX7_toldOfAll 68 = .ok (.invokevirtual 217, 3) := by decide +kernel
theorem dX7_toldOfAll_71 : decode cX7_toldOfAll 71 = .ok (.ireturn, 1) := by decide +kernel
theorem dX7_toldOfRobe_0 : decode cX7_toldOfRobe 0 = .ok (.iload_n 1, 1) := by decide +kernel
theorem dX7_toldOfRobe_1 : decode cX7_toldOfRobe 1 = .ok (.invokestatic 62, 3) := by decide +kernel
theorem dX7_toldOfRobe_4 : decode cX7_toldOfRobe 4 = .ok (.ifCond .eq 12, 3) := by decide +kernel
theorem dX7_toldOfRobe_7 : decode cX7_toldOfRobe 7 = .ok (.iload_n 2, 1) := by decide +kernel
theorem dX7_toldOfRobe_8 : decode cX7_toldOfRobe 8 = .ok (.iconst 0, 1) := by decide +kernel
theorem dX7_toldOfRobe_9 : decode cX7_toldOfRobe 9 = .ok (.iconst 1, 1) := by decide +kernel
theorem dX7_toldOfRobe_10 : decode cX7_toldOfRobe 10 = .ok (.invokestatic 67, 3) := by decide +kernel
theorem dX7_toldOfRobe_13 : decode cX7_toldOfRobe 13 = .ok (.ifCond .ne 6, 3) := by decide +kernel
theorem dX7_toldOfRobe_16 : decode cX7_toldOfRobe 16 = .ok (.bipush (-2), 2) := by decide +kernel
theorem dX7_toldOfRobe_18 : decode cX7_toldOfRobe 18 = .ok (.ireturn, 1) := by decide +kernel
theorem dX7_toldOfRobe_19 : decode cX7_toldOfRobe 19 = .ok (.iload_n 2, 1) := by decide +kernel
theorem dX7_toldOfRobe_20 : decode cX7_toldOfRobe 20 = .ok (.ifCond .ne 15, 3) := by decide +kernel
theorem dX7_toldOfRobe_23 : decode cX7_toldOfRobe 23 = .ok (.aload_n 0, 1) := by decide +kernel
theorem dX7_toldOfRobe_24 : decode cX7_toldOfRobe 24 = .ok (.getfield 10, 3) := by decide +kernel
theorem dX7_toldOfRobe_27 : decode cX7_toldOfRobe 27 = .ok (.getfield 71, 3) := by decide +kernel
theorem dX7_toldOfRobe_30 : decode cX7_toldOfRobe 30 = .ok (.iload_n 1, 1) := by decide +kernel
theorem dX7_toldOfRobe_31 : decode cX7_toldOfRobe 31 = .ok (.iaload, 1) := by decide +kernel
theorem dX7_toldOfRobe_32 : decode cX7_toldOfRobe 32 = .ok (.goto 12, 3) := by decide +kernel
theorem dX7_toldOfRobe_35 : decode cX7_toldOfRobe 35 = .ok (.aload_n 0, 1) := by decide +kernel
theorem dX7_toldOfRobe_36 : decode cX7_toldOfRobe 36 = .ok (.getfield 10, 3) := by decide +kernel
theorem dX7_toldOfRobe_39 : decode cX7_toldOfRobe 39 = .ok (.getfield 75, 3) := by decide +kernel
theorem dX7_toldOfRobe_42 : decode cX7_toldOfRobe 42 = .ok (.iload_n 1, 1) := by decide +kernel
theorem dX7_toldOfRobe_43 : decode cX7_toldOfRobe 43 = .ok (.iaload, 1) := by decide +kernel
theorem dX7_toldOfRobe_44 : decode cX7_toldOfRobe 44 = .ok (.ireturn, 1) := by decide +kernel
theorem dX7_toldOfSaying_0 : decode cX7_toldOfSaying 0 = .ok (.iload_n 1, 1) := by decide +kernel
theorem dX7_toldOfSaying_1 : decode cX7_toldOfSaying 1 = .ok (.invokestatic 82, 3) := by decide +kernel
theorem dX7_toldOfSaying_4 : decode cX7_toldOfSaying 4 = .ok (.ifCond .ne 6, 3) := by decide +kernel
theorem dX7_toldOfSaying_7 : decode cX7_toldOfSaying 7 = .ok (.bipush (-2), 2) := by decide +kernel
theorem dX7_toldOfSaying_9 : decode cX7_toldOfSaying 9 = .ok (.ireturn, 1) := by decide +kernel
theorem dX7_toldOfSaying_10 : decode cX7_toldOfSaying 10 = .ok (.iload_n 2, 1) := by decide +kernel
theorem dX7_toldOfSaying_11 : decode cX7_toldOfSaying 11 = .ok (.tableswitch 55 0 2 #[25, 35, 45], 25) := by decide +kernel
theorem dX7_toldOfSaying_36 : decode cX7_toldOfSaying 36 = .ok (.aload_n 0, 1) := by decide +kernel
theorem dX7_toldOfSaying_37 : decode cX7_toldOfSaying 37 = .ok (.getfield 10, 3) := by decide +kernel
theorem dX7_toldOfSaying_40 : decode cX7_toldOfSaying 40 = .ok (.getfield 88, 3) := by decide +kernel
theorem dX7_toldOfSaying_43 : decode cX7_toldOfSaying 43 = .ok (.iload_n 1, 1) := by decide +kernel
theorem dX7_toldOfSaying_44 : decode cX7_toldOfSaying 44 = .ok (.iaload, 1) := by decide +kernel
theorem dX7_toldOfSaying_45 : decode cX7_toldOfSaying 45 = .ok (.ireturn, 1) := by decide +kernel
theorem dX7_toldOfSaying_46 : decode cX7_toldOfSaying 46 = .ok (.aload_n 0, 1) := by decide +kernel
theorem dX7_toldOfSaying_47 : decode cX7_toldOfSaying 47 = .ok (.getfield 10, 3) := by decide +kernel
theorem dX7_toldOfSaying_50 : decode cX7_toldOfSaying 50 = .ok (.getfield 91, 3) := by decide +kernel
theorem dX7_toldOfSaying_53 : decode cX7_toldOfSaying 53 = .ok (.iload_n 1, 1) := by decide +kernel
theorem dX7_toldOfSaying_54 : decode cX7_toldOfSaying 54 = .ok (.iaload, 1) := by decide +kernel
theorem dX7_toldOfSaying_55 : decode cX7_toldOfSaying 55 = .ok (.ireturn, 1) := by decide +kernel
theorem dX7_toldOfSaying_56 : decode cX7_toldOfSaying 56 = .ok (.aload_n 0, 1) := by decide +kernel
theorem dX7_toldOfSaying_57 : decode cX7_toldOfSaying 57 = .ok (.getfield 10, 3) := by decide +kernel
theorem dX7_toldOfSaying_60 : decode cX7_toldOfSaying 60 = .ok (.getfield 85, 3) := by decide +kernel
theorem dX7_toldOfSaying_63 : decode cX7_toldOfSaying 63 = .ok (.iload_n 1, 1) := by decide +kernel
theorem dX7_toldOfSaying_64 : decode cX7_toldOfSaying 64 = .ok (.iaload, 1) := by decide +kernel
theorem dX7_toldOfSaying_65 : decode cX7_toldOfSaying 65 = .ok (.ireturn, 1) := by decide +kernel
theorem dX7_toldOfSaying_66 : decode cX7_toldOfSaying 66 = .ok (.bipush (-2), 2) := by decide +kernel
theorem dX7_toldOfSaying_68 : decode cX7_toldOfSaying 68 = .ok (.ireturn, 1) := by decide +kernel
theorem dX7_rehearse_0 : decode cX7_rehearse 0 = .ok (.aload_n 0, 1) := by decide +kernel
theorem dX7_rehearse_1 : decode cX7_rehearse 1 = .ok (.getfield 26, 3) := by decide +kernel
theorem dX7_rehearse_4 : decode cX7_rehearse 4 = .ok (.aload_n 0, 1) := by decide +kernel
theorem dX7_rehearse_5 : decode cX7_rehearse 5 = .ok (.getfield 10, 3) := by decide +kernel
theorem dX7_rehearse_8 : decode cX7_rehearse 8 = .ok (.invokevirtual 207, 3) := by decide +kernel
theorem dX7_rehearse_11 : decode cX7_rehearse 11 = .ok (.aload_n 0, 1) := by decide +kernel
theorem dX7_rehearse_12 : decode cX7_rehearse 12 = .ok (.getfield 26, 3) := by decide +kernel
theorem dX7_rehearse_15 : decode cX7_rehearse 15 = .ok (.aload_n 0, 1) := by decide +kernel
theorem dX7_rehearse_16 : decode cX7_rehearse 16 = .ok (.getfield 19, 3) := by decide +kernel
theorem dX7_rehearse_19 : decode cX7_rehearse 19 = .ok (.invokevirtual 230, 3) := by decide +kernel
theorem dX7_rehearse_22 : decode cX7_rehearse 22 = .ok (.return_, 1) := by decide +kernel
theorem dX7_canAllBe_0 : decode cX7_canAllBe 0 = .ok (.aload_n 0, 1) := by decide +kernel
theorem dX7_canAllBe_1 : decode cX7_canAllBe 1 = .ok (.getfield 19, 3) := by decide +kernel
theorem dX7_canAllBe_4 : decode cX7_canAllBe 4 = .ok (.invokevirtual 107, 3) := by decide +kernel
theorem dX7_canAllBe_7 : decode cX7_canAllBe 7 = .ok (.bipush (-6), 2) := by decide +kernel
theorem dX7_canAllBe_9 : decode cX7_canAllBe 9 = .ok (.if_icmp .eq 5, 3) := by decide +kernel
theorem dX7_canAllBe_12 : decode cX7_canAllBe 12 = .ok (.iconst 0, 1) := by decide +kernel
theorem dX7_canAllBe_13 : decode cX7_canAllBe 13 = .ok (.ireturn, 1) := by decide +kernel
theorem dX7_canAllBe_14 : decode cX7_canAllBe 14 = .ok (.aload_n 0, 1) := by decide +kernel
theorem dX7_canAllBe_15 : decode cX7_canAllBe 15 = .ok (.invokevirtual 111, 3) := by decide +kernel
theorem dX7_canAllBe_18 : decode cX7_canAllBe 18 = .ok (.aload_n 0, 1) := by decide +kernel
theorem dX7_canAllBe_19 : decode cX7_canAllBe 19 = .ok (.getfield 26, 3) := by decide +kernel
theorem dX7_canAllBe_22 : decode cX7_canAllBe 22 = .ok (.getfield 114, 3) := by decide +kernel
theorem dX7_canAllBe_25 : decode cX7_canAllBe 25 = .ok (.bipush (-6), 2) := by decide +kernel
theorem dX7_canAllBe_27 : decode cX7_canAllBe 27 = .ok (.if_icmp .ne 7, 3) := by decide +kernel
theorem dX7_canAllBe_30 : decode cX7_canAllBe 30 = .ok (.iconst 1, 1) := by decide +kernel
theorem dX7_canAllBe_31 : decode cX7_canAllBe 31 = .ok (.goto 4, 3) := by decide +kernel
theorem dX7_canAllBe_34 : decode cX7_canAllBe 34 = .ok (.iconst 0, 1) := by decide +kernel
theorem dX7_canAllBe_35 : decode cX7_canAllBe 35 = .ok (.ireturn, 1) := by decide +kernel
theorem dX7_isWithin_0 : decode cX7_isWithin 0 = .ok (.iload_n 1, 1) := by decide +kernel
theorem dX7_isWithin_1 : decode cX7_isWithin 1 = .ok (.iload_n 0, 1) := by decide +kernel
theorem dX7_isWithin_2 : decode cX7_isWithin 2 = .ok (.if_icmp .gt 12, 3) := by decide +kernel
theorem dX7_isWithin_5 : decode cX7_isWithin 5 = .ok (.iload_n 0, 1) := by decide +kernel
theorem dX7_isWithin_6 : decode cX7_isWithin 6 = .ok (.iload_n 2, 1) := by decide +kernel
theorem dX7_isWithin_7 : decode cX7_isWithin 7 = .ok (.if_icmp .gt 7, 3) := by decide +kernel
theorem dX7_isWithin_10 : decode cX7_isWithin 10 = .ok (.iconst 1, 1) := by decide +kernel
theorem dX7_isWithin_11 : decode cX7_isWithin 11 = .ok (.goto 4, 3) := by decide +kernel
theorem dX7_isWithin_14 : decode cX7_isWithin 14 = .ok (.iconst 0, 1) := by decide +kernel
theorem dX7_isWithin_15 : decode cX7_isWithin 15 = .ok (.ireturn, 1) := by decide +kernel
theorem dX7_isRobe_0 : decode cX7_isRobe 0 = .ok (.iconst 0, 1) := by decide +kernel
theorem dX7_isRobe_1 : decode cX7_isRobe 1 = .ok (.iload_n 0, 1) := by decide +kernel
theorem dX7_isRobe_2 : decode cX7_isRobe 2 = .ok (.if_icmp .gt 13, 3) := by decide +kernel
theorem dX7_isRobe_5 : decode cX7_isRobe 5 = .ok (.iload_n 0, 1) := by decide +kernel
theorem dX7_isRobe_6 : decode cX7_isRobe 6 = .ok (.bipush 6, 2) := by decide +kernel
theorem dX7_isRobe_8 : decode cX7_isRobe 8 = .ok (.if_icmp .ge 7, 3) := by decide +kernel
theorem dX7_isRobe_11 : decode cX7_isRobe 11 = .ok (.iconst 1, 1) := by decide +kernel
theorem dX7_isRobe_12 : decode cX7_isRobe 12 = .ok (.goto 4, 3) := by decide +kernel
theorem dX7_isRobe_15 : decode cX7_isRobe 15 = .ok (.iconst 0, 1) := by decide +kernel
theorem dX7_isRobe_16 : decode cX7_isRobe 16 = .ok (.ireturn, 1) := by decide +kernel
theorem dX7_isSaying_0 : decode cX7_isSaying 0 = .ok (.iconst 0, 1) := by decide +kernel
theorem dX7_isSaying_1 : decode cX7_isSaying 1 = .ok (.iload_n 0, 1) := by decide +kernel
theorem dX7_isSaying_2 : decode cX7_isSaying 2 = .ok (.if_icmp .gt 13, 3) := by decide +kernel
theorem dX7_isSaying_5 : decode cX7_isSaying 5 = .ok (.iload_n 0, 1) := by decide +kernel
theorem dX7_isSaying_6 : decode cX7_isSaying 6 = .ok (.bipush 10, 2) := by decide +kernel
theorem dX7_isSaying_8 : decode cX7_isSaying 8 = .ok (.if_icmp .ge 7, 3) := by decide +kernel
theorem dX7_isSaying_11 : decode cX7_isSaying 11 = .ok (.iconst 1, 1) := by decide +kernel
theorem dX7_isSaying_12 : decode cX7_isSaying 12 = .ok (.goto 4, 3) := by decide +kernel
theorem dX7_isSaying_15 : decode cX7_isSaying 15 = .ok (.iconst 0, 1) := by decide +kernel
theorem dX7_isSaying_16 : decode cX7_isSaying 16 = .ok (.ireturn, 1) := by decide +kernel
theorem dX7_isOccasion_0 : decode cX7_isOccasion 0 = .ok (.iconst 0, 1) := by decide +kernel
theorem dX7_isOccasion_1 : decode cX7_isOccasion 1 = .ok (.iload_n 0, 1) := by decide +kernel
theorem dX7_isOccasion_2 : decode cX7_isOccasion 2 = .ok (.if_icmp .gt 12, 3) := by decide +kernel
theorem dX7_isOccasion_5 : decode cX7_isOccasion 5 = .ok (.iload_n 0, 1) := by decide +kernel
theorem dX7_isOccasion_6 : decode cX7_isOccasion 6 = .ok (.iconst 5, 1) := by decide +kernel
theorem dX7_isOccasion_7 : decode cX7_isOccasion 7 = .ok (.if_icmp .ge 7, 3) := by decide +kernel
theorem dX7_isOccasion_10 : decode cX7_isOccasion 10 = .ok (.iconst 1, 1) := by decide +kernel
theorem dX7_isOccasion_11 : decode cX7_isOccasion 11 = .ok (.goto 4, 3) := by decide +kernel
theorem dX7_isOccasion_14 : decode cX7_isOccasion 14 = .ok (.iconst 0, 1) := by decide +kernel
theorem dX7_isOccasion_15 : decode cX7_isOccasion 15 = .ok (.ireturn, 1) := by decide +kernel
theorem dX7_leastIn_0 : decode cX7_leastIn 0 = .ok (.iconst 0, 1) := by decide +kernel
theorem dX7_leastIn_1 : decode cX7_leastIn 1 = .ok (.istore_n 1, 1) := by decide +kernel
theorem dX7_leastIn_2 : decode cX7_leastIn 2 = .ok (.iload_n 1, 1) := by decide +kernel
theorem dX7_leastIn_3 : decode cX7_leastIn 3 = .ok (.bipush 32, 2) := by decide +kernel
theorem dX7_leastIn_5 : decode cX7_leastIn 5 = .ok (.if_icmp .ge 19, 3) := by decide +kernel
theorem dX7_leastIn_8 : decode cX7_leastIn 8 = .ok (.iload_n 0, 1) := by decide +kernel
theorem dX7_leastIn_9 : decode cX7_leastIn 9 = .ok (.iload_n 1, 1) := by decide +kernel
theorem dX7_leastIn_10 : decode cX7_leastIn 10 = .ok (.ishr, 1) := by decide +kernel
theorem dX7_leastIn_11 : decode cX7_leastIn 11 = .ok (.iconst 1, 1) := by decide +kernel
theorem dX7_leastIn_12 : decode cX7_leastIn 12 = .ok (.iand, 1) := by decide +kernel
theorem dX7_leastIn_13 : decode cX7_leastIn 13 = .ok (.ifCond .eq 5, 3) := by decide +kernel
theorem dX7_leastIn_16 : decode cX7_leastIn 16 = .ok (.iload_n 1, 1) := by decide +kernel
theorem dX7_leastIn_17 : decode cX7_leastIn 17 = .ok (.ireturn, 1) := by decide +kernel
theorem dX7_leastIn_18 : decode cX7_leastIn 18 = .ok (.iinc 1 1, 3) := by decide +kernel
theorem dX7_leastIn_21 : decode cX7_leastIn 21 = .ok (.goto (-19), 3) := by decide +kernel
theorem dX7_leastIn_24 : decode cX7_leastIn 24 = .ok (.bipush (-6), 2) := by decide +kernel
theorem dX7_leastIn_26 : decode cX7_leastIn 26 = .ok (.ireturn, 1) := by decide +kernel
