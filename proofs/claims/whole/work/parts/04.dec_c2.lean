theorem dX8_wear_35 : decode cX8_wear 35 = .ok (.istore 7, 2) := by decide +kernel
theorem dX8_wear_37 : decode cX8_wear 37 = .ok (.iconst 4, 1) := by decide +kernel
theorem dX8_wear_38 : decode cX8_wear 38 = .ok (.istore 8, 2) := by decide +kernel
theorem dX8_wear_40 : decode cX8_wear 40 = .ok (.iload 8, 2) := by decide +kernel
theorem dX8_wear_42 : decode cX8_wear 42 = .ok (.ifCond .lt 55, 3) := by decide +kernel
theorem dX8_wear_45 : decode cX8_wear 45 = .ok (.iload 5, 2) := by decide +kernel
theorem dX8_wear_47 : decode cX8_wear 47 = .ok (.bipush 6, 2) := by decide +kernel
theorem dX8_wear_49 : decode cX8_wear 49 = .ok (.irem, 1) := by decide +kernel
theorem dX8_wear_50 : decode cX8_wear 50 = .ok (.istore 9, 2) := by decide +kernel
theorem dX8_wear_52 : decode cX8_wear 52 = .ok (.iload 5, 2) := by decide +kernel
theorem dX8_wear_54 : decode cX8_wear 54 = .ok (.bipush 6, 2) := by decide +kernel
theorem dX8_wear_56 : decode cX8_wear 56 = .ok (.idiv, 1) := by decide +kernel
theorem dX8_wear_57 : decode cX8_wear 57 = .ok (.istore 5, 2) := by decide +kernel
theorem dX8_wear_59 : decode cX8_wear 59 = .ok (.iload 6, 2) := by decide +kernel
theorem dX8_wear_61 : decode cX8_wear 61 = .ok (.iconst 1, 1) := by decide +kernel
theorem dX8_wear_62 : decode cX8_wear 62 = .ok (.iload 9, 2) := by decide +kernel
theorem dX8_wear_64 : decode cX8_wear 64 = .ok (.ishl, 1) := by decide +kernel
theorem dX8_wear_65 : decode cX8_wear 65 = .ok (.ior, 1) := by decide +kernel
theorem dX8_wear_66 : decode cX8_wear 66 = .ok (.istore 6, 2) := by decide +kernel
theorem dX8_wear_68 : decode cX8_wear 68 = .ok (.iload 7, 2) := by decide +kernel
theorem dX8_wear_70 : decode cX8_wear 70 = .ok (.aload_n 0, 1) := by decide +kernel
theorem dX8_wear_71 : decode cX8_wear 71 = .ok (.getfield 7, 3) := by decide +kernel
theorem dX8_wear_74 : decode cX8_wear 74 = .ok (.iload 9, 2) := by decide +kernel
theorem dX8_wear_76 : decode cX8_wear 76 = .ok (.iaload, 1) := by decide +kernel
theorem dX8_wear_77 : decode cX8_wear 77 = .ok (.aload_n 0, 1) := by decide +kernel
theorem dX8_wear_78 : decode cX8_wear 78 = .ok (.getfield 22, 3) := by decide +kernel
theorem dX8_wear_81 : decode cX8_wear 81 = .ok (.iload 8, 2) := by decide +kernel
theorem dX8_wear_83 : decode cX8_wear 83 = .ok (.iaload, 1) := by decide +kernel
theorem dX8_wear_84 : decode cX8_wear 84 = .ok (.iand, 1) := by decide +kernel
theorem dX8_wear_85 : decode cX8_wear 85 = .ok (.invokestatic 134, 3) := by decide +kernel
theorem dX8_wear_88 : decode cX8_wear 88 = .ok (.iadd, 1) := by decide +kernel
theorem dX8_wear_89 : decode cX8_wear 89 = .ok (.istore 7, 2) := by decide +kernel
theorem dX8_wear_91 : decode cX8_wear 91 = .ok (.iinc 8 (-1), 3) := by decide +kernel
theorem dX8_wear_94 : decode cX8_wear 94 = .ok (.goto (-54), 3) := by decide +kernel
theorem dX8_wear_97 : decode cX8_wear 97 = .ok (.iload 6, 2) := by decide +kernel
theorem dX8_wear_99 : decode cX8_wear 99 = .ok (.invokestatic 134, 3) := by decide +kernel
theorem dX8_wear_102 : decode cX8_wear 102 = .ok (.iconst 5, 1) := by decide +kernel
theorem dX8_wear_103 : decode cX8_wear 103 = .ok (.if_icmp .ne 13, 3) := by decide +kernel
theorem dX8_wear_106 : decode cX8_wear 106 = .ok (.iload 7, 2) := by decide +kernel
theorem dX8_wear_108 : decode cX8_wear 108 = .ok (.iload_n 2, 1) := by decide +kernel
theorem dX8_wear_109 : decode cX8_wear 109 = .ok (.if_icmp .ge 7, 3) := by decide +kernel
theorem dX8_wear_112 : decode cX8_wear 112 = .ok (.iconst 1, 1) := by decide +kernel
theorem dX8_wear_113 : decode cX8_wear 113 = .ok (.goto 4, 3) := by decide +kernel
theorem dX8_wear_116 : decode cX8_wear 116 = .ok (.iconst 0, 1) := by decide +kernel
theorem dX8_wear_117 : decode cX8_wear 117 = .ok (.istore 8, 2) := by decide +kernel
theorem dX8_wear_119 : decode cX8_wear 119 = .ok (.iload 8, 2) := by decide +kernel
theorem dX8_wear_121 : decode cX8_wear 121 = .ok (.ifCond .eq 8, 3) := by decide +kernel
theorem dX8_wear_124 : decode cX8_wear 124 = .ok (.iload 4, 2) := by decide +kernel
theorem dX8_wear_126 : decode cX8_wear 126 = .ok (.goto 4, 3) := by decide +kernel
theorem dX8_wear_129 : decode cX8_wear 129 = .ok (.iload_n 3, 1) := by decide +kernel
theorem dX8_wear_130 : decode cX8_wear 130 = .ok (.istore_n 3, 1) := by decide +kernel
theorem dX8_wear_131 : decode cX8_wear 131 = .ok (.iload 8, 2) := by decide +kernel
theorem dX8_wear_133 : decode cX8_wear 133 = .ok (.ifCond .eq 8, 3) := by decide +kernel
theorem dX8_wear_136 : decode cX8_wear 136 = .ok (.iload 7, 2) := by decide +kernel
theorem dX8_wear_138 : decode cX8_wear 138 = .ok (.goto 4, 3) := by decide +kernel
theorem dX8_wear_141 : decode cX8_wear 141 = .ok (.iload_n 2, 1) := by decide +kernel
theorem dX8_wear_142 : decode cX8_wear 142 = .ok (.istore_n 2, 1) := by decide +kernel
theorem dX8_wear_143 : decode cX8_wear 143 = .ok (.iinc 4 1, 3) := by decide +kernel
theorem dX8_wear_146 : decode cX8_wear 146 = .ok (.goto (-127), 3) := by decide +kernel
theorem dX8_wear_149 : decode cX8_wear 149 = .ok (.iload_n 3, 1) := by decide +kernel
theorem dX8_wear_150 : decode cX8_wear 150 = .ok (.istore 4, 2) := by decide +kernel
theorem dX8_wear_152 : decode cX8_wear 152 = .ok (.iconst 4, 1) := by decide +kernel
theorem dX8_wear_153 : decode cX8_wear 153 = .ok (.istore 5, 2) := by decide +kernel
theorem dX8_wear_155 : decode cX8_wear 155 = .ok (.iload 5, 2) := by decide +kernel
theorem dX8_wear_157 : decode cX8_wear 157 = .ok (.iload_n 1, 1) := by decide +kernel
theorem dX8_wear_158 : decode cX8_wear 158 = .ok (.if_icmp .le 16, 3) := by decide +kernel
theorem dX8_wear_161 : decode cX8_wear 161 = .ok (.iload 4, 2) := by decide +kernel
theorem dX8_wear_163 : decode cX8_wear 163 = .ok (.bipush 6, 2) := by decide +kernel
theorem dX8_wear_165 : decode cX8_wear 165 = .ok (.idiv, 1) := by decide +kernel
theorem dX8_wear_166 : decode cX8_wear 166 = .ok (.istore 4, 2) := by decide +kernel
theorem dX8_wear_168 : decode cX8_wear 168 = .ok (.iinc 5 (-1), 3) := by decide +kernel
theorem dX8_wear_171 : decode cX8_wear 171 = .ok (.goto (-16), 3) := by decide +kernel
theorem dX8_wear_174 : decode cX8_wear 174 = .ok (.iload_n 1, 1) := by decide +kernel
theorem dX8_wear_175 : decode cX8_wear 175 = .ok (.ifCond .ge 7, 3) := by decide +kernel
theorem dX8_wear_178 : decode cX8_wear 178 = .ok (.iload_n 2, 1) := by decide +kernel
theorem dX8_wear_179 : decode cX8_wear 179 = .ok (.goto 8, 3) := by decide +kernel
theorem dX8_wear_182 : decode cX8_wear 182 = .ok (.iload 4, 2) := by decide +kernel
theorem dX8_wear_184 : decode cX8_wear 184 = .ok (.bipush 6, 2) := by decide +kernel
theorem dX8_wear_186 : decode cX8_wear 186 = .ok (.irem, 1) := by decide +kernel
theorem dX8_wear_187 : decode cX8_wear 187 = .ok (.ireturn, 1) := by decide +kernel
theorem dX8_seen_0 : decode cX8_seen 0 = .ok (.iload_n 1, 1) := by decide +kernel
theorem dX8_seen_1 : decode cX8_seen 1 = .ok (.iconst 1, 1) := by decide +kernel
theorem dX8_seen_2 : decode cX8_seen 2 = .ok (.sipush 1023, 3) := by decide +kernel
theorem dX8_seen_5 : decode cX8_seen 5 = .ok (.invokestatic 58, 3) := by decide +kernel
theorem dX8_seen_8 : decode cX8_seen 8 = .ok (.ifCond .ne 6, 3) := by decide +kernel
theorem dX8_seen_11 : decode cX8_seen 11 = .ok (.bipush (-2), 2) := by decide +kernel
theorem dX8_seen_13 : decode cX8_seen 13 = .ok (.ireturn, 1) := by decide +kernel
theorem dX8_seen_14 : decode cX8_seen 14 = .ok (.aload_n 0, 1) := by decide +kernel
theorem dX8_seen_15 : decode cX8_seen 15 = .ok (.getfield 54, 3) := by decide +kernel
theorem dX8_seen_18 : decode cX8_seen 18 = .ok (.bipush 8, 2) := by decide +kernel
theorem dX8_seen_20 : decode cX8_seen 20 = .ok (.if_icmp .ne 6, 3) := by decide +kernel
theorem dX8_seen_23 : decode cX8_seen 23 = .ok (.bipush (-4), 2) := by decide +kernel
theorem dX8_seen_25 : decode cX8_seen 25 = .ok (.ireturn, 1) := by decide +kernel
theorem dX8_seen_26 : decode cX8_seen 26 = .ok (.aload_n 0, 1) := by decide +kernel
theorem dX8_seen_27 : decode cX8_seen 27 = .ok (.getfield 25, 3) := by decide +kernel
theorem dX8_seen_30 : decode cX8_seen 30 = .ok (.iconst 2, 1) := by decide +kernel
theorem dX8_seen_31 : decode cX8_seen 31 = .ok (.aload_n 0, 1) := by decide +kernel
theorem dX8_seen_32 : decode cX8_seen 32 = .ok (.getfield 54, 3) := by decide +kernel
theorem dX8_seen_35 : decode cX8_seen 35 = .ok (.imul, 1) := by decide +kernel
theorem dX8_seen_36 : decode cX8_seen 36 = .ok (.iload_n 1, 1) := by decide +kernel
theorem dX8_seen_37 : decode cX8_seen 37 = .ok (.iastore, 1) := by decide +kernel
theorem dX8_seen_38 : decode cX8_seen 38 = .ok (.aload_n 0, 1) := by decide +kernel
theorem dX8_seen_39 : decode cX8_seen 39 = .ok (.getfield 25, 3) := by decide +kernel
theorem dX8_seen_42 : decode cX8_seen 42 = .ok (.iconst 2, 1) := by decide +kernel
theorem dX8_seen_43 : decode cX8_seen 43 = .ok (.aload_n 0, 1) := by decide +kernel
theorem dX8_seen_44 : decode cX8_seen 44 = .ok (.getfield 54, 3) := by decide +kernel
theorem dX8_seen_47 : decode cX8_seen 47 = .ok (.imul, 1) := by decide +kernel
theorem dX8_seen_48 : decode cX8_seen 48 = .ok (.iconst 1, 1) := by decide +kernel
theorem dX8_seen_49 : decode cX8_seen 49 = .ok (.iadd, 1) := by decide +kernel
theorem dX8_seen_50 : decode cX8_seen 50 = .ok (.iload_n 2, 1) := by decide +kernel
theorem dX8_seen_51 : decode cX8_seen 51 = .ok (.ifCond .eq 7, 3) := by decide +kernel
theorem dX8_seen_54 : decode cX8_seen 54 = .ok (.iconst 1, 1) := by decide +kernel
theorem dX8_seen_55 : decode cX8_seen 55 = .ok (.goto 4, 3) := by decide +kernel
theorem dX8_seen_58 : decode cX8_seen 58 = .ok (.iconst 0, 1) := by decide +kernel
theorem dX8_seen_59 : decode cX8_seen 59 = .ok (.iastore, 1) := by decide +kernel
theorem dX8_seen_60 : decode cX8_seen 60 = .ok (.aload_n 0, 1) := by decide +kernel
theorem dX8_seen_61 : decode cX8_seen 61 = .ok (.dup, 1) := by decide +kernel
theorem dX8_seen_62 : decode cX8_seen 62 = .ok (.getfield 54, 3) := by decide +kernel
theorem dX8_seen_65 : decode cX8_seen 65 = .ok (.iconst 1, 1) := by decide +kernel
theorem dX8_seen_66 : decode cX8_seen 66 = .ok (.iadd, 1) := by decide +kernel
theorem dX8_seen_67 : decode cX8_seen 67 = .ok (.putfield 54, 3) := by decide +kernel
theorem dX8_seen_70 : decode cX8_seen 70 = .ok (.aload_n 0, 1) := by decide +kernel
theorem dX8_seen_71 : decode cX8_seen 71 = .ok (.getfield 54, 3) := by decide +kernel
theorem dX8_seen_74 : decode cX8_seen 74 = .ok (.ireturn, 1) := by decide +kernel
theorem dX8_forget_0 : decode cX8_forget 0 = .ok (.aload_n 0, 1) := by decide +kernel
theorem dX8_forget_1 : decode cX8_forget 1 = .ok (.getfield 54, 3) := by decide +kernel
theorem dX8_forget_4 : decode cX8_forget 4 = .ok (.istore_n 1, 1) := by decide +kernel
theorem dX8_forget_5 : decode cX8_forget 5 = .ok (.aload_n 0, 1) := by decide +kernel
theorem dX8_forget_6 : decode cX8_forget 6 = .ok (.iconst 0, 1) := by decide +kernel
theorem dX8_forget_7 : decode cX8_forget 7 = .ok (.putfield 54, 3) := by decide +kernel
theorem dX8_forget_10 : decode cX8_forget 10 = .ok (.iload_n 1, 1) := by decide +kernel
theorem dX8_forget_11 : decode cX8_forget 11 = .ok (.ireturn, 1) := by decide +kernel
theorem dX8_areLies_0 : decode cX8_areLies 0 = .ok (.iload_n 1, 1) := by decide +kernel
theorem dX8_areLies_1 : decode cX8_areLies 1 = .ok (.invokestatic 134, 3) := by decide +kernel
theorem dX8_areLies_4 : decode cX8_areLies 4 = .ok (.iload_n 2, 1) := by decide +kernel
theorem dX8_areLies_5 : decode cX8_areLies 5 = .ok (.if_icmp .gt 7, 3) := by decide +kernel
theorem dX8_areLies_8 : decode cX8_areLies 8 = .ok (.iconst 1, 1) := by decide +kernel
theorem dX8_areLies_9 : decode cX8_areLies 9 = .ok (.goto 4, 3) := by decide +kernel
theorem dX8_areLies_12 : decode cX8_areLies 12 = .ok (.iconst 0, 1) := by decide +kernel
theorem dX8_areLies_13 : decode cX8_areLies 13 = .ok (.istore_n 3, 1) := by decide +kernel
theorem dX8_areLies_14 : decode cX8_areLies 14 = .ok (.iconst 0, 1) := by decide +kernel
theorem dX8_areLies_15 : decode cX8_areLies 15 = .ok (.istore 4, 2) := by decide +kernel
theorem dX8_areLies_17 : decode cX8_areLies 17 = .ok (.iload 4, 2) := by decide +kernel
theorem dX8_areLies_19 : decode cX8_areLies 19 = .ok (.aload_n 0, 1) := by decide +kernel
theorem dX8_areLies_20 : decode cX8_areLies 20 = .ok (.getfield 54, 3) := by decide +kernel
theorem dX8_areLies_23 : decode cX8_areLies 23 = .ok (.if_icmp .ge 61, 3) := by decide +kernel
theorem dX8_areLies_26 : decode cX8_areLies 26 = .ok (.iload_n 3, 1) := by decide +kernel
theorem dX8_areLies_27 : decode cX8_areLies 27 = .ok (.ifCond .eq 57, 3) := by decide +kernel
theorem dX8_areLies_30 : decode cX8_areLies 30 = .ok (.iload_n 1, 1) := by decide +kernel
theorem dX8_areLies_31 : decode cX8_areLies 31 = .ok (.aload_n 0, 1) := by decide +kernel
theorem dX8_areLies_32 : decode cX8_areLies 32 = .ok (.getfield 25, 3) := by decide +kernel
theorem dX8_areLies_35 : decode cX8_areLies 35 = .ok (.iconst 2, 1) := by decide +kernel
theorem dX8_areLies_36 : decode cX8_areLies 36 = .ok (.iload 4, 2) := by decide +kernel
theorem dX8_areLies_38 : decode cX8_areLies 38 = .ok (.imul, 1) := by decide +kernel
theorem dX8_areLies_39 : decode cX8_areLies 39 = .ok (.iaload, 1) := by decide +kernel
theorem dX8_areLies_40 : decode cX8_areLies 40 = .ok (.iand, 1) := by decide +kernel
theorem dX8_areLies_41 : decode cX8_areLies 41 = .ok (.ifCond .eq 7, 3) := by decide +kernel
theorem dX8_areLies_44 : decode cX8_areLies 44 = .ok (.iconst 1, 1) := by decide +kernel
theorem dX8_areLies_45 : decode cX8_areLies 45 = .ok (.goto 4, 3) := by decide +kernel
theorem dX8_areLies_48 : decode cX8_areLies 48 = .ok (.iconst 0, 1) := by decide +kernel
theorem dX8_areLies_49 : decode cX8_areLies 49 = .ok (.aload_n 0, 1) := by decide +kernel
theorem dX8_areLies_50 : decode cX8_areLies 50 = .ok (.getfield 25, 3) := by decide +kernel
theorem dX8_areLies_53 : decode cX8_areLies 53 = .ok (.iconst 2, 1) := by decide +kernel
theorem dX8_areLies_54 : decode cX8_areLies 54 = .ok (.iload 4, 2) := by decide +kernel
theorem dX8_areLies_56 : decode cX8_areLies 56 = .ok (.imul, 1) := by decide +kernel
theorem dX8_areLies_57 : decode cX8_areLies 57 = .ok (.iconst 1, 1) := by decide +kernel
theorem dX8_areLies_58 : decode cX8_areLies 58 = .ok (.iadd, 1) := by decide +kernel
theorem dX8_areLies_59 : decode cX8_areLies 59 = .ok (.iaload, 1) := by decide +kernel
theorem dX8_areLies_60 : decode cX8_areLies 60 = .ok (.iconst 1, 1) := by decide +kernel
theorem dX8_areLies_61 : decode cX8_areLies 61 = .ok (.if_icmp .ne 7, 3) := by decide +kernel
theorem dX8_areLies_64 : decode cX8_areLies 64 = .ok (.iconst 1, 1) := by decide +kernel
theorem dX8_areLies_65 : decode cX8_areLies 65 = .ok (.goto 4, 3) := by decide +kernel
theorem dX8_areLies_68 : decode cX8_areLies 68 = .ok (.iconst 0, 1) := by decide +kernel
theorem dX8_areLies_69 : decode cX8_areLies 69 = .ok (.if_icmp .ne 7, 3) := by decide +kernel
theorem dX8_areLies_72 : decode cX8_areLies 72 = .ok (.iconst 1, 1) := by decide +kernel
theorem dX8_areLies_73 : decode cX8_areLies 73 = .ok (.goto 4, 3) := by decide +kernel
theorem dX8_areLies_76 : decode cX8_areLies 76 = .ok (.iconst 0, 1) := by decide +kernel
theorem dX8_areLies_77 : decode cX8_areLies 77 = .ok (.istore_n 3, 1) := by decide +kernel
theorem dX8_areLies_78 : decode cX8_areLies 78 = .ok (.iinc 4 1, 3) := by decide +kernel
theorem dX8_areLies_81 : decode cX8_areLies 81 = .ok (.goto (-64), 3) := by decide +kernel
theorem dX8_areLies_84 : decode cX8_areLies 84 = .ok (.iload_n 3, 1) := by decide +kernel
theorem dX8_areLies_85 : decode cX8_areLies 85 = .ok (.ireturn, 1) := by decide +kernel
theorem dX8_liars_0 : decode cX8_liars 0 = .ok (.iload_n 1, 1) := by decide +kernel
theorem dX8_liars_1 : decode cX8_liars 1 = .ok (.iconst 0, 1) := by decide +kernel
theorem dX8_liars_2 : decode cX8_liars 2 = .ok (.iconst 3, 1) := by decide +kernel
theorem dX8_liars_3 : decode cX8_liars 3 = .ok (.invokestatic 58, 3) := by decide +kernel
theorem dX8_liars_6 : decode cX8_liars 6 = .ok (.ifCond .eq 12, 3) := by decide +kernel
theorem dX8_liars_9 : decode cX8_liars 9 = .ok (.iload_n 2, 1) := by decide +kernel
theorem dX8_liars_10 : decode cX8_liars 10 = .ok (.iconst 0, 1) := by decide +kernel
theorem dX8_liars_11 : decode cX8_liars 11 = .ok (.iconst 2, 1) := by decide +kernel
theorem dX8_liars_12 : decode cX8_liars 12 = .ok (.invokestatic 58, 3) := by decide +kernel
theorem dX8_liars_15 : decode cX8_liars 15 = .ok (.ifCond .ne 6, 3) := by decide +kernel
theorem dX8_liars_18 : decode cX8_liars 18 = .ok (.bipush (-2), 2) := by decide +kernel
theorem dX8_liars_20 : decode cX8_liars 20 = .ok (.ireturn, 1) := by decide +kernel
theorem dX8_liars_21 : decode cX8_liars 21 = .ok (.iconst 0, 1) := by decide +kernel
theorem dX8_liars_22 : decode cX8_liars 22 = .ok (.istore_n 3, 1) := by decide +kernel
theorem dX8_liars_23 : decode cX8_liars 23 = .ok (.iconst 0, 1) := by decide +kernel
theorem dX8_liars_24 : decode cX8_liars 24 = .ok (.istore 4, 2) := by decide +kernel
theorem dX8_liars_26 : decode cX8_liars 26 = .ok (.sipush 1023, 3) := by decide +kernel
theorem dX8_liars_29 : decode cX8_liars 29 = .ok (.istore 5, 2) := by decide +kernel
theorem dX8_liars_31 : decode cX8_liars 31 = .ok (.iconst 0, 1) := by decide +kernel
theorem dX8_liars_32 : decode cX8_liars 32 = .ok (.istore 6, 2) := by decide +kernel
theorem dX8_liars_34 : decode cX8_liars 34 = .ok (.iload 6, 2) := by decide +kernel
theorem dX8_liars_36 : decode cX8_liars 36 = .ok (.sipush 1024, 3) := by decide +kernel
theorem dX8_liars_39 : decode cX8_liars 39 = .ok (.if_icmp .ge 36, 3) := by decide +kernel
theorem dX8_liars_42 : decode cX8_liars 42 = .ok (.aload_n 0, 1) := by decide +kernel
theorem dX8_liars_43 : decode cX8_liars 43 = .ok (.iload 6, 2) := by decide +kernel
theorem dX8_liars_45 : decode cX8_liars 45 = .ok (.iload_n 1, 1) := by decide +kernel
theorem dX8_liars_46 : decode cX8_liars 46 = .ok (.invokevirtual 141, 3) := by decide +kernel
theorem dX8_liars_49 : decode cX8_liars 49 = .ok (.ifCond .eq 20, 3) := by decide +kernel
theorem dX8_liars_52 : decode cX8_liars 52 = .ok (.iinc 3 1, 3) := by decide +kernel
theorem dX8_liars_55 : decode cX8_liars 55 = .ok (.iload 4, 2) := by decide +kernel
theorem dX8_liars_57 : decode cX8_liars 57 = .ok (.iload 6, 2) := by decide +kernel
theorem dX8_liars_59 : decode cX8_liars 59 = .ok (.ior, 1) := by decide +kernel
theorem dX8_liars_60 : decode cX8_liars 60 = .ok (.istore 4, 2) := by decide +kernel
theorem dX8_liars_62 : decode cX8_liars 62 = .ok (.iload 5, 2) := by decide +kernel
theorem dX8_liars_64 : decode cX8_liars 64 = .ok (.iload 6, 2) := by decide +kernel
theorem dX8_liars_66 : decode cX8_liars 66 = .ok (.iand, 1) := by decide +kernel
theorem dX8_liars_67 : decode cX8_liars 67 = .ok (.istore 5, 2) := by decide +kernel
theorem dX8_liars_69 : decode cX8_liars 69 = .ok (.iinc 6 1, 3) := by decide +kernel
theorem dX8_liars_72 : decode cX8_liars 72 = .ok (.goto (-38), 3) := by decide +kernel
theorem dX8_liars_75 : decode cX8_liars 75 = .ok (.iload_n 2, 1) := by decide +kernel
theorem dX8_liars_76 : decode cX8_liars 76 = .ok (.ifCond .ne 7, 3) := by decide +kernel
theorem dX8_liars_79 : decode cX8_liars 79 = .ok (.iload_n 3, 1) := by decide +kernel
theorem dX8_liars_80 : decode cX8_liars 80 = .ok (.goto 23, 3) := by decide +kernel
theorem dX8_liars_83 : decode cX8_liars 83 = .ok (.iload_n 2, 1) := by decide +kernel
theorem dX8_liars_84 : decode cX8_liars 84 = .ok (.iconst 1, 1) := by decide +kernel
theorem dX8_liars_85 : decode cX8_liars 85 = .ok (.if_icmp .ne 8, 3) := by decide +kernel
theorem dX8_liars_88 : decode cX8_liars 88 = .ok (.iload 4, 2) := by decide +kernel
theorem dX8_liars_90 : decode cX8_liars 90 = .ok (.goto 13, 3) := by decide +kernel
theorem dX8_liars_93 : decode cX8_liars 93 = .ok (.iload_n 3, 1) := by decide +kernel
theorem dX8_liars_94 : decode cX8_liars 94 = .ok (.ifCond .ne 7, 3) := by decide +kernel
theorem dX8_liars_97 : decode cX8_liars 97 = .ok (.iconst 0, 1) := by decide +kernel
theorem dX8_liars_98 : decode cX8_liars 98 = .ok (.goto 5, 3) := by decide +kernel
theorem dX8_liars_101 : decode cX8_liars 101 = .ok (.iload 5, 2) := by decide +kernel
theorem dX8_liars_103 : decode cX8_liars 103 = .ok (.ireturn, 1) := by decide +kernel
theorem dX8_tries_0 : decode cX8_tries 0 = .ok (.iload_n 1, 1) := by decide +kernel
theorem dX8_tries_1 : decode cX8_tries 1 = .ok (.iconst 0, 1) := by decide +kernel
theorem dX8_tries_2 : decode cX8_tries 2 = .ok (.iconst 3, 1) := by decide +kernel
theorem dX8_tries_3 : decode cX8_tries 3 = .ok (.invokestatic 58, 3) := by decide +kernel
theorem dX8_tries_6 : decode cX8_tries 6 = .ok (.ifCond .eq 12, 3) := by decide +kernel
theorem dX8_tries_9 : decode cX8_tries 9 = .ok (.iload_n 2, 1) := by decide +kernel
theorem dX8_tries_10 : decode cX8_tries 10 = .ok (.iconst 0, 1) := by decide +kernel
theorem dX8_tries_11 : decode cX8_tries 11 = .ok (.iconst 1, 1) := by decide +kernel
theorem dX8_tries_12 : decode cX8_tries 12 = .ok (.invokestatic 58, 3) := by decide +kernel
theorem dX8_tries_15 : decode cX8_tries 15 = .ok (.ifCond .ne 6, 3) := by decide +kernel
theorem dX8_tries_18 : decode cX8_tries 18 = .ok (.bipush (-2), 2) := by decide +kernel
theorem dX8_tries_20 : decode cX8_tries 20 = .ok (.ireturn, 1) := by decide +kernel
theorem dX8_tries_21 : decode cX8_tries 21 = .ok (.iconst 0, 1) := by decide +kernel
theorem dX8_tries_22 : decode cX8_tries 22 = .ok (.istore_n 3, 1) := by decide +kernel
theorem dX8_tries_23 : decode cX8_tries 23 = .ok (.iconst 0, 1) := by decide +kernel
theorem dX8_tries_24 : decode cX8_tries 24 = .ok (.istore 4, 2) := by decide +kernel
theorem dX8_tries_26 : decode cX8_tries 26 = .ok (.iload 4, 2) := by decide +kernel
theorem dX8_tries_28 : decode cX8_tries 28 = .ok (.bipush 10, 2) := by decide +kernel
theorem dX8_tries_30 : decode cX8_tries 30 = .ok (.if_icmp .ge 17, 3) := by decide +kernel
theorem dX8_tries_33 : decode cX8_tries 33 = .ok (.aload_n 0, 1) := by decide +kernel
theorem dX8_tries_34 : decode cX8_tries 34 = .ok (.getfield 34, 3) := by decide +kernel
theorem dX8_tries_37 : decode cX8_tries 37 = .ok (.iload 4, 2) := by decide +kernel
theorem dX8_tries_39 : decode cX8_tries 39 = .ok (.iconst 0, 1) := by decide +kernel
theorem dX8_tries_40 : decode cX8_tries 40 = .ok (.iastore, 1) := by decide +kernel
theorem dX8_tries_41 : decode cX8_tries 41 = .ok (.iinc 4 1, 3) := by decide +kernel
theorem dX8_tries_44 : decode cX8_tries 44 = .ok (.goto (-18), 3) := by decide +kernel
theorem dX8_tries_47 : decode cX8_tries 47 = .ok (.iconst 0, 1) := by decide +kernel
theorem dX8_tries_48 : decode cX8_tries 48 = .ok (.istore 4, 2) := by decide +kernel
theorem dX8_tries_50 : decode cX8_tries 50 = .ok (.iload 4, 2) := by decide +kernel
theorem dX8_tries_52 : decode cX8_tries 52 = .ok (.sipush 1024, 3) := by decide +kernel
theorem dX8_tries_55 : decode cX8_tries 55 = .ok (.if_icmp .ge 55, 3) := by decide +kernel
theorem dX8_tries_58 : decode cX8_tries 58 = .ok (.aload_n 0, 1) := by decide +kernel
theorem dX8_tries_59 : decode cX8_tries 59 = .ok (.iload 4, 2) := by decide +kernel
theorem dX8_tries_61 : decode cX8_tries 61 = .ok (.iload_n 1, 1) := by decide +kernel
theorem dX8_tries_62 : decode cX8_tries 62 = .ok (.invokevirtual 141, 3) := by decide +kernel
theorem dX8_tries_65 : decode cX8_tries 65 = .ok (.ifCond .eq 39, 3) := by decide +kernel
theorem dX8_tries_68 : decode cX8_tries 68 = .ok (.iinc 3 1, 3) := by decide +kernel
theorem dX8_tries_71 : decode cX8_tries 71 = .ok (.iconst 0, 1) := by decide +kernel
theorem dX8_tries_72 : decode cX8_tries 72 = .ok (.istore 5, 2) := by decide +kernel
theorem dX8_tries_74 : decode cX8_tries 74 = .ok (.iload 5, 2) := by decide +kernel
theorem dX8_tries_76 : decode cX8_tries 76 = .ok (.bipush 10, 2) := by decide +kernel
theorem dX8_tries_78 : decode cX8_tries 78 = .ok (.if_icmp .ge 26, 3) := by decide +kernel
theorem dX8_tries_81 : decode cX8_tries 81 = .ok (.aload_n 0, 1) := by decide +kernel
theorem dX8_tries_82 : decode cX8_tries 82 = .ok (.getfield 34, 3) := by decide +kernel
theorem dX8_tries_85 : decode cX8_tries 85 = .ok (.iload 5, 2) := by decide +kernel
theorem dX8_tries_87 : decode cX8_tries 87 = .ok (.dup2, 1) := by decide +kernel
theorem dX8_tries_88 : decode cX8_tries 88 = .ok (.iaload, 1) := by decide +kernel
theorem dX8_tries_89 : decode cX8_tries 89 = .ok (.iload 4, 2) := by decide +kernel
theorem dX8_tries_91 : decode cX8_tries 91 = .ok (.iload 5, 2) := by decide +kernel
theorem dX8_tries_93 : decode cX8_tries 93 = .ok (.ishr, 1) := by decide +kernel
theorem dX8_tries_94 : decode cX8_tries 94 = .ok (.iconst 1, 1) := by decide +kernel
theorem dX8_tries_95 : decode cX8_tries 95 = .ok (.iand, 1) := by decide +kernel
theorem dX8_tries_96 : decode cX8_tries 96 = .ok (.iadd, 1) := by decide +kernel
theorem dX8_tries_97 : decode cX8_tries 97 = .ok (.iastore, 1) := by decide +kernel
theorem dX8_tries_98 : decode cX8_tries 98 = .ok (.iinc 5 1, 3) := by decide +kernel
theorem dX8_tries_101 : decode cX8_tries 101 = .ok (.goto (-27), 3) := by decide +kernel
theorem dX8_tries_104 : decode cX8_tries 104 = .ok (.iinc 4 1, 3) := by decide +kernel
theorem dX8_tries_107 : decode cX8_tries 107 = .ok (.goto (-57), 3) := by decide +kernel
theorem dX8_tries_110 : decode cX8_tries 110 = .ok (.bipush (-6), 2) := by decide +kernel
theorem dX8_tries_112 : decode cX8_tries 112 = .ok (.istore 4, 2) := by decide +kernel
theorem dX8_tries_114 : decode cX8_tries 114 = .ok (.ldc 140, 2) := by decide +kernel
theorem dX8_tries_116 : decode cX8_tries 116 = .ok (.istore 5, 2) := by decide +kernel
theorem dX8_tries_118 : decode cX8_tries 118 = .ok (.iconst 0, 1) := by decide +kernel
theorem dX8_tries_119 : decode cX8_tries 119 = .ok (.istore 6, 2) := by decide +kernel
theorem dX8_tries_121 : decode cX8_tries 121 = .ok (.iload 6, 2) := by decide +kernel
theorem dX8_tries_123 : decode cX8_tries 123 = .ok (.bipush 10, 2) := by decide +kernel
theorem dX8_tries_125 : decode cX8_tries 125 = .ok (.if_icmp .ge 85, 3) := by decide +kernel
theorem dX8_tries_128 : decode cX8_tries 128 = .ok (.iload_n 3, 1) := by decide +kernel
theorem dX8_tries_129 : decode cX8_tries 129 = .ok (.ifCond .le 81, 3) := by decide +kernel
theorem dX8_tries_132 : decode cX8_tries 132 = .ok (.aload_n 0, 1) := by decide +kernel
theorem dX8_tries_133 : decode cX8_tries 133 = .ok (.getfield 34, 3) := by decide +kernel
theorem dX8_tries_136 : decode cX8_tries 136 = .ok (.iload 6, 2) := by decide +kernel
theorem dX8_tries_138 : decode cX8_tries 138 = .ok (.iaload, 1) := by decide +kernel
theorem dX8_tries_139 : decode cX8_tries 139 = .ok (.iload_n 3, 1) := by decide +kernel
theorem dX8_tries_140 : decode cX8_tries 140 = .ok (.aload_n 0, 1) := by decide +kernel
theorem dX8_tries_141 : decode cX8_tries 141 = .ok (.getfield 34, 3) := by decide +kernel
theorem dX8_tries_144 : decode cX8_tries 144 = .ok (.iload 6, 2) := by decide +kernel
theorem dX8_tries_146 : decode cX8_tries 146 = .ok (.iaload, 1) := by decide +kernel
theorem dX8_tries_147 : decode cX8_tries 147 = .ok (.isub, 1) := by decide +kernel
theorem dX8_tries_148 : decode cX8_tries 148 = .ok (.if_icmp .le 13, 3) := by decide +kernel
theorem dX8_tries_151 : decode cX8_tries 151 = .ok (.aload_n 0, 1) := by decide +kernel
theorem dX8_tries_152 : decode cX8_tries 152 = .ok (.getfield 34, 3) := by decide +kernel
theorem dX8_tries_155 : decode cX8_tries 155 = .ok (.iload 6, 2) := by decide +kernel
theorem dX8_tries_157 : decode cX8_tries 157 = .ok (.iaload, 1) := by decide +kernel
theorem dX8_tries_158 : decode cX8_tries 158 = .ok (.goto 12, 3) := by decide +kernel
theorem dX8_tries_161 : decode cX8_tries 161 = .ok (.iload_n 3, 1) := by decide +kernel
theorem dX8_tries_162 : decode cX8_tries 162 = .ok (.aload_n 0, 1) := by decide +kernel
theorem dX8_tries_163 : decode cX8_tries 163 = .ok (.getfield 34, 3) := by decide +kernel
theorem dX8_tries_166 : decode cX8_tries 166 = .ok (.iload 6, 2) := by decide +kernel
theorem dX8_tries_168 : decode cX8_tries 168 = .ok (.iaload, 1) := by decide +kernel
theorem dX8_tries_169 : decode cX8_tries 169 = .ok (.isub, 1) := by decide +kernel
theorem dX8_tries_170 : decode cX8_tries 170 = .ok (.istore 7, 2) := by decide +kernel
theorem dX8_tries_172 : decode cX8_tries 172 = .ok (.iload 7, 2) := by decide +kernel
theorem dX8_tries_174 : decode cX8_tries 174 = .ok (.iload 5, 2) := by decide +kernel
theorem dX8_tries_176 : decode cX8_tries 176 = .ok (.if_icmp .ge 8, 3) := by decide +kernel
theorem dX8_tries_179 : decode cX8_tries 179 = .ok (.iload 6, 2) := by decide +kernel
theorem dX8_tries_181 : decode cX8_tries 181 = .ok (.goto 5, 3) := by decide +kernel
theorem dX8_tries_184 : decode cX8_tries 184 = .ok (.iload 4, 2) := by decide +kernel
theorem dX8_tries_186 : decode cX8_tries 186 = .ok (.istore 4, 2) := by decide +kernel
theorem dX8_tries_188 : decode cX8_tries 188 = .ok (.iload 7, 2) := by decide +kernel
theorem dX8_tries_190 : decode cX8_tries 190 = .ok (.iload 5, 2) := by decide +kernel
theorem dX8_tries_192 : decode cX8_tries 192 = .ok (.if_icmp .ge 8, 3) := by decide +kernel
theorem dX8_tries_195 : decode cX8_tries 195 = .ok (.iload 7, 2) := by decide +kernel
theorem dX8_tries_197 : decode cX8_tries 197 = .ok (.goto 5, 3) := by decide +kernel
theorem dX8_tries_200 : decode cX8_tries 200 = .ok (.iload 5, 2) := by decide +kernel
theorem dX8_tries_202 : decode cX8_tries 202 = .ok (.istore 5, 2) := by decide +kernel
theorem dX8_tries_204 : decode cX8_tries 204 = .ok (.iinc 6 1, 3) := by decide +kernel
theorem dX8_tries_207 : decode cX8_tries 207 = .ok (.goto (-86), 3) := by decide +kernel
theorem dX8_tries_210 : decode cX8_tries 210 = .ok (.iload 4, 2) := by decide +kernel
theorem dX8_tries_212 : decode cX8_tries 212 = .ok (.ifCond .lt 7, 3) := by decide +kernel
theorem dX8_tries_215 : decode cX8_tries 215 = .ok (.iload_n 2, 1) := by decide +kernel
theorem dX8_tries_216 : decode cX8_tries 216 = .ok (.ifCond .ne 8, 3) := by decide +kernel
theorem dX8_tries_219 : decode cX8_tries 219 = .ok (.iload 4, 2) := by decide +kernel
theorem dX8_tries_221 : decode cX8_tries 221 = .ok (.goto 5, 3) := by decide +kernel
theorem dX8_tries_224 : decode cX8_tries 224 = .ok (.iload 5, 2) := by decide +kernel
theorem dX8_tries_226 : decode cX8_tries 226 = .ok (.ireturn, 1) := by decide +kernel
theorem dX8_layRows_0 : decode cX8_layRows 0 = .ok (.aload_n 0, 1) := by decide +kernel
theorem dX8_layRows_1 : decode cX8_layRows 1 = .ok (.getfield 37, 3) := by decide +kernel
theorem dX8_layRows_4 : decode cX8_layRows 4 = .ok (.iconst 0, 1) := by decide +kernel
theorem dX8_layRows_5 : decode cX8_layRows 5 = .ok (.iconst 0, 1) := by decide +kernel
theorem dX8_layRows_6 : decode cX8_layRows 6 = .ok (.iastore, 1) := by decide +kernel
theorem dX8_layRows_7 : decode cX8_layRows 7 = .ok (.iconst 1, 1) := by decide +kernel
theorem dX8_layRows_8 : decode cX8_layRows 8 = .ok (.istore_n 1, 1) := by decide +kernel
theorem dX8_layRows_9 : decode cX8_layRows 9 = .ok (.iload_n 1, 1) := by decide +kernel
theorem dX8_layRows_10 : decode cX8_layRows 10 = .ok (.bipush 17, 2) := by decide +kernel
theorem dX8_layRows_12 : decode cX8_layRows 12 = .ok (.if_icmp .ge 105, 3) := by decide +kernel
theorem dX8_layRows_15 : decode cX8_layRows 15 = .ok (.iconst 0, 1) := by decide +kernel
theorem dX8_layRows_16 : decode cX8_layRows 16 = .ok (.istore_n 2, 1) := by decide +kernel
theorem dX8_layRows_17 : decode cX8_layRows 17 = .ok (.iload_n 2, 1) := by decide +kernel
theorem dX8_layRows_18 : decode cX8_layRows 18 = .ok (.bipush 40, 2) := by decide +kernel
theorem dX8_layRows_20 : decode cX8_layRows 20 = .ok (.if_icmp .ge 16, 3) := by decide +kernel
theorem dX8_layRows_23 : decode cX8_layRows 23 = .ok (.aload_n 0, 1) := by decide +kernel
theorem dX8_layRows_24 : decode cX8_layRows 24 = .ok (.getfield 40, 3) := by decide +kernel
theorem dX8_layRows_27 : decode cX8_layRows 27 = .ok (.iload_n 2, 1) := by decide +kernel
theorem dX8_layRows_28 : decode cX8_layRows 28 = .ok (.iconst 0, 1) := by decide +kernel
theorem dX8_layRows_29 : decode cX8_layRows 29 = .ok (.bastore, 1) := by decide +kernel
theorem dX8_layRows_30 : decode cX8_layRows 30 = .ok (.iinc 2 1, 3) := by decide +kernel
theorem dX8_layRows_33 : decode cX8_layRows 33 = .ok (.goto (-16), 3) := by decide +kernel
theorem dX8_layRows_36 : decode cX8_layRows 36 = .ok (.iconst 1, 1) := by decide +kernel
theorem dX8_layRows_37 : decode cX8_layRows 37 = .ok (.istore_n 2, 1) := by decide +kernel
theorem dX8_layRows_38 : decode cX8_layRows 38 = .ok (.iload_n 2, 1) := by decide +kernel
theorem dX8_layRows_39 : decode cX8_layRows 39 = .ok (.iconst 3, 1) := by decide +kernel
theorem dX8_layRows_40 : decode cX8_layRows 40 = .ok (.if_icmp .ge 47, 3) := by decide +kernel
theorem dX8_layRows_43 : decode cX8_layRows 43 = .ok (.iconst 0, 1) := by decide +kernel
theorem dX8_layRows_44 : decode cX8_layRows 44 = .ok (.istore_n 3, 1) := by decide +kernel
theorem dX8_layRows_45 : decode cX8_layRows 45 = .ok (.iload_n 3, 1) := by decide +kernel
theorem dX8_layRows_46 : decode cX8_layRows 46 = .ok (.iload_n 2, 1) := by decide +kernel
theorem dX8_layRows_47 : decode cX8_layRows 47 = .ok (.iadd, 1) := by decide +kernel
theorem dX8_layRows_48 : decode cX8_layRows 48 = .ok (.iload_n 1, 1) := by decide +kernel
theorem dX8_layRows_49 : decode cX8_layRows 49 = .ok (.if_icmp .gt 32, 3) := by decide +kernel
theorem dX8_layRows_52 : decode cX8_layRows 52 = .ok (.aload_n 0, 1) := by decide +kernel
theorem dX8_layRows_53 : decode cX8_layRows 53 = .ok (.getfield 40, 3) := by decide +kernel
theorem dX8_layRows_56 : decode cX8_layRows 56 = .ok (.aload_n 0, 1) := by decide +kernel
theorem dX8_layRows_57 : decode cX8_layRows 57 = .ok (.getfield 37, 3) := by decide +kernel
theorem dX8_layRows_60 : decode cX8_layRows 60 = .ok (.iload_n 3, 1) := by decide +kernel
theorem dX8_layRows_61 : decode cX8_layRows 61 = .ok (.iaload, 1) := by decide +kernel
theorem dX8_layRows_62 : decode cX8_layRows 62 = .ok (.aload_n 0, 1) := by decide +kernel
theorem dX8_layRows_63 : decode cX8_layRows 63 = .ok (.getfield 37, 3) := by decide +kernel
theorem dX8_layRows_66 : decode cX8_layRows 66 = .ok (.iload_n 1, 1) := by decide +kernel
theorem dX8_layRows_67 : decode cX8_layRows 67 = .ok (.iload_n 2, 1) := by decide +kernel
theorem dX8_layRows_68 : decode cX8_layRows 68 = .ok (.isub, 1) := by decide +kernel
theorem dX8_layRows_69 : decode cX8_layRows 69 = .ok (.iload_n 3, 1) := by decide +kernel
theorem dX8_layRows_70 : decode cX8_layRows 70 = .ok (.isub, 1) := by decide +kernel
theorem dX8_layRows_71 : decode cX8_layRows 71 = .ok (.iaload, 1) := by decide +kernel
theorem dX8_layRows_72 : decode cX8_layRows 72 = .ok (.ixor, 1) := by decide +kernel
theorem dX8_layRows_73 : decode cX8_layRows 73 = .ok (.iconst 1, 1) := by decide +kernel
theorem dX8_layRows_74 : decode cX8_layRows 74 = .ok (.bastore, 1) := by decide +kernel
theorem dX8_layRows_75 : decode cX8_layRows 75 = .ok (.iinc 3 1, 3) := by decide +kernel
theorem dX8_layRows_78 : decode cX8_layRows 78 = .ok (.goto (-33), 3) := by decide +kernel
theorem dX8_layRows_81 : decode cX8_layRows 81 = .ok (.iinc 2 1, 3) := by decide +kernel
theorem dX8_layRows_84 : decode cX8_layRows 84 = .ok (.goto (-46), 3) := by decide +kernel
theorem dX8_layRows_87 : decode cX8_layRows 87 = .ok (.iconst 0, 1) := by decide +kernel
theorem dX8_layRows_88 : decode cX8_layRows 88 = .ok (.istore_n 2, 1) := by decide +kernel
theorem dX8_layRows_89 : decode cX8_layRows 89 = .ok (.aload_n 0, 1) := by decide +kernel
theorem dX8_layRows_90 : decode cX8_layRows 90 = .ok (.getfield 40, 3) := by decide +kernel
theorem dX8_layRows_93 : decode cX8_layRows 93 = .ok (.iload_n 2, 1) := by decide +kernel
theorem dX8_layRows_94 : decode cX8_layRows 94 = .ok (.baload, 1) := by decide +kernel
theorem dX8_layRows_95 : decode cX8_layRows 95 = .ok (.ifCond .eq 9, 3) := by decide +kernel
theorem dX8_layRows_98 : decode cX8_layRows 98 = .ok (.iinc 2 1, 3) := by decide +kernel
theorem dX8_layRows_101 : decode cX8_layRows 101 = .ok (.goto (-12), 3) := by decide +kernel
theorem dX8_layRows_104 : decode cX8_layRows 104 = .ok (.aload_n 0, 1) := by decide +kernel
theorem dX8_layRows_105 : decode cX8_layRows 105 = .ok (.getfield 37, 3) := by decide +kernel
theorem dX8_layRows_108 : decode cX8_layRows 108 = .ok (.iload_n 1, 1) := by decide +kernel
theorem dX8_layRows_109 : decode cX8_layRows 109 = .ok (.iload_n 2, 1) := by decide +kernel
theorem dX8_layRows_110 : decode cX8_layRows 110 = .ok (.iastore, 1) := by decide +kernel
theorem dX8_layRows_111 : decode cX8_layRows 111 = .ok (.iinc 1 1, 3) := by decide +kernel
theorem dX8_layRows_114 : decode cX8_layRows 114 = .ok (.goto (-105), 3) := by decide +kernel
theorem dX8_layRows_117 : decode cX8_layRows 117 = .ok (.return_, 1) := by decide +kernel
theorem dX8_worthOf_0 : decode cX8_worthOf 0 = .ok (.iconst 0, 1) := by decide +kernel
theorem dX8_worthOf_1 : decode cX8_worthOf 1 = .ok (.istore_n 2, 1) := by decide +kernel
theorem dX8_worthOf_2 : decode cX8_worthOf 2 = .ok (.iconst 0, 1) := by decide +kernel
theorem dX8_worthOf_3 : decode cX8_worthOf 3 = .ok (.istore_n 3, 1) := by decide +kernel
theorem dX8_worthOf_4 : decode cX8_worthOf 4 = .ok (.iconst 0, 1) := by decide +kernel
theorem dX8_worthOf_5 : decode cX8_worthOf 5 = .ok (.istore 4, 2) := by decide +kernel
theorem dX8_worthOf_7 : decode cX8_worthOf 7 = .ok (.iload 4, 2) := by decide +kernel
theorem dX8_worthOf_9 : decode cX8_worthOf 9 = .ok (.bipush 17, 2) := by decide +kernel
theorem dX8_worthOf_11 : decode cX8_worthOf 11 = .ok (.if_icmp .ge 35, 3) := by decide +kernel
theorem dX8_worthOf_14 : decode cX8_worthOf 14 = .ok (.iload_n 1, 1) := by decide +kernel
theorem dX8_worthOf_15 : decode cX8_worthOf 15 = .ok (.iload 4, 2) := by decide +kernel
theorem dX8_worthOf_17 : decode cX8_worthOf 17 = .ok (.invokestatic 86, 3) := by decide +kernel
theorem dX8_worthOf_20 : decode cX8_worthOf 20 = .ok (.ifCond .eq 9, 3) := by decide +kernel
theorem dX8_worthOf_23 : decode cX8_worthOf 23 = .ok (.iinc 3 1, 3) := by decide +kernel
theorem dX8_worthOf_26 : decode cX8_worthOf 26 = .ok (.goto 14, 3) := by decide +kernel
theorem dX8_worthOf_29 : decode cX8_worthOf 29 = .ok (.iload_n 2, 1) := by decide +kernel
theorem dX8_worthOf_30 : decode cX8_worthOf 30 = .ok (.aload_n 0, 1) := by decide +kernel
theorem dX8_worthOf_31 : decode cX8_worthOf 31 = .ok (.getfield 37, 3) := by decide +kernel
theorem dX8_worthOf_34 : decode cX8_worthOf 34 = .ok (.iload_n 3, 1) := by decide +kernel
theorem dX8_worthOf_35 : decode cX8_worthOf 35 = .ok (.iaload, 1) := by decide +kernel
theorem dX8_worthOf_36 : decode cX8_worthOf 36 = .ok (.ixor, 1) := by decide +kernel
theorem dX8_worthOf_37 : decode cX8_worthOf 37 = .ok (.istore_n 2, 1) := by decide +kernel
theorem dX8_worthOf_38 : decode cX8_worthOf 38 = .ok (.iconst 0, 1) := by decide +kernel
theorem dX8_worthOf_39 : decode cX8_worthOf 39 = .ok (.istore_n 3, 1) := by decide +kernel
theorem dX8_worthOf_40 : decode cX8_worthOf 40 = .ok (.iinc 4 1, 3) := by decide +kernel
theorem dX8_worthOf_43 : decode cX8_worthOf 43 = .ok (.goto (-36), 3) := by decide +kernel
theorem dX8_worthOf_46 : decode cX8_worthOf 46 = .ok (.iload_n 2, 1) := by decide +kernel
theorem dX8_worthOf_47 : decode cX8_worthOf 47 = .ok (.ireturn, 1) := by decide +kernel
theorem dX8_darns_0 : decode cX8_darns 0 = .ok (.iload_n 1, 1) := by decide +kernel
theorem dX8_darns_1 : decode cX8_darns 1 = .ok (.invokestatic 62, 3) := by decide +kernel
theorem dX8_darns_4 : decode cX8_darns 4 = .ok (.ifCond .ne 5, 3) := by decide +kernel
theorem dX8_darns_7 : decode cX8_darns 7 = .ok (.iconst (-1), 1) := by decide +kernel
theorem dX8_darns_8 : decode cX8_darns 8 = .ok (.ireturn, 1) := by decide +kernel
theorem dX8_darns_9 : decode cX8_darns 9 = .ok (.iload_n 2, 1) := by decide +kernel
theorem dX8_darns_10 : decode cX8_darns 10 = .ok (.iconst 0, 1) := by decide +kernel
theorem dX8_darns_11 : decode cX8_darns 11 = .ok (.iconst 1, 1) := by decide +kernel
theorem dX8_darns_12 : decode cX8_darns 12 = .ok (.invokestatic 58, 3) := by decide +kernel
theorem dX8_darns_15 : decode cX8_darns 15 = .ok (.ifCond .ne 6, 3) := by decide +kernel
theorem dX8_darns_18 : decode cX8_darns 18 = .ok (.bipush (-2), 2) := by decide +kernel
theorem dX8_darns_20 : decode cX8_darns 20 = .ok (.ireturn, 1) := by decide +kernel
theorem dX8_darns_21 : decode cX8_darns 21 = .ok (.aload_n 0, 1) := by decide +kernel
theorem dX8_darns_22 : decode cX8_darns 22 = .ok (.invokevirtual 144, 3) := by decide +kernel
theorem dX8_darns_25 : decode cX8_darns 25 = .ok (.bipush (-6), 2) := by decide +kernel
theorem dX8_darns_27 : decode cX8_darns 27 = .ok (.istore_n 3, 1) := by decide +kernel
theorem dX8_darns_28 : decode cX8_darns 28 = .ok (.bipush 15, 2) := by decide +kernel
theorem dX8_darns_30 : decode cX8_darns 30 = .ok (.istore 4, 2) := by decide +kernel
theorem dX8_darns_32 : decode cX8_darns 32 = .ok (.iload 4, 2) := by decide +kernel
theorem dX8_darns_34 : decode cX8_darns 34 = .ok (.ifCond .lt 101, 3) := by decide +kernel
theorem dX8_darns_37 : decode cX8_darns 37 = .ok (.iconst 3, 1) := by decide +kernel
theorem dX8_darns_38 : decode cX8_darns 38 = .ok (.iload 4, 2) := by decide +kernel
theorem dX8_darns_40 : decode cX8_darns 40 = .ok (.ishl, 1) := by decide +kernel
theorem dX8_darns_41 : decode cX8_darns 41 = .ok (.istore 5, 2) := by decide +kernel
theorem dX8_darns_43 : decode cX8_darns 43 = .ok (.aload_n 0, 1) := by decide +kernel
theorem dX8_darns_44 : decode cX8_darns 44 = .ok (.getfield 7, 3) := by decide +kernel
theorem dX8_darns_47 : decode cX8_darns 47 = .ok (.iload_n 1, 1) := by decide +kernel
theorem dX8_darns_48 : decode cX8_darns 48 = .ok (.iaload, 1) := by decide +kernel
theorem dX8_darns_49 : decode cX8_darns 49 = .ok (.iload 5, 2) := by decide +kernel
theorem dX8_darns_51 : decode cX8_darns 51 = .ok (.iand, 1) := by decide +kernel
theorem dX8_darns_52 : decode cX8_darns 52 = .ok (.iload 5, 2) := by decide +kernel
theorem dX8_darns_54 : decode cX8_darns 54 = .ok (.if_icmp .ne 30, 3) := by decide +kernel
theorem dX8_darns_57 : decode cX8_darns 57 = .ok (.aload_n 0, 1) := by decide +kernel
theorem dX8_darns_58 : decode cX8_darns 58 = .ok (.aload_n 0, 1) := by decide +kernel
theorem dX8_darns_59 : decode cX8_darns 59 = .ok (.getfield 7, 3) := by decide +kernel
theorem dX8_darns_62 : decode cX8_darns 62 = .ok (.iload_n 1, 1) := by decide +kernel
theorem dX8_darns_63 : decode cX8_darns 63 = .ok (.iaload, 1) := by decide +kernel
theorem dX8_darns_64 : decode cX8_darns 64 = .ok (.iload 5, 2) := by decide +kernel
theorem dX8_darns_66 : decode cX8_darns 66 = .ok (.iconst (-1), 1) := by decide +kernel
theorem dX8_darns_67 : decode cX8_darns 67 = .ok (.ixor, 1) := by decide +kernel
theorem dX8_darns_68 : decode cX8_darns 68 = .ok (.iand, 1) := by decide +kernel
theorem dX8_darns_69 : decode cX8_darns 69 = .ok (.invokevirtual 147, 3) := by decide +kernel
theorem dX8_darns_72 : decode cX8_darns 72 = .ok (.ifCond .ne 12, 3) := by decide +kernel
theorem dX8_darns_75 : decode cX8_darns 75 = .ok (.iconst 2, 1) := by decide +kernel
theorem dX8_darns_76 : decode cX8_darns 76 = .ok (.iload 4, 2) := by decide +kernel
theorem dX8_darns_78 : decode cX8_darns 78 = .ok (.imul, 1) := by decide +kernel
theorem dX8_darns_79 : decode cX8_darns 79 = .ok (.iconst 1, 1) := by decide +kernel
theorem dX8_darns_80 : decode cX8_darns 80 = .ok (.iadd, 1) := by decide +kernel
theorem dX8_darns_81 : decode cX8_darns 81 = .ok (.goto 4, 3) := by decide +kernel
theorem dX8_darns_84 : decode cX8_darns 84 = .ok (.iload_n 3, 1) := by decide +kernel
theorem dX8_darns_85 : decode cX8_darns 85 = .ok (.istore_n 3, 1) := by decide +kernel
theorem dX8_darns_86 : decode cX8_darns 86 = .ok (.aload_n 0, 1) := by decide +kernel
theorem dX8_darns_87 : decode cX8_darns 87 = .ok (.getfield 7, 3) := by decide +kernel
theorem dX8_darns_90 : decode cX8_darns 90 = .ok (.iload_n 1, 1) := by decide +kernel
theorem dX8_darns_91 : decode cX8_darns 91 = .ok (.iaload, 1) := by decide +kernel
theorem dX8_darns_92 : decode cX8_darns 92 = .ok (.iload 4, 2) := by decide +kernel
theorem dX8_darns_94 : decode cX8_darns 94 = .ok (.invokestatic 86, 3) := by decide +kernel
theorem dX8_darns_97 : decode cX8_darns 97 = .ok (.ifCond .eq 30, 3) := by decide +kernel
theorem dX8_darns_100 : decode cX8_darns 100 = .ok (.aload_n 0, 1) := by decide +kernel
theorem dX8_darns_101 : decode cX8_darns 101 = .ok (.aload_n 0, 1) := by decide +kernel
theorem dX8_darns_102 : decode cX8_darns 102 = .ok (.getfield 7, 3) := by decide +kernel
theorem dX8_darns_105 : decode cX8_darns 105 = .ok (.iload_n 1, 1) := by decide +kernel
theorem dX8_darns_106 : decode cX8_darns 106 = .ok (.iaload, 1) := by decide +kernel
theorem dX8_darns_107 : decode cX8_darns 107 = .ok (.iconst 1, 1) := by decide +kernel
theorem dX8_darns_108 : decode cX8_darns 108 = .ok (.iload 4, 2) := by decide +kernel
theorem dX8_darns_110 : decode cX8_darns 110 = .ok (.ishl, 1) := by decide +kernel
theorem dX8_darns_111 : decode cX8_darns 111 = .ok (.iconst (-1), 1) := by decide +kernel
theorem dX8_darns_112 : decode cX8_darns 112 = .ok (.ixor, 1) := by decide +kernel
theorem dX8_darns_113 : decode cX8_darns 113 = .ok (.iand, 1) := by decide +kernel
theorem dX8_darns_114 : decode cX8_darns 114 = .ok (.invokevirtual 147, 3) := by decide +kernel
theorem dX8_darns_117 : decode cX8_darns 117 = .ok (.ifCond .ne 10, 3) := by decide +kernel
theorem dX8_darns_120 : decode cX8_darns 120 = .ok (.iconst 2, 1) := by decide +kernel
theorem dX8_darns_121 : decode cX8_darns 121 = .ok (.iload 4, 2) := by decide +kernel
theorem dX8_darns_123 : decode cX8_darns 123 = .ok (.imul, 1) := by decide +kernel
theorem dX8_darns_124 : decode cX8_darns 124 = .ok (.goto 4, 3) := by decide +kernel
theorem dX8_darns_127 : decode cX8_darns 127 = .ok (.iload_n 3, 1) := by decide +kernel
theorem dX8_darns_128 : decode cX8_darns 128 = .ok (.istore_n 3, 1) := by decide +kernel
theorem dX8_darns_129 : decode cX8_darns 129 = .ok (.iinc 4 (-1), 3) := by decide +kernel
theorem dX8_darns_132 : decode cX8_darns 132 = .ok (.goto (-100), 3) := by decide +kernel
theorem dX8_darns_135 : decode cX8_darns 135 = .ok (.iload_n 2, 1) := by decide +kernel
theorem dX8_darns_136 : decode cX8_darns 136 = .ok (.iconst 1, 1) := by decide +kernel
theorem dX8_darns_137 : decode cX8_darns 137 = .ok (.if_icmp .ne 7, 3) := by decide +kernel
theorem dX8_darns_140 : decode cX8_darns 140 = .ok (.iload_n 3, 1) := by decide +kernel
theorem dX8_darns_141 : decode cX8_darns 141 = .ok (.goto 12, 3) := by decide +kernel
theorem dX8_darns_144 : decode cX8_darns 144 = .ok (.iload_n 3, 1) := by decide +kernel
theorem dX8_darns_145 : decode cX8_darns 145 = .ok (.ifCond .ge 7, 3) := by decide +kernel
theorem dX8_darns_148 : decode cX8_darns 148 = .ok (.iconst 0, 1) := by decide +kernel
theorem dX8_darns_149 : decode cX8_darns 149 = .ok (.goto 4, 3) := by decide +kernel
theorem dX8_darns_152 : decode cX8_darns 152 = .ok (.iconst 1, 1) := by decide +kernel
theorem dX8_darns_153 : decode cX8_darns 153 = .ok (.ireturn, 1) := by decide +kernel
theorem dX8_chance_0 : decode cX8_chance 0 = .ok (.iload_n 1, 1) := by decide +kernel
theorem dX8_chance_1 : decode cX8_chance 1 = .ok (.iconst 0, 1) := by decide +kernel
theorem dX8_chance_2 : decode cX8_chance 2 = .ok (.bipush 16, 2) := by decide +kernel
theorem dX8_chance_4 : decode cX8_chance 4 = .ok (.invokestatic 58, 3) := by decide +kernel
theorem dX8_chance_7 : decode cX8_chance 7 = .ok (.ifCond .eq 33, 3) := by decide +kernel
theorem dX8_chance_10 : decode cX8_chance 10 = .ok (.iload_n 2, 1) := by decide +kernel
theorem dX8_chance_11 : decode cX8_chance 11 = .ok (.iconst 0, 1) := by decide +kernel
theorem dX8_chance_12 : decode cX8_chance 12 = .ok (.bipush 10, 2) := by decide +kernel
theorem dX8_chance_14 : decode cX8_chance 14 = .ok (.invokestatic 58, 3) := by decide +kernel
theorem dX8_chance_17 : decode cX8_chance 17 = .ok (.ifCond .eq 23, 3) := by decide +kernel
theorem dX8_chance_20 : decode cX8_chance 20 = .ok (.iload_n 3, 1) := by decide +kernel
theorem dX8_chance_21 : decode cX8_chance 21 = .ok (.iconst 0, 1) := by decide +kernel
theorem dX8_chance_22 : decode cX8_chance 22 = .ok (.bipush 16, 2) := by decide +kernel
theorem dX8_chance_24 : decode cX8_chance 24 = .ok (.invokestatic 58, 3) := by decide +kernel
theorem dX8_chance_27 : decode cX8_chance 27 = .ok (.ifCond .eq 13, 3) := by decide +kernel
theorem dX8_chance_30 : decode cX8_chance 30 = .ok (.iload 4, 2) := by decide +kernel
theorem dX8_chance_32 : decode cX8_chance 32 = .ok (.iconst 0, 1) := by decide +kernel
theorem dX8_chance_33 : decode cX8_chance 33 = .ok (.iconst 1, 1) := by decide +kernel
theorem dX8_chance_34 : decode cX8_chance 34 = .ok (.invokestatic 58, 3) := by decide +kernel
theorem dX8_chance_37 : decode cX8_chance 37 = .ok (.ifCond .ne 7, 3) := by decide +kernel
theorem dX8_chance_40 : decode cX8_chance 40 = .ok (.ldc2_w 150, 3) := by decide +kernel
theorem dX8_chance_43 : decode cX8_chance 43 = .ok (.lreturn, 1) := by decide +kernel
theorem dX8_chance_44 : decode cX8_chance 44 = .ok (.lconst 1, 1) := by decide +kernel
theorem dX8_chance_45 : decode cX8_chance 45 = .ok (.lstore 5, 2) := by decide +kernel
theorem dX8_chance_47 : decode cX8_chance 47 = .ok (.iconst 0, 1) := by decide +kernel
theorem dX8_chance_48 : decode cX8_chance 48 = .ok (.istore 7, 2) := by decide +kernel
theorem dX8_chance_50 : decode cX8_chance 50 = .ok (.iload 7, 2) := by decide +kernel
theorem dX8_chance_52 : decode cX8_chance 52 = .ok (.bipush 17, 2) := by decide +kernel
theorem dX8_chance_54 : decode cX8_chance 54 = .ok (.if_icmp .ge 26, 3) := by decide +kernel
theorem dX8_chance_57 : decode cX8_chance 57 = .ok (.aload_n 0, 1) := by decide +kernel
theorem dX8_chance_58 : decode cX8_chance 58 = .ok (.getfield 44, 3) := by decide +kernel
theorem dX8_chance_61 : decode cX8_chance 61 = .ok (.iload 7, 2) := by decide +kernel
theorem dX8_chance_63 : decode cX8_chance 63 = .ok (.iload 7, 2) := by decide +kernel
theorem dX8_chance_65 : decode cX8_chance 65 = .ok (.ifCond .ne 7, 3) := by decide +kernel
theorem dX8_chance_68 : decode cX8_chance 68 = .ok (.lconst 1, 1) := by decide +kernel
theorem dX8_chance_69 : decode cX8_chance 69 = .ok (.goto 4, 3) := by decide +kernel
theorem dX8_chance_72 : decode cX8_chance 72 = .ok (.lconst 0, 1) := by decide +kernel
theorem dX8_chance_73 : decode cX8_chance 73 = .ok (.lastore, 1) := by decide +kernel
theorem dX8_chance_74 : decode cX8_chance 74 = .ok (.iinc 7 1, 3) := by decide +kernel
theorem dX8_chance_77 : decode cX8_chance 77 = .ok (.goto (-27), 3) := by decide +kernel
theorem dX8_chance_80 : decode cX8_chance 80 = .ok (.iconst 0, 1) := by decide +kernel
theorem dX8_chance_81 : decode cX8_chance 81 = .ok (.istore 7, 2) := by decide +kernel
theorem dX8_chance_83 : decode cX8_chance 83 = .ok (.iload 7, 2) := by decide +kernel
theorem dX8_chance_85 : decode cX8_chance 85 = .ok (.iload_n 1, 1) := by decide +kernel
theorem dX8_chance_86 : decode cX8_chance 86 = .ok (.if_icmp .ge 74, 3) := by decide +kernel
theorem dX8_chance_89 : decode cX8_chance 89 = .ok (.bipush 16, 2) := by decide +kernel
theorem dX8_chance_91 : decode cX8_chance 91 = .ok (.istore 8, 2) := by decide +kernel
theorem dX8_chance_93 : decode cX8_chance 93 = .ok (.iload 8, 2) := by decide +kernel
theorem dX8_chance_95 : decode cX8_chance 95 = .ok (.ifCond .lt 51, 3) := by decide +kernel
theorem dX8_chance_98 : decode cX8_chance 98 = .ok (.aload_n 0, 1) := by decide +kernel
theorem dX8_chance_99 : decode cX8_chance 99 = .ok (.getfield 44, 3) := by decide +kernel
theorem dX8_chance_102 : decode cX8_chance 102 = .ok (.iload 8, 2) := by decide +kernel
theorem dX8_chance_104 : decode cX8_chance 104 = .ok (.aload_n 0, 1) := by decide +kernel
theorem dX8_chance_105 : decode cX8_chance 105 = .ok (.getfield 44, 3) := by decide +kernel
theorem dX8_chance_108 : decode cX8_chance 108 = .ok (.iload 8, 2) := by decide +kernel
theorem dX8_chance_110 : decode cX8_chance 110 = .ok (.laload, 1) := by decide +kernel
theorem dX8_chance_111 : decode cX8_chance 111 = .ok (.bipush 10, 2) := by decide +kernel
theorem dX8_chance_113 : decode cX8_chance 113 = .ok (.iload_n 2, 1) := by decide +kernel
theorem dX8_chance_114 : decode cX8_chance 114 = .ok (.isub, 1) := by decide +kernel
theorem dX8_chance_115 : decode cX8_chance 115 = .ok (.i2l, 1) := by decide +kernel
theorem dX8_chance_116 : decode cX8_chance 116 = .ok (.lmul, 1) := by decide +kernel
theorem dX8_chance_117 : decode cX8_chance 117 = .ok (.iload 8, 2) := by decide +kernel
theorem dX8_chance_119 : decode cX8_chance 119 = .ok (.ifCond .le 18, 3) := by decide +kernel
theorem dX8_chance_122 : decode cX8_chance 122 = .ok (.aload_n 0, 1) := by decide +kernel
theorem dX8_chance_123 : decode cX8_chance 123 = .ok (.getfield 44, 3) := by decide +kernel
theorem dX8_chance_126 : decode cX8_chance 126 = .ok (.iload 8, 2) := by decide +kernel
theorem dX8_chance_128 : decode cX8_chance 128 = .ok (.iconst 1, 1) := by decide +kernel
theorem dX8_chance_129 : decode cX8_chance 129 = .ok (.isub, 1) := by decide +kernel
theorem dX8_chance_130 : decode cX8_chance 130 = .ok (.laload, 1) := by decide +kernel
theorem dX8_chance_131 : decode cX8_chance 131 = .ok (.iload_n 2, 1) := by decide +kernel
theorem dX8_chance_132 : decode cX8_chance 132 = .ok (.i2l, 1) := by decide +kernel
theorem dX8_chance_133 : decode cX8_chance 133 = .ok (.lmul, 1) := by decide +kernel
theorem dX8_chance_134 : decode cX8_chance 134 = .ok (.goto 4, 3) := by decide +kernel
theorem dX8_chance_137 : decode cX8_chance 137 = .ok (.lconst 0, 1) := by decide +kernel
theorem dX8_chance_138 : decode cX8_chance 138 = .ok (.ladd, 1) := by decide +kernel
theorem dX8_chance_139 : decode cX8_chance 139 = .ok (.lastore, 1) := by decide +kernel
theorem dX8_chance_140 : decode cX8_chance 140 = .ok (.iinc 8 (-1), 3) := by decide +kernel
theorem dX8_chance_143 : decode cX8_chance 143 = .ok (.goto (-50), 3) := by decide +kernel
theorem dX8_chance_146 : decode cX8_chance 146 = .ok (.lload 5, 2) := by decide +kernel
theorem dX8_chance_148 : decode cX8_chance 148 = .ok (.ldc2_w 152, 3) := by decide +kernel
theorem dX8_chance_151 : decode cX8_chance 151 = .ok (.lmul, 1) := by decide +kernel
theorem dX8_chance_152 : decode cX8_chance 152 = .ok (.lstore 5, 2) := by decide +kernel
theorem dX8_chance_154 : decode cX8_chance 154 = .ok (.iinc 7 1, 3) := by decide +kernel
theorem dX8_chance_157 : decode cX8_chance 157 = .ok (.goto (-74), 3) := by decide +kernel
theorem dX8_chance_160 : decode cX8_chance 160 = .ok (.lconst 0, 1) := by decide +kernel
theorem dX8_chance_161 : decode cX8_chance 161 = .ok (.lstore 7, 2) := by decide +kernel
theorem dX8_chance_163 : decode cX8_chance 163 = .ok (.iload_n 3, 1) := by decide +kernel
theorem dX8_chance_164 : decode cX8_chance 164 = .ok (.istore 9, 2) := by decide +kernel
theorem dX8_chance_166 : decode cX8_chance 166 = .ok (.iload 9, 2) := by decide +kernel
theorem dX8_chance_168 : decode cX8_chance 168 = .ok (.bipush 17, 2) := by decide +kernel
theorem dX8_chance_170 : decode cX8_chance 170 = .ok (.if_icmp .ge 21, 3) := by decide +kernel
theorem dX8_chance_173 : decode cX8_chance 173 = .ok (.lload 7, 2) := by decide +kernel
theorem dX8_chance_175 : decode cX8_chance 175 = .ok (.aload_n 0, 1) := by decide +kernel
theorem dX8_chance_176 : decode cX8_chance 176 = .ok (.getfield 44, 3) := by decide +kernel
theorem dX8_chance_179 : decode cX8_chance 179 = .ok (.iload 9, 2) := by decide +kernel
theorem dX8_chance_181 : decode cX8_chance 181 = .ok (.laload, 1) := by decide +kernel
theorem dX8_chance_182 : decode cX8_chance 182 = .ok (.ladd, 1) := by decide +kernel
theorem dX8_chance_183 : decode cX8_chance 183 = .ok (.lstore 7, 2) := by decide +kernel
theorem dX8_chance_185 : decode cX8_chance 185 = .ok (.iinc 9 1, 3) := by decide +kernel
theorem dX8_chance_188 : decode cX8_chance 188 = .ok (.goto (-22), 3) := by decide +kernel
theorem dX8_chance_191 : decode cX8_chance 191 = .ok (.lload 7, 2) := by decide +kernel
theorem dX8_chance_193 : decode cX8_chance 193 = .ok (.lstore 9, 2) := by decide +kernel
theorem dX8_chance_195 : decode cX8_chance 195 = .ok (.lload 5, 2) := by decide +kernel
theorem dX8_chance_197 : decode cX8_chance 197 = .ok (.lstore 11, 2) := by decide +kernel
theorem dX8_chance_199 : decode cX8_chance 199 = .ok (.lload 11, 2) := by decide +kernel
theorem dX8_chance_201 : decode cX8_chance 201 = .ok (.lconst 0, 1) := by decide +kernel
theorem dX8_chance_202 : decode cX8_chance 202 = .ok (.lcmp, 1) := by decide +kernel
theorem dX8_chance_203 : decode cX8_chance 203 = .ok (.ifCond .eq 21, 3) := by decide +kernel
theorem dX8_chance_206 : decode cX8_chance 206 = .ok (.lload 9, 2) := by decide +kernel
theorem dX8_chance_208 : decode cX8_chance 208 = .ok (.lload 11, 2) := by decide +kernel
theorem dX8_chance_210 : decode cX8_chance 210 = .ok (.lrem, 1) := by decide +kernel
theorem dX8_chance_211 : decode cX8_chance 211 = .ok (.lstore 13, 2) := by decide +kernel
theorem dX8_chance_213 : decode cX8_chance 213 = .ok (.lload 11, 2) := by decide +kernel
theorem dX8_chance_215 : decode cX8_chance 215 = .ok (.lstore 9, 2) := by decide +kernel
theorem dX8_chance_217 : decode cX8_chance 217 = .ok (.lload 13, 2) := by decide +kernel
theorem dX8_chance_219 : decode cX8_chance 219 = .ok (.lstore 11, 2) := by decide +kernel
theorem dX8_chance_221 : decode cX8_chance 221 = .ok (.goto (-22), 3) := by decide +kernel
theorem dX8_chance_224 : decode cX8_chance 224 = .ok (.iload 4, 2) := by decide +kernel
theorem dX8_chance_226 : decode cX8_chance 226 = .ok (.ifCond .ne 11, 3) := by decide +kernel
theorem dX8_chance_229 : decode cX8_chance 229 = .ok (.lload 7, 2) := by decide +kernel
theorem dX8_chance_231 : decode cX8_chance 231 = .ok (.lload 9, 2) := by decide +kernel
theorem dX8_chance_233 : decode cX8_chance 233 = .ok (.ldiv, 1) := by decide +kernel
theorem dX8_chance_234 : decode cX8_chance 234 = .ok (.goto 8, 3) := by decide +kernel
theorem dX8_chance_237 : decode cX8_chance 237 = .ok (.lload 5, 2) := by decide +kernel
theorem dX8_chance_239 : decode cX8_chance 239 = .ok (.lload 9, 2) := by decide +kernel
theorem dX8_chance_241 : decode cX8_chance 241 = .ok (.ldiv, 1) := by decide +kernel
theorem dX8_chance_242 : decode cX8_chance 242 = .ok (.lreturn, 1) := by decide +kernel
theorem dX8_year_0 : decode cX8_year 0 = .ok (.iload_n 1, 1) := by decide +kernel
theorem dX8_year_1 : decode cX8_year 1 = .ok (.iconst 0, 1) := by decide +kernel
theorem dX8_year_2 : decode cX8_year 2 = .ok (.sipush 9999, 3) := by decide +kernel
theorem dX8_year_5 : decode cX8_year 5 = .ok (.invokestatic 58, 3) := by decide +kernel
theorem dX8_year_8 : decode cX8_year 8 = .ok (.ifCond .eq 22, 3) := by decide +kernel
theorem dX8_year_11 : decode cX8_year 11 = .ok (.iload_n 2, 1) := by decide +kernel
theorem dX8_year_12 : decode cX8_year 12 = .ok (.iconst 1, 1) := by decide +kernel
theorem dX8_year_13 : decode cX8_year 13 = .ok (.bipush 99, 2) := by decide +kernel
theorem dX8_year_15 : decode cX8_year 15 = .ok (.invokestatic 58, 3) := by decide +kernel
theorem dX8_year_18 : decode cX8_year 18 = .ok (.ifCond .eq 12, 3) := by decide +kernel
theorem dX8_year_21 : decode cX8_year 21 = .ok (.iload_n 3, 1) := by decide +kernel
theorem dX8_year_22 : decode cX8_year 22 = .ok (.iconst 0, 1) := by decide +kernel
theorem dX8_year_23 : decode cX8_year 23 = .ok (.iconst 2, 1) := by decide +kernel
theorem dX8_year_24 : decode cX8_year 24 = .ok (.invokestatic 58, 3) := by decide +kernel
theorem dX8_year_27 : decode cX8_year 27 = .ok (.ifCond .ne 6, 3) := by decide +kernel
theorem dX8_year_30 : decode cX8_year 30 = .ok (.bipush (-2), 2) := by decide +kernel
theorem dX8_year_32 : decode cX8_year 32 = .ok (.ireturn, 1) := by decide +kernel
theorem dX8_year_33 : decode cX8_year 33 = .ok (.aload_n 0, 1) := by decide +kernel
theorem dX8_year_34 : decode cX8_year 34 = .ok (.invokevirtual 103, 3) := by decide +kernel
theorem dX8_year_37 : decode cX8_year 37 = .ok (.iload_n 1, 1) := by decide +kernel
theorem dX8_year_38 : decode cX8_year 38 = .ok (.istore 4, 2) := by decide +kernel
theorem dX8_year_40 : decode cX8_year 40 = .ok (.iconst 0, 1) := by decide +kernel
theorem dX8_year_41 : decode cX8_year 41 = .ok (.istore 5, 2) := by decide +kernel
theorem dX8_year_43 : decode cX8_year 43 = .ok (.iload 5, 2) := by decide +kernel
theorem dX8_year_45 : decode cX8_year 45 = .ok (.iload_n 2, 1) := by decide +kernel
theorem dX8_year_46 : decode cX8_year 46 = .ok (.if_icmp .ge 139, 3) := by decide +kernel
theorem dX8_year_49 : decode cX8_year 49 = .ok (.bipush 75, 2) := by decide +kernel
theorem dX8_year_51 : decode cX8_year 51 = .ok (.iload 4, 2) := by decide +kernel
theorem dX8_year_53 : decode cX8_year 53 = .ok (.imul, 1) := by decide +kernel
theorem dX8_year_54 : decode cX8_year 54 = .ok (.bipush 74, 2) := by decide +kernel
theorem dX8_year_56 : decode cX8_year 56 = .ok (.iadd, 1) := by decide +kernel
theorem dX8_year_57 : decode cX8_year 57 = .ok (.ldc 154, 2) := by decide +kernel
theorem dX8_year_59 : decode cX8_year 59 = .ok (.irem, 1) := by decide +kernel
theorem dX8_year_60 : decode cX8_year 60 = .ok (.istore 4, 2) := by decide +kernel
theorem dX8_year_62 : decode cX8_year 62 = .ok (.iload 4, 2) := by decide +kernel
theorem dX8_year_64 : decode cX8_year 64 = .ok (.bipush 6, 2) := by decide +kernel
theorem dX8_year_66 : decode cX8_year 66 = .ok (.irem, 1) := by decide +kernel
theorem dX8_year_67 : decode cX8_year 67 = .ok (.istore 6, 2) := by decide +kernel
theorem dX8_year_69 : decode cX8_year 69 = .ok (.iload 4, 2) := by decide +kernel
theorem dX8_year_71 : decode cX8_year 71 = .ok (.bipush 6, 2) := by decide +kernel
theorem dX8_year_73 : decode cX8_year 73 = .ok (.idiv, 1) := by decide +kernel
theorem dX8_year_74 : decode cX8_year 74 = .ok (.bipush 8, 2) := by decide +kernel
theorem dX8_year_76 : decode cX8_year 76 = .ok (.irem, 1) := by decide +kernel
theorem dX8_year_77 : decode cX8_year 77 = .ok (.istore 7, 2) := by decide +kernel
theorem dX8_year_79 : decode cX8_year 79 = .ok (.iload 7, 2) := by decide +kernel
theorem dX8_year_81 : decode cX8_year 81 = .ok (.ifCond .ne 12, 3) := by decide +kernel
theorem dX8_year_84 : decode cX8_year 84 = .ok (.aload_n 0, 1) := by decide +kernel
theorem dX8_year_85 : decode cX8_year 85 = .ok (.iload 6, 2) := by decide +kernel
theorem dX8_year_87 : decode cX8_year 87 = .ok (.invokevirtual 90, 3) := by decide +kernel
theorem dX8_year_90 : decode cX8_year 90 = .ok (.goto 87, 3) := by decide +kernel
theorem dX8_year_93 : decode cX8_year 93 = .ok (.iload 7, 2) := by decide +kernel
theorem dX8_year_95 : decode cX8_year 95 = .ok (.iconst 1, 1) := by decide +kernel
theorem dX8_year_96 : decode cX8_year 96 = .ok (.if_icmp .ne 12, 3) := by decide +kernel
theorem dX8_year_99 : decode cX8_year 99 = .ok (.aload_n 0, 1) := by decide +kernel
theorem dX8_year_100 : decode cX8_year 100 = .ok (.iload 6, 2) := by decide +kernel
theorem dX8_year_102 : decode cX8_year 102 = .ok (.invokevirtual 94, 3) := by decide +kernel
theorem dX8_year_105 : decode cX8_year 105 = .ok (.goto 72, 3) := by decide +kernel
theorem dX8_year_108 : decode cX8_year 108 = .ok (.iload 7, 2) := by decide +kernel
theorem dX8_year_110 : decode cX8_year 110 = .ok (.iconst 2, 1) := by decide +kernel
theorem dX8_year_111 : decode cX8_year 111 = .ok (.if_icmp .ne 12, 3) := by decide +kernel
theorem dX8_year_114 : decode cX8_year 114 = .ok (.aload_n 0, 1) := by decide +kernel
theorem dX8_year_115 : decode cX8_year 115 = .ok (.iload 6, 2) := by decide +kernel
theorem dX8_year_117 : decode cX8_year 117 = .ok (.invokevirtual 97, 3) := by decide +kernel
theorem dX8_year_120 : decode cX8_year 120 = .ok (.goto 57, 3) := by decide +kernel
theorem dX8_year_123 : decode cX8_year 123 = .ok (.iload 7, 2) := by decide +kernel
theorem dX8_year_125 : decode cX8_year 125 = .ok (.iconst 3, 1) := by decide +kernel
theorem dX8_year_126 : decode cX8_year 126 = .ok (.if_icmp .ne 12, 3) := by decide +kernel
theorem dX8_year_129 : decode cX8_year 129 = .ok (.aload_n 0, 1) := by decide +kernel
theorem dX8_year_130 : decode cX8_year 130 = .ok (.iload 6, 2) := by decide +kernel
theorem dX8_year_132 : decode cX8_year 132 = .ok (.invokevirtual 100, 3) := by decide +kernel
theorem dX8_year_135 : decode cX8_year 135 = .ok (.goto 42, 3) := by decide +kernel
theorem dX8_year_138 : decode cX8_year 138 = .ok (.iload 7, 2) := by decide +kernel
theorem dX8_year_140 : decode cX8_year 140 = .ok (.iconst 4, 1) := by decide +kernel
theorem dX8_year_141 : decode cX8_year 141 = .ok (.if_icmp .ne 18, 3) := by decide +kernel
theorem dX8_year_144 : decode cX8_year 144 = .ok (.aload_n 0, 1) := by decide +kernel
theorem dX8_year_145 : decode cX8_year 145 = .ok (.iload 4, 2) := by decide +kernel
theorem dX8_year_147 : decode cX8_year 147 = .ok (.bipush 48, 2) := by decide +kernel
theorem dX8_year_149 : decode cX8_year 149 = .ok (.idiv, 1) := by decide +kernel
theorem dX8_year_150 : decode cX8_year 150 = .ok (.bipush 10, 2) := by decide +kernel
theorem dX8_year_152 : decode cX8_year 152 = .ok (.irem, 1) := by decide +kernel
theorem dX8_year_153 : decode cX8_year 153 = .ok (.invokevirtual 125, 3) := by decide +kernel
theorem dX8_year_156 : decode cX8_year 156 = .ok (.goto 21, 3) := by decide +kernel
theorem dX8_year_159 : decode cX8_year 159 = .ok (.iload 7, 2) := by decide +kernel
theorem dX8_year_161 : decode cX8_year 161 = .ok (.bipush 7, 2) := by decide +kernel
theorem dX8_year_163 : decode cX8_year 163 = .ok (.if_icmp .ne 10, 3) := by decide +kernel
theorem dX8_year_166 : decode cX8_year 166 = .ok (.aload_n 0, 1) := by decide +kernel
theorem dX8_year_167 : decode cX8_year 167 = .ok (.invokevirtual 122, 3) := by decide +kernel
theorem dX8_year_170 : decode cX8_year 170 = .ok (.goto 7, 3) := by decide +kernel
theorem dX8_year_173 : decode cX8_year 173 = .ok (.aload_n 0, 1) := by decide +kernel
theorem dX8_year_174 : decode cX8_year 174 = .ok (.invokevirtual 119, 3) := by decide +kernel
theorem dX8_year_177 : decode cX8_year 177 = .ok (.istore 8, 2) := by decide +kernel
theorem dX8_year_179 : decode cX8_year 179 = .ok (.iinc 5 1, 3) := by decide +kernel
theorem dX8_year_182 : decode cX8_year 182 = .ok (.goto (-139), 3) := by decide +kernel
theorem dX8_year_185 : decode cX8_year 185 = .ok (.bipush 96, 2) := by decide +kernel
theorem dX8_year_187 : decode cX8_year 187 = .ok (.istore 5, 2) := by decide +kernel
theorem dX8_year_189 : decode cX8_year 189 = .ok (.iconst 0, 1) := by decide +kernel
theorem dX8_year_190 : decode cX8_year 190 = .ok (.istore 6, 2) := by decide +kernel
theorem dX8_year_192 : decode cX8_year 192 = .ok (.iconst 0, 1) := by decide +kernel
theorem dX8_year_193 : decode cX8_year 193 = .ok (.istore 7, 2) := by decide +kernel
theorem dX8_year_195 : decode cX8_year 195 = .ok (.iload 7, 2) := by decide +kernel
theorem dX8_year_197 : decode cX8_year 197 = .ok (.bipush 6, 2) := by decide +kernel
theorem dX8_year_199 : decode cX8_year 199 = .ok (.if_icmp .ge 24, 3) := by decide +kernel
theorem dX8_year_202 : decode cX8_year 202 = .ok (.iload 5, 2) := by decide +kernel
theorem dX8_year_204 : decode cX8_year 204 = .ok (.aload_n 0, 1) := by decide +kernel
theorem dX8_year_205 : decode cX8_year 205 = .ok (.getfield 13, 3) := by decide +kernel
theorem dX8_year_208 : decode cX8_year 208 = .ok (.iload 7, 2) := by decide +kernel
theorem dX8_year_210 : decode cX8_year 210 = .ok (.iaload, 1) := by decide +kernel
theorem dX8_year_211 : decode cX8_year 211 = .ok (.invokestatic 134, 3) := by decide +kernel
theorem dX8_year_214 : decode cX8_year 214 = .ok (.isub, 1) := by decide +kernel
theorem dX8_year_215 : decode cX8_year 215 = .ok (.istore 5, 2) := by decide +kernel
theorem dX8_year_217 : decode cX8_year 217 = .ok (.iinc 7 1, 3) := by decide +kernel
theorem dX8_year_220 : decode cX8_year 220 = .ok (.goto (-25), 3) := by decide +kernel
theorem dX8_year_223 : decode cX8_year 223 = .ok (.iconst 0, 1) := by decide +kernel
theorem dX8_year_224 : decode cX8_year 224 = .ok (.istore 7, 2) := by decide +kernel
theorem dX8_year_226 : decode cX8_year 226 = .ok (.iload 7, 2) := by decide +kernel
theorem dX8_year_228 : decode cX8_year 228 = .ok (.bipush 10, 2) := by decide +kernel
theorem dX8_year_230 : decode cX8_year 230 = .ok (.if_icmp .ge 32, 3) := by decide +kernel
theorem dX8_year_233 : decode cX8_year 233 = .ok (.iload 6, 2) := by decide +kernel
theorem dX8_year_235 : decode cX8_year 235 = .ok (.aload_n 0, 1) := by decide +kernel
theorem dX8_year_236 : decode cX8_year 236 = .ok (.getfield 13, 3) := by decide +kernel
theorem dX8_year_239 : decode cX8_year 239 = .ok (.bipush 12, 2) := by decide +kernel
theorem dX8_year_241 : decode cX8_year 241 = .ok (.iload 7, 2) := by decide +kernel
theorem dX8_year_243 : decode cX8_year 243 = .ok (.iadd, 1) := by decide +kernel
theorem dX8_year_244 : decode cX8_year 244 = .ok (.iaload, 1) := by decide +kernel
theorem dX8_year_245 : decode cX8_year 245 = .ok (.ifCond .le 7, 3) := by decide +kernel
theorem dX8_year_248 : decode cX8_year 248 = .ok (.iconst 1, 1) := by decide +kernel
theorem dX8_year_249 : decode cX8_year 249 = .ok (.goto 4, 3) := by decide +kernel
theorem dX8_year_252 : decode cX8_year 252 = .ok (.iconst 0, 1) := by decide +kernel
theorem dX8_year_253 : decode cX8_year 253 = .ok (.iadd, 1) := by decide +kernel
theorem dX8_year_254 : decode cX8_year 254 = .ok (.istore 6, 2) := by decide +kernel
theorem dX8_year_256 : decode cX8_year 256 = .ok (.iinc 7 1, 3) := by decide +kernel
theorem dX8_year_259 : decode cX8_year 259 = .ok (.goto (-33), 3) := by decide +kernel
theorem dX8_year_262 : decode cX8_year 262 = .ok (.iload_n 3, 1) := by decide +kernel
theorem dX8_year_263 : decode cX8_year 263 = .ok (.ifCond .ne 8, 3) := by decide +kernel
theorem dX8_year_266 : decode cX8_year 266 = .ok (.iload 5, 2) := by decide +kernel
theorem dX8_year_268 : decode cX8_year 268 = .ok (.goto 17, 3) := by decide +kernel
theorem dX8_year_271 : decode cX8_year 271 = .ok (.iload_n 3, 1) := by decide +kernel
theorem dX8_year_272 : decode cX8_year 272 = .ok (.iconst 1, 1) := by decide +kernel
theorem dX8_year_273 : decode cX8_year 273 = .ok (.if_icmp .ne 10, 3) := by decide +kernel
theorem dX8_year_276 : decode cX8_year 276 = .ok (.aload_n 0, 1) := by decide +kernel
theorem dX8_year_277 : decode cX8_year 277 = .ok (.getfield 77, 3) := by decide +kernel
theorem dX8_year_280 : decode cX8_year 280 = .ok (.goto 5, 3) := by decide +kernel
theorem dX8_year_283 : decode cX8_year 283 = .ok (.iload 6, 2) := by decide +kernel
theorem dX8_year_285 : decode cX8_year 285 = .ok (.ireturn, 1) := by decide +kernel
theorem dX8_image_0 : decode cX8_image 0 = .ok (.iload_n 1, 1) := by decide +kernel
theorem dX8_image_1 : decode cX8_image 1 = .ok (.iconst 0, 1) := by decide +kernel
theorem dX8_image_2 : decode cX8_image 2 = .ok (.iconst 1, 1) := by decide +kernel
theorem dX8_image_3 : decode cX8_image 3 = .ok (.invokestatic 58, 3) := by decide +kernel
theorem dX8_image_6 : decode cX8_image 6 = .ok (.ifCond .ne 6, 3) := by decide +kernel
theorem dX8_image_9 : decode cX8_image 9 = .ok (.bipush (-2), 2) := by decide +kernel
theorem dX8_image_11 : decode cX8_image 11 = .ok (.ireturn, 1) := by decide +kernel
theorem dX8_image_12 : decode cX8_image 12 = .ok (.bipush 80, 2) := by decide +kernel
theorem dX8_image_14 : decode cX8_image 14 = .ok (.iload_n 1, 1) := by decide +kernel
theorem dX8_image_15 : decode cX8_image 15 = .ok (.imul, 1) := by decide +kernel
theorem dX8_image_16 : decode cX8_image 16 = .ok (.istore_n 2, 1) := by decide +kernel
theorem dX8_image_17 : decode cX8_image 17 = .ok (.iconst 0, 1) := by decide +kernel
theorem dX8_image_18 : decode cX8_image 18 = .ok (.istore_n 3, 1) := by decide +kernel
theorem dX8_image_19 : decode cX8_image 19 = .ok (.iload_n 3, 1) := by decide +kernel
theorem dX8_image_20 : decode cX8_image 20 = .ok (.bipush 24, 2) := by decide +kernel
theorem dX8_image_22 : decode cX8_image 22 = .ok (.if_icmp .ge 23, 3) := by decide +kernel
theorem dX8_image_25 : decode cX8_image 25 = .ok (.aload_n 0, 1) := by decide +kernel
theorem dX8_image_26 : decode cX8_image 26 = .ok (.getfield 48, 3) := by decide +kernel
theorem dX8_image_29 : decode cX8_image 29 = .ok (.iload_n 2, 1) := by decide +kernel
theorem dX8_image_30 : decode cX8_image 30 = .ok (.iload_n 3, 1) := by decide +kernel
theorem dX8_image_31 : decode cX8_image 31 = .ok (.iadd, 1) := by decide +kernel
theorem dX8_image_32 : decode cX8_image 32 = .ok (.aload_n 0, 1) := by decide +kernel
theorem dX8_image_33 : decode cX8_image 33 = .ok (.getfield 7, 3) := by decide +kernel
theorem dX8_image_36 : decode cX8_image 36 = .ok (.iload_n 3, 1) := by decide +kernel
theorem dX8_image_37 : decode cX8_image 37 = .ok (.iaload, 1) := by decide +kernel
theorem dX8_image_38 : decode cX8_image 38 = .ok (.iastore, 1) := by decide +kernel
theorem dX8_image_39 : decode cX8_image 39 = .ok (.iinc 3 1, 3) := by decide +kernel
theorem dX8_image_42 : decode cX8_image 42 = .ok (.goto (-23), 3) := by decide +kernel
theorem dX8_image_45 : decode cX8_image 45 = .ok (.iconst 0, 1) := by decide +kernel
theorem dX8_image_46 : decode cX8_image 46 = .ok (.istore_n 3, 1) := by decide +kernel
theorem dX8_image_47 : decode cX8_image 47 = .ok (.iload_n 3, 1) := by decide +kernel
theorem dX8_image_48 : decode cX8_image 48 = .ok (.bipush 10, 2) := by decide +kernel
theorem dX8_image_50 : decode cX8_image 50 = .ok (.if_icmp .ge 43, 3) := by decide +kernel
theorem dX8_image_53 : decode cX8_image 53 = .ok (.aload_n 0, 1) := by decide +kernel
theorem dX8_image_54 : decode cX8_image 54 = .ok (.getfield 48, 3) := by decide +kernel
theorem dX8_image_57 : decode cX8_image 57 = .ok (.iload_n 2, 1) := by decide +kernel
theorem dX8_image_58 : decode cX8_image 58 = .ok (.bipush 24, 2) := by decide +kernel
theorem dX8_image_60 : decode cX8_image 60 = .ok (.iadd, 1) := by decide +kernel
theorem dX8_image_61 : decode cX8_image 61 = .ok (.iload_n 3, 1) := by decide +kernel
theorem dX8_image_62 : decode cX8_image 62 = .ok (.iadd, 1) := by decide +kernel
theorem dX8_image_63 : decode cX8_image 63 = .ok (.aload_n 0, 1) := by decide +kernel
theorem dX8_image_64 : decode cX8_image 64 = .ok (.getfield 16, 3) := by decide +kernel
theorem dX8_image_67 : decode cX8_image 67 = .ok (.iload_n 3, 1) := by decide +kernel
theorem dX8_image_68 : decode cX8_image 68 = .ok (.iaload, 1) := by decide +kernel
theorem dX8_image_69 : decode cX8_image 69 = .ok (.iastore, 1) := by decide +kernel
theorem dX8_image_70 : decode cX8_image 70 = .ok (.aload_n 0, 1) := by decide +kernel
theorem dX8_image_71 : decode cX8_image 71 = .ok (.getfield 48, 3) := by decide +kernel
theorem dX8_image_74 : decode cX8_image 74 = .ok (.iload_n 2, 1) := by decide +kernel
theorem dX8_image_75 : decode cX8_image 75 = .ok (.bipush 34, 2) := by decide +kernel
theorem dX8_image_77 : decode cX8_image 77 = .ok (.iadd, 1) := by decide +kernel
theorem dX8_image_78 : decode cX8_image 78 = .ok (.iload_n 3, 1) := by decide +kernel
theorem dX8_image_79 : decode cX8_image 79 = .ok (.iadd, 1) := by decide +kernel
theorem dX8_image_80 : decode cX8_image 80 = .ok (.aload_n 0, 1) := by decide +kernel
theorem dX8_image_81 : decode cX8_image 81 = .ok (.getfield 19, 3) := by decide +kernel
theorem dX8_image_84 : decode cX8_image 84 = .ok (.iload_n 3, 1) := by decide +kernel
theorem dX8_image_85 : decode cX8_image 85 = .ok (.iaload, 1) := by decide +kernel
theorem dX8_image_86 : decode cX8_image 86 = .ok (.iastore, 1) := by decide +kernel
theorem dX8_image_87 : decode cX8_image 87 = .ok (.iinc 3 1, 3) := by decide +kernel
theorem dX8_image_90 : decode cX8_image 90 = .ok (.goto (-43), 3) := by decide +kernel
theorem dX8_image_93 : decode cX8_image 93 = .ok (.iconst 0, 1) := by decide +kernel
theorem dX8_image_94 : decode cX8_image 94 = .ok (.istore_n 3, 1) := by decide +kernel
theorem dX8_image_95 : decode cX8_image 95 = .ok (.iload_n 3, 1) := by decide +kernel
theorem dX8_image_96 : decode cX8_image 96 = .ok (.bipush 16, 2) := by decide +kernel
theorem dX8_image_98 : decode cX8_image 98 = .ok (.if_icmp .ge 26, 3) := by decide +kernel
theorem dX8_image_101 : decode cX8_image 101 = .ok (.aload_n 0, 1) := by decide +kernel
theorem dX8_image_102 : decode cX8_image 102 = .ok (.getfield 48, 3) := by decide +kernel
theorem dX8_image_105 : decode cX8_image 105 = .ok (.iload_n 2, 1) := by decide +kernel
theorem dX8_image_106 : decode cX8_image 106 = .ok (.bipush 44, 2) := by decide +kernel
theorem dX8_image_108 : decode cX8_image 108 = .ok (.iadd, 1) := by decide +kernel
theorem dX8_image_109 : decode cX8_image 109 = .ok (.iload_n 3, 1) := by decide +kernel
theorem dX8_image_110 : decode cX8_image 110 = .ok (.iadd, 1) := by decide +kernel
theorem dX8_image_111 : decode cX8_image 111 = .ok (.aload_n 0, 1) := by decide +kernel
theorem dX8_image_112 : decode cX8_image 112 = .ok (.getfield 25, 3) := by decide +kernel
theorem dX8_image_115 : decode cX8_image 115 = .ok (.iload_n 3, 1) := by decide +kernel
theorem dX8_image_116 : decode cX8_image 116 = .ok (.iaload, 1) := by decide +kernel
theorem dX8_image_117 : decode cX8_image 117 = .ok (.iastore, 1) := by decide +kernel
theorem dX8_image_118 : decode cX8_image 118 = .ok (.iinc 3 1, 3) := by decide +kernel
theorem dX8_image_121 : decode cX8_image 121 = .ok (.goto (-26), 3) := by decide +kernel
theorem dX8_image_124 : decode cX8_image 124 = .ok (.iconst 0, 1) := by decide +kernel
theorem dX8_image_125 : decode cX8_image 125 = .ok (.istore_n 3, 1) := by decide +kernel
theorem dX8_image_126 : decode cX8_image 126 = .ok (.iload_n 3, 1) := by decide +kernel
theorem dX8_image_127 : decode cX8_image 127 = .ok (.iconst 5, 1) := by decide +kernel
theorem dX8_image_128 : decode cX8_image 128 = .ok (.if_icmp .ge 26, 3) := by decide +kernel
theorem dX8_image_131 : decode cX8_image 131 = .ok (.aload_n 0, 1) := by decide +kernel
theorem dX8_image_132 : decode cX8_image 132 = .ok (.getfield 48, 3) := by decide +kernel
theorem dX8_image_135 : decode cX8_image 135 = .ok (.iload_n 2, 1) := by decide +kernel
theorem dX8_image_136 : decode cX8_image 136 = .ok (.bipush 60, 2) := by decide +kernel
theorem dX8_image_138 : decode cX8_image 138 = .ok (.iadd, 1) := by decide +kernel
theorem dX8_image_139 : decode cX8_image 139 = .ok (.iload_n 3, 1) := by decide +kernel
theorem dX8_image_140 : decode cX8_image 140 = .ok (.iadd, 1) := by decide +kernel
theorem dX8_image_141 : decode cX8_image 141 = .ok (.aload_n 0, 1) := by decide +kernel
theorem dX8_image_142 : decode cX8_image 142 = .ok (.getfield 22, 3) := by decide +kernel
theorem dX8_image_145 : decode cX8_image 145 = .ok (.iload_n 3, 1) := by decide +kernel
theorem dX8_image_146 : decode cX8_image 146 = .ok (.iaload, 1) := by decide +kernel
theorem dX8_image_147 : decode cX8_image 147 = .ok (.iastore, 1) := by decide +kernel
theorem dX8_image_148 : decode cX8_image 148 = .ok (.iinc 3 1, 3) := by decide +kernel
theorem dX8_image_151 : decode cX8_image 151 = .ok (.goto (-25), 3) := by decide +kernel
theorem dX8_image_154 : decode cX8_image 154 = .ok (.aload_n 0, 1) := by decide +kernel
theorem dX8_image_155 : decode cX8_image 155 = .ok (.getfield 48, 3) := by decide +kernel
theorem dX8_image_158 : decode cX8_image 158 = .ok (.iload_n 2, 1) := by decide +kernel
theorem dX8_image_159 : decode cX8_image 159 = .ok (.bipush 70, 2) := by decide +kernel
theorem dX8_image_161 : decode cX8_image 161 = .ok (.iadd, 1) := by decide +kernel
theorem dX8_image_162 : decode cX8_image 162 = .ok (.aload_n 0, 1) := by decide +kernel
theorem dX8_image_163 : decode cX8_image 163 = .ok (.getfield 54, 3) := by decide +kernel
theorem dX8_image_166 : decode cX8_image 166 = .ok (.iastore, 1) := by decide +kernel
theorem dX8_image_167 : decode cX8_image 167 = .ok (.aload_n 0, 1) := by decide +kernel
theorem dX8_image_168 : decode cX8_image 168 = .ok (.getfield 51, 3) := by decide +kernel
theorem dX8_image_171 : decode cX8_image 171 = .ok (.iload_n 1, 1) := by decide +kernel
theorem dX8_image_172 : decode cX8_image 172 = .ok (.iconst 1, 1) := by decide +kernel
theorem dX8_image_173 : decode cX8_image 173 = .ok (.bastore, 1) := by decide +kernel
theorem dX8_image_174 : decode cX8_image 174 = .ok (.iconst 1, 1) := by decide +kernel
theorem dX8_image_175 : decode cX8_image 175 = .ok (.ireturn, 1) := by decide +kernel
theorem dX8_restore_0 : decode cX8_restore 0 = .ok (.iload_n 1, 1) := by decide +kernel
theorem dX8_restore_1 : decode cX8_restore 1 = .ok (.iconst 0, 1) := by decide +kernel
theorem dX8_restore_2 : decode cX8_restore 2 = .ok (.iconst 1, 1) := by decide +kernel
theorem dX8_restore_3 : decode cX8_restore 3 = .ok (.invokestatic 58, 3) := by decide +kernel
theorem dX8_restore_6 : decode cX8_restore 6 = .ok (.ifCond .ne 6, 3) := by decide +kernel
theorem dX8_restore_9 : decode cX8_restore 9 = .ok (.bipush (-2), 2) := by decide +kernel
theorem dX8_restore_11 : decode cX8_restore 11 = .ok (.ireturn, 1) := by decide +kernel
theorem dX8_restore_12 : decode cX8_restore 12 = .ok (.aload_n 0, 1) := by decide +kernel
theorem dX8_restore_13 : decode cX8_restore 13 = .ok (.getfield 51, 3) := by decide +kernel
theorem dX8_restore_16 : decode cX8_restore 16 = .ok (.iload_n 1, 1) := by decide +kernel
theorem dX8_restore_17 : decode cX8_restore 17 = .ok (.baload, 1) := by decide +kernel
theorem dX8_restore_18 : decode cX8_restore 18 = .ok (.ifCond .ne 6, 3) := by decide +kernel
theorem dX8_restore_21 : decode cX8_restore 21 = .ok (.bipush (-3), 2) := by decide +kernel
theorem dX8_restore_23 : decode cX8_restore 23 = .ok (.ireturn, 1) := by decide +kernel
theorem dX8_restore_24 : decode cX8_restore 24 = .ok (.bipush 80, 2) := by decide +kernel
theorem dX8_restore_26 : decode cX8_restore 26 = .ok (.iload_n 1, 1) := by decide +kernel
theorem dX8_restore_27 : decode cX8_restore 27 = .ok (.imul, 1) := by decide +kernel
theorem dX8_restore_28 : decode cX8_restore 28 = .ok (.istore_n 2, 1) := by decide +kernel
theorem dX8_restore_29 : decode cX8_restore 29 = .ok (.iconst 0, 1) := by decide +kernel
theorem dX8_restore_30 : decode cX8_restore 30 = .ok (.istore_n 3, 1) := by decide +kernel
theorem dX8_restore_31 : decode cX8_restore 31 = .ok (.iload_n 3, 1) := by decide +kernel
theorem dX8_restore_32 : decode cX8_restore 32 = .ok (.bipush 24, 2) := by decide +kernel
theorem dX8_restore_34 : decode cX8_restore 34 = .ok (.if_icmp .ge 23, 3) := by decide +kernel
theorem dX8_restore_37 : decode cX8_restore 37 = .ok (.aload_n 0, 1) := by decide +kernel
theorem dX8_restore_38 : decode cX8_restore 38 = .ok (.getfield 7, 3) := by decide +kernel
theorem dX8_restore_41 : decode cX8_restore 41 = .ok (.iload_n 3, 1) := by decide +kernel
theorem dX8_restore_42 : decode cX8_restore 42 = .ok (.aload_n 0, 1) := by decide +kernel
theorem dX8_restore_43 : decode cX8_restore 43 = .ok (.getfield 48, 3) := by decide +kernel
theorem dX8_restore_46 : decode cX8_restore 46 = .ok (.iload_n 2, 1) := by decide +kernel
theorem dX8_restore_47 : decode cX8_restore 47 = .ok (.iload_n 3, 1) := by decide +kernel
theorem dX8_restore_48 : decode cX8_restore 48 = .ok (.iadd, 1) := by decide +kernel
theorem dX8_restore_49 : decode cX8_restore 49 = .ok (.iaload, 1) := by decide +kernel
theorem dX8_restore_50 : decode cX8_restore 50 = .ok (.iastore, 1) := by decide +kernel
theorem dX8_restore_51 : decode cX8_restore 51 = .ok (.iinc 3 1, 3) := by decide +kernel
theorem dX8_restore_54 : decode cX8_restore 54 = .ok (.goto (-23), 3) := by decide +kernel
theorem dX8_restore_57 : decode cX8_restore 57 = .ok (.iconst 0, 1) := by decide +kernel
theorem dX8_restore_58 : decode cX8_restore 58 = .ok (.istore_n 3, 1) := by decide +kernel
theorem dX8_restore_59 : decode cX8_restore 59 = .ok (.iload_n 3, 1) := by decide +kernel
theorem dX8_restore_60 : decode cX8_restore 60 = .ok (.bipush 10, 2) := by decide +kernel
theorem dX8_restore_62 : decode cX8_restore 62 = .ok (.if_icmp .ge 43, 3) := by decide +kernel
theorem dX8_restore_65 : decode cX8_restore 65 = .ok (.aload_n 0, 1) := by decide +kernel
theorem dX8_restore_66 : decode cX8_restore 66 = .ok (.getfield 16, 3) := by decide +kernel
theorem dX8_restore_69 : decode cX8_restore 69 = .ok (.iload_n 3, 1) := by decide +kernel
theorem dX8_restore_70 : decode cX8_restore 70 = .ok (.aload_n 0, 1) := by decide +kernel
theorem dX8_restore_71 : decode cX8_restore 71 = .ok (.getfield 48, 3) := by decide +kernel
theorem dX8_restore_74 : decode cX8_restore 74 = .ok (.iload_n 2, 1) := by decide +kernel
theorem dX8_restore_75 : decode cX8_restore 75 = .ok (.bipush 24, 2) := by decide +kernel
theorem dX8_restore_77 : decode cX8_restore 77 = .ok (.iadd, 1) := by decide +kernel
theorem dX8_restore_78 : decode cX8_restore 78 = .ok (.iload_n 3, 1) := by decide +kernel
theorem dX8_restore_79 : decode cX8_restore 79 = .ok (.iadd, 1) := by decide +kernel
theorem dX8_restore_80 : decode cX8_restore 80 = .ok (.iaload, 1) := by decide +kernel
theorem dX8_restore_81 : decode cX8_restore 81 = .ok (.iastore, 1) := by decide +kernel
theorem dX8_restore_82 : decode cX8_restore 82 = .ok (.aload_n 0, 1) := by decide +kernel
theorem dX8_restore_83 : decode cX8_restore 83 = .ok (.getfield 19, 3) := by decide +kernel
theorem dX8_restore_86 : decode cX8_restore 86 = .ok (.iload_n 3, 1) := by decide +kernel
theorem dX8_restore_87 : decode cX8_restore 87 = .ok (.aload_n 0, 1) := by decide +kernel
theorem dX8_restore_88 : decode cX8_restore 88 = .ok (.getfield 48, 3) := by decide +kernel
theorem dX8_restore_91 : decode cX8_restore 91 = .ok (.iload_n 2, 1) := by decide +kernel
theorem dX8_restore_92 : decode cX8_restore 92 = .ok (.bipush 34, 2) := by decide +kernel
theorem dX8_restore_94 : decode cX8_restore 94 = .ok (.iadd, 1) := by decide +kernel
theorem dX8_restore_95 : decode cX8_restore 95 = .ok (.iload_n 3, 1) := by decide +kernel
theorem dX8_restore_96 : decode cX8_restore 96 = .ok (.iadd, 1) := by decide +kernel
theorem dX8_restore_97 : decode cX8_restore 97 = .ok (.iaload, 1) := by decide +kernel
theorem dX8_restore_98 : decode cX8_restore 98 = .ok (.iastore, 1) := by decide +kernel
theorem dX8_restore_99 : decode cX8_restore 99 = .ok (.iinc 3 1, 3) := by decide +kernel
theorem dX8_restore_102 : decode cX8_restore 102 = .ok (.goto (-43), 3) := by decide +kernel
theorem dX8_restore_105 : decode cX8_restore 105 = .ok (.iconst 0, 1) := by decide +kernel
theorem dX8_restore_106 : decode cX8_restore 106 = .ok (.istore_n 3, 1) := by decide +kernel
theorem dX8_restore_107 : decode cX8_restore 107 = .ok (.iload_n 3, 1) := by decide +kernel
theorem dX8_restore_108 : decode cX8_restore 108 = .ok (.bipush 16, 2) := by decide +kernel
theorem dX8_restore_110 : decode cX8_restore 110 = .ok (.if_icmp .ge 26, 3) := by decide +kernel
theorem dX8_restore_113 : decode cX8_restore 113 = .ok (.aload_n 0, 1) := by decide +kernel
theorem dX8_restore_114 : decode cX8_restore 114 = .ok (.getfield 25, 3) := by decide +kernel
theorem dX8_restore_117 : decode cX8_restore 117 = .ok (.iload_n 3, 1) := by decide +kernel
theorem dX8_restore_118 : decode cX8_restore 118 = .ok (.aload_n 0, 1) := by decide +kernel
theorem dX8_restore_119 : decode cX8_restore 119 = .ok (.getfield 48, 3) := by decide +kernel
theorem dX8_restore_122 : decode cX8_restore 122 = .ok (.iload_n 2, 1) := by decide +kernel
theorem dX8_restore_123 : decode cX8_restore 123 = .ok (.bipush 44, 2) := by decide +kernel
theorem dX8_restore_125 : decode cX8_restore 125 = .ok (.iadd, 1) := by decide +kernel
theorem dX8_restore_126 : decode cX8_restore 126 = .ok (.iload_n 3, 1) := by decide +kernel
theorem dX8_restore_127 : decode cX8_restore 127 = .ok (.iadd, 1) := by decide +kernel
theorem dX8_restore_128 : decode cX8_restore 128 = .ok (.iaload, 1) := by decide +kernel
theorem dX8_restore_129 : decode cX8_restore 129 = .ok (.iastore, 1) := by decide +kernel
theorem dX8_restore_130 : decode cX8_restore 130 = .ok (.iinc 3 1, 3) := by decide +kernel
theorem dX8_restore_133 : decode cX8_restore 133 = .ok (.goto (-26), 3) := by decide +kernel
theorem dX8_restore_136 : decode cX8_restore 136 = .ok (.iconst 0, 1) := by decide +kernel
theorem dX8_restore_137 : decode cX8_restore 137 = .ok (.istore_n 3, 1) := by decide +kernel
theorem dX8_restore_138 : decode cX8_restore 138 = .ok (.iload_n 3, 1) := by decide +kernel
theorem dX8_restore_139 : decode cX8_restore 139 = .ok (.iconst 5, 1) := by decide +kernel
theorem dX8_restore_140 : decode cX8_restore 140 = .ok (.if_icmp .ge 26, 3) := by decide +kernel
theorem dX8_restore_143 : decode cX8_restore 143 = .ok (.aload_n 0, 1) := by decide +kernel
theorem dX8_restore_144 : decode cX8_restore 144 = .ok (.getfield 22, 3) := by decide +kernel
theorem dX8_restore_147 : decode cX8_restore 147 = .ok (.iload_n 3, 1) := by decide +kernel
theorem dX8_restore_148 : decode cX8_restore 148 = .ok (.aload_n 0, 1) := by decide +kernel
theorem dX8_restore_149 : decode cX8_restore 149 = .ok (.getfield 48, 3) := by decide +kernel
theorem dX8_restore_152 : decode cX8_restore 152 = .ok (.iload_n 2, 1) := by decide +kernel
theorem dX8_restore_153 : decode cX8_restore 153 = .ok (.bipush 60, 2) := by decide +kernel
theorem dX8_restore_155 : decode cX8_restore 155 = .ok (.iadd, 1) := by decide +kernel
theorem dX8_restore_156 : decode cX8_restore 156 = .ok (.iload_n 3, 1) := by decide +kernel
theorem dX8_restore_157 : decode cX8_restore 157 = .ok (.iadd, 1) := by decide +kernel
theorem dX8_restore_158 : decode cX8_restore 158 = .ok (.iaload, 1) := by decide +kernel
theorem dX8_restore_159 : decode cX8_restore 159 = .ok (.iastore, 1) := by decide +kernel
theorem dX8_restore_160 : decode cX8_restore 160 = .ok (.iinc 3 1, 3) := by decide +kernel
theorem dX8_restore_163 : decode cX8_restore 163 = .ok (.goto (-25), 3) := by decide +kernel
theorem dX8_restore_166 : decode cX8_restore 166 = .ok (.aload_n 0, 1) := by decide +kernel
theorem dX8_restore_167 : decode cX8_restore 167 = .ok (.aload_n 0, 1) := by decide +kernel
theorem dX8_restore_168 : decode cX8_restore 168 = .ok (.getfield 48, 3) := by decide +kernel
theorem dX8_restore_171 : decode cX8_restore 171 = .ok (.iload_n 2, 1) := by decide +kernel
theorem dX8_restore_172 : decode cX8_restore 172 = .ok (.bipush 70, 2) := by decide +kernel
theorem dX8_restore_174 : decode cX8_restore 174 = .ok (.iadd, 1) := by decide +kernel
theorem dX8_restore_175 : decode cX8_restore 175 = .ok (.iaload, 1) := by decide +kernel
theorem dX8_restore_176 : decode cX8_restore 176 = .ok (.putfield 54, 3) := by decide +kernel
theorem dX8_restore_179 : decode cX8_restore 179 = .ok (.iconst 1, 1) := by decide +kernel
theorem dX8_restore_180 : decode cX8_restore 180 = .ok (.ireturn, 1) := by decide +kernel
theorem dX8_toldFalse_0 : decode cX8_toldFalse 0 = .ok (.iconst 0, 1) := by decide +kernel
theorem dX8_toldFalse_1 : decode cX8_toldFalse 1 = .ok (.istore_n 1, 1) := by decide +kernel
theorem dX8_toldFalse_2 : decode cX8_toldFalse 2 = .ok (.iconst 0, 1) := by decide +kernel
theorem dX8_toldFalse_3 : decode cX8_toldFalse 3 = .ok (.istore_n 2, 1) := by decide +kernel
theorem dX8_toldFalse_4 : decode cX8_toldFalse 4 = .ok (.iload_n 2, 1) := by decide +kernel
theorem dX8_toldFalse_5 : decode cX8_toldFalse 5 = .ok (.bipush 10, 2) := by decide +kernel
theorem dX8_toldFalse_7 : decode cX8_toldFalse 7 = .ok (.if_icmp .ge 31, 3) := by decide +kernel
theorem dX8_toldFalse_10 : decode cX8_toldFalse 10 = .ok (.iload_n 1, 1) := by decide +kernel
theorem dX8_toldFalse_11 : decode cX8_toldFalse 11 = .ok (.aload_n 0, 1) := by decide +kernel
theorem dX8_toldFalse_12 : decode cX8_toldFalse 12 = .ok (.getfield 7, 3) := by decide +kernel
theorem dX8_toldFalse_15 : decode cX8_toldFalse 15 = .ok (.bipush 12, 2) := by decide +kernel
theorem dX8_toldFalse_17 : decode cX8_toldFalse 17 = .ok (.iload_n 2, 1) := by decide +kernel
theorem dX8_toldFalse_18 : decode cX8_toldFalse 18 = .ok (.iadd, 1) := by decide +kernel
theorem dX8_toldFalse_19 : decode cX8_toldFalse 19 = .ok (.iaload, 1) := by decide +kernel
theorem dX8_toldFalse_20 : decode cX8_toldFalse 20 = .ok (.ifCond .le 9, 3) := by decide +kernel
theorem dX8_toldFalse_23 : decode cX8_toldFalse 23 = .ok (.iconst 1, 1) := by decide +kernel
theorem dX8_toldFalse_24 : decode cX8_toldFalse 24 = .ok (.iload_n 2, 1) := by decide +kernel
theorem dX8_toldFalse_25 : decode cX8_toldFalse 25 = .ok (.ishl, 1) := by decide +kernel
theorem dX8_toldFalse_26 : decode cX8_toldFalse 26 = .ok (.goto 4, 3) := by decide +kernel
theorem dX8_toldFalse_29 : decode cX8_toldFalse 29 = .ok (.iconst 0, 1) := by decide +kernel
theorem dX8_toldFalse_30 : decode cX8_toldFalse 30 = .ok (.ior, 1) := by decide +kernel
theorem dX8_toldFalse_31 : decode cX8_toldFalse 31 = .ok (.istore_n 1, 1) := by decide +kernel
theorem dX8_toldFalse_32 : decode cX8_toldFalse 32 = .ok (.iinc 2 1, 3) := by decide +kernel
theorem dX8_toldFalse_35 : decode cX8_toldFalse 35 = .ok (.goto (-31), 3) := by decide +kernel
theorem dX8_toldFalse_38 : decode cX8_toldFalse 38 = .ok (.iload_n 1, 1) := by decide +kernel
theorem dX8_toldFalse_39 : decode cX8_toldFalse 39 = .ok (.ireturn, 1) := by decide +kernel
theorem dX8_told_0 : decode cX8_told 0 = .ok (.iload_n 1, 1) := by decide +kernel
theorem dX8_told_1 : decode cX8_told 1 = .ok (.sipush 200, 3) := by decide +kernel
theorem dX8_told_4 : decode cX8_told 4 = .ok (.if_icmp .lt 32, 3) := by decide +kernel
theorem dX8_told_7 : decode cX8_told 7 = .ok (.iload_n 1, 1) := by decide +kernel
theorem dX8_told_8 : decode cX8_told 8 = .ok (.sipush 200, 3) := by decide +kernel
theorem dX8_told_11 : decode cX8_told 11 = .ok (.sipush 204, 3) := by decide +kernel
theorem dX8_told_14 : decode cX8_told 14 = .ok (.invokestatic 58, 3) := by decide +kernel
theorem dX8_told_17 : decode cX8_told 17 = .ok (.ifCond .eq 16, 3) := by decide +kernel
theorem dX8_told_20 : decode cX8_told 20 = .ok (.aload_n 0, 1) := by decide +kernel
theorem dX8_told_21 : decode cX8_told 21 = .ok (.getfield 22, 3) := by decide +kernel
theorem dX8_told_24 : decode cX8_told 24 = .ok (.iload_n 1, 1) := by decide +kernel
theorem dX8_told_25 : decode cX8_told 25 = .ok (.sipush 200, 3) := by decide +kernel
theorem dX8_told_28 : decode cX8_told 28 = .ok (.isub, 1) := by decide +kernel
theorem dX8_told_29 : decode cX8_told 29 = .ok (.iaload, 1) := by decide +kernel
theorem dX8_told_30 : decode cX8_told 30 = .ok (.goto 5, 3) := by decide +kernel
theorem dX8_told_33 : decode cX8_told 33 = .ok (.bipush (-2), 2) := by decide +kernel
theorem dX8_told_35 : decode cX8_told 35 = .ok (.ireturn, 1) := by decide +kernel
theorem dX8_told_36 : decode cX8_told 36 = .ok (.iload_n 1, 1) := by decide +kernel
theorem dX8_told_37 : decode cX8_told 37 = .ok (.bipush 100, 2) := by decide +kernel
theorem dX8_told_39 : decode cX8_told 39 = .ok (.if_icmp .lt 78, 3) := by decide +kernel
theorem dX8_told_42 : decode cX8_told 42 = .ok (.iload_n 1, 1) := by decide +kernel
theorem dX8_told_43 : decode cX8_told 43 = .ok (.bipush 10, 2) := by decide +kernel
theorem dX8_told_45 : decode cX8_told 45 = .ok (.idiv, 1) := by decide +kernel
theorem dX8_told_46 : decode cX8_told 46 = .ok (.bipush 10, 2) := by decide +kernel
theorem dX8_told_48 : decode cX8_told 48 = .ok (.isub, 1) := by decide +kernel
theorem dX8_told_49 : decode cX8_told 49 = .ok (.istore_n 2, 1) := by decide +kernel
theorem dX8_told_50 : decode cX8_told 50 = .ok (.iload_n 1, 1) := by decide +kernel
theorem dX8_told_51 : decode cX8_told 51 = .ok (.bipush 10, 2) := by decide +kernel
theorem dX8_told_53 : decode cX8_told 53 = .ok (.irem, 1) := by decide +kernel
theorem dX8_told_54 : decode cX8_told 54 = .ok (.lookupswitch 40 #[(0, 26), (1, 33)], 26) := by decide +kernel
theorem dX8_told_80 : decode cX8_told 80 = .ok (.aload_n 0, 1) := by decide +kernel
theorem dX8_told_81 : decode cX8_told 81 = .ok (.getfield 16, 3) := by decide +kernel
theorem dX8_told_84 : decode cX8_told 84 = .ok (.iload_n 2, 1) := by decide +kernel
theorem dX8_told_85 : decode cX8_told 85 = .ok (.iaload, 1) := by decide +kernel
theorem dX8_told_86 : decode cX8_told 86 = .ok (.ireturn, 1) := by decide +kernel
theorem dX8_told_87 : decode cX8_told 87 = .ok (.aload_n 0, 1) := by decide +kernel
theorem dX8_told_88 : decode cX8_told 88 = .ok (.getfield 19, 3) := by decide +kernel
theorem dX8_told_91 : decode cX8_told 91 = .ok (.iload_n 2, 1) := by decide +kernel
theorem dX8_told_92 : decode cX8_told 92 = .ok (.iaload, 1) := by decide +kernel
theorem dX8_told_93 : decode cX8_told 93 = .ok (.ireturn, 1) := by decide +kernel
theorem dX8_told_94 : decode cX8_told 94 = .ok (.iload_n 1, 1) := by decide +kernel
theorem dX8_told_95 : decode cX8_told 95 = .ok (.bipush 10, 2) := by decide +kernel
theorem dX8_told_97 : decode cX8_told 97 = .ok (.irem, 1) := by decide +kernel
theorem dX8_told_98 : decode cX8_told 98 = .ok (.iconst 2, 1) := by decide +kernel
theorem dX8_told_99 : decode cX8_told 99 = .ok (.if_icmp .ne 15, 3) := by decide +kernel
theorem dX8_told_102 : decode cX8_told 102 = .ok (.aload_n 0, 1) := by decide +kernel
theorem dX8_told_103 : decode cX8_told 103 = .ok (.getfield 7, 3) := by decide +kernel
theorem dX8_told_106 : decode cX8_told 106 = .ok (.bipush 12, 2) := by decide +kernel
theorem dX8_told_108 : decode cX8_told 108 = .ok (.iload_n 2, 1) := by decide +kernel
theorem dX8_told_109 : decode cX8_told 109 = .ok (.iadd, 1) := by decide +kernel
theorem dX8_told_110 : decode cX8_told 110 = .ok (.iaload, 1) := by decide +kernel
theorem dX8_told_111 : decode cX8_told 111 = .ok (.goto 5, 3) := by decide +kernel
theorem dX8_told_114 : decode cX8_told 114 = .ok (.bipush (-2), 2) := by decide +kernel
theorem dX8_told_116 : decode cX8_told 116 = .ok (.ireturn, 1) := by decide +kernel
theorem dX8_told_117 : decode cX8_told 117 = .ok (.iload_n 1, 1) := by decide +kernel
theorem dX8_told_118 : decode cX8_told 118 = .ok (.bipush 10, 2) := by decide +kernel
theorem dX8_told_120 : decode cX8_told 120 = .ok (.if_icmp .lt 45, 3) := by decide +kernel
theorem dX8_told_123 : decode cX8_told 123 = .ok (.iload_n 1, 1) := by decide +kernel
theorem dX8_told_124 : decode cX8_told 124 = .ok (.bipush 10, 2) := by decide +kernel
theorem dX8_told_126 : decode cX8_told 126 = .ok (.idiv, 1) := by decide +kernel
theorem dX8_told_127 : decode cX8_told 127 = .ok (.iconst 1, 1) := by decide +kernel
theorem dX8_told_128 : decode cX8_told 128 = .ok (.isub, 1) := by decide +kernel
theorem dX8_told_129 : decode cX8_told 129 = .ok (.istore_n 2, 1) := by decide +kernel
theorem dX8_told_130 : decode cX8_told 130 = .ok (.iload_n 2, 1) := by decide +kernel
theorem dX8_told_131 : decode cX8_told 131 = .ok (.invokestatic 62, 3) := by decide +kernel
theorem dX8_told_134 : decode cX8_told 134 = .ok (.ifCond .eq 28, 3) := by decide +kernel
theorem dX8_told_137 : decode cX8_told 137 = .ok (.iload_n 1, 1) := by decide +kernel
theorem dX8_told_138 : decode cX8_told 138 = .ok (.bipush 10, 2) := by decide +kernel
theorem dX8_told_140 : decode cX8_told 140 = .ok (.irem, 1) := by decide +kernel
theorem dX8_told_141 : decode cX8_told 141 = .ok (.iconst 2, 1) := by decide +kernel
theorem dX8_told_142 : decode cX8_told 142 = .ok (.if_icmp .ge 20, 3) := by decide +kernel
theorem dX8_told_145 : decode cX8_told 145 = .ok (.aload_n 0, 1) := by decide +kernel
theorem dX8_told_146 : decode cX8_told 146 = .ok (.getfield 7, 3) := by decide +kernel
theorem dX8_told_149 : decode cX8_told 149 = .ok (.bipush 6, 2) := by decide +kernel
theorem dX8_told_151 : decode cX8_told 151 = .ok (.iload_n 1, 1) := by decide +kernel
theorem dX8_told_152 : decode cX8_told 152 = .ok (.bipush 10, 2) := by decide +kernel
theorem dX8_told_154 : decode cX8_told 154 = .ok (.irem, 1) := by decide +kernel
theorem dX8_told_155 : decode cX8_told 155 = .ok (.imul, 1) := by decide +kernel
theorem dX8_told_156 : decode cX8_told 156 = .ok (.iload_n 2, 1) := by decide +kernel
theorem dX8_told_157 : decode cX8_told 157 = .ok (.iadd, 1) := by decide +kernel
theorem dX8_told_158 : decode cX8_told 158 = .ok (.iaload, 1) := by decide +kernel
theorem dX8_told_159 : decode cX8_told 159 = .ok (.goto 5, 3) := by decide +kernel
theorem dX8_told_162 : decode cX8_told 162 = .ok (.bipush (-2), 2) := by decide +kernel
theorem dX8_told_164 : decode cX8_told 164 = .ok (.ireturn, 1) := by decide +kernel
theorem dX8_told_165 : decode cX8_told 165 = .ok (.iload_n 1, 1) := by decide +kernel
theorem dX8_told_166 : decode cX8_told 166 = .ok (.tableswitch 56 0 3 #[30, 35, 43, 51], 30) := by decide +kernel
theorem dX8_told_196 : decode cX8_told 196 = .ok (.aload_n 0, 1) := by decide +kernel
theorem dX8_told_197 : decode cX8_told 197 = .ok (.getfield 70, 3) := by decide +kernel
theorem dX8_told_200 : decode cX8_told 200 = .ok (.ireturn, 1) := by decide +kernel
theorem dX8_told_201 : decode cX8_told 201 = .ok (.aload_n 0, 1) := by decide +kernel
theorem dX8_told_202 : decode cX8_told 202 = .ok (.getfield 7, 3) := by decide +kernel
theorem dX8_told_205 : decode cX8_told 205 = .ok (.bipush 23, 2) := by decide +kernel
theorem dX8_told_207 : decode cX8_told 207 = .ok (.iaload, 1) := by decide +kernel
theorem dX8_told_208 : decode cX8_told 208 = .ok (.ireturn, 1) := by decide +kernel
theorem dX8_told_209 : decode cX8_told 209 = .ok (.aload_n 0, 1) := by decide +kernel
theorem dX8_told_210 : decode cX8_told 210 = .ok (.getfield 7, 3) := by decide +kernel
theorem dX8_told_213 : decode cX8_told 213 = .ok (.bipush 22, 2) := by decide +kernel
theorem dX8_told_215 : decode cX8_told 215 = .ok (.iaload, 1) := by decide +kernel
theorem dX8_told_216 : decode cX8_told 216 = .ok (.ireturn, 1) := by decide +kernel
theorem dX8_told_217 : decode cX8_told 217 = .ok (.aload_n 0, 1) := by decide +kernel
theorem dX8_told_218 : decode cX8_told 218 = .ok (.getfield 54, 3) := by decide +kernel
theorem dX8_told_221 : decode cX8_told 221 = .ok (.ireturn, 1) := by decide +kernel
theorem dX8_told_222 : decode cX8_told 222 = .ok (.iload_n 1, 1) := by decide +kernel
theorem dX8_told_223 : decode cX8_told 223 = .ok (.iconst 4, 1) := by decide +kernel
theorem dX8_told_224 : decode cX8_told 224 = .ok (.if_icmp .ne 10, 3) := by decide +kernel
theorem dX8_told_227 : decode cX8_told 227 = .ok (.aload_n 0, 1) := by decide +kernel
theorem dX8_told_228 : decode cX8_told 228 = .ok (.invokevirtual 155, 3) := by decide +kernel
theorem dX8_told_231 : decode cX8_told 231 = .ok (.goto 5, 3) := by decide +kernel
theorem dX8_told_234 : decode cX8_told 234 = .ok (.bipush (-2), 2) := by decide +kernel
theorem dX8_told_236 : decode cX8_told 236 = .ok (.ireturn, 1) := by decide +kernel
