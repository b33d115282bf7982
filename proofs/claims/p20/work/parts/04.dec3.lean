theorem dL_slope_18 : decode cL_slope 18 = .ok (.astore_n 3, 1) := by decide +kernel
theorem dL_slope_19 : decode cL_slope 19 = .ok (.ldc 69, 2) := by decide +kernel
theorem dL_slope_21 : decode cL_slope 21 = .ok (.ireturn, 1) := by decide +kernel
theorem dL_slope_22 : decode cL_slope 22 = .ok (.astore_n 3, 1) := by decide +kernel
theorem dL_slope_23 : decode cL_slope 23 = .ok (.ldc 70, 2) := by decide +kernel
theorem dL_slope_25 : decode cL_slope 25 = .ok (.ireturn, 1) := by decide +kernel
theorem dL_all_0 : decode cL_all 0 = .ok (.aload_n 0, 1) := by decide +kernel
theorem dL_all_1 : decode cL_all 1 = .ok (.invokevirtual 71, 3) := by decide +kernel
theorem dL_all_4 : decode cL_all 4 = .ok (.i2l, 1) := by decide +kernel
theorem dL_all_5 : decode cL_all 5 = .ok (.lstore_n 2, 1) := by decide +kernel
theorem dL_all_6 : decode cL_all 6 = .ok (.iconst 0, 1) := by decide +kernel
theorem dL_all_7 : decode cL_all 7 = .ok (.istore 4, 2) := by decide +kernel
theorem dL_all_9 : decode cL_all 9 = .ok (.iload 4, 2) := by decide +kernel
theorem dL_all_11 : decode cL_all 11 = .ok (.aload_n 1, 1) := by decide +kernel
theorem dL_all_12 : decode cL_all 12 = .ok (.iconst 0, 1) := by decide +kernel
theorem dL_all_13 : decode cL_all 13 = .ok (.iaload, 1) := by decide +kernel
theorem dL_all_14 : decode cL_all 14 = .ok (.if_icmp .ge 88, 3) := by decide +kernel
theorem dL_all_17 : decode cL_all 17 = .ok (.ldc2_w 75, 3) := by decide +kernel
theorem dL_all_20 : decode cL_all 20 = .ok (.lload_n 2, 1) := by decide +kernel
theorem dL_all_21 : decode cL_all 21 = .ok (.lmul, 1) := by decide +kernel
theorem dL_all_22 : decode cL_all 22 = .ok (.aload_n 0, 1) := by decide +kernel
theorem dL_all_23 : decode cL_all 23 = .ok (.iload 4, 2) := by decide +kernel
theorem dL_all_25 : decode cL_all 25 = .ok (.invokevirtual 44, 3) := by decide +kernel
theorem dL_all_28 : decode cL_all 28 = .ok (.i2l, 1) := by decide +kernel
theorem dL_all_29 : decode cL_all 29 = .ok (.ladd, 1) := by decide +kernel
theorem dL_all_30 : decode cL_all 30 = .ok (.ldc2_w 77, 3) := by decide +kernel
theorem dL_all_33 : decode cL_all 33 = .ok (.aload_n 0, 1) := by decide +kernel
theorem dL_all_34 : decode cL_all 34 = .ok (.iload 4, 2) := by decide +kernel
theorem dL_all_36 : decode cL_all 36 = .ok (.invokevirtual 47, 3) := by decide +kernel
theorem dL_all_39 : decode cL_all 39 = .ok (.i2l, 1) := by decide +kernel
theorem dL_all_40 : decode cL_all 40 = .ok (.lmul, 1) := by decide +kernel
theorem dL_all_41 : decode cL_all 41 = .ok (.ladd, 1) := by decide +kernel
theorem dL_all_42 : decode cL_all 42 = .ok (.ldc2_w 79, 3) := by decide +kernel
theorem dL_all_45 : decode cL_all 45 = .ok (.aload_n 0, 1) := by decide +kernel
theorem dL_all_46 : decode cL_all 46 = .ok (.iload 4, 2) := by decide +kernel
theorem dL_all_48 : decode cL_all 48 = .ok (.invokevirtual 50, 3) := by decide +kernel
theorem dL_all_51 : decode cL_all 51 = .ok (.iconst 1, 1) := by decide +kernel
theorem dL_all_52 : decode cL_all 52 = .ok (.iadd, 1) := by decide +kernel
theorem dL_all_53 : decode cL_all 53 = .ok (.i2l, 1) := by decide +kernel
theorem dL_all_54 : decode cL_all 54 = .ok (.lmul, 1) := by decide +kernel
theorem dL_all_55 : decode cL_all 55 = .ok (.ladd, 1) := by decide +kernel
theorem dL_all_56 : decode cL_all 56 = .ok (.aload_n 0, 1) := by decide +kernel
theorem dL_all_57 : decode cL_all 57 = .ok (.iload 4, 2) := by decide +kernel
theorem dL_all_59 : decode cL_all 59 = .ok (.invokevirtual 59, 3) := by decide +kernel
theorem dL_all_62 : decode cL_all 62 = .ok (.ifCond .eq 9, 3) := by decide +kernel
theorem dL_all_65 : decode cL_all 65 = .ok (.ldc2_w 81, 3) := by decide +kernel
theorem dL_all_68 : decode cL_all 68 = .ok (.goto 4, 3) := by decide +kernel
theorem dL_all_71 : decode cL_all 71 = .ok (.lconst 0, 1) := by decide +kernel
theorem dL_all_72 : decode cL_all 72 = .ok (.ladd, 1) := by decide +kernel
theorem dL_all_73 : decode cL_all 73 = .ok (.ldc2_w 83, 3) := by decide +kernel
theorem dL_all_76 : decode cL_all 76 = .ok (.aload_n 0, 1) := by decide +kernel
theorem dL_all_77 : decode cL_all 77 = .ok (.iconst 1, 1) := by decide +kernel
theorem dL_all_78 : decode cL_all 78 = .ok (.iload 4, 2) := by decide +kernel
theorem dL_all_80 : decode cL_all 80 = .ok (.invokestatic 85, 3) := by decide +kernel
theorem dL_all_83 : decode cL_all 83 = .ok (.i2l, 1) := by decide +kernel
theorem dL_all_84 : decode cL_all 84 = .ok (.lmul, 1) := by decide +kernel
theorem dL_all_85 : decode cL_all 85 = .ok (.ladd, 1) := by decide +kernel
theorem dL_all_86 : decode cL_all 86 = .ok (.aload_n 0, 1) := by decide +kernel
theorem dL_all_87 : decode cL_all 87 = .ok (.iconst 0, 1) := by decide +kernel
theorem dL_all_88 : decode cL_all 88 = .ok (.iload 4, 2) := by decide +kernel
theorem dL_all_90 : decode cL_all 90 = .ok (.invokestatic 85, 3) := by decide +kernel
theorem dL_all_93 : decode cL_all 93 = .ok (.i2l, 1) := by decide +kernel
theorem dL_all_94 : decode cL_all 94 = .ok (.ladd, 1) := by decide +kernel
theorem dL_all_95 : decode cL_all 95 = .ok (.lstore_n 2, 1) := by decide +kernel
theorem dL_all_96 : decode cL_all 96 = .ok (.iinc 4 1, 3) := by decide +kernel
theorem dL_all_99 : decode cL_all 99 = .ok (.goto (-90), 3) := by decide +kernel
theorem dL_all_102 : decode cL_all 102 = .ok (.lload_n 2, 1) := by decide +kernel
theorem dL_all_103 : decode cL_all 103 = .ok (.lreturn, 1) := by decide +kernel
theorem dL_day_0 : decode cL_day 0 = .ok (.aload_n 0, 1) := by decide +kernel
theorem dL_day_1 : decode cL_day 1 = .ok (.bipush 12, 2) := by decide +kernel
theorem dL_day_3 : decode cL_day 3 = .ok (.iload_n 1, 1) := by decide +kernel
theorem dL_day_4 : decode cL_day 4 = .ok (.imul, 1) := by decide +kernel
theorem dL_day_5 : decode cL_day 5 = .ok (.iload_n 2, 1) := by decide +kernel
theorem dL_day_6 : decode cL_day 6 = .ok (.iadd, 1) := by decide +kernel
theorem dL_day_7 : decode cL_day 7 = .ok (.laload, 1) := by decide +kernel
theorem dL_day_8 : decode cL_day 8 = .ok (.ldc2_w 91, 3) := by decide +kernel
theorem dL_day_11 : decode cL_day 11 = .ok (.land, 1) := by decide +kernel
theorem dL_day_12 : decode cL_day 12 = .ok (.l2i, 1) := by decide +kernel
theorem dL_day_13 : decode cL_day 13 = .ok (.ireturn, 1) := by decide +kernel
theorem dL_filled_0 : decode cL_filled 0 = .ok (.aload_n 0, 1) := by decide +kernel
theorem dL_filled_1 : decode cL_filled 1 = .ok (.bipush 12, 2) := by decide +kernel
theorem dL_filled_3 : decode cL_filled 3 = .ok (.iload_n 3, 1) := by decide +kernel
theorem dL_filled_4 : decode cL_filled 4 = .ok (.imul, 1) := by decide +kernel
theorem dL_filled_5 : decode cL_filled 5 = .ok (.iload 4, 2) := by decide +kernel
theorem dL_filled_7 : decode cL_filled 7 = .ok (.iadd, 1) := by decide +kernel
theorem dL_filled_8 : decode cL_filled 8 = .ok (.laload, 1) := by decide +kernel
theorem dL_filled_9 : decode cL_filled 9 = .ok (.bipush 11, 2) := by decide +kernel
theorem dL_filled_11 : decode cL_filled 11 = .ok (.lshr, 1) := by decide +kernel
theorem dL_filled_12 : decode cL_filled 12 = .ok (.lstore 5, 2) := by decide +kernel
theorem dL_filled_14 : decode cL_filled 14 = .ok (.bipush 20, 2) := by decide +kernel
theorem dL_filled_16 : decode cL_filled 16 = .ok (.iload_n 3, 1) := by decide +kernel
theorem dL_filled_17 : decode cL_filled 17 = .ok (.imul, 1) := by decide +kernel
theorem dL_filled_18 : decode cL_filled 18 = .ok (.istore 7, 2) := by decide +kernel
theorem dL_filled_20 : decode cL_filled 20 = .ok (.iload 7, 2) := by decide +kernel
theorem dL_filled_22 : decode cL_filled 22 = .ok (.bipush 20, 2) := by decide +kernel
theorem dL_filled_24 : decode cL_filled 24 = .ok (.iload_n 3, 1) := by decide +kernel
theorem dL_filled_25 : decode cL_filled 25 = .ok (.imul, 1) := by decide +kernel
theorem dL_filled_26 : decode cL_filled 26 = .ok (.aload_n 2, 1) := by decide +kernel
theorem dL_filled_27 : decode cL_filled 27 = .ok (.bipush 8, 2) := by decide +kernel
theorem dL_filled_29 : decode cL_filled 29 = .ok (.iload_n 3, 1) := by decide +kernel
theorem dL_filled_30 : decode cL_filled 30 = .ok (.imul, 1) := by decide +kernel
theorem dL_filled_31 : decode cL_filled 31 = .ok (.iconst 2, 1) := by decide +kernel
theorem dL_filled_32 : decode cL_filled 32 = .ok (.iadd, 1) := by decide +kernel
theorem dL_filled_33 : decode cL_filled 33 = .ok (.iaload, 1) := by decide +kernel
theorem dL_filled_34 : decode cL_filled 34 = .ok (.iadd, 1) := by decide +kernel
theorem dL_filled_35 : decode cL_filled 35 = .ok (.if_icmp .ge 45, 3) := by decide +kernel
theorem dL_filled_38 : decode cL_filled 38 = .ok (.lload 5, 2) := by decide +kernel
theorem dL_filled_40 : decode cL_filled 40 = .ok (.aload_n 1, 1) := by decide +kernel
theorem dL_filled_41 : decode cL_filled 41 = .ok (.iload 7, 2) := by decide +kernel
theorem dL_filled_43 : decode cL_filled 43 = .ok (.laload, 1) := by decide +kernel
theorem dL_filled_44 : decode cL_filled 44 = .ok (.ldc2_w 91, 3) := by decide +kernel
theorem dL_filled_47 : decode cL_filled 47 = .ok (.land, 1) := by decide +kernel
theorem dL_filled_48 : decode cL_filled 48 = .ok (.aload_n 0, 1) := by decide +kernel
theorem dL_filled_49 : decode cL_filled 49 = .ok (.iload_n 3, 1) := by decide +kernel
theorem dL_filled_50 : decode cL_filled 50 = .ok (.iload 4, 2) := by decide +kernel
theorem dL_filled_52 : decode cL_filled 52 = .ok (.invokestatic 93, 3) := by decide +kernel
theorem dL_filled_55 : decode cL_filled 55 = .ok (.i2l, 1) := by decide +kernel
theorem dL_filled_56 : decode cL_filled 56 = .ok (.lcmp, 1) := by decide +kernel
theorem dL_filled_57 : decode cL_filled 57 = .ok (.ifCond .gt 13, 3) := by decide +kernel
theorem dL_filled_60 : decode cL_filled 60 = .ok (.aload_n 1, 1) := by decide +kernel
theorem dL_filled_61 : decode cL_filled 61 = .ok (.iload 7, 2) := by decide +kernel
theorem dL_filled_63 : decode cL_filled 63 = .ok (.laload, 1) := by decide +kernel
theorem dL_filled_64 : decode cL_filled 64 = .ok (.bipush 11, 2) := by decide +kernel
theorem dL_filled_66 : decode cL_filled 66 = .ok (.lshr, 1) := by decide +kernel
theorem dL_filled_67 : decode cL_filled 67 = .ok (.goto 4, 3) := by decide +kernel
theorem dL_filled_70 : decode cL_filled 70 = .ok (.lconst 0, 1) := by decide +kernel
theorem dL_filled_71 : decode cL_filled 71 = .ok (.ladd, 1) := by decide +kernel
theorem dL_filled_72 : decode cL_filled 72 = .ok (.lstore 5, 2) := by decide +kernel
theorem dL_filled_74 : decode cL_filled 74 = .ok (.iinc 7 1, 3) := by decide +kernel
theorem dL_filled_77 : decode cL_filled 77 = .ok (.goto (-57), 3) := by decide +kernel
theorem dL_filled_80 : decode cL_filled 80 = .ok (.lload 5, 2) := by decide +kernel
theorem dL_filled_82 : decode cL_filled 82 = .ok (.lreturn, 1) := by decide +kernel
theorem dL_isMiddle_0 : decode cL_isMiddle 0 = .ok (.aload_n 3, 1) := by decide +kernel
theorem dL_isMiddle_1 : decode cL_isMiddle 1 = .ok (.bipush 8, 2) := by decide +kernel
theorem dL_isMiddle_3 : decode cL_isMiddle 3 = .ok (.iload 4, 2) := by decide +kernel
theorem dL_isMiddle_5 : decode cL_isMiddle 5 = .ok (.imul, 1) := by decide +kernel
theorem dL_isMiddle_6 : decode cL_isMiddle 6 = .ok (.iconst 1, 1) := by decide +kernel
theorem dL_isMiddle_7 : decode cL_isMiddle 7 = .ok (.iadd, 1) := by decide +kernel
theorem dL_isMiddle_8 : decode cL_isMiddle 8 = .ok (.iaload, 1) := by decide +kernel
theorem dL_isMiddle_9 : decode cL_isMiddle 9 = .ok (.istore 5, 2) := by decide +kernel
theorem dL_isMiddle_11 : decode cL_isMiddle 11 = .ok (.aload_n 0, 1) := by decide +kernel
theorem dL_isMiddle_12 : decode cL_isMiddle 12 = .ok (.iconst 1, 1) := by decide +kernel
theorem dL_isMiddle_13 : decode cL_isMiddle 13 = .ok (.iload 4, 2) := by decide +kernel
theorem dL_isMiddle_15 : decode cL_isMiddle 15 = .ok (.invokestatic 85, 3) := by decide +kernel
theorem dL_isMiddle_18 : decode cL_isMiddle 18 = .ok (.i2l, 1) := by decide +kernel
theorem dL_isMiddle_19 : decode cL_isMiddle 19 = .ok (.lstore 6, 2) := by decide +kernel
theorem dL_isMiddle_21 : decode cL_isMiddle 21 = .ok (.aload_n 0, 1) := by decide +kernel
theorem dL_isMiddle_22 : decode cL_isMiddle 22 = .ok (.iconst 0, 1) := by decide +kernel
theorem dL_isMiddle_23 : decode cL_isMiddle 23 = .ok (.iload 4, 2) := by decide +kernel
theorem dL_isMiddle_25 : decode cL_isMiddle 25 = .ok (.invokestatic 85, 3) := by decide +kernel
theorem dL_isMiddle_28 : decode cL_isMiddle 28 = .ok (.i2l, 1) := by decide +kernel
theorem dL_isMiddle_29 : decode cL_isMiddle 29 = .ok (.lstore 8, 2) := by decide +kernel
theorem dL_isMiddle_31 : decode cL_isMiddle 31 = .ok (.iload 5, 2) := by decide +kernel
theorem dL_isMiddle_33 : decode cL_isMiddle 33 = .ok (.iconst 2, 1) := by decide +kernel
theorem dL_isMiddle_34 : decode cL_isMiddle 34 = .ok (.if_icmp .ge 52, 3) := by decide +kernel
theorem dL_isMiddle_37 : decode cL_isMiddle 37 = .ok (.lload 6, 2) := by decide +kernel
theorem dL_isMiddle_39 : decode cL_isMiddle 39 = .ok (.ldc2_w 97, 3) := by decide +kernel
theorem dL_isMiddle_42 : decode cL_isMiddle 42 = .ok (.lcmp, 1) := by decide +kernel
theorem dL_isMiddle_43 : decode cL_isMiddle 43 = .ok (.ifCond .ne 41, 3) := by decide +kernel
theorem dL_isMiddle_46 : decode cL_isMiddle 46 = .ok (.lload 8, 2) := by decide +kernel
theorem dL_isMiddle_48 : decode cL_isMiddle 48 = .ok (.ldc2_w 97, 3) := by decide +kernel
theorem dL_isMiddle_51 : decode cL_isMiddle 51 = .ok (.lcmp, 1) := by decide +kernel
theorem dL_isMiddle_52 : decode cL_isMiddle 52 = .ok (.ifCond .ne 32, 3) := by decide +kernel
theorem dL_isMiddle_55 : decode cL_isMiddle 55 = .ok (.aload_n 0, 1) := by decide +kernel
theorem dL_isMiddle_56 : decode cL_isMiddle 56 = .ok (.iconst 5, 1) := by decide +kernel
theorem dL_isMiddle_57 : decode cL_isMiddle 57 = .ok (.iload 4, 2) := by decide +kernel
theorem dL_isMiddle_59 : decode cL_isMiddle 59 = .ok (.bipush (-7), 2) := by decide +kernel
theorem dL_isMiddle_61 : decode cL_isMiddle 61 = .ok (.invokestatic 99, 3) := by decide +kernel
theorem dL_isMiddle_64 : decode cL_isMiddle 64 = .ok (.sipush (-973), 3) := by decide +kernel
theorem dL_isMiddle_67 : decode cL_isMiddle 67 = .ok (.if_icmp .ne 17, 3) := by decide +kernel
theorem dL_isMiddle_70 : decode cL_isMiddle 70 = .ok (.aload_n 0, 1) := by decide +kernel
theorem dL_isMiddle_71 : decode cL_isMiddle 71 = .ok (.iload 4, 2) := by decide +kernel
theorem dL_isMiddle_73 : decode cL_isMiddle 73 = .ok (.invokevirtual 50, 3) := by decide +kernel
theorem dL_isMiddle_76 : decode cL_isMiddle 76 = .ok (.iconst (-1), 1) := by decide +kernel
theorem dL_isMiddle_77 : decode cL_isMiddle 77 = .ok (.if_icmp .ne 7, 3) := by decide +kernel
theorem dL_isMiddle_80 : decode cL_isMiddle 80 = .ok (.iconst 1, 1) := by decide +kernel
theorem dL_isMiddle_81 : decode cL_isMiddle 81 = .ok (.goto 4, 3) := by decide +kernel
theorem dL_isMiddle_84 : decode cL_isMiddle 84 = .ok (.iconst 0, 1) := by decide +kernel
theorem dL_isMiddle_85 : decode cL_isMiddle 85 = .ok (.ireturn, 1) := by decide +kernel
theorem dL_isMiddle_86 : decode cL_isMiddle 86 = .ok (.iconst 0, 1) := by decide +kernel
theorem dL_isMiddle_87 : decode cL_isMiddle 87 = .ok (.istore 10, 2) := by decide +kernel
theorem dL_isMiddle_89 : decode cL_isMiddle 89 = .ok (.iconst 0, 1) := by decide +kernel
theorem dL_isMiddle_90 : decode cL_isMiddle 90 = .ok (.istore 11, 2) := by decide +kernel
theorem dL_isMiddle_92 : decode cL_isMiddle 92 = .ok (.iconst 0, 1) := by decide +kernel
theorem dL_isMiddle_93 : decode cL_isMiddle 93 = .ok (.istore 12, 2) := by decide +kernel
theorem dL_isMiddle_95 : decode cL_isMiddle 95 = .ok (.iload 12, 2) := by decide +kernel
theorem dL_isMiddle_97 : decode cL_isMiddle 97 = .ok (.iload 5, 2) := by decide +kernel
theorem dL_isMiddle_99 : decode cL_isMiddle 99 = .ok (.if_icmp .ge 114, 3) := by decide +kernel
theorem dL_isMiddle_102 : decode cL_isMiddle 102 = .ok (.aload_n 1, 1) := by decide +kernel
theorem dL_isMiddle_103 : decode cL_isMiddle 103 = .ok (.aload_n 2, 1) := by decide +kernel
theorem dL_isMiddle_104 : decode cL_isMiddle 104 = .ok (.aload_n 3, 1) := by decide +kernel
theorem dL_isMiddle_105 : decode cL_isMiddle 105 = .ok (.iload 4, 2) := by decide +kernel
theorem dL_isMiddle_107 : decode cL_isMiddle 107 = .ok (.iload 12, 2) := by decide +kernel
theorem dL_isMiddle_109 : decode cL_isMiddle 109 = .ok (.invokestatic 103, 3) := by decide +kernel
theorem dL_isMiddle_112 : decode cL_isMiddle 112 = .ok (.lstore 13, 2) := by decide +kernel
theorem dL_isMiddle_114 : decode cL_isMiddle 114 = .ok (.iload 12, 2) := by decide +kernel
theorem dL_isMiddle_116 : decode cL_isMiddle 116 = .ok (.iconst 1, 1) := by decide +kernel
theorem dL_isMiddle_117 : decode cL_isMiddle 117 = .ok (.iadd, 1) := by decide +kernel
theorem dL_isMiddle_118 : decode cL_isMiddle 118 = .ok (.istore 15, 2) := by decide +kernel
theorem dL_isMiddle_120 : decode cL_isMiddle 120 = .ok (.iload 15, 2) := by decide +kernel
theorem dL_isMiddle_122 : decode cL_isMiddle 122 = .ok (.iload 5, 2) := by decide +kernel
theorem dL_isMiddle_124 : decode cL_isMiddle 124 = .ok (.if_icmp .ge 83, 3) := by decide +kernel
theorem dL_isMiddle_127 : decode cL_isMiddle 127 = .ok (.aload_n 1, 1) := by decide +kernel
theorem dL_isMiddle_128 : decode cL_isMiddle 128 = .ok (.aload_n 2, 1) := by decide +kernel
theorem dL_isMiddle_129 : decode cL_isMiddle 129 = .ok (.aload_n 3, 1) := by decide +kernel
theorem dL_isMiddle_130 : decode cL_isMiddle 130 = .ok (.iload 4, 2) := by decide +kernel
theorem dL_isMiddle_132 : decode cL_isMiddle 132 = .ok (.iload 15, 2) := by decide +kernel
theorem dL_isMiddle_134 : decode cL_isMiddle 134 = .ok (.invokestatic 103, 3) := by decide +kernel
theorem dL_isMiddle_137 : decode cL_isMiddle 137 = .ok (.lload 13, 2) := by decide +kernel
theorem dL_isMiddle_139 : decode cL_isMiddle 139 = .ok (.lsub, 1) := by decide +kernel
theorem dL_isMiddle_140 : decode cL_isMiddle 140 = .ok (.lload 8, 2) := by decide +kernel
theorem dL_isMiddle_142 : decode cL_isMiddle 142 = .ok (.lmul, 1) := by decide +kernel
theorem dL_isMiddle_143 : decode cL_isMiddle 143 = .ok (.lload 6, 2) := by decide +kernel
theorem dL_isMiddle_145 : decode cL_isMiddle 145 = .ok (.aload_n 1, 1) := by decide +kernel
theorem dL_isMiddle_146 : decode cL_isMiddle 146 = .ok (.iload 4, 2) := by decide +kernel
theorem dL_isMiddle_148 : decode cL_isMiddle 148 = .ok (.iload 15, 2) := by decide +kernel
theorem dL_isMiddle_150 : decode cL_isMiddle 150 = .ok (.invokestatic 93, 3) := by decide +kernel
theorem dL_isMiddle_153 : decode cL_isMiddle 153 = .ok (.aload_n 1, 1) := by decide +kernel
theorem dL_isMiddle_154 : decode cL_isMiddle 154 = .ok (.iload 4, 2) := by decide +kernel
theorem dL_isMiddle_156 : decode cL_isMiddle 156 = .ok (.iload 12, 2) := by decide +kernel
theorem dL_isMiddle_158 : decode cL_isMiddle 158 = .ok (.invokestatic 93, 3) := by decide +kernel
theorem dL_isMiddle_161 : decode cL_isMiddle 161 = .ok (.isub, 1) := by decide +kernel
theorem dL_isMiddle_162 : decode cL_isMiddle 162 = .ok (.i2l, 1) := by decide +kernel
theorem dL_isMiddle_163 : decode cL_isMiddle 163 = .ok (.lmul, 1) := by decide +kernel
theorem dL_isMiddle_164 : decode cL_isMiddle 164 = .ok (.lsub, 1) := by decide +kernel
theorem dL_isMiddle_165 : decode cL_isMiddle 165 = .ok (.lstore 16, 2) := by decide +kernel
theorem dL_isMiddle_167 : decode cL_isMiddle 167 = .ok (.iload 10, 2) := by decide +kernel
theorem dL_isMiddle_169 : decode cL_isMiddle 169 = .ok (.lload 16, 2) := by decide +kernel
theorem dL_isMiddle_171 : decode cL_isMiddle 171 = .ok (.lconst 0, 1) := by decide +kernel
theorem dL_isMiddle_172 : decode cL_isMiddle 172 = .ok (.lcmp, 1) := by decide +kernel
theorem dL_isMiddle_173 : decode cL_isMiddle 173 = .ok (.ifCond .ge 7, 3) := by decide +kernel
theorem dL_isMiddle_176 : decode cL_isMiddle 176 = .ok (.iconst 1, 1) := by decide +kernel
theorem dL_isMiddle_177 : decode cL_isMiddle 177 = .ok (.goto 4, 3) := by decide +kernel
theorem dL_isMiddle_180 : decode cL_isMiddle 180 = .ok (.iconst 0, 1) := by decide +kernel
theorem dL_isMiddle_181 : decode cL_isMiddle 181 = .ok (.iadd, 1) := by decide +kernel
theorem dL_isMiddle_182 : decode cL_isMiddle 182 = .ok (.istore 10, 2) := by decide +kernel
theorem dL_isMiddle_184 : decode cL_isMiddle 184 = .ok (.iload 11, 2) := by decide +kernel
theorem dL_isMiddle_186 : decode cL_isMiddle 186 = .ok (.lload 16, 2) := by decide +kernel
theorem dL_isMiddle_188 : decode cL_isMiddle 188 = .ok (.lconst 0, 1) := by decide +kernel
theorem dL_isMiddle_189 : decode cL_isMiddle 189 = .ok (.lcmp, 1) := by decide +kernel
theorem dL_isMiddle_190 : decode cL_isMiddle 190 = .ok (.ifCond .ne 7, 3) := by decide +kernel
theorem dL_isMiddle_193 : decode cL_isMiddle 193 = .ok (.iconst 1, 1) := by decide +kernel
theorem dL_isMiddle_194 : decode cL_isMiddle 194 = .ok (.goto 4, 3) := by decide +kernel
theorem dL_isMiddle_197 : decode cL_isMiddle 197 = .ok (.iconst 0, 1) := by decide +kernel
theorem dL_isMiddle_198 : decode cL_isMiddle 198 = .ok (.iadd, 1) := by decide +kernel
theorem dL_isMiddle_199 : decode cL_isMiddle 199 = .ok (.istore 11, 2) := by decide +kernel
theorem dL_isMiddle_201 : decode cL_isMiddle 201 = .ok (.iinc 15 1, 3) := by decide +kernel
theorem dL_isMiddle_204 : decode cL_isMiddle 204 = .ok (.goto (-84), 3) := by decide +kernel
theorem dL_isMiddle_207 : decode cL_isMiddle 207 = .ok (.iinc 12 1, 3) := by decide +kernel
theorem dL_isMiddle_210 : decode cL_isMiddle 210 = .ok (.goto (-115), 3) := by decide +kernel
theorem dL_isMiddle_213 : decode cL_isMiddle 213 = .ok (.iload 5, 2) := by decide +kernel
theorem dL_isMiddle_215 : decode cL_isMiddle 215 = .ok (.iload 5, 2) := by decide +kernel
theorem dL_isMiddle_217 : decode cL_isMiddle 217 = .ok (.iconst 1, 1) := by decide +kernel
theorem dL_isMiddle_218 : decode cL_isMiddle 218 = .ok (.isub, 1) := by decide +kernel
theorem dL_isMiddle_219 : decode cL_isMiddle 219 = .ok (.imul, 1) := by decide +kernel
theorem dL_isMiddle_220 : decode cL_isMiddle 220 = .ok (.iconst 2, 1) := by decide +kernel
theorem dL_isMiddle_221 : decode cL_isMiddle 221 = .ok (.idiv, 1) := by decide +kernel
theorem dL_isMiddle_222 : decode cL_isMiddle 222 = .ok (.iconst 1, 1) := by decide +kernel
theorem dL_isMiddle_223 : decode cL_isMiddle 223 = .ok (.isub, 1) := by decide +kernel
theorem dL_isMiddle_224 : decode cL_isMiddle 224 = .ok (.iconst 2, 1) := by decide +kernel
theorem dL_isMiddle_225 : decode cL_isMiddle 225 = .ok (.idiv, 1) := by decide +kernel
theorem dL_isMiddle_226 : decode cL_isMiddle 226 = .ok (.istore 12, 2) := by decide +kernel
theorem dL_isMiddle_228 : decode cL_isMiddle 228 = .ok (.lload 6, 2) := by decide +kernel
theorem dL_isMiddle_230 : decode cL_isMiddle 230 = .ok (.lconst 0, 1) := by decide +kernel
theorem dL_isMiddle_231 : decode cL_isMiddle 231 = .ok (.lcmp, 1) := by decide +kernel
theorem dL_isMiddle_232 : decode cL_isMiddle 232 = .ok (.ifCond .ge 9, 3) := by decide +kernel
theorem dL_isMiddle_235 : decode cL_isMiddle 235 = .ok (.lload 6, 2) := by decide +kernel
theorem dL_isMiddle_237 : decode cL_isMiddle 237 = .ok (.lneg, 1) := by decide +kernel
theorem dL_isMiddle_238 : decode cL_isMiddle 238 = .ok (.goto 5, 3) := by decide +kernel
theorem dL_isMiddle_241 : decode cL_isMiddle 241 = .ok (.lload 6, 2) := by decide +kernel
theorem dL_isMiddle_243 : decode cL_isMiddle 243 = .ok (.lstore 13, 2) := by decide +kernel
theorem dL_isMiddle_245 : decode cL_isMiddle 245 = .ok (.lload 8, 2) := by decide +kernel
theorem dL_isMiddle_247 : decode cL_isMiddle 247 = .ok (.lstore 15, 2) := by decide +kernel
theorem dL_isMiddle_249 : decode cL_isMiddle 249 = .ok (.lload 15, 2) := by decide +kernel
theorem dL_isMiddle_251 : decode cL_isMiddle 251 = .ok (.lconst 0, 1) := by decide +kernel
theorem dL_isMiddle_252 : decode cL_isMiddle 252 = .ok (.lcmp, 1) := by decide +kernel
theorem dL_isMiddle_253 : decode cL_isMiddle 253 = .ok (.ifCond .le 21, 3) := by decide +kernel
theorem dL_isMiddle_256 : decode cL_isMiddle 256 = .ok (.lload 13, 2) := by decide +kernel
theorem dL_isMiddle_258 : decode cL_isMiddle 258 = .ok (.lload 15, 2) := by decide +kernel
theorem dL_isMiddle_260 : decode cL_isMiddle 260 = .ok (.lrem, 1) := by decide +kernel
theorem dL_isMiddle_261 : decode cL_isMiddle 261 = .ok (.lstore 17, 2) := by decide +kernel
theorem dL_isMiddle_263 : decode cL_isMiddle 263 = .ok (.lload 15, 2) := by decide +kernel
theorem dL_isMiddle_265 : decode cL_isMiddle 265 = .ok (.lstore 13, 2) := by decide +kernel
theorem dL_isMiddle_267 : decode cL_isMiddle 267 = .ok (.lload 17, 2) := by decide +kernel
theorem dL_isMiddle_269 : decode cL_isMiddle 269 = .ok (.lstore 15, 2) := by decide +kernel
theorem dL_isMiddle_271 : decode cL_isMiddle 271 = .ok (.goto (-22), 3) := by decide +kernel
theorem dL_isMiddle_274 : decode cL_isMiddle 274 = .ok (.lload 8, 2) := by decide +kernel
theorem dL_isMiddle_276 : decode cL_isMiddle 276 = .ok (.lconst 0, 1) := by decide +kernel
theorem dL_isMiddle_277 : decode cL_isMiddle 277 = .ok (.lcmp, 1) := by decide +kernel
theorem dL_isMiddle_278 : decode cL_isMiddle 278 = .ok (.ifCond .le 31, 3) := by decide +kernel
theorem dL_isMiddle_281 : decode cL_isMiddle 281 = .ok (.lload 13, 2) := by decide +kernel
theorem dL_isMiddle_283 : decode cL_isMiddle 283 = .ok (.lconst 1, 1) := by decide +kernel
theorem dL_isMiddle_284 : decode cL_isMiddle 284 = .ok (.lcmp, 1) := by decide +kernel
theorem dL_isMiddle_285 : decode cL_isMiddle 285 = .ok (.ifCond .ne 24, 3) := by decide +kernel
theorem dL_isMiddle_288 : decode cL_isMiddle 288 = .ok (.iload 10, 2) := by decide +kernel
theorem dL_isMiddle_290 : decode cL_isMiddle 290 = .ok (.iload 12, 2) := by decide +kernel
theorem dL_isMiddle_292 : decode cL_isMiddle 292 = .ok (.if_icmp .gt 17, 3) := by decide +kernel
theorem dL_isMiddle_295 : decode cL_isMiddle 295 = .ok (.iload 12, 2) := by decide +kernel
theorem dL_isMiddle_297 : decode cL_isMiddle 297 = .ok (.iload 10, 2) := by decide +kernel
theorem dL_isMiddle_299 : decode cL_isMiddle 299 = .ok (.iload 11, 2) := by decide +kernel
theorem dL_isMiddle_301 : decode cL_isMiddle 301 = .ok (.iadd, 1) := by decide +kernel
theorem dL_isMiddle_302 : decode cL_isMiddle 302 = .ok (.if_icmp .ge 7, 3) := by decide +kernel
theorem dL_isMiddle_305 : decode cL_isMiddle 305 = .ok (.iconst 1, 1) := by decide +kernel
theorem dL_isMiddle_306 : decode cL_isMiddle 306 = .ok (.goto 4, 3) := by decide +kernel
theorem dL_isMiddle_309 : decode cL_isMiddle 309 = .ok (.iconst 0, 1) := by decide +kernel
theorem dL_isMiddle_310 : decode cL_isMiddle 310 = .ok (.ireturn, 1) := by decide +kernel
theorem dL_ruled_0 : decode cL_ruled 0 = .ok (.iconst 0, 1) := by decide +kernel
theorem dL_ruled_1 : decode cL_ruled 1 = .ok (.istore 4, 2) := by decide +kernel
theorem dL_ruled_3 : decode cL_ruled 3 = .ok (.aload_n 0, 1) := by decide +kernel
theorem dL_ruled_4 : decode cL_ruled 4 = .ok (.bipush 8, 2) := by decide +kernel
theorem dL_ruled_6 : decode cL_ruled 6 = .ok (.iload_n 1, 1) := by decide +kernel
theorem dL_ruled_7 : decode cL_ruled 7 = .ok (.imul, 1) := by decide +kernel
theorem dL_ruled_8 : decode cL_ruled 8 = .ok (.iconst 4, 1) := by decide +kernel
theorem dL_ruled_9 : decode cL_ruled 9 = .ok (.iadd, 1) := by decide +kernel
theorem dL_ruled_10 : decode cL_ruled 10 = .ok (.iaload, 1) := by decide +kernel
theorem dL_ruled_11 : decode cL_ruled 11 = .ok (.istore 5, 2) := by decide +kernel
theorem dL_ruled_13 : decode cL_ruled 13 = .ok (.aload_n 0, 1) := by decide +kernel
theorem dL_ruled_14 : decode cL_ruled 14 = .ok (.bipush 8, 2) := by decide +kernel
theorem dL_ruled_16 : decode cL_ruled 16 = .ok (.iload_n 1, 1) := by decide +kernel
theorem dL_ruled_17 : decode cL_ruled 17 = .ok (.imul, 1) := by decide +kernel
theorem dL_ruled_18 : decode cL_ruled 18 = .ok (.iconst 3, 1) := by decide +kernel
theorem dL_ruled_19 : decode cL_ruled 19 = .ok (.iadd, 1) := by decide +kernel
theorem dL_ruled_20 : decode cL_ruled 20 = .ok (.iaload, 1) := by decide +kernel
theorem dL_ruled_21 : decode cL_ruled 21 = .ok (.istore 6, 2) := by decide +kernel
theorem dL_ruled_23 : decode cL_ruled 23 = .ok (.iload 6, 2) := by decide +kernel
theorem dL_ruled_25 : decode cL_ruled 25 = .ok (.iload_n 3, 1) := by decide +kernel
theorem dL_ruled_26 : decode cL_ruled 26 = .ok (.if_icmp .gt 34, 3) := by decide +kernel
theorem dL_ruled_29 : decode cL_ruled 29 = .ok (.iload 5, 2) := by decide +kernel
theorem dL_ruled_31 : decode cL_ruled 31 = .ok (.ifCond .le 29, 3) := by decide +kernel
theorem dL_ruled_34 : decode cL_ruled 34 = .ok (.iload 4, 2) := by decide +kernel
theorem dL_ruled_36 : decode cL_ruled 36 = .ok (.iload 6, 2) := by decide +kernel
theorem dL_ruled_38 : decode cL_ruled 38 = .ok (.iload_n 2, 1) := by decide +kernel
theorem dL_ruled_39 : decode cL_ruled 39 = .ok (.if_icmp .le 7, 3) := by decide +kernel
theorem dL_ruled_42 : decode cL_ruled 42 = .ok (.iconst 1, 1) := by decide +kernel
theorem dL_ruled_43 : decode cL_ruled 43 = .ok (.goto 4, 3) := by decide +kernel
theorem dL_ruled_46 : decode cL_ruled 46 = .ok (.iconst 0, 1) := by decide +kernel
theorem dL_ruled_47 : decode cL_ruled 47 = .ok (.iadd, 1) := by decide +kernel
theorem dL_ruled_48 : decode cL_ruled 48 = .ok (.istore 4, 2) := by decide +kernel
theorem dL_ruled_50 : decode cL_ruled 50 = .ok (.iload 6, 2) := by decide +kernel
theorem dL_ruled_52 : decode cL_ruled 52 = .ok (.iload 5, 2) := by decide +kernel
theorem dL_ruled_54 : decode cL_ruled 54 = .ok (.iadd, 1) := by decide +kernel
theorem dL_ruled_55 : decode cL_ruled 55 = .ok (.istore 6, 2) := by decide +kernel
theorem dL_ruled_57 : decode cL_ruled 57 = .ok (.goto (-34), 3) := by decide +kernel
theorem dL_ruled_60 : decode cL_ruled 60 = .ok (.iload 4, 2) := by decide +kernel
theorem dL_ruled_62 : decode cL_ruled 62 = .ok (.ireturn, 1) := by decide +kernel
theorem dL_due_0 : decode cL_due 0 = .ok (.aload_n 1, 1) := by decide +kernel
theorem dL_due_1 : decode cL_due 1 = .ok (.iload_n 3, 1) := by decide +kernel
theorem dL_due_2 : decode cL_due 2 = .ok (.aload_n 2, 1) := by decide +kernel
theorem dL_due_3 : decode cL_due 3 = .ok (.bipush 8, 2) := by decide +kernel
theorem dL_due_5 : decode cL_due 5 = .ok (.iload_n 3, 1) := by decide +kernel
theorem dL_due_6 : decode cL_due 6 = .ok (.imul, 1) := by decide +kernel
theorem dL_due_7 : decode cL_due 7 = .ok (.iconst 1, 1) := by decide +kernel
theorem dL_due_8 : decode cL_due 8 = .ok (.iadd, 1) := by decide +kernel
theorem dL_due_9 : decode cL_due 9 = .ok (.iaload, 1) := by decide +kernel
theorem dL_due_10 : decode cL_due 10 = .ok (.iconst 1, 1) := by decide +kernel
theorem dL_due_11 : decode cL_due 11 = .ok (.isub, 1) := by decide +kernel
theorem dL_due_12 : decode cL_due 12 = .ok (.invokestatic 93, 3) := by decide +kernel
theorem dL_due_15 : decode cL_due 15 = .ok (.istore 5, 2) := by decide +kernel
theorem dL_due_17 : decode cL_due 17 = .ok (.aload_n 0, 1) := by decide +kernel
theorem dL_due_18 : decode cL_due 18 = .ok (.iload_n 3, 1) := by decide +kernel
theorem dL_due_19 : decode cL_due 19 = .ok (.invokevirtual 66, 3) := by decide +kernel
theorem dL_due_22 : decode cL_due 22 = .ok (.i2l, 1) := by decide +kernel
theorem dL_due_23 : decode cL_due 23 = .ok (.lstore 6, 2) := by decide +kernel
theorem dL_due_25 : decode cL_due 25 = .ok (.aload_n 0, 1) := by decide +kernel
theorem dL_due_26 : decode cL_due 26 = .ok (.iload_n 3, 1) := by decide +kernel
theorem dL_due_27 : decode cL_due 27 = .ok (.invokevirtual 63, 3) := by decide +kernel
theorem dL_due_30 : decode cL_due 30 = .ok (.i2l, 1) := by decide +kernel
theorem dL_due_31 : decode cL_due 31 = .ok (.iload 4, 2) := by decide +kernel
theorem dL_due_33 : decode cL_due 33 = .ok (.iload 5, 2) := by decide +kernel
theorem dL_due_35 : decode cL_due 35 = .ok (.isub, 1) := by decide +kernel
theorem dL_due_36 : decode cL_due 36 = .ok (.i2l, 1) := by decide +kernel
theorem dL_due_37 : decode cL_due 37 = .ok (.lmul, 1) := by decide +kernel
theorem dL_due_38 : decode cL_due 38 = .ok (.lstore 8, 2) := by decide +kernel
theorem dL_due_40 : decode cL_due 40 = .ok (.lload 8, 2) := by decide +kernel
theorem dL_due_42 : decode cL_due 42 = .ok (.lconst 0, 1) := by decide +kernel
theorem dL_due_43 : decode cL_due 43 = .ok (.lcmp, 1) := by decide +kernel
theorem dL_due_44 : decode cL_due 44 = .ok (.ifCond .lt 11, 3) := by decide +kernel
theorem dL_due_47 : decode cL_due 47 = .ok (.lload 8, 2) := by decide +kernel
theorem dL_due_49 : decode cL_due 49 = .ok (.lload 6, 2) := by decide +kernel
theorem dL_due_51 : decode cL_due 51 = .ok (.ldiv, 1) := by decide +kernel
theorem dL_due_52 : decode cL_due 52 = .ok (.goto 14, 3) := by decide +kernel
theorem dL_due_55 : decode cL_due 55 = .ok (.lload 6, 2) := by decide +kernel
theorem dL_due_57 : decode cL_due 57 = .ok (.lconst 1, 1) := by decide +kernel
theorem dL_due_58 : decode cL_due 58 = .ok (.lsub, 1) := by decide +kernel
theorem dL_due_59 : decode cL_due 59 = .ok (.lload 8, 2) := by decide +kernel
theorem dL_due_61 : decode cL_due 61 = .ok (.lsub, 1) := by decide +kernel
theorem dL_due_62 : decode cL_due 62 = .ok (.lload 6, 2) := by decide +kernel
theorem dL_due_64 : decode cL_due 64 = .ok (.ldiv, 1) := by decide +kernel
theorem dL_due_65 : decode cL_due 65 = .ok (.lneg, 1) := by decide +kernel
theorem dL_due_66 : decode cL_due 66 = .ok (.lstore 10, 2) := by decide +kernel
theorem dL_due_68 : decode cL_due 68 = .ok (.aload_n 1, 1) := by decide +kernel
theorem dL_due_69 : decode cL_due 69 = .ok (.bipush 12, 2) := by decide +kernel
theorem dL_due_71 : decode cL_due 71 = .ok (.iload_n 3, 1) := by decide +kernel
theorem dL_due_72 : decode cL_due 72 = .ok (.imul, 1) := by decide +kernel
theorem dL_due_73 : decode cL_due 73 = .ok (.aload_n 2, 1) := by decide +kernel
theorem dL_due_74 : decode cL_due 74 = .ok (.bipush 8, 2) := by decide +kernel
theorem dL_due_76 : decode cL_due 76 = .ok (.iload_n 3, 1) := by decide +kernel
theorem dL_due_77 : decode cL_due 77 = .ok (.imul, 1) := by decide +kernel
theorem dL_due_78 : decode cL_due 78 = .ok (.iconst 1, 1) := by decide +kernel
theorem dL_due_79 : decode cL_due 79 = .ok (.iadd, 1) := by decide +kernel
theorem dL_due_80 : decode cL_due 80 = .ok (.iaload, 1) := by decide +kernel
theorem dL_due_81 : decode cL_due 81 = .ok (.iadd, 1) := by decide +kernel
theorem dL_due_82 : decode cL_due 82 = .ok (.iconst 1, 1) := by decide +kernel
theorem dL_due_83 : decode cL_due 83 = .ok (.isub, 1) := by decide +kernel
theorem dL_due_84 : decode cL_due 84 = .ok (.laload, 1) := by decide +kernel
theorem dL_due_85 : decode cL_due 85 = .ok (.bipush 11, 2) := by decide +kernel
theorem dL_due_87 : decode cL_due 87 = .ok (.lshr, 1) := by decide +kernel
theorem dL_due_88 : decode cL_due 88 = .ok (.lload 10, 2) := by decide +kernel
theorem dL_due_90 : decode cL_due 90 = .ok (.ladd, 1) := by decide +kernel
theorem dL_due_91 : decode cL_due 91 = .ok (.aload_n 0, 1) := by decide +kernel
theorem dL_due_92 : decode cL_due 92 = .ok (.iload_n 3, 1) := by decide +kernel
theorem dL_due_93 : decode cL_due 93 = .ok (.invokevirtual 47, 3) := by decide +kernel
theorem dL_due_96 : decode cL_due 96 = .ok (.i2l, 1) := by decide +kernel
theorem dL_due_97 : decode cL_due 97 = .ok (.aload_n 2, 1) := by decide +kernel
theorem dL_due_98 : decode cL_due 98 = .ok (.iload_n 3, 1) := by decide +kernel
theorem dL_due_99 : decode cL_due 99 = .ok (.iload 5, 2) := by decide +kernel
theorem dL_due_101 : decode cL_due 101 = .ok (.iload 4, 2) := by decide +kernel
theorem dL_due_103 : decode cL_due 103 = .ok (.invokestatic 107, 3) := by decide +kernel
theorem dL_due_106 : decode cL_due 106 = .ok (.i2l, 1) := by decide +kernel
theorem dL_due_107 : decode cL_due 107 = .ok (.lmul, 1) := by decide +kernel
theorem dL_due_108 : decode cL_due 108 = .ok (.lsub, 1) := by decide +kernel
theorem dL_due_109 : decode cL_due 109 = .ok (.lstore 12, 2) := by decide +kernel
theorem dL_due_111 : decode cL_due 111 = .ok (.lload 12, 2) := by decide +kernel
theorem dL_due_113 : decode cL_due 113 = .ok (.lconst 0, 1) := by decide +kernel
theorem dL_due_114 : decode cL_due 114 = .ok (.lcmp, 1) := by decide +kernel
theorem dL_due_115 : decode cL_due 115 = .ok (.ifCond .ge 7, 3) := by decide +kernel
theorem dL_due_118 : decode cL_due 118 = .ok (.lconst 0, 1) := by decide +kernel
theorem dL_due_119 : decode cL_due 119 = .ok (.goto 20, 3) := by decide +kernel
theorem dL_due_122 : decode cL_due 122 = .ok (.lload 12, 2) := by decide +kernel
theorem dL_due_124 : decode cL_due 124 = .ok (.ldc2_w 111, 3) := by decide +kernel
theorem dL_due_127 : decode cL_due 127 = .ok (.lcmp, 1) := by decide +kernel
theorem dL_due_128 : decode cL_due 128 = .ok (.ifCond .le 9, 3) := by decide +kernel
theorem dL_due_131 : decode cL_due 131 = .ok (.ldc2_w 111, 3) := by decide +kernel
theorem dL_due_134 : decode cL_due 134 = .ok (.goto 5, 3) := by decide +kernel
theorem dL_due_137 : decode cL_due 137 = .ok (.lload 12, 2) := by decide +kernel
theorem dL_due_139 : decode cL_due 139 = .ok (.lreturn, 1) := by decide +kernel
theorem dL_areForecasts_0 : decode cL_areForecasts 0 = .ok (.aload_n 2, 1) := by decide +kernel
theorem dL_areForecasts_1 : decode cL_areForecasts 1 = .ok (.bipush 8, 2) := by decide +kernel
theorem dL_areForecasts_3 : decode cL_areForecasts 3 = .ok (.iload_n 3, 1) := by decide +kernel
theorem dL_areForecasts_4 : decode cL_areForecasts 4 = .ok (.imul, 1) := by decide +kernel
theorem dL_areForecasts_5 : decode cL_areForecasts 5 = .ok (.iconst 1, 1) := by decide +kernel
theorem dL_areForecasts_6 : decode cL_areForecasts 6 = .ok (.iadd, 1) := by decide +kernel
theorem dL_areForecasts_7 : decode cL_areForecasts 7 = .ok (.iaload, 1) := by decide +kernel
theorem dL_areForecasts_8 : decode cL_areForecasts 8 = .ok (.iconst 2, 1) := by decide +kernel
theorem dL_areForecasts_9 : decode cL_areForecasts 9 = .ok (.if_icmp .ge 27, 3) := by decide +kernel
theorem dL_areForecasts_12 : decode cL_areForecasts 12 = .ok (.aload_n 0, 1) := by decide +kernel
theorem dL_areForecasts_13 : decode cL_areForecasts 13 = .ok (.iload_n 3, 1) := by decide +kernel
theorem dL_areForecasts_14 : decode cL_areForecasts 14 = .ok (.invokevirtual 53, 3) := by decide +kernel
theorem dL_areForecasts_17 : decode cL_areForecasts 17 = .ok (.iconst (-1), 1) := by decide +kernel
theorem dL_areForecasts_18 : decode cL_areForecasts 18 = .ok (.if_icmp .ne 16, 3) := by decide +kernel
theorem dL_areForecasts_21 : decode cL_areForecasts 21 = .ok (.aload_n 0, 1) := by decide +kernel
theorem dL_areForecasts_22 : decode cL_areForecasts 22 = .ok (.iload_n 3, 1) := by decide +kernel
theorem dL_areForecasts_23 : decode cL_areForecasts 23 = .ok (.invokevirtual 56, 3) := by decide +kernel
theorem dL_areForecasts_26 : decode cL_areForecasts 26 = .ok (.iconst (-1), 1) := by decide +kernel
theorem dL_areForecasts_27 : decode cL_areForecasts 27 = .ok (.if_icmp .ne 7, 3) := by decide +kernel
theorem dL_areForecasts_30 : decode cL_areForecasts 30 = .ok (.iconst 1, 1) := by decide +kernel
theorem dL_areForecasts_31 : decode cL_areForecasts 31 = .ok (.goto 4, 3) := by decide +kernel
theorem dL_areForecasts_34 : decode cL_areForecasts 34 = .ok (.iconst 0, 1) := by decide +kernel
theorem dL_areForecasts_35 : decode cL_areForecasts 35 = .ok (.ireturn, 1) := by decide +kernel
theorem dL_areForecasts_36 : decode cL_areForecasts 36 = .ok (.aload_n 1, 1) := by decide +kernel
theorem dL_areForecasts_37 : decode cL_areForecasts 37 = .ok (.iload_n 3, 1) := by decide +kernel
theorem dL_areForecasts_38 : decode cL_areForecasts 38 = .ok (.aload_n 2, 1) := by decide +kernel
theorem dL_areForecasts_39 : decode cL_areForecasts 39 = .ok (.bipush 8, 2) := by decide +kernel
theorem dL_areForecasts_41 : decode cL_areForecasts 41 = .ok (.iload_n 3, 1) := by decide +kernel
theorem dL_areForecasts_42 : decode cL_areForecasts 42 = .ok (.imul, 1) := by decide +kernel
theorem dL_areForecasts_43 : decode cL_areForecasts 43 = .ok (.iconst 1, 1) := by decide +kernel
theorem dL_areForecasts_44 : decode cL_areForecasts 44 = .ok (.iadd, 1) := by decide +kernel
theorem dL_areForecasts_45 : decode cL_areForecasts 45 = .ok (.iaload, 1) := by decide +kernel
theorem dL_areForecasts_46 : decode cL_areForecasts 46 = .ok (.iconst 1, 1) := by decide +kernel
theorem dL_areForecasts_47 : decode cL_areForecasts 47 = .ok (.isub, 1) := by decide +kernel
theorem dL_areForecasts_48 : decode cL_areForecasts 48 = .ok (.invokestatic 93, 3) := by decide +kernel
theorem dL_areForecasts_51 : decode cL_areForecasts 51 = .ok (.istore 5, 2) := by decide +kernel
theorem dL_areForecasts_53 : decode cL_areForecasts 53 = .ok (.aload_n 0, 1) := by decide +kernel
theorem dL_areForecasts_54 : decode cL_areForecasts 54 = .ok (.iload_n 3, 1) := by decide +kernel
theorem dL_areForecasts_55 : decode cL_areForecasts 55 = .ok (.invokevirtual 50, 3) := by decide +kernel
theorem dL_areForecasts_58 : decode cL_areForecasts 58 = .ok (.istore 6, 2) := by decide +kernel
theorem dL_areForecasts_60 : decode cL_areForecasts 60 = .ok (.iload 6, 2) := by decide +kernel
theorem dL_areForecasts_62 : decode cL_areForecasts 62 = .ok (.ifCond .ge 12, 3) := by decide +kernel
theorem dL_areForecasts_65 : decode cL_areForecasts 65 = .ok (.iload 5, 2) := by decide +kernel
theorem dL_areForecasts_67 : decode cL_areForecasts 67 = .ok (.sipush 1000, 3) := by decide +kernel
theorem dL_areForecasts_70 : decode cL_areForecasts 70 = .ok (.iadd, 1) := by decide +kernel
theorem dL_areForecasts_71 : decode cL_areForecasts 71 = .ok (.goto 5, 3) := by decide +kernel
theorem dL_areForecasts_74 : decode cL_areForecasts 74 = .ok (.iload 6, 2) := by decide +kernel
theorem dL_areForecasts_76 : decode cL_areForecasts 76 = .ok (.istore 7, 2) := by decide +kernel
theorem dL_areForecasts_78 : decode cL_areForecasts 78 = .ok (.aload_n 0, 1) := by decide +kernel
theorem dL_areForecasts_79 : decode cL_areForecasts 79 = .ok (.iconst 5, 1) := by decide +kernel
theorem dL_areForecasts_80 : decode cL_areForecasts 80 = .ok (.iload_n 3, 1) := by decide +kernel
theorem dL_areForecasts_81 : decode cL_areForecasts 81 = .ok (.iload 5, 2) := by decide +kernel
theorem dL_areForecasts_83 : decode cL_areForecasts 83 = .ok (.invokestatic 99, 3) := by decide +kernel
theorem dL_areForecasts_86 : decode cL_areForecasts 86 = .ok (.sipush (-972), 3) := by decide +kernel
theorem dL_areForecasts_89 : decode cL_areForecasts 89 = .ok (.if_icmp .ne 64, 3) := by decide +kernel
theorem dL_areForecasts_92 : decode cL_areForecasts 92 = .ok (.aload_n 0, 1) := by decide +kernel
theorem dL_areForecasts_93 : decode cL_areForecasts 93 = .ok (.iconst 5, 1) := by decide +kernel
theorem dL_areForecasts_94 : decode cL_areForecasts 94 = .ok (.iload_n 3, 1) := by decide +kernel
theorem dL_areForecasts_95 : decode cL_areForecasts 95 = .ok (.iload 5, 2) := by decide +kernel
theorem dL_areForecasts_97 : decode cL_areForecasts 97 = .ok (.sipush 1001, 3) := by decide +kernel
theorem dL_areForecasts_100 : decode cL_areForecasts 100 = .ok (.iadd, 1) := by decide +kernel
theorem dL_areForecasts_101 : decode cL_areForecasts 101 = .ok (.invokestatic 99, 3) := by decide +kernel
theorem dL_areForecasts_104 : decode cL_areForecasts 104 = .ok (.sipush (-972), 3) := by decide +kernel
theorem dL_areForecasts_107 : decode cL_areForecasts 107 = .ok (.if_icmp .ne 46, 3) := by decide +kernel
theorem dL_areForecasts_110 : decode cL_areForecasts 110 = .ok (.iload 6, 2) := by decide +kernel
theorem dL_areForecasts_112 : decode cL_areForecasts 112 = .ok (.ifCond .lt 37, 3) := by decide +kernel
theorem dL_areForecasts_115 : decode cL_areForecasts 115 = .ok (.iload 6, 2) := by decide +kernel
theorem dL_areForecasts_117 : decode cL_areForecasts 117 = .ok (.iload 5, 2) := by decide +kernel
theorem dL_areForecasts_119 : decode cL_areForecasts 119 = .ok (.if_icmp .le 34, 3) := by decide +kernel
theorem dL_areForecasts_122 : decode cL_areForecasts 122 = .ok (.iload 6, 2) := by decide +kernel
theorem dL_areForecasts_124 : decode cL_areForecasts 124 = .ok (.iload 5, 2) := by decide +kernel
theorem dL_areForecasts_126 : decode cL_areForecasts 126 = .ok (.sipush 1000, 3) := by decide +kernel
theorem dL_areForecasts_129 : decode cL_areForecasts 129 = .ok (.iadd, 1) := by decide +kernel
theorem dL_areForecasts_130 : decode cL_areForecasts 130 = .ok (.if_icmp .gt 23, 3) := by decide +kernel
theorem dL_areForecasts_133 : decode cL_areForecasts 133 = .ok (.aload_n 0, 1) := by decide +kernel
theorem dL_areForecasts_134 : decode cL_areForecasts 134 = .ok (.iload_n 3, 1) := by decide +kernel
theorem dL_areForecasts_135 : decode cL_areForecasts 135 = .ok (.iload 6, 2) := by decide +kernel
theorem dL_areForecasts_137 : decode cL_areForecasts 137 = .ok (.invokevirtual 28, 3) := by decide +kernel
theorem dL_areForecasts_140 : decode cL_areForecasts 140 = .ok (.aload_n 2, 1) := by decide +kernel
theorem dL_areForecasts_141 : decode cL_areForecasts 141 = .ok (.bipush 8, 2) := by decide +kernel
theorem dL_areForecasts_143 : decode cL_areForecasts 143 = .ok (.iload_n 3, 1) := by decide +kernel
theorem dL_areForecasts_144 : decode cL_areForecasts 144 = .ok (.imul, 1) := by decide +kernel
theorem dL_areForecasts_145 : decode cL_areForecasts 145 = .ok (.iaload, 1) := by decide +kernel
theorem dL_areForecasts_146 : decode cL_areForecasts 146 = .ok (.if_icmp .lt 7, 3) := by decide +kernel
theorem dL_areForecasts_149 : decode cL_areForecasts 149 = .ok (.iconst 1, 1) := by decide +kernel
theorem dL_areForecasts_150 : decode cL_areForecasts 150 = .ok (.goto 4, 3) := by decide +kernel
theorem dL_areForecasts_153 : decode cL_areForecasts 153 = .ok (.iconst 0, 1) := by decide +kernel
theorem dL_areForecasts_154 : decode cL_areForecasts 154 = .ok (.istore 8, 2) := by decide +kernel
theorem dL_areForecasts_156 : decode cL_areForecasts 156 = .ok (.iconst 0, 1) := by decide +kernel
theorem dL_areForecasts_157 : decode cL_areForecasts 157 = .ok (.istore 9, 2) := by decide +kernel
theorem dL_areForecasts_159 : decode cL_areForecasts 159 = .ok (.iload 9, 2) := by decide +kernel
theorem dL_areForecasts_161 : decode cL_areForecasts 161 = .ok (.bipush 6, 2) := by decide +kernel
theorem dL_areForecasts_163 : decode cL_areForecasts 163 = .ok (.if_icmp .ge 88, 3) := by decide +kernel
theorem dL_areForecasts_166 : decode cL_areForecasts 166 = .ok (.iload 8, 2) := by decide +kernel
theorem dL_areForecasts_168 : decode cL_areForecasts 168 = .ok (.ifCond .eq 83, 3) := by decide +kernel
theorem dL_areForecasts_171 : decode cL_areForecasts 171 = .ok (.iload 5, 2) := by decide +kernel
theorem dL_areForecasts_173 : decode cL_areForecasts 173 = .ok (.iconst 1, 1) := by decide +kernel
theorem dL_areForecasts_174 : decode cL_areForecasts 174 = .ok (.iadd, 1) := by decide +kernel
theorem dL_areForecasts_175 : decode cL_areForecasts 175 = .ok (.iload 4, 2) := by decide +kernel
theorem dL_areForecasts_177 : decode cL_areForecasts 177 = .ok (.sipush 173, 3) := by decide +kernel
theorem dL_areForecasts_180 : decode cL_areForecasts 180 = .ok (.iload 9, 2) := by decide +kernel
theorem dL_areForecasts_182 : decode cL_areForecasts 182 = .ok (.imul, 1) := by decide +kernel
theorem dL_areForecasts_183 : decode cL_areForecasts 183 = .ok (.iadd, 1) := by decide +kernel
theorem dL_areForecasts_184 : decode cL_areForecasts 184 = .ok (.iload 7, 2) := by decide +kernel
theorem dL_areForecasts_186 : decode cL_areForecasts 186 = .ok (.iload 5, 2) := by decide +kernel
theorem dL_areForecasts_188 : decode cL_areForecasts 188 = .ok (.isub, 1) := by decide +kernel
theorem dL_areForecasts_189 : decode cL_areForecasts 189 = .ok (.irem, 1) := by decide +kernel
theorem dL_areForecasts_190 : decode cL_areForecasts 190 = .ok (.iadd, 1) := by decide +kernel
theorem dL_areForecasts_191 : decode cL_areForecasts 191 = .ok (.istore 10, 2) := by decide +kernel
theorem dL_areForecasts_193 : decode cL_areForecasts 193 = .ok (.aload_n 0, 1) := by decide +kernel
theorem dL_areForecasts_194 : decode cL_areForecasts 194 = .ok (.aload_n 1, 1) := by decide +kernel
theorem dL_areForecasts_195 : decode cL_areForecasts 195 = .ok (.aload_n 2, 1) := by decide +kernel
theorem dL_areForecasts_196 : decode cL_areForecasts 196 = .ok (.iload_n 3, 1) := by decide +kernel
theorem dL_areForecasts_197 : decode cL_areForecasts 197 = .ok (.iload 10, 2) := by decide +kernel
theorem dL_areForecasts_199 : decode cL_areForecasts 199 = .ok (.invokestatic 113, 3) := by decide +kernel
theorem dL_areForecasts_202 : decode cL_areForecasts 202 = .ok (.lstore 11, 2) := by decide +kernel
theorem dL_areForecasts_204 : decode cL_areForecasts 204 = .ok (.aload_n 0, 1) := by decide +kernel
theorem dL_areForecasts_205 : decode cL_areForecasts 205 = .ok (.iload_n 3, 1) := by decide +kernel
theorem dL_areForecasts_206 : decode cL_areForecasts 206 = .ok (.iload 10, 2) := by decide +kernel
theorem dL_areForecasts_208 : decode cL_areForecasts 208 = .ok (.invokevirtual 28, 3) := by decide +kernel
theorem dL_areForecasts_211 : decode cL_areForecasts 211 = .ok (.i2l, 1) := by decide +kernel
theorem dL_areForecasts_212 : decode cL_areForecasts 212 = .ok (.lload 11, 2) := by decide +kernel
theorem dL_areForecasts_214 : decode cL_areForecasts 214 = .ok (.lcmp, 1) := by decide +kernel
theorem dL_areForecasts_215 : decode cL_areForecasts 215 = .ok (.ifCond .ne 27, 3) := by decide +kernel
theorem dL_areForecasts_218 : decode cL_areForecasts 218 = .ok (.iload 10, 2) := by decide +kernel
theorem dL_areForecasts_220 : decode cL_areForecasts 220 = .ok (.iload 6, 2) := by decide +kernel
theorem dL_areForecasts_222 : decode cL_areForecasts 222 = .ok (.if_icmp .eq 16, 3) := by decide +kernel
theorem dL_areForecasts_225 : decode cL_areForecasts 225 = .ok (.lload 11, 2) := by decide +kernel
theorem dL_areForecasts_227 : decode cL_areForecasts 227 = .ok (.aload_n 2, 1) := by decide +kernel
theorem dL_areForecasts_228 : decode cL_areForecasts 228 = .ok (.bipush 8, 2) := by decide +kernel
theorem dL_areForecasts_230 : decode cL_areForecasts 230 = .ok (.iload_n 3, 1) := by decide +kernel
theorem dL_areForecasts_231 : decode cL_areForecasts 231 = .ok (.imul, 1) := by decide +kernel
theorem dL_areForecasts_232 : decode cL_areForecasts 232 = .ok (.iaload, 1) := by decide +kernel
theorem dL_areForecasts_233 : decode cL_areForecasts 233 = .ok (.i2l, 1) := by decide +kernel
theorem dL_areForecasts_234 : decode cL_areForecasts 234 = .ok (.lcmp, 1) := by decide +kernel
theorem dL_areForecasts_235 : decode cL_areForecasts 235 = .ok (.ifCond .ge 7, 3) := by decide +kernel
theorem dL_areForecasts_238 : decode cL_areForecasts 238 = .ok (.iconst 1, 1) := by decide +kernel
theorem dL_areForecasts_239 : decode cL_areForecasts 239 = .ok (.goto 4, 3) := by decide +kernel
theorem dL_areForecasts_242 : decode cL_areForecasts 242 = .ok (.iconst 0, 1) := by decide +kernel
theorem dL_areForecasts_243 : decode cL_areForecasts 243 = .ok (.istore 8, 2) := by decide +kernel
theorem dL_areForecasts_245 : decode cL_areForecasts 245 = .ok (.iinc 9 1, 3) := by decide +kernel
theorem dL_areForecasts_248 : decode cL_areForecasts 248 = .ok (.goto (-89), 3) := by decide +kernel
theorem dL_areForecasts_251 : decode cL_areForecasts 251 = .ok (.iload 8, 2) := by decide +kernel
theorem dL_areForecasts_253 : decode cL_areForecasts 253 = .ok (.ifCond .eq 34, 3) := by decide +kernel
theorem dL_areForecasts_256 : decode cL_areForecasts 256 = .ok (.iload 7, 2) := by decide +kernel
theorem dL_areForecasts_258 : decode cL_areForecasts 258 = .ok (.iload 5, 2) := by decide +kernel
theorem dL_areForecasts_260 : decode cL_areForecasts 260 = .ok (.iconst 1, 1) := by decide +kernel
theorem dL_areForecasts_261 : decode cL_areForecasts 261 = .ok (.iadd, 1) := by decide +kernel
theorem dL_areForecasts_262 : decode cL_areForecasts 262 = .ok (.if_icmp .eq 21, 3) := by decide +kernel
theorem dL_areForecasts_265 : decode cL_areForecasts 265 = .ok (.aload_n 0, 1) := by decide +kernel
theorem dL_areForecasts_266 : decode cL_areForecasts 266 = .ok (.iload_n 3, 1) := by decide +kernel
theorem dL_areForecasts_267 : decode cL_areForecasts 267 = .ok (.iload 7, 2) := by decide +kernel
theorem dL_areForecasts_269 : decode cL_areForecasts 269 = .ok (.iconst 1, 1) := by decide +kernel
theorem dL_areForecasts_270 : decode cL_areForecasts 270 = .ok (.isub, 1) := by decide +kernel
theorem dL_areForecasts_271 : decode cL_areForecasts 271 = .ok (.invokevirtual 28, 3) := by decide +kernel
theorem dL_areForecasts_274 : decode cL_areForecasts 274 = .ok (.aload_n 2, 1) := by decide +kernel
theorem dL_areForecasts_275 : decode cL_areForecasts 275 = .ok (.bipush 8, 2) := by decide +kernel
theorem dL_areForecasts_277 : decode cL_areForecasts 277 = .ok (.iload_n 3, 1) := by decide +kernel
theorem dL_areForecasts_278 : decode cL_areForecasts 278 = .ok (.imul, 1) := by decide +kernel
theorem dL_areForecasts_279 : decode cL_areForecasts 279 = .ok (.iaload, 1) := by decide +kernel
theorem dL_areForecasts_280 : decode cL_areForecasts 280 = .ok (.if_icmp .ge 7, 3) := by decide +kernel
theorem dL_areForecasts_283 : decode cL_areForecasts 283 = .ok (.iconst 1, 1) := by decide +kernel
theorem dL_areForecasts_284 : decode cL_areForecasts 284 = .ok (.goto 4, 3) := by decide +kernel
theorem dL_areForecasts_287 : decode cL_areForecasts 287 = .ok (.iconst 0, 1) := by decide +kernel
theorem dL_areForecasts_288 : decode cL_areForecasts 288 = .ok (.istore 8, 2) := by decide +kernel
theorem dL_areForecasts_290 : decode cL_areForecasts 290 = .ok (.aload_n 0, 1) := by decide +kernel
theorem dL_areForecasts_291 : decode cL_areForecasts 291 = .ok (.iload_n 3, 1) := by decide +kernel
theorem dL_areForecasts_292 : decode cL_areForecasts 292 = .ok (.invokevirtual 53, 3) := by decide +kernel
theorem dL_areForecasts_295 : decode cL_areForecasts 295 = .ok (.istore 9, 2) := by decide +kernel
theorem dL_areForecasts_297 : decode cL_areForecasts 297 = .ok (.aload_n 0, 1) := by decide +kernel
theorem dL_areForecasts_298 : decode cL_areForecasts 298 = .ok (.iload_n 3, 1) := by decide +kernel
theorem dL_areForecasts_299 : decode cL_areForecasts 299 = .ok (.invokevirtual 56, 3) := by decide +kernel
theorem dL_areForecasts_302 : decode cL_areForecasts 302 = .ok (.istore 10, 2) := by decide +kernel
theorem dL_areForecasts_304 : decode cL_areForecasts 304 = .ok (.iload 8, 2) := by decide +kernel
theorem dL_areForecasts_306 : decode cL_areForecasts 306 = .ok (.ifCond .eq 91, 3) := by decide +kernel
theorem dL_areForecasts_309 : decode cL_areForecasts 309 = .ok (.aload_n 2, 1) := by decide +kernel
theorem dL_areForecasts_310 : decode cL_areForecasts 310 = .ok (.bipush 8, 2) := by decide +kernel
theorem dL_areForecasts_312 : decode cL_areForecasts 312 = .ok (.iload_n 3, 1) := by decide +kernel
theorem dL_areForecasts_313 : decode cL_areForecasts 313 = .ok (.imul, 1) := by decide +kernel
theorem dL_areForecasts_314 : decode cL_areForecasts 314 = .ok (.iconst 1, 1) := by decide +kernel
theorem dL_areForecasts_315 : decode cL_areForecasts 315 = .ok (.iadd, 1) := by decide +kernel
theorem dL_areForecasts_316 : decode cL_areForecasts 316 = .ok (.iaload, 1) := by decide +kernel
theorem dL_areForecasts_317 : decode cL_areForecasts 317 = .ok (.iconst 2, 1) := by decide +kernel
theorem dL_areForecasts_318 : decode cL_areForecasts 318 = .ok (.if_icmp .le 65, 3) := by decide +kernel
theorem dL_areForecasts_321 : decode cL_areForecasts 321 = .ok (.iload 9, 2) := by decide +kernel
theorem dL_areForecasts_323 : decode cL_areForecasts 323 = .ok (.ifCond .ge 16, 3) := by decide +kernel
theorem dL_areForecasts_326 : decode cL_areForecasts 326 = .ok (.iload 6, 2) := by decide +kernel
theorem dL_areForecasts_328 : decode cL_areForecasts 328 = .ok (.ifCond .ge 69, 3) := by decide +kernel
theorem dL_areForecasts_331 : decode cL_areForecasts 331 = .ok (.iload 10, 2) := by decide +kernel
theorem dL_areForecasts_333 : decode cL_areForecasts 333 = .ok (.ifCond .ge 64, 3) := by decide +kernel
theorem dL_areForecasts_336 : decode cL_areForecasts 336 = .ok (.goto 15, 3) := by decide +kernel
theorem dL_areForecasts_339 : decode cL_areForecasts 339 = .ok (.iload 6, 2) := by decide +kernel
theorem dL_areForecasts_341 : decode cL_areForecasts 341 = .ok (.ifCond .lt 10, 3) := by decide +kernel
theorem dL_areForecasts_344 : decode cL_areForecasts 344 = .ok (.iload 9, 2) := by decide +kernel
theorem dL_areForecasts_346 : decode cL_areForecasts 346 = .ok (.iload 6, 2) := by decide +kernel
theorem dL_areForecasts_348 : decode cL_areForecasts 348 = .ok (.if_icmp .gt 49, 3) := by decide +kernel
theorem dL_areForecasts_351 : decode cL_areForecasts 351 = .ok (.iload 10, 2) := by decide +kernel
theorem dL_areForecasts_353 : decode cL_areForecasts 353 = .ok (.ifCond .lt 40, 3) := by decide +kernel
theorem dL_areForecasts_356 : decode cL_areForecasts 356 = .ok (.iload 6, 2) := by decide +kernel
theorem dL_areForecasts_358 : decode cL_areForecasts 358 = .ok (.ifCond .lt 39, 3) := by decide +kernel
theorem dL_areForecasts_361 : decode cL_areForecasts 361 = .ok (.iload 10, 2) := by decide +kernel
theorem dL_areForecasts_363 : decode cL_areForecasts 363 = .ok (.iload 6, 2) := by decide +kernel
theorem dL_areForecasts_365 : decode cL_areForecasts 365 = .ok (.if_icmp .lt 32, 3) := by decide +kernel
theorem dL_areForecasts_368 : decode cL_areForecasts 368 = .ok (.iload 9, 2) := by decide +kernel
theorem dL_areForecasts_370 : decode cL_areForecasts 370 = .ok (.ifCond .lt 27, 3) := by decide +kernel
theorem dL_areForecasts_373 : decode cL_areForecasts 373 = .ok (.iload 9, 2) := by decide +kernel
theorem dL_areForecasts_375 : decode cL_areForecasts 375 = .ok (.iload 10, 2) := by decide +kernel
theorem dL_areForecasts_377 : decode cL_areForecasts 377 = .ok (.if_icmp .gt 20, 3) := by decide +kernel
theorem dL_areForecasts_380 : decode cL_areForecasts 380 = .ok (.goto 13, 3) := by decide +kernel
theorem dL_areForecasts_383 : decode cL_areForecasts 383 = .ok (.iload 9, 2) := by decide +kernel
theorem dL_areForecasts_385 : decode cL_areForecasts 385 = .ok (.ifCond .ge 12, 3) := by decide +kernel
theorem dL_areForecasts_388 : decode cL_areForecasts 388 = .ok (.iload 10, 2) := by decide +kernel
theorem dL_areForecasts_390 : decode cL_areForecasts 390 = .ok (.ifCond .ge 7, 3) := by decide +kernel
theorem dL_areForecasts_393 : decode cL_areForecasts 393 = .ok (.iconst 1, 1) := by decide +kernel
theorem dL_areForecasts_394 : decode cL_areForecasts 394 = .ok (.goto 4, 3) := by decide +kernel
theorem dL_areForecasts_397 : decode cL_areForecasts 397 = .ok (.iconst 0, 1) := by decide +kernel
theorem dL_areForecasts_398 : decode cL_areForecasts 398 = .ok (.ireturn, 1) := by decide +kernel
theorem dL_isUsual_0 : decode cL_isUsual 0 = .ok (.aload_n 0, 1) := by decide +kernel
theorem dL_isUsual_1 : decode cL_isUsual 1 = .ok (.iload_n 3, 1) := by decide +kernel
theorem dL_isUsual_2 : decode cL_isUsual 2 = .ok (.invokevirtual 47, 3) := by decide +kernel
theorem dL_isUsual_5 : decode cL_isUsual 5 = .ok (.istore 4, 2) := by decide +kernel
theorem dL_isUsual_7 : decode cL_isUsual 7 = .ok (.aload_n 2, 1) := by decide +kernel
theorem dL_isUsual_8 : decode cL_isUsual 8 = .ok (.bipush 8, 2) := by decide +kernel
theorem dL_isUsual_10 : decode cL_isUsual 10 = .ok (.iload_n 3, 1) := by decide +kernel
theorem dL_isUsual_11 : decode cL_isUsual 11 = .ok (.imul, 1) := by decide +kernel
theorem dL_isUsual_12 : decode cL_isUsual 12 = .ok (.iconst 2, 1) := by decide +kernel
theorem dL_isUsual_13 : decode cL_isUsual 13 = .ok (.iadd, 1) := by decide +kernel
theorem dL_isUsual_14 : decode cL_isUsual 14 = .ok (.iaload, 1) := by decide +kernel
theorem dL_isUsual_15 : decode cL_isUsual 15 = .ok (.istore 5, 2) := by decide +kernel
theorem dL_isUsual_17 : decode cL_isUsual 17 = .ok (.iconst 0, 1) := by decide +kernel
theorem dL_isUsual_18 : decode cL_isUsual 18 = .ok (.istore 6, 2) := by decide +kernel
theorem dL_isUsual_20 : decode cL_isUsual 20 = .ok (.iconst 0, 1) := by decide +kernel
theorem dL_isUsual_21 : decode cL_isUsual 21 = .ok (.istore 7, 2) := by decide +kernel
theorem dL_isUsual_23 : decode cL_isUsual 23 = .ok (.bipush 20, 2) := by decide +kernel
theorem dL_isUsual_25 : decode cL_isUsual 25 = .ok (.iload_n 3, 1) := by decide +kernel
theorem dL_isUsual_26 : decode cL_isUsual 26 = .ok (.imul, 1) := by decide +kernel
theorem dL_isUsual_27 : decode cL_isUsual 27 = .ok (.istore 8, 2) := by decide +kernel
theorem dL_isUsual_29 : decode cL_isUsual 29 = .ok (.iload 8, 2) := by decide +kernel
theorem dL_isUsual_31 : decode cL_isUsual 31 = .ok (.bipush 20, 2) := by decide +kernel
theorem dL_isUsual_33 : decode cL_isUsual 33 = .ok (.iload_n 3, 1) := by decide +kernel
theorem dL_isUsual_34 : decode cL_isUsual 34 = .ok (.imul, 1) := by decide +kernel
theorem dL_isUsual_35 : decode cL_isUsual 35 = .ok (.iload 5, 2) := by decide +kernel
theorem dL_isUsual_37 : decode cL_isUsual 37 = .ok (.iadd, 1) := by decide +kernel
theorem dL_isUsual_38 : decode cL_isUsual 38 = .ok (.if_icmp .ge 57, 3) := by decide +kernel
theorem dL_isUsual_41 : decode cL_isUsual 41 = .ok (.iload 6, 2) := by decide +kernel
theorem dL_isUsual_43 : decode cL_isUsual 43 = .ok (.aload_n 1, 1) := by decide +kernel
theorem dL_isUsual_44 : decode cL_isUsual 44 = .ok (.iload 8, 2) := by decide +kernel
theorem dL_isUsual_46 : decode cL_isUsual 46 = .ok (.laload, 1) := by decide +kernel
theorem dL_isUsual_47 : decode cL_isUsual 47 = .ok (.bipush 11, 2) := by decide +kernel
theorem dL_isUsual_49 : decode cL_isUsual 49 = .ok (.lshr, 1) := by decide +kernel
theorem dL_isUsual_50 : decode cL_isUsual 50 = .ok (.iload 4, 2) := by decide +kernel
theorem dL_isUsual_52 : decode cL_isUsual 52 = .ok (.i2l, 1) := by decide +kernel
theorem dL_isUsual_53 : decode cL_isUsual 53 = .ok (.lcmp, 1) := by decide +kernel
theorem dL_isUsual_54 : decode cL_isUsual 54 = .ok (.ifCond .ge 7, 3) := by decide +kernel
theorem dL_isUsual_57 : decode cL_isUsual 57 = .ok (.iconst 1, 1) := by decide +kernel
theorem dL_isUsual_58 : decode cL_isUsual 58 = .ok (.goto 4, 3) := by decide +kernel
theorem dL_isUsual_61 : decode cL_isUsual 61 = .ok (.iconst 0, 1) := by decide +kernel
theorem dL_isUsual_62 : decode cL_isUsual 62 = .ok (.iadd, 1) := by decide +kernel
theorem dL_isUsual_63 : decode cL_isUsual 63 = .ok (.istore 6, 2) := by decide +kernel
theorem dL_isUsual_65 : decode cL_isUsual 65 = .ok (.iload 7, 2) := by decide +kernel
theorem dL_isUsual_67 : decode cL_isUsual 67 = .ok (.aload_n 1, 1) := by decide +kernel
theorem dL_isUsual_68 : decode cL_isUsual 68 = .ok (.iload 8, 2) := by decide +kernel
theorem dL_isUsual_70 : decode cL_isUsual 70 = .ok (.laload, 1) := by decide +kernel
theorem dL_isUsual_71 : decode cL_isUsual 71 = .ok (.bipush 11, 2) := by decide +kernel
theorem dL_isUsual_73 : decode cL_isUsual 73 = .ok (.lshr, 1) := by decide +kernel
theorem dL_isUsual_74 : decode cL_isUsual 74 = .ok (.iload 4, 2) := by decide +kernel
theorem dL_isUsual_76 : decode cL_isUsual 76 = .ok (.i2l, 1) := by decide +kernel
theorem dL_isUsual_77 : decode cL_isUsual 77 = .ok (.lcmp, 1) := by decide +kernel
theorem dL_isUsual_78 : decode cL_isUsual 78 = .ok (.ifCond .ne 7, 3) := by decide +kernel
theorem dL_isUsual_81 : decode cL_isUsual 81 = .ok (.iconst 1, 1) := by decide +kernel
theorem dL_isUsual_82 : decode cL_isUsual 82 = .ok (.goto 4, 3) := by decide +kernel
theorem dL_isUsual_85 : decode cL_isUsual 85 = .ok (.iconst 0, 1) := by decide +kernel
theorem dL_isUsual_86 : decode cL_isUsual 86 = .ok (.iadd, 1) := by decide +kernel
theorem dL_isUsual_87 : decode cL_isUsual 87 = .ok (.istore 7, 2) := by decide +kernel
theorem dL_isUsual_89 : decode cL_isUsual 89 = .ok (.iinc 8 1, 3) := by decide +kernel
theorem dL_isUsual_92 : decode cL_isUsual 92 = .ok (.goto (-63), 3) := by decide +kernel
theorem dL_isUsual_95 : decode cL_isUsual 95 = .ok (.iload 5, 2) := by decide +kernel
theorem dL_isUsual_97 : decode cL_isUsual 97 = .ok (.iconst 1, 1) := by decide +kernel
theorem dL_isUsual_98 : decode cL_isUsual 98 = .ok (.isub, 1) := by decide +kernel
theorem dL_isUsual_99 : decode cL_isUsual 99 = .ok (.iconst 2, 1) := by decide +kernel
theorem dL_isUsual_100 : decode cL_isUsual 100 = .ok (.idiv, 1) := by decide +kernel
theorem dL_isUsual_101 : decode cL_isUsual 101 = .ok (.istore 8, 2) := by decide +kernel
theorem dL_isUsual_103 : decode cL_isUsual 103 = .ok (.iload 5, 2) := by decide +kernel
theorem dL_isUsual_105 : decode cL_isUsual 105 = .ok (.ifCond .ne 16, 3) := by decide +kernel
theorem dL_isUsual_108 : decode cL_isUsual 108 = .ok (.iload 4, 2) := by decide +kernel
theorem dL_isUsual_110 : decode cL_isUsual 110 = .ok (.ifCond .ne 7, 3) := by decide +kernel
theorem dL_isUsual_113 : decode cL_isUsual 113 = .ok (.iconst 1, 1) := by decide +kernel
theorem dL_isUsual_114 : decode cL_isUsual 114 = .ok (.goto 29, 3) := by decide +kernel
theorem dL_isUsual_117 : decode cL_isUsual 117 = .ok (.iconst 0, 1) := by decide +kernel
theorem dL_isUsual_118 : decode cL_isUsual 118 = .ok (.goto 25, 3) := by decide +kernel
theorem dL_isUsual_121 : decode cL_isUsual 121 = .ok (.iload 6, 2) := by decide +kernel
theorem dL_isUsual_123 : decode cL_isUsual 123 = .ok (.iload 8, 2) := by decide +kernel
theorem dL_isUsual_125 : decode cL_isUsual 125 = .ok (.if_icmp .gt 17, 3) := by decide +kernel
theorem dL_isUsual_128 : decode cL_isUsual 128 = .ok (.iload 8, 2) := by decide +kernel
theorem dL_isUsual_130 : decode cL_isUsual 130 = .ok (.iload 6, 2) := by decide +kernel
theorem dL_isUsual_132 : decode cL_isUsual 132 = .ok (.iload 7, 2) := by decide +kernel
theorem dL_isUsual_134 : decode cL_isUsual 134 = .ok (.iadd, 1) := by decide +kernel
theorem dL_isUsual_135 : decode cL_isUsual 135 = .ok (.if_icmp .ge 7, 3) := by decide +kernel
theorem dL_isUsual_138 : decode cL_isUsual 138 = .ok (.iconst 1, 1) := by decide +kernel
theorem dL_isUsual_139 : decode cL_isUsual 139 = .ok (.goto 4, 3) := by decide +kernel
theorem dL_isUsual_142 : decode cL_isUsual 142 = .ok (.iconst 0, 1) := by decide +kernel
theorem dL_isUsual_143 : decode cL_isUsual 143 = .ok (.ireturn, 1) := by decide +kernel
theorem dL_isPool_0 : decode cL_isPool 0 = .ok (.aload_n 0, 1) := by decide +kernel
theorem dL_isPool_1 : decode cL_isPool 1 = .ok (.iload 4, 2) := by decide +kernel
theorem dL_isPool_3 : decode cL_isPool 3 = .ok (.invokevirtual 31, 3) := by decide +kernel
theorem dL_isPool_6 : decode cL_isPool 6 = .ok (.istore 5, 2) := by decide +kernel
theorem dL_isPool_8 : decode cL_isPool 8 = .ok (.iconst 1, 1) := by decide +kernel
theorem dL_isPool_9 : decode cL_isPool 9 = .ok (.istore 6, 2) := by decide +kernel
theorem dL_isPool_11 : decode cL_isPool 11 = .ok (.lconst 0, 1) := by decide +kernel
theorem dL_isPool_12 : decode cL_isPool 12 = .ok (.lstore 7, 2) := by decide +kernel
theorem dL_isPool_14 : decode cL_isPool 14 = .ok (.lconst 0, 1) := by decide +kernel
theorem dL_isPool_15 : decode cL_isPool 15 = .ok (.lstore 9, 2) := by decide +kernel
theorem dL_isPool_17 : decode cL_isPool 17 = .ok (.lconst 0, 1) := by decide +kernel
theorem dL_isPool_18 : decode cL_isPool 18 = .ok (.lstore 11, 2) := by decide +kernel
theorem dL_isPool_20 : decode cL_isPool 20 = .ok (.iconst 0, 1) := by decide +kernel
theorem dL_isPool_21 : decode cL_isPool 21 = .ok (.istore 13, 2) := by decide +kernel
theorem dL_isPool_23 : decode cL_isPool 23 = .ok (.iload 13, 2) := by decide +kernel
theorem dL_isPool_25 : decode cL_isPool 25 = .ok (.aload_n 2, 1) := by decide +kernel
theorem dL_isPool_26 : decode cL_isPool 26 = .ok (.iconst 0, 1) := by decide +kernel
theorem dL_isPool_27 : decode cL_isPool 27 = .ok (.iaload, 1) := by decide +kernel
theorem dL_isPool_28 : decode cL_isPool 28 = .ok (.if_icmp .ge 124, 3) := by decide +kernel
theorem dL_isPool_31 : decode cL_isPool 31 = .ok (.iload 4, 2) := by decide +kernel
theorem dL_isPool_33 : decode cL_isPool 33 = .ok (.iload 13, 2) := by decide +kernel
theorem dL_isPool_35 : decode cL_isPool 35 = .ok (.ishr, 1) := by decide +kernel
theorem dL_isPool_36 : decode cL_isPool 36 = .ok (.iconst 1, 1) := by decide +kernel
theorem dL_isPool_37 : decode cL_isPool 37 = .ok (.iand, 1) := by decide +kernel
theorem dL_isPool_38 : decode cL_isPool 38 = .ok (.iconst 1, 1) := by decide +kernel
theorem dL_isPool_39 : decode cL_isPool 39 = .ok (.if_icmp .ne 107, 3) := by decide +kernel
theorem dL_isPool_42 : decode cL_isPool 42 = .ok (.iload 6, 2) := by decide +kernel
theorem dL_isPool_44 : decode cL_isPool 44 = .ok (.ifCond .eq 20, 3) := by decide +kernel
theorem dL_isPool_47 : decode cL_isPool 47 = .ok (.aload_n 1, 1) := by decide +kernel
theorem dL_isPool_48 : decode cL_isPool 48 = .ok (.bipush 8, 2) := by decide +kernel
theorem dL_isPool_50 : decode cL_isPool 50 = .ok (.iload 13, 2) := by decide +kernel
theorem dL_isPool_52 : decode cL_isPool 52 = .ok (.imul, 1) := by decide +kernel
theorem dL_isPool_53 : decode cL_isPool 53 = .ok (.iconst 1, 1) := by decide +kernel
theorem dL_isPool_54 : decode cL_isPool 54 = .ok (.iadd, 1) := by decide +kernel
theorem dL_isPool_55 : decode cL_isPool 55 = .ok (.iaload, 1) := by decide +kernel
theorem dL_isPool_56 : decode cL_isPool 56 = .ok (.iconst 1, 1) := by decide +kernel
theorem dL_isPool_57 : decode cL_isPool 57 = .ok (.if_icmp .le 7, 3) := by decide +kernel
theorem dL_isPool_60 : decode cL_isPool 60 = .ok (.iconst 1, 1) := by decide +kernel
theorem dL_isPool_61 : decode cL_isPool 61 = .ok (.goto 4, 3) := by decide +kernel
theorem dL_isPool_64 : decode cL_isPool 64 = .ok (.iconst 0, 1) := by decide +kernel
theorem dL_isPool_65 : decode cL_isPool 65 = .ok (.istore 6, 2) := by decide +kernel
theorem dL_isPool_67 : decode cL_isPool 67 = .ok (.lload 7, 2) := by decide +kernel
theorem dL_isPool_69 : decode cL_isPool 69 = .ok (.aload_n 1, 1) := by decide +kernel
theorem dL_isPool_70 : decode cL_isPool 70 = .ok (.bipush 8, 2) := by decide +kernel
theorem dL_isPool_72 : decode cL_isPool 72 = .ok (.iload 13, 2) := by decide +kernel
theorem dL_isPool_74 : decode cL_isPool 74 = .ok (.imul, 1) := by decide +kernel
theorem dL_isPool_75 : decode cL_isPool 75 = .ok (.iaload, 1) := by decide +kernel
theorem dL_isPool_76 : decode cL_isPool 76 = .ok (.i2l, 1) := by decide +kernel
theorem dL_isPool_77 : decode cL_isPool 77 = .ok (.ladd, 1) := by decide +kernel
theorem dL_isPool_78 : decode cL_isPool 78 = .ok (.lstore 7, 2) := by decide +kernel
theorem dL_isPool_80 : decode cL_isPool 80 = .ok (.lload 9, 2) := by decide +kernel
theorem dL_isPool_82 : decode cL_isPool 82 = .ok (.iload 6, 2) := by decide +kernel
theorem dL_isPool_84 : decode cL_isPool 84 = .ok (.ifCond .eq 21, 3) := by decide +kernel
theorem dL_isPool_87 : decode cL_isPool 87 = .ok (.iload 5, 2) := by decide +kernel
theorem dL_isPool_89 : decode cL_isPool 89 = .ok (.ifCond .le 16, 3) := by decide +kernel
theorem dL_isPool_92 : decode cL_isPool 92 = .ok (.aload_n 0, 1) := by decide +kernel
theorem dL_isPool_93 : decode cL_isPool 93 = .ok (.aload_n 3, 1) := by decide +kernel
theorem dL_isPool_94 : decode cL_isPool 94 = .ok (.aload_n 1, 1) := by decide +kernel
theorem dL_isPool_95 : decode cL_isPool 95 = .ok (.iload 13, 2) := by decide +kernel
theorem dL_isPool_97 : decode cL_isPool 97 = .ok (.iload 5, 2) := by decide +kernel
theorem dL_isPool_99 : decode cL_isPool 99 = .ok (.invokestatic 113, 3) := by decide +kernel
theorem dL_isPool_102 : decode cL_isPool 102 = .ok (.goto 4, 3) := by decide +kernel
theorem dL_isPool_105 : decode cL_isPool 105 = .ok (.lconst 0, 1) := by decide +kernel
theorem dL_isPool_106 : decode cL_isPool 106 = .ok (.ladd, 1) := by decide +kernel
theorem dL_isPool_107 : decode cL_isPool 107 = .ok (.lstore 9, 2) := by decide +kernel
theorem dL_isPool_109 : decode cL_isPool 109 = .ok (.lload 11, 2) := by decide +kernel
theorem dL_isPool_111 : decode cL_isPool 111 = .ok (.iload 6, 2) := by decide +kernel
theorem dL_isPool_113 : decode cL_isPool 113 = .ok (.ifCond .eq 29, 3) := by decide +kernel
theorem dL_isPool_116 : decode cL_isPool 116 = .ok (.iload 5, 2) := by decide +kernel
theorem dL_isPool_118 : decode cL_isPool 118 = .ok (.aload_n 0, 1) := by decide +kernel
theorem dL_isPool_119 : decode cL_isPool 119 = .ok (.invokevirtual 71, 3) := by decide +kernel
theorem dL_isPool_122 : decode cL_isPool 122 = .ok (.iconst 1, 1) := by decide +kernel
theorem dL_isPool_123 : decode cL_isPool 123 = .ok (.iadd, 1) := by decide +kernel
theorem dL_isPool_124 : decode cL_isPool 124 = .ok (.if_icmp .le 18, 3) := by decide +kernel
theorem dL_isPool_127 : decode cL_isPool 127 = .ok (.aload_n 0, 1) := by decide +kernel
theorem dL_isPool_128 : decode cL_isPool 128 = .ok (.aload_n 3, 1) := by decide +kernel
theorem dL_isPool_129 : decode cL_isPool 129 = .ok (.aload_n 1, 1) := by decide +kernel
theorem dL_isPool_130 : decode cL_isPool 130 = .ok (.iload 13, 2) := by decide +kernel
theorem dL_isPool_132 : decode cL_isPool 132 = .ok (.iload 5, 2) := by decide +kernel
theorem dL_isPool_134 : decode cL_isPool 134 = .ok (.iconst 1, 1) := by decide +kernel
theorem dL_isPool_135 : decode cL_isPool 135 = .ok (.isub, 1) := by decide +kernel
theorem dL_isPool_136 : decode cL_isPool 136 = .ok (.invokestatic 113, 3) := by decide +kernel
theorem dL_isPool_139 : decode cL_isPool 139 = .ok (.goto 4, 3) := by decide +kernel
theorem dL_isPool_142 : decode cL_isPool 142 = .ok (.lconst 0, 1) := by decide +kernel
theorem dL_isPool_143 : decode cL_isPool 143 = .ok (.ladd, 1) := by decide +kernel
theorem dL_isPool_144 : decode cL_isPool 144 = .ok (.lstore 11, 2) := by decide +kernel
theorem dL_isPool_146 : decode cL_isPool 146 = .ok (.iinc 13 1, 3) := by decide +kernel
theorem dL_isPool_149 : decode cL_isPool 149 = .ok (.goto (-126), 3) := by decide +kernel
theorem dL_isPool_152 : decode cL_isPool 152 = .ok (.iconst 0, 1) := by decide +kernel
theorem dL_isPool_153 : decode cL_isPool 153 = .ok (.istore 13, 2) := by decide +kernel
theorem dL_isPool_155 : decode cL_isPool 155 = .ok (.iload 4, 2) := by decide +kernel
theorem dL_isPool_157 : decode cL_isPool 157 = .ok (.iload 13, 2) := by decide +kernel
theorem dL_isPool_159 : decode cL_isPool 159 = .ok (.ishr, 1) := by decide +kernel
theorem dL_isPool_160 : decode cL_isPool 160 = .ok (.iconst 1, 1) := by decide +kernel
theorem dL_isPool_161 : decode cL_isPool 161 = .ok (.iand, 1) := by decide +kernel
theorem dL_isPool_162 : decode cL_isPool 162 = .ok (.ifCond .ne 9, 3) := by decide +kernel
theorem dL_isPool_165 : decode cL_isPool 165 = .ok (.iinc 13 1, 3) := by decide +kernel
theorem dL_isPool_168 : decode cL_isPool 168 = .ok (.goto (-13), 3) := by decide +kernel
theorem dL_isPool_171 : decode cL_isPool 171 = .ok (.iload 4, 2) := by decide +kernel
theorem dL_isPool_173 : decode cL_isPool 173 = .ok (.iconst 1, 1) := by decide +kernel
theorem dL_isPool_174 : decode cL_isPool 174 = .ok (.iload 13, 2) := by decide +kernel
theorem dL_isPool_176 : decode cL_isPool 176 = .ok (.ishl, 1) := by decide +kernel
theorem dL_isPool_177 : decode cL_isPool 177 = .ok (.if_icmp .ne 20, 3) := by decide +kernel
theorem dL_isPool_180 : decode cL_isPool 180 = .ok (.aload_n 0, 1) := by decide +kernel
theorem dL_isPool_181 : decode cL_isPool 181 = .ok (.iload 13, 2) := by decide +kernel
theorem dL_isPool_183 : decode cL_isPool 183 = .ok (.invokevirtual 50, 3) := by decide +kernel
theorem dL_isPool_186 : decode cL_isPool 186 = .ok (.aload_n 0, 1) := by decide +kernel
theorem dL_isPool_187 : decode cL_isPool 187 = .ok (.invokevirtual 71, 3) := by decide +kernel
theorem dL_isPool_190 : decode cL_isPool 190 = .ok (.if_icmp .le 7, 3) := by decide +kernel
theorem dL_isPool_193 : decode cL_isPool 193 = .ok (.iconst 1, 1) := by decide +kernel
theorem dL_isPool_194 : decode cL_isPool 194 = .ok (.goto 4, 3) := by decide +kernel
theorem dL_isPool_197 : decode cL_isPool 197 = .ok (.iconst 0, 1) := by decide +kernel
theorem dL_isPool_198 : decode cL_isPool 198 = .ok (.istore 14, 2) := by decide +kernel
theorem dL_isPool_200 : decode cL_isPool 200 = .ok (.iload 6, 2) := by decide +kernel
theorem dL_isPool_202 : decode cL_isPool 202 = .ok (.ifCond .eq 70, 3) := by decide +kernel
theorem dL_isPool_205 : decode cL_isPool 205 = .ok (.iload 5, 2) := by decide +kernel
theorem dL_isPool_207 : decode cL_isPool 207 = .ok (.ifCond .lt 41, 3) := by decide +kernel
theorem dL_isPool_210 : decode cL_isPool 210 = .ok (.iload 5, 2) := by decide +kernel
theorem dL_isPool_212 : decode cL_isPool 212 = .ok (.aload_n 0, 1) := by decide +kernel
theorem dL_isPool_213 : decode cL_isPool 213 = .ok (.invokevirtual 71, 3) := by decide +kernel
theorem dL_isPool_216 : decode cL_isPool 216 = .ok (.if_icmp .le 52, 3) := by decide +kernel
theorem dL_isPool_219 : decode cL_isPool 219 = .ok (.iload 5, 2) := by decide +kernel
theorem dL_isPool_221 : decode cL_isPool 221 = .ok (.aload_n 0, 1) := by decide +kernel
theorem dL_isPool_222 : decode cL_isPool 222 = .ok (.invokevirtual 71, 3) := by decide +kernel
theorem dL_isPool_225 : decode cL_isPool 225 = .ok (.sipush 1000, 3) := by decide +kernel
theorem dL_isPool_228 : decode cL_isPool 228 = .ok (.iadd, 1) := by decide +kernel
theorem dL_isPool_229 : decode cL_isPool 229 = .ok (.if_icmp .gt 39, 3) := by decide +kernel
theorem dL_isPool_232 : decode cL_isPool 232 = .ok (.lload 9, 2) := by decide +kernel
theorem dL_isPool_234 : decode cL_isPool 234 = .ok (.lload 7, 2) := by decide +kernel
theorem dL_isPool_236 : decode cL_isPool 236 = .ok (.lcmp, 1) := by decide +kernel
theorem dL_isPool_237 : decode cL_isPool 237 = .ok (.ifCond .lt 31, 3) := by decide +kernel
theorem dL_isPool_240 : decode cL_isPool 240 = .ok (.lload 11, 2) := by decide +kernel
theorem dL_isPool_242 : decode cL_isPool 242 = .ok (.lload 7, 2) := by decide +kernel
theorem dL_isPool_244 : decode cL_isPool 244 = .ok (.lcmp, 1) := by decide +kernel
theorem dL_isPool_245 : decode cL_isPool 245 = .ok (.ifCond .ge 23, 3) := by decide +kernel
theorem dL_isPool_248 : decode cL_isPool 248 = .ok (.iload 14, 2) := by decide +kernel
theorem dL_isPool_250 : decode cL_isPool 250 = .ok (.ifCond .eq 14, 3) := by decide +kernel
theorem dL_isPool_253 : decode cL_isPool 253 = .ok (.iload 5, 2) := by decide +kernel
theorem dL_isPool_255 : decode cL_isPool 255 = .ok (.aload_n 0, 1) := by decide +kernel
theorem dL_isPool_256 : decode cL_isPool 256 = .ok (.iload 13, 2) := by decide +kernel
theorem dL_isPool_258 : decode cL_isPool 258 = .ok (.invokevirtual 50, 3) := by decide +kernel
theorem dL_isPool_261 : decode cL_isPool 261 = .ok (.if_icmp .ne 7, 3) := by decide +kernel
theorem dL_isPool_264 : decode cL_isPool 264 = .ok (.iconst 1, 1) := by decide +kernel
theorem dL_isPool_265 : decode cL_isPool 265 = .ok (.goto 18, 3) := by decide +kernel
theorem dL_isPool_268 : decode cL_isPool 268 = .ok (.iconst 0, 1) := by decide +kernel
theorem dL_isPool_269 : decode cL_isPool 269 = .ok (.goto 14, 3) := by decide +kernel
theorem dL_isPool_272 : decode cL_isPool 272 = .ok (.iload 5, 2) := by decide +kernel
theorem dL_isPool_274 : decode cL_isPool 274 = .ok (.iconst (-1), 1) := by decide +kernel
theorem dL_isPool_275 : decode cL_isPool 275 = .ok (.if_icmp .ne 7, 3) := by decide +kernel
theorem dL_isPool_278 : decode cL_isPool 278 = .ok (.iconst 1, 1) := by decide +kernel
theorem dL_isPool_279 : decode cL_isPool 279 = .ok (.goto 4, 3) := by decide +kernel
theorem dL_isPool_282 : decode cL_isPool 282 = .ok (.iconst 0, 1) := by decide +kernel
theorem dL_isPool_283 : decode cL_isPool 283 = .ok (.ireturn, 1) := by decide +kernel
theorem dL_isRefused_0 : decode cL_isRefused 0 = .ok (.iload_n 2, 1) := by decide +kernel
theorem dL_isRefused_1 : decode cL_isRefused 1 = .ok (.iconst 2, 1) := by decide +kernel
theorem dL_isRefused_2 : decode cL_isRefused 2 = .ok (.irem, 1) := by decide +kernel
theorem dL_isRefused_3 : decode cL_isRefused 3 = .ok (.ifCond .ne 7, 3) := by decide +kernel
theorem dL_isRefused_6 : decode cL_isRefused 6 = .ok (.iconst 1, 1) := by decide +kernel
theorem dL_isRefused_7 : decode cL_isRefused 7 = .ok (.goto 4, 3) := by decide +kernel
theorem dL_isRefused_10 : decode cL_isRefused 10 = .ok (.iconst 0, 1) := by decide +kernel
theorem dL_isRefused_11 : decode cL_isRefused 11 = .ok (.istore_n 3, 1) := by decide +kernel
theorem dL_isRefused_12 : decode cL_isRefused 12 = .ok (.iload_n 3, 1) := by decide +kernel
theorem dL_isRefused_13 : decode cL_isRefused 13 = .ok (.ifCond .eq 12, 3) := by decide +kernel
theorem dL_isRefused_16 : decode cL_isRefused 16 = .ok (.iconst (-1), 1) := by decide +kernel
theorem dL_isRefused_17 : decode cL_isRefused 17 = .ok (.iload_n 2, 1) := by decide +kernel
theorem dL_isRefused_18 : decode cL_isRefused 18 = .ok (.bipush 30, 2) := by decide +kernel
theorem dL_isRefused_20 : decode cL_isRefused 20 = .ok (.irem, 1) := by decide +kernel
theorem dL_isRefused_21 : decode cL_isRefused 21 = .ok (.isub, 1) := by decide +kernel
theorem dL_isRefused_22 : decode cL_isRefused 22 = .ok (.goto 11, 3) := by decide +kernel
theorem dL_isRefused_25 : decode cL_isRefused 25 = .ok (.aload_n 1, 1) := by decide +kernel
theorem dL_isRefused_26 : decode cL_isRefused 26 = .ok (.iconst 0, 1) := by decide +kernel
theorem dL_isRefused_27 : decode cL_isRefused 27 = .ok (.iaload, 1) := by decide +kernel
theorem dL_isRefused_28 : decode cL_isRefused 28 = .ok (.iload_n 2, 1) := by decide +kernel
theorem dL_isRefused_29 : decode cL_isRefused 29 = .ok (.bipush 30, 2) := by decide +kernel
theorem dL_isRefused_31 : decode cL_isRefused 31 = .ok (.irem, 1) := by decide +kernel
theorem dL_isRefused_32 : decode cL_isRefused 32 = .ok (.iadd, 1) := by decide +kernel
theorem dL_isRefused_33 : decode cL_isRefused 33 = .ok (.istore 4, 2) := by decide +kernel
theorem dL_isRefused_35 : decode cL_isRefused 35 = .ok (.aload_n 0, 1) := by decide +kernel
theorem dL_isRefused_36 : decode cL_isRefused 36 = .ok (.aload_n 1, 1) := by decide +kernel
theorem dL_isRefused_37 : decode cL_isRefused 37 = .ok (.invokestatic 117, 3) := by decide +kernel
theorem dL_isRefused_40 : decode cL_isRefused 40 = .ok (.lstore 5, 2) := by decide +kernel
theorem dL_isRefused_42 : decode cL_isRefused 42 = .ok (.aload_n 0, 1) := by decide +kernel
theorem dL_isRefused_43 : decode cL_isRefused 43 = .ok (.iconst 0, 1) := by decide +kernel
theorem dL_isRefused_44 : decode cL_isRefused 44 = .ok (.iload_n 3, 1) := by decide +kernel
theorem dL_isRefused_45 : decode cL_isRefused 45 = .ok (.ifCond .eq 12, 3) := by decide +kernel
theorem dL_isRefused_48 : decode cL_isRefused 48 = .ok (.iconst 0, 1) := by decide +kernel
theorem dL_isRefused_49 : decode cL_isRefused 49 = .ok (.iload_n 2, 1) := by decide +kernel
theorem dL_isRefused_50 : decode cL_isRefused 50 = .ok (.bipush 30, 2) := by decide +kernel
theorem dL_isRefused_52 : decode cL_isRefused 52 = .ok (.irem, 1) := by decide +kernel
theorem dL_isRefused_53 : decode cL_isRefused 53 = .ok (.isub, 1) := by decide +kernel
