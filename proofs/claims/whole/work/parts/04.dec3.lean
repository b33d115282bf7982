theorem dX8_laysSlopes_135 : decode cX8_laysSlopes 135 = .ok (.getfield 16, 3) := by decide +kernel
theorem dX8_laysSlopes_138 : decode cX8_laysSlopes 138 = .ok (.bipush 12, 2) := by decide +kernel
theorem dX8_laysSlopes_140 : decode cX8_laysSlopes 140 = .ok (.iload_n 1, 1) := by decide +kernel
theorem dX8_laysSlopes_141 : decode cX8_laysSlopes 141 = .ok (.imul, 1) := by decide +kernel
theorem dX8_laysSlopes_142 : decode cX8_laysSlopes 142 = .ok (.iload_n 3, 1) := by decide +kernel
theorem dX8_laysSlopes_143 : decode cX8_laysSlopes 143 = .ok (.iadd, 1) := by decide +kernel
theorem dX8_laysSlopes_144 : decode cX8_laysSlopes 144 = .ok (.iaload, 1) := by decide +kernel
theorem dX8_laysSlopes_145 : decode cX8_laysSlopes 145 = .ok (.aload_n 0, 1) := by decide +kernel
theorem dX8_laysSlopes_146 : decode cX8_laysSlopes 146 = .ok (.getfield 16, 3) := by decide +kernel
theorem dX8_laysSlopes_149 : decode cX8_laysSlopes 149 = .ok (.bipush 12, 2) := by decide +kernel
theorem dX8_laysSlopes_151 : decode cX8_laysSlopes 151 = .ok (.iload_n 1, 1) := by decide +kernel
theorem dX8_laysSlopes_152 : decode cX8_laysSlopes 152 = .ok (.imul, 1) := by decide +kernel
theorem dX8_laysSlopes_153 : decode cX8_laysSlopes 153 = .ok (.iload 4, 2) := by decide +kernel
theorem dX8_laysSlopes_155 : decode cX8_laysSlopes 155 = .ok (.iadd, 1) := by decide +kernel
theorem dX8_laysSlopes_156 : decode cX8_laysSlopes 156 = .ok (.iaload, 1) := by decide +kernel
theorem dX8_laysSlopes_157 : decode cX8_laysSlopes 157 = .ok (.isub, 1) := by decide +kernel
theorem dX8_laysSlopes_158 : decode cX8_laysSlopes 158 = .ok (.iastore, 1) := by decide +kernel
theorem dX8_laysSlopes_159 : decode cX8_laysSlopes 159 = .ok (.aload_n 0, 1) := by decide +kernel
theorem dX8_laysSlopes_160 : decode cX8_laysSlopes 160 = .ok (.dup, 1) := by decide +kernel
theorem dX8_laysSlopes_161 : decode cX8_laysSlopes 161 = .ok (.getfield 100, 3) := by decide +kernel
theorem dX8_laysSlopes_164 : decode cX8_laysSlopes 164 = .ok (.iconst 1, 1) := by decide +kernel
theorem dX8_laysSlopes_165 : decode cX8_laysSlopes 165 = .ok (.iadd, 1) := by decide +kernel
theorem dX8_laysSlopes_166 : decode cX8_laysSlopes 166 = .ok (.putfield 100, 3) := by decide +kernel
theorem dX8_laysSlopes_169 : decode cX8_laysSlopes 169 = .ok (.iinc 4 1, 3) := by decide +kernel
theorem dX8_laysSlopes_172 : decode cX8_laysSlopes 172 = .ok (.goto (-86), 3) := by decide +kernel
theorem dX8_laysSlopes_175 : decode cX8_laysSlopes 175 = .ok (.iinc 3 1, 3) := by decide +kernel
theorem dX8_laysSlopes_178 : decode cX8_laysSlopes 178 = .ok (.goto (-171), 3) := by decide +kernel
theorem dX8_laysSlopes_181 : decode cX8_laysSlopes 181 = .ok (.aload_n 0, 1) := by decide +kernel
theorem dX8_laysSlopes_182 : decode cX8_laysSlopes 182 = .ok (.getfield 100, 3) := by decide +kernel
theorem dX8_laysSlopes_185 : decode cX8_laysSlopes 185 = .ok (.ifCond .le 7, 3) := by decide +kernel
theorem dX8_laysSlopes_188 : decode cX8_laysSlopes 188 = .ok (.iconst 1, 1) := by decide +kernel
theorem dX8_laysSlopes_189 : decode cX8_laysSlopes 189 = .ok (.goto 4, 3) := by decide +kernel
theorem dX8_laysSlopes_192 : decode cX8_laysSlopes 192 = .ok (.iconst 0, 1) := by decide +kernel
theorem dX8_laysSlopes_193 : decode cX8_laysSlopes 193 = .ok (.ireturn, 1) := by decide +kernel
theorem dX8_findsSlope_0 : decode cX8_findsSlope 0 = .ok (.aload_n 0, 1) := by decide +kernel
theorem dX8_findsSlope_1 : decode cX8_findsSlope 1 = .ok (.iload_n 1, 1) := by decide +kernel
theorem dX8_findsSlope_2 : decode cX8_findsSlope 2 = .ok (.iload_n 2, 1) := by decide +kernel
theorem dX8_findsSlope_3 : decode cX8_findsSlope 3 = .ok (.invokevirtual 113, 3) := by decide +kernel
theorem dX8_findsSlope_6 : decode cX8_findsSlope 6 = .ok (.ifCond .ne 5, 3) := by decide +kernel
theorem dX8_findsSlope_9 : decode cX8_findsSlope 9 = .ok (.iconst 0, 1) := by decide +kernel
theorem dX8_findsSlope_10 : decode cX8_findsSlope 10 = .ok (.ireturn, 1) := by decide +kernel
theorem dX8_findsSlope_11 : decode cX8_findsSlope 11 = .ok (.iconst 0, 1) := by decide +kernel
theorem dX8_findsSlope_12 : decode cX8_findsSlope 12 = .ok (.istore_n 3, 1) := by decide +kernel
theorem dX8_findsSlope_13 : decode cX8_findsSlope 13 = .ok (.iload_n 3, 1) := by decide +kernel
theorem dX8_findsSlope_14 : decode cX8_findsSlope 14 = .ok (.aload_n 0, 1) := by decide +kernel
theorem dX8_findsSlope_15 : decode cX8_findsSlope 15 = .ok (.getfield 100, 3) := by decide +kernel
theorem dX8_findsSlope_18 : decode cX8_findsSlope 18 = .ok (.if_icmp .ge 143, 3) := by decide +kernel
theorem dX8_findsSlope_21 : decode cX8_findsSlope 21 = .ok (.iconst 0, 1) := by decide +kernel
theorem dX8_findsSlope_22 : decode cX8_findsSlope 22 = .ok (.istore 4, 2) := by decide +kernel
theorem dX8_findsSlope_24 : decode cX8_findsSlope 24 = .ok (.iconst 0, 1) := by decide +kernel
theorem dX8_findsSlope_25 : decode cX8_findsSlope 25 = .ok (.istore 5, 2) := by decide +kernel
theorem dX8_findsSlope_27 : decode cX8_findsSlope 27 = .ok (.iconst 0, 1) := by decide +kernel
theorem dX8_findsSlope_28 : decode cX8_findsSlope 28 = .ok (.istore 6, 2) := by decide +kernel
theorem dX8_findsSlope_30 : decode cX8_findsSlope 30 = .ok (.iload 6, 2) := by decide +kernel
theorem dX8_findsSlope_32 : decode cX8_findsSlope 32 = .ok (.aload_n 0, 1) := by decide +kernel
theorem dX8_findsSlope_33 : decode cX8_findsSlope 33 = .ok (.getfield 100, 3) := by decide +kernel
theorem dX8_findsSlope_36 : decode cX8_findsSlope 36 = .ok (.if_icmp .ge 49, 3) := by decide +kernel
theorem dX8_findsSlope_39 : decode cX8_findsSlope 39 = .ok (.iload 4, 2) := by decide +kernel
theorem dX8_findsSlope_41 : decode cX8_findsSlope 41 = .ok (.aload_n 0, 1) := by decide +kernel
theorem dX8_findsSlope_42 : decode cX8_findsSlope 42 = .ok (.iload 6, 2) := by decide +kernel
theorem dX8_findsSlope_44 : decode cX8_findsSlope 44 = .ok (.iload_n 3, 1) := by decide +kernel
theorem dX8_findsSlope_45 : decode cX8_findsSlope 45 = .ok (.invokevirtual 117, 3) := by decide +kernel
theorem dX8_findsSlope_48 : decode cX8_findsSlope 48 = .ok (.ifCond .ge 7, 3) := by decide +kernel
theorem dX8_findsSlope_51 : decode cX8_findsSlope 51 = .ok (.iconst 1, 1) := by decide +kernel
theorem dX8_findsSlope_52 : decode cX8_findsSlope 52 = .ok (.goto 4, 3) := by decide +kernel
theorem dX8_findsSlope_55 : decode cX8_findsSlope 55 = .ok (.iconst 0, 1) := by decide +kernel
theorem dX8_findsSlope_56 : decode cX8_findsSlope 56 = .ok (.iadd, 1) := by decide +kernel
theorem dX8_findsSlope_57 : decode cX8_findsSlope 57 = .ok (.istore 4, 2) := by decide +kernel
theorem dX8_findsSlope_59 : decode cX8_findsSlope 59 = .ok (.iload 5, 2) := by decide +kernel
theorem dX8_findsSlope_61 : decode cX8_findsSlope 61 = .ok (.aload_n 0, 1) := by decide +kernel
theorem dX8_findsSlope_62 : decode cX8_findsSlope 62 = .ok (.iload 6, 2) := by decide +kernel
theorem dX8_findsSlope_64 : decode cX8_findsSlope 64 = .ok (.iload_n 3, 1) := by decide +kernel
theorem dX8_findsSlope_65 : decode cX8_findsSlope 65 = .ok (.invokevirtual 117, 3) := by decide +kernel
theorem dX8_findsSlope_68 : decode cX8_findsSlope 68 = .ok (.ifCond .ne 7, 3) := by decide +kernel
theorem dX8_findsSlope_71 : decode cX8_findsSlope 71 = .ok (.iconst 1, 1) := by decide +kernel
theorem dX8_findsSlope_72 : decode cX8_findsSlope 72 = .ok (.goto 4, 3) := by decide +kernel
theorem dX8_findsSlope_75 : decode cX8_findsSlope 75 = .ok (.iconst 0, 1) := by decide +kernel
theorem dX8_findsSlope_76 : decode cX8_findsSlope 76 = .ok (.iadd, 1) := by decide +kernel
theorem dX8_findsSlope_77 : decode cX8_findsSlope 77 = .ok (.istore 5, 2) := by decide +kernel
theorem dX8_findsSlope_79 : decode cX8_findsSlope 79 = .ok (.iinc 6 1, 3) := by decide +kernel
theorem dX8_findsSlope_82 : decode cX8_findsSlope 82 = .ok (.goto (-52), 3) := by decide +kernel
theorem dX8_findsSlope_85 : decode cX8_findsSlope 85 = .ok (.aload_n 0, 1) := by decide +kernel
theorem dX8_findsSlope_86 : decode cX8_findsSlope 86 = .ok (.getfield 100, 3) := by decide +kernel
theorem dX8_findsSlope_89 : decode cX8_findsSlope 89 = .ok (.invokestatic 120, 3) := by decide +kernel
theorem dX8_findsSlope_92 : decode cX8_findsSlope 92 = .ok (.iload 4, 2) := by decide +kernel
theorem dX8_findsSlope_94 : decode cX8_findsSlope 94 = .ok (.if_icmp .lt 61, 3) := by decide +kernel
theorem dX8_findsSlope_97 : decode cX8_findsSlope 97 = .ok (.aload_n 0, 1) := by decide +kernel
theorem dX8_findsSlope_98 : decode cX8_findsSlope 98 = .ok (.getfield 100, 3) := by decide +kernel
theorem dX8_findsSlope_101 : decode cX8_findsSlope 101 = .ok (.invokestatic 120, 3) := by decide +kernel
theorem dX8_findsSlope_104 : decode cX8_findsSlope 104 = .ok (.iload 4, 2) := by decide +kernel
theorem dX8_findsSlope_106 : decode cX8_findsSlope 106 = .ok (.iload 5, 2) := by decide +kernel
theorem dX8_findsSlope_108 : decode cX8_findsSlope 108 = .ok (.iadd, 1) := by decide +kernel
theorem dX8_findsSlope_109 : decode cX8_findsSlope 109 = .ok (.if_icmp .ge 46, 3) := by decide +kernel
theorem dX8_findsSlope_112 : decode cX8_findsSlope 112 = .ok (.aload_n 0, 1) := by decide +kernel
theorem dX8_findsSlope_113 : decode cX8_findsSlope 113 = .ok (.getfield 56, 3) := by decide +kernel
theorem dX8_findsSlope_116 : decode cX8_findsSlope 116 = .ok (.iload_n 3, 1) := by decide +kernel
theorem dX8_findsSlope_117 : decode cX8_findsSlope 117 = .ok (.iaload, 1) := by decide +kernel
theorem dX8_findsSlope_118 : decode cX8_findsSlope 118 = .ok (.aload_n 0, 1) := by decide +kernel
theorem dX8_findsSlope_119 : decode cX8_findsSlope 119 = .ok (.getfield 59, 3) := by decide +kernel
theorem dX8_findsSlope_122 : decode cX8_findsSlope 122 = .ok (.iload_n 3, 1) := by decide +kernel
theorem dX8_findsSlope_123 : decode cX8_findsSlope 123 = .ok (.iaload, 1) := by decide +kernel
theorem dX8_findsSlope_124 : decode cX8_findsSlope 124 = .ok (.invokestatic 124, 3) := by decide +kernel
theorem dX8_findsSlope_127 : decode cX8_findsSlope 127 = .ok (.istore 6, 2) := by decide +kernel
theorem dX8_findsSlope_129 : decode cX8_findsSlope 129 = .ok (.aload_n 0, 1) := by decide +kernel
theorem dX8_findsSlope_130 : decode cX8_findsSlope 130 = .ok (.aload_n 0, 1) := by decide +kernel
theorem dX8_findsSlope_131 : decode cX8_findsSlope 131 = .ok (.getfield 56, 3) := by decide +kernel
theorem dX8_findsSlope_134 : decode cX8_findsSlope 134 = .ok (.iload_n 3, 1) := by decide +kernel
theorem dX8_findsSlope_135 : decode cX8_findsSlope 135 = .ok (.iaload, 1) := by decide +kernel
theorem dX8_findsSlope_136 : decode cX8_findsSlope 136 = .ok (.iload 6, 2) := by decide +kernel
theorem dX8_findsSlope_138 : decode cX8_findsSlope 138 = .ok (.idiv, 1) := by decide +kernel
theorem dX8_findsSlope_139 : decode cX8_findsSlope 139 = .ok (.putfield 127, 3) := by decide +kernel
theorem dX8_findsSlope_142 : decode cX8_findsSlope 142 = .ok (.aload_n 0, 1) := by decide +kernel
theorem dX8_findsSlope_143 : decode cX8_findsSlope 143 = .ok (.aload_n 0, 1) := by decide +kernel
theorem dX8_findsSlope_144 : decode cX8_findsSlope 144 = .ok (.getfield 59, 3) := by decide +kernel
theorem dX8_findsSlope_147 : decode cX8_findsSlope 147 = .ok (.iload_n 3, 1) := by decide +kernel
theorem dX8_findsSlope_148 : decode cX8_findsSlope 148 = .ok (.iaload, 1) := by decide +kernel
theorem dX8_findsSlope_149 : decode cX8_findsSlope 149 = .ok (.iload 6, 2) := by decide +kernel
theorem dX8_findsSlope_151 : decode cX8_findsSlope 151 = .ok (.idiv, 1) := by decide +kernel
theorem dX8_findsSlope_152 : decode cX8_findsSlope 152 = .ok (.putfield 130, 3) := by decide +kernel
theorem dX8_findsSlope_155 : decode cX8_findsSlope 155 = .ok (.iinc 3 1, 3) := by decide +kernel
theorem dX8_findsSlope_158 : decode cX8_findsSlope 158 = .ok (.goto (-145), 3) := by decide +kernel
theorem dX8_findsSlope_161 : decode cX8_findsSlope 161 = .ok (.iconst 1, 1) := by decide +kernel
theorem dX8_findsSlope_162 : decode cX8_findsSlope 162 = .ok (.ireturn, 1) := by decide +kernel
theorem dX8_usualOf_0 : decode cX8_usualOf 0 = .ok (.iconst 0, 1) := by decide +kernel
theorem dX8_usualOf_1 : decode cX8_usualOf 1 = .ok (.istore_n 2, 1) := by decide +kernel
theorem dX8_usualOf_2 : decode cX8_usualOf 2 = .ok (.bipush 60, 2) := by decide +kernel
theorem dX8_usualOf_4 : decode cX8_usualOf 4 = .ok (.iload_n 1, 1) := by decide +kernel
theorem dX8_usualOf_5 : decode cX8_usualOf 5 = .ok (.imul, 1) := by decide +kernel
theorem dX8_usualOf_6 : decode cX8_usualOf 6 = .ok (.istore_n 3, 1) := by decide +kernel
theorem dX8_usualOf_7 : decode cX8_usualOf 7 = .ok (.iload_n 3, 1) := by decide +kernel
theorem dX8_usualOf_8 : decode cX8_usualOf 8 = .ok (.istore 4, 2) := by decide +kernel
theorem dX8_usualOf_10 : decode cX8_usualOf 10 = .ok (.iload 4, 2) := by decide +kernel
theorem dX8_usualOf_12 : decode cX8_usualOf 12 = .ok (.iload_n 3, 1) := by decide +kernel
theorem dX8_usualOf_13 : decode cX8_usualOf 13 = .ok (.aload_n 0, 1) := by decide +kernel
theorem dX8_usualOf_14 : decode cX8_usualOf 14 = .ok (.getfield 22, 3) := by decide +kernel
theorem dX8_usualOf_17 : decode cX8_usualOf 17 = .ok (.iload_n 1, 1) := by decide +kernel
theorem dX8_usualOf_18 : decode cX8_usualOf 18 = .ok (.iaload, 1) := by decide +kernel
theorem dX8_usualOf_19 : decode cX8_usualOf 19 = .ok (.iadd, 1) := by decide +kernel
theorem dX8_usualOf_20 : decode cX8_usualOf 20 = .ok (.if_icmp .ge 131, 3) := by decide +kernel
theorem dX8_usualOf_23 : decode cX8_usualOf 23 = .ok (.iconst 0, 1) := by decide +kernel
theorem dX8_usualOf_24 : decode cX8_usualOf 24 = .ok (.istore 5, 2) := by decide +kernel
theorem dX8_usualOf_26 : decode cX8_usualOf 26 = .ok (.iconst 0, 1) := by decide +kernel
theorem dX8_usualOf_27 : decode cX8_usualOf 27 = .ok (.istore 6, 2) := by decide +kernel
theorem dX8_usualOf_29 : decode cX8_usualOf 29 = .ok (.iload_n 3, 1) := by decide +kernel
theorem dX8_usualOf_30 : decode cX8_usualOf 30 = .ok (.istore 7, 2) := by decide +kernel
theorem dX8_usualOf_32 : decode cX8_usualOf 32 = .ok (.iload 7, 2) := by decide +kernel
theorem dX8_usualOf_34 : decode cX8_usualOf 34 = .ok (.iload_n 3, 1) := by decide +kernel
theorem dX8_usualOf_35 : decode cX8_usualOf 35 = .ok (.aload_n 0, 1) := by decide +kernel
theorem dX8_usualOf_36 : decode cX8_usualOf 36 = .ok (.getfield 22, 3) := by decide +kernel
theorem dX8_usualOf_39 : decode cX8_usualOf 39 = .ok (.iload_n 1, 1) := by decide +kernel
theorem dX8_usualOf_40 : decode cX8_usualOf 40 = .ok (.iaload, 1) := by decide +kernel
theorem dX8_usualOf_41 : decode cX8_usualOf 41 = .ok (.iadd, 1) := by decide +kernel
theorem dX8_usualOf_42 : decode cX8_usualOf 42 = .ok (.if_icmp .ge 63, 3) := by decide +kernel
theorem dX8_usualOf_45 : decode cX8_usualOf 45 = .ok (.iload 5, 2) := by decide +kernel
theorem dX8_usualOf_47 : decode cX8_usualOf 47 = .ok (.aload_n 0, 1) := by decide +kernel
theorem dX8_usualOf_48 : decode cX8_usualOf 48 = .ok (.getfield 28, 3) := by decide +kernel
theorem dX8_usualOf_51 : decode cX8_usualOf 51 = .ok (.iload 7, 2) := by decide +kernel
theorem dX8_usualOf_53 : decode cX8_usualOf 53 = .ok (.iaload, 1) := by decide +kernel
theorem dX8_usualOf_54 : decode cX8_usualOf 54 = .ok (.aload_n 0, 1) := by decide +kernel
theorem dX8_usualOf_55 : decode cX8_usualOf 55 = .ok (.getfield 28, 3) := by decide +kernel
theorem dX8_usualOf_58 : decode cX8_usualOf 58 = .ok (.iload 4, 2) := by decide +kernel
theorem dX8_usualOf_60 : decode cX8_usualOf 60 = .ok (.iaload, 1) := by decide +kernel
theorem dX8_usualOf_61 : decode cX8_usualOf 61 = .ok (.if_icmp .ge 7, 3) := by decide +kernel
theorem dX8_usualOf_64 : decode cX8_usualOf 64 = .ok (.iconst 1, 1) := by decide +kernel
theorem dX8_usualOf_65 : decode cX8_usualOf 65 = .ok (.goto 4, 3) := by decide +kernel
theorem dX8_usualOf_68 : decode cX8_usualOf 68 = .ok (.iconst 0, 1) := by decide +kernel
theorem dX8_usualOf_69 : decode cX8_usualOf 69 = .ok (.iadd, 1) := by decide +kernel
theorem dX8_usualOf_70 : decode cX8_usualOf 70 = .ok (.istore 5, 2) := by decide +kernel
theorem dX8_usualOf_72 : decode cX8_usualOf 72 = .ok (.iload 6, 2) := by decide +kernel
theorem dX8_usualOf_74 : decode cX8_usualOf 74 = .ok (.aload_n 0, 1) := by decide +kernel
theorem dX8_usualOf_75 : decode cX8_usualOf 75 = .ok (.getfield 28, 3) := by decide +kernel
theorem dX8_usualOf_78 : decode cX8_usualOf 78 = .ok (.iload 7, 2) := by decide +kernel
theorem dX8_usualOf_80 : decode cX8_usualOf 80 = .ok (.iaload, 1) := by decide +kernel
theorem dX8_usualOf_81 : decode cX8_usualOf 81 = .ok (.aload_n 0, 1) := by decide +kernel
theorem dX8_usualOf_82 : decode cX8_usualOf 82 = .ok (.getfield 28, 3) := by decide +kernel
theorem dX8_usualOf_85 : decode cX8_usualOf 85 = .ok (.iload 4, 2) := by decide +kernel
theorem dX8_usualOf_87 : decode cX8_usualOf 87 = .ok (.iaload, 1) := by decide +kernel
theorem dX8_usualOf_88 : decode cX8_usualOf 88 = .ok (.if_icmp .ne 7, 3) := by decide +kernel
theorem dX8_usualOf_91 : decode cX8_usualOf 91 = .ok (.iconst 1, 1) := by decide +kernel
theorem dX8_usualOf_92 : decode cX8_usualOf 92 = .ok (.goto 4, 3) := by decide +kernel
theorem dX8_usualOf_95 : decode cX8_usualOf 95 = .ok (.iconst 0, 1) := by decide +kernel
theorem dX8_usualOf_96 : decode cX8_usualOf 96 = .ok (.iadd, 1) := by decide +kernel
theorem dX8_usualOf_97 : decode cX8_usualOf 97 = .ok (.istore 6, 2) := by decide +kernel
theorem dX8_usualOf_99 : decode cX8_usualOf 99 = .ok (.iinc 7 1, 3) := by decide +kernel
theorem dX8_usualOf_102 : decode cX8_usualOf 102 = .ok (.goto (-70), 3) := by decide +kernel
theorem dX8_usualOf_105 : decode cX8_usualOf 105 = .ok (.aload_n 0, 1) := by decide +kernel
theorem dX8_usualOf_106 : decode cX8_usualOf 106 = .ok (.getfield 22, 3) := by decide +kernel
theorem dX8_usualOf_109 : decode cX8_usualOf 109 = .ok (.iload_n 1, 1) := by decide +kernel
theorem dX8_usualOf_110 : decode cX8_usualOf 110 = .ok (.iaload, 1) := by decide +kernel
theorem dX8_usualOf_111 : decode cX8_usualOf 111 = .ok (.invokestatic 120, 3) := by decide +kernel
theorem dX8_usualOf_114 : decode cX8_usualOf 114 = .ok (.istore 7, 2) := by decide +kernel
theorem dX8_usualOf_116 : decode cX8_usualOf 116 = .ok (.iload 7, 2) := by decide +kernel
theorem dX8_usualOf_118 : decode cX8_usualOf 118 = .ok (.iload 5, 2) := by decide +kernel
theorem dX8_usualOf_120 : decode cX8_usualOf 120 = .ok (.if_icmp .lt 23, 3) := by decide +kernel
theorem dX8_usualOf_123 : decode cX8_usualOf 123 = .ok (.iload 7, 2) := by decide +kernel
theorem dX8_usualOf_125 : decode cX8_usualOf 125 = .ok (.iload 5, 2) := by decide +kernel
theorem dX8_usualOf_127 : decode cX8_usualOf 127 = .ok (.iload 6, 2) := by decide +kernel
theorem dX8_usualOf_129 : decode cX8_usualOf 129 = .ok (.iadd, 1) := by decide +kernel
theorem dX8_usualOf_130 : decode cX8_usualOf 130 = .ok (.if_icmp .ge 13, 3) := by decide +kernel
theorem dX8_usualOf_133 : decode cX8_usualOf 133 = .ok (.aload_n 0, 1) := by decide +kernel
theorem dX8_usualOf_134 : decode cX8_usualOf 134 = .ok (.getfield 28, 3) := by decide +kernel
theorem dX8_usualOf_137 : decode cX8_usualOf 137 = .ok (.iload 4, 2) := by decide +kernel
theorem dX8_usualOf_139 : decode cX8_usualOf 139 = .ok (.iaload, 1) := by decide +kernel
theorem dX8_usualOf_140 : decode cX8_usualOf 140 = .ok (.goto 4, 3) := by decide +kernel
theorem dX8_usualOf_143 : decode cX8_usualOf 143 = .ok (.iload_n 2, 1) := by decide +kernel
theorem dX8_usualOf_144 : decode cX8_usualOf 144 = .ok (.istore_n 2, 1) := by decide +kernel
theorem dX8_usualOf_145 : decode cX8_usualOf 145 = .ok (.iinc 4 1, 3) := by decide +kernel
theorem dX8_usualOf_148 : decode cX8_usualOf 148 = .ok (.goto (-138), 3) := by decide +kernel
theorem dX8_usualOf_151 : decode cX8_usualOf 151 = .ok (.iload_n 2, 1) := by decide +kernel
theorem dX8_usualOf_152 : decode cX8_usualOf 152 = .ok (.ireturn, 1) := by decide +kernel
theorem dX8_ruled_0 : decode cX8_ruled 0 = .ok (.aload_n 0, 1) := by decide +kernel
theorem dX8_ruled_1 : decode cX8_ruled 1 = .ok (.getfield 34, 3) := by decide +kernel
theorem dX8_ruled_4 : decode cX8_ruled 4 = .ok (.iload_n 1, 1) := by decide +kernel
theorem dX8_ruled_5 : decode cX8_ruled 5 = .ok (.iaload, 1) := by decide +kernel
theorem dX8_ruled_6 : decode cX8_ruled 6 = .ok (.ifCond .eq 13, 3) := by decide +kernel
theorem dX8_ruled_9 : decode cX8_ruled 9 = .ok (.iload_n 2, 1) := by decide +kernel
theorem dX8_ruled_10 : decode cX8_ruled 10 = .ok (.aload_n 0, 1) := by decide +kernel
theorem dX8_ruled_11 : decode cX8_ruled 11 = .ok (.getfield 31, 3) := by decide +kernel
theorem dX8_ruled_14 : decode cX8_ruled 14 = .ok (.iload_n 1, 1) := by decide +kernel
theorem dX8_ruled_15 : decode cX8_ruled 15 = .ok (.iaload, 1) := by decide +kernel
theorem dX8_ruled_16 : decode cX8_ruled 16 = .ok (.if_icmp .ge 7, 3) := by decide +kernel
theorem dX8_ruled_19 : decode cX8_ruled 19 = .ok (.iconst 0, 1) := by decide +kernel
theorem dX8_ruled_20 : decode cX8_ruled 20 = .ok (.goto 20, 3) := by decide +kernel
theorem dX8_ruled_23 : decode cX8_ruled 23 = .ok (.iload_n 2, 1) := by decide +kernel
theorem dX8_ruled_24 : decode cX8_ruled 24 = .ok (.aload_n 0, 1) := by decide +kernel
theorem dX8_ruled_25 : decode cX8_ruled 25 = .ok (.getfield 31, 3) := by decide +kernel
theorem dX8_ruled_28 : decode cX8_ruled 28 = .ok (.iload_n 1, 1) := by decide +kernel
theorem dX8_ruled_29 : decode cX8_ruled 29 = .ok (.iaload, 1) := by decide +kernel
theorem dX8_ruled_30 : decode cX8_ruled 30 = .ok (.isub, 1) := by decide +kernel
theorem dX8_ruled_31 : decode cX8_ruled 31 = .ok (.aload_n 0, 1) := by decide +kernel
theorem dX8_ruled_32 : decode cX8_ruled 32 = .ok (.getfield 34, 3) := by decide +kernel
theorem dX8_ruled_35 : decode cX8_ruled 35 = .ok (.iload_n 1, 1) := by decide +kernel
theorem dX8_ruled_36 : decode cX8_ruled 36 = .ok (.iaload, 1) := by decide +kernel
theorem dX8_ruled_37 : decode cX8_ruled 37 = .ok (.idiv, 1) := by decide +kernel
theorem dX8_ruled_38 : decode cX8_ruled 38 = .ok (.iconst 1, 1) := by decide +kernel
theorem dX8_ruled_39 : decode cX8_ruled 39 = .ok (.iadd, 1) := by decide +kernel
theorem dX8_ruled_40 : decode cX8_ruled 40 = .ok (.ireturn, 1) := by decide +kernel
theorem dX8_forecastFor_0 : decode cX8_forecastFor 0 = .ok (.aload_n 0, 1) := by decide +kernel
theorem dX8_forecastFor_1 : decode cX8_forecastFor 1 = .ok (.getfield 127, 3) := by decide +kernel
theorem dX8_forecastFor_4 : decode cX8_forecastFor 4 = .ok (.i2l, 1) := by decide +kernel
theorem dX8_forecastFor_5 : decode cX8_forecastFor 5 = .ok (.iload_n 2, 1) := by decide +kernel
theorem dX8_forecastFor_6 : decode cX8_forecastFor 6 = .ok (.aload_n 0, 1) := by decide +kernel
theorem dX8_forecastFor_7 : decode cX8_forecastFor 7 = .ok (.getfield 107, 3) := by decide +kernel
theorem dX8_forecastFor_10 : decode cX8_forecastFor 10 = .ok (.isub, 1) := by decide +kernel
theorem dX8_forecastFor_11 : decode cX8_forecastFor 11 = .ok (.i2l, 1) := by decide +kernel
theorem dX8_forecastFor_12 : decode cX8_forecastFor 12 = .ok (.lmul, 1) := by decide +kernel
theorem dX8_forecastFor_13 : decode cX8_forecastFor 13 = .ok (.lstore 4, 2) := by decide +kernel
theorem dX8_forecastFor_15 : decode cX8_forecastFor 15 = .ok (.lload 4, 2) := by decide +kernel
theorem dX8_forecastFor_17 : decode cX8_forecastFor 17 = .ok (.aload_n 0, 1) := by decide +kernel
theorem dX8_forecastFor_18 : decode cX8_forecastFor 18 = .ok (.getfield 130, 3) := by decide +kernel
theorem dX8_forecastFor_21 : decode cX8_forecastFor 21 = .ok (.i2l, 1) := by decide +kernel
theorem dX8_forecastFor_22 : decode cX8_forecastFor 22 = .ok (.ldiv, 1) := by decide +kernel
theorem dX8_forecastFor_23 : decode cX8_forecastFor 23 = .ok (.lstore 6, 2) := by decide +kernel
theorem dX8_forecastFor_25 : decode cX8_forecastFor 25 = .ok (.lload 6, 2) := by decide +kernel
theorem dX8_forecastFor_27 : decode cX8_forecastFor 27 = .ok (.lload 4, 2) := by decide +kernel
theorem dX8_forecastFor_29 : decode cX8_forecastFor 29 = .ok (.lconst 0, 1) := by decide +kernel
theorem dX8_forecastFor_30 : decode cX8_forecastFor 30 = .ok (.lcmp, 1) := by decide +kernel
theorem dX8_forecastFor_31 : decode cX8_forecastFor 31 = .ok (.ifCond .ge 20, 3) := by decide +kernel
theorem dX8_forecastFor_34 : decode cX8_forecastFor 34 = .ok (.lload 4, 2) := by decide +kernel
theorem dX8_forecastFor_36 : decode cX8_forecastFor 36 = .ok (.aload_n 0, 1) := by decide +kernel
theorem dX8_forecastFor_37 : decode cX8_forecastFor 37 = .ok (.getfield 130, 3) := by decide +kernel
theorem dX8_forecastFor_40 : decode cX8_forecastFor 40 = .ok (.i2l, 1) := by decide +kernel
theorem dX8_forecastFor_41 : decode cX8_forecastFor 41 = .ok (.lrem, 1) := by decide +kernel
theorem dX8_forecastFor_42 : decode cX8_forecastFor 42 = .ok (.lconst 0, 1) := by decide +kernel
theorem dX8_forecastFor_43 : decode cX8_forecastFor 43 = .ok (.lcmp, 1) := by decide +kernel
theorem dX8_forecastFor_44 : decode cX8_forecastFor 44 = .ok (.ifCond .eq 7, 3) := by decide +kernel
theorem dX8_forecastFor_47 : decode cX8_forecastFor 47 = .ok (.lconst 1, 1) := by decide +kernel
theorem dX8_forecastFor_48 : decode cX8_forecastFor 48 = .ok (.goto 4, 3) := by decide +kernel
theorem dX8_forecastFor_51 : decode cX8_forecastFor 51 = .ok (.lconst 0, 1) := by decide +kernel
theorem dX8_forecastFor_52 : decode cX8_forecastFor 52 = .ok (.lsub, 1) := by decide +kernel
theorem dX8_forecastFor_53 : decode cX8_forecastFor 53 = .ok (.lstore 6, 2) := by decide +kernel
theorem dX8_forecastFor_55 : decode cX8_forecastFor 55 = .ok (.aload_n 0, 1) := by decide +kernel
theorem dX8_forecastFor_56 : decode cX8_forecastFor 56 = .ok (.getfield 110, 3) := by decide +kernel
theorem dX8_forecastFor_59 : decode cX8_forecastFor 59 = .ok (.i2l, 1) := by decide +kernel
theorem dX8_forecastFor_60 : decode cX8_forecastFor 60 = .ok (.lload 6, 2) := by decide +kernel
theorem dX8_forecastFor_62 : decode cX8_forecastFor 62 = .ok (.ladd, 1) := by decide +kernel
theorem dX8_forecastFor_63 : decode cX8_forecastFor 63 = .ok (.iload_n 3, 1) := by decide +kernel
theorem dX8_forecastFor_64 : decode cX8_forecastFor 64 = .ok (.i2l, 1) := by decide +kernel
theorem dX8_forecastFor_65 : decode cX8_forecastFor 65 = .ok (.aload_n 0, 1) := by decide +kernel
theorem dX8_forecastFor_66 : decode cX8_forecastFor 66 = .ok (.iload_n 1, 1) := by decide +kernel
theorem dX8_forecastFor_67 : decode cX8_forecastFor 67 = .ok (.iload_n 2, 1) := by decide +kernel
theorem dX8_forecastFor_68 : decode cX8_forecastFor 68 = .ok (.invokevirtual 133, 3) := by decide +kernel
theorem dX8_forecastFor_71 : decode cX8_forecastFor 71 = .ok (.aload_n 0, 1) := by decide +kernel
theorem dX8_forecastFor_72 : decode cX8_forecastFor 72 = .ok (.iload_n 1, 1) := by decide +kernel
theorem dX8_forecastFor_73 : decode cX8_forecastFor 73 = .ok (.aload_n 0, 1) := by decide +kernel
theorem dX8_forecastFor_74 : decode cX8_forecastFor 74 = .ok (.getfield 107, 3) := by decide +kernel
theorem dX8_forecastFor_77 : decode cX8_forecastFor 77 = .ok (.invokevirtual 133, 3) := by decide +kernel
theorem dX8_forecastFor_80 : decode cX8_forecastFor 80 = .ok (.isub, 1) := by decide +kernel
theorem dX8_forecastFor_81 : decode cX8_forecastFor 81 = .ok (.i2l, 1) := by decide +kernel
theorem dX8_forecastFor_82 : decode cX8_forecastFor 82 = .ok (.lmul, 1) := by decide +kernel
theorem dX8_forecastFor_83 : decode cX8_forecastFor 83 = .ok (.lsub, 1) := by decide +kernel
theorem dX8_forecastFor_84 : decode cX8_forecastFor 84 = .ok (.lstore 8, 2) := by decide +kernel
theorem dX8_forecastFor_86 : decode cX8_forecastFor 86 = .ok (.lload 8, 2) := by decide +kernel
theorem dX8_forecastFor_88 : decode cX8_forecastFor 88 = .ok (.lconst 0, 1) := by decide +kernel
theorem dX8_forecastFor_89 : decode cX8_forecastFor 89 = .ok (.lcmp, 1) := by decide +kernel
theorem dX8_forecastFor_90 : decode cX8_forecastFor 90 = .ok (.ifCond .ge 7, 3) := by decide +kernel
theorem dX8_forecastFor_93 : decode cX8_forecastFor 93 = .ok (.lconst 0, 1) := by decide +kernel
theorem dX8_forecastFor_94 : decode cX8_forecastFor 94 = .ok (.goto 20, 3) := by decide +kernel
theorem dX8_forecastFor_97 : decode cX8_forecastFor 97 = .ok (.lload 8, 2) := by decide +kernel
theorem dX8_forecastFor_99 : decode cX8_forecastFor 99 = .ok (.ldc2_w 136, 3) := by decide +kernel
theorem dX8_forecastFor_102 : decode cX8_forecastFor 102 = .ok (.lcmp, 1) := by decide +kernel
theorem dX8_forecastFor_103 : decode cX8_forecastFor 103 = .ok (.ifCond .le 9, 3) := by decide +kernel
theorem dX8_forecastFor_106 : decode cX8_forecastFor 106 = .ok (.ldc2_w 136, 3) := by decide +kernel
theorem dX8_forecastFor_109 : decode cX8_forecastFor 109 = .ok (.goto 5, 3) := by decide +kernel
theorem dX8_forecastFor_112 : decode cX8_forecastFor 112 = .ok (.lload 8, 2) := by decide +kernel
theorem dX8_forecastFor_114 : decode cX8_forecastFor 114 = .ok (.lreturn, 1) := by decide +kernel
theorem dX8_fullDay_0 : decode cX8_fullDay 0 = .ok (.aload_n 0, 1) := by decide +kernel
theorem dX8_fullDay_1 : decode cX8_fullDay 1 = .ok (.iload_n 1, 1) := by decide +kernel
theorem dX8_fullDay_2 : decode cX8_fullDay 2 = .ok (.iload_n 2, 1) := by decide +kernel
theorem dX8_fullDay_3 : decode cX8_fullDay 3 = .ok (.invokevirtual 138, 3) := by decide +kernel
theorem dX8_fullDay_6 : decode cX8_fullDay 6 = .ok (.ifCond .ne 6, 3) := by decide +kernel
theorem dX8_fullDay_9 : decode cX8_fullDay 9 = .ok (.ldc 88, 2) := by decide +kernel
theorem dX8_fullDay_11 : decode cX8_fullDay 11 = .ok (.ireturn, 1) := by decide +kernel
theorem dX8_fullDay_12 : decode cX8_fullDay 12 = .ok (.aload_n 0, 1) := by decide +kernel
theorem dX8_fullDay_13 : decode cX8_fullDay 13 = .ok (.iload_n 1, 1) := by decide +kernel
theorem dX8_fullDay_14 : decode cX8_fullDay 14 = .ok (.invokevirtual 141, 3) := by decide +kernel
theorem dX8_fullDay_17 : decode cX8_fullDay 17 = .ok (.istore_n 3, 1) := by decide +kernel
theorem dX8_fullDay_18 : decode cX8_fullDay 18 = .ok (.ldc 88, 2) := by decide +kernel
theorem dX8_fullDay_20 : decode cX8_fullDay 20 = .ok (.istore 4, 2) := by decide +kernel
theorem dX8_fullDay_22 : decode cX8_fullDay 22 = .ok (.aload_n 0, 1) := by decide +kernel
theorem dX8_fullDay_23 : decode cX8_fullDay 23 = .ok (.getfield 107, 3) := by decide +kernel
theorem dX8_fullDay_26 : decode cX8_fullDay 26 = .ok (.iconst 1, 1) := by decide +kernel
theorem dX8_fullDay_27 : decode cX8_fullDay 27 = .ok (.iadd, 1) := by decide +kernel
theorem dX8_fullDay_28 : decode cX8_fullDay 28 = .ok (.istore 5, 2) := by decide +kernel
theorem dX8_fullDay_30 : decode cX8_fullDay 30 = .ok (.iload 5, 2) := by decide +kernel
theorem dX8_fullDay_32 : decode cX8_fullDay 32 = .ok (.aload_n 0, 1) := by decide +kernel
theorem dX8_fullDay_33 : decode cX8_fullDay 33 = .ok (.getfield 107, 3) := by decide +kernel
theorem dX8_fullDay_36 : decode cX8_fullDay 36 = .ok (.sipush 1000, 3) := by decide +kernel
theorem dX8_fullDay_39 : decode cX8_fullDay 39 = .ok (.iadd, 1) := by decide +kernel
theorem dX8_fullDay_40 : decode cX8_fullDay 40 = .ok (.if_icmp .gt 44, 3) := by decide +kernel
theorem dX8_fullDay_43 : decode cX8_fullDay 43 = .ok (.iload 4, 2) := by decide +kernel
theorem dX8_fullDay_45 : decode cX8_fullDay 45 = .ok (.ldc 88, 2) := by decide +kernel
theorem dX8_fullDay_47 : decode cX8_fullDay 47 = .ok (.if_icmp .ne 37, 3) := by decide +kernel
theorem dX8_fullDay_50 : decode cX8_fullDay 50 = .ok (.aload_n 0, 1) := by decide +kernel
theorem dX8_fullDay_51 : decode cX8_fullDay 51 = .ok (.iload_n 1, 1) := by decide +kernel
theorem dX8_fullDay_52 : decode cX8_fullDay 52 = .ok (.iload 5, 2) := by decide +kernel
theorem dX8_fullDay_54 : decode cX8_fullDay 54 = .ok (.iload_n 3, 1) := by decide +kernel
theorem dX8_fullDay_55 : decode cX8_fullDay 55 = .ok (.invokevirtual 144, 3) := by decide +kernel
theorem dX8_fullDay_58 : decode cX8_fullDay 58 = .ok (.aload_n 0, 1) := by decide +kernel
theorem dX8_fullDay_59 : decode cX8_fullDay 59 = .ok (.getfield 7, 3) := by decide +kernel
theorem dX8_fullDay_62 : decode cX8_fullDay 62 = .ok (.iload_n 1, 1) := by decide +kernel
theorem dX8_fullDay_63 : decode cX8_fullDay 63 = .ok (.iaload, 1) := by decide +kernel
theorem dX8_fullDay_64 : decode cX8_fullDay 64 = .ok (.i2l, 1) := by decide +kernel
theorem dX8_fullDay_65 : decode cX8_fullDay 65 = .ok (.lcmp, 1) := by decide +kernel
theorem dX8_fullDay_66 : decode cX8_fullDay 66 = .ok (.ifCond .lt 8, 3) := by decide +kernel
theorem dX8_fullDay_69 : decode cX8_fullDay 69 = .ok (.iload 5, 2) := by decide +kernel
theorem dX8_fullDay_71 : decode cX8_fullDay 71 = .ok (.goto 5, 3) := by decide +kernel
theorem dX8_fullDay_74 : decode cX8_fullDay 74 = .ok (.iload 4, 2) := by decide +kernel
theorem dX8_fullDay_76 : decode cX8_fullDay 76 = .ok (.istore 4, 2) := by decide +kernel
theorem dX8_fullDay_78 : decode cX8_fullDay 78 = .ok (.iinc 5 1, 3) := by decide +kernel
theorem dX8_fullDay_81 : decode cX8_fullDay 81 = .ok (.goto (-51), 3) := by decide +kernel
theorem dX8_fullDay_84 : decode cX8_fullDay 84 = .ok (.iload 4, 2) := by decide +kernel
theorem dX8_fullDay_86 : decode cX8_fullDay 86 = .ok (.ireturn, 1) := by decide +kernel
theorem dX8_findsBounds_0 : decode cX8_findsBounds 0 = .ok (.aload_n 0, 1) := by decide +kernel
theorem dX8_findsBounds_1 : decode cX8_findsBounds 1 = .ok (.getfield 44, 3) := by decide +kernel
theorem dX8_findsBounds_4 : decode cX8_findsBounds 4 = .ok (.iload_n 1, 1) := by decide +kernel
theorem dX8_findsBounds_5 : decode cX8_findsBounds 5 = .ok (.baload, 1) := by decide +kernel
theorem dX8_findsBounds_6 : decode cX8_findsBounds 6 = .ok (.ifCond .eq 4, 3) := by decide +kernel
theorem dX8_findsBounds_9 : decode cX8_findsBounds 9 = .ok (.return_, 1) := by decide +kernel
theorem dX8_findsBounds_10 : decode cX8_findsBounds 10 = .ok (.aload_n 0, 1) := by decide +kernel
theorem dX8_findsBounds_11 : decode cX8_findsBounds 11 = .ok (.getfield 44, 3) := by decide +kernel
theorem dX8_findsBounds_14 : decode cX8_findsBounds 14 = .ok (.iload_n 1, 1) := by decide +kernel
theorem dX8_findsBounds_15 : decode cX8_findsBounds 15 = .ok (.iconst 1, 1) := by decide +kernel
theorem dX8_findsBounds_16 : decode cX8_findsBounds 16 = .ok (.bastore, 1) := by decide +kernel
theorem dX8_findsBounds_17 : decode cX8_findsBounds 17 = .ok (.aload_n 0, 1) := by decide +kernel
theorem dX8_findsBounds_18 : decode cX8_findsBounds 18 = .ok (.getfield 47, 3) := by decide +kernel
theorem dX8_findsBounds_21 : decode cX8_findsBounds 21 = .ok (.iload_n 1, 1) := by decide +kernel
theorem dX8_findsBounds_22 : decode cX8_findsBounds 22 = .ok (.ldc 88, 2) := by decide +kernel
theorem dX8_findsBounds_24 : decode cX8_findsBounds 24 = .ok (.iastore, 1) := by decide +kernel
theorem dX8_findsBounds_25 : decode cX8_findsBounds 25 = .ok (.aload_n 0, 1) := by decide +kernel
theorem dX8_findsBounds_26 : decode cX8_findsBounds 26 = .ok (.getfield 50, 3) := by decide +kernel
theorem dX8_findsBounds_29 : decode cX8_findsBounds 29 = .ok (.iload_n 1, 1) := by decide +kernel
theorem dX8_findsBounds_30 : decode cX8_findsBounds 30 = .ok (.aload_n 0, 1) := by decide +kernel
theorem dX8_findsBounds_31 : decode cX8_findsBounds 31 = .ok (.getfield 13, 3) := by decide +kernel
theorem dX8_findsBounds_34 : decode cX8_findsBounds 34 = .ok (.iload_n 1, 1) := by decide +kernel
theorem dX8_findsBounds_35 : decode cX8_findsBounds 35 = .ok (.iaload, 1) := by decide +kernel
theorem dX8_findsBounds_36 : decode cX8_findsBounds 36 = .ok (.iconst 3, 1) := by decide +kernel
theorem dX8_findsBounds_37 : decode cX8_findsBounds 37 = .ok (.if_icmp .ge 8, 3) := by decide +kernel
theorem dX8_findsBounds_40 : decode cX8_findsBounds 40 = .ok (.ldc 88, 2) := by decide +kernel
theorem dX8_findsBounds_42 : decode cX8_findsBounds 42 = .ok (.goto 4, 3) := by decide +kernel
theorem dX8_findsBounds_45 : decode cX8_findsBounds 45 = .ok (.iconst 0, 1) := by decide +kernel
theorem dX8_findsBounds_46 : decode cX8_findsBounds 46 = .ok (.iastore, 1) := by decide +kernel
theorem dX8_findsBounds_47 : decode cX8_findsBounds 47 = .ok (.iconst (-1), 1) := by decide +kernel
theorem dX8_findsBounds_48 : decode cX8_findsBounds 48 = .ok (.istore_n 2, 1) := by decide +kernel
theorem dX8_findsBounds_49 : decode cX8_findsBounds 49 = .ok (.iload_n 2, 1) := by decide +kernel
theorem dX8_findsBounds_50 : decode cX8_findsBounds 50 = .ok (.aload_n 0, 1) := by decide +kernel
theorem dX8_findsBounds_51 : decode cX8_findsBounds 51 = .ok (.getfield 13, 3) := by decide +kernel
theorem dX8_findsBounds_54 : decode cX8_findsBounds 54 = .ok (.iload_n 1, 1) := by decide +kernel
theorem dX8_findsBounds_55 : decode cX8_findsBounds 55 = .ok (.iaload, 1) := by decide +kernel
theorem dX8_findsBounds_56 : decode cX8_findsBounds 56 = .ok (.if_icmp .ge 78, 3) := by decide +kernel
theorem dX8_findsBounds_59 : decode cX8_findsBounds 59 = .ok (.aload_n 0, 1) := by decide +kernel
theorem dX8_findsBounds_60 : decode cX8_findsBounds 60 = .ok (.getfield 13, 3) := by decide +kernel
theorem dX8_findsBounds_63 : decode cX8_findsBounds 63 = .ok (.iload_n 1, 1) := by decide +kernel
theorem dX8_findsBounds_64 : decode cX8_findsBounds 64 = .ok (.iaload, 1) := by decide +kernel
theorem dX8_findsBounds_65 : decode cX8_findsBounds 65 = .ok (.iconst 2, 1) := by decide +kernel
theorem dX8_findsBounds_66 : decode cX8_findsBounds 66 = .ok (.if_icmp .le 68, 3) := by decide +kernel
theorem dX8_findsBounds_69 : decode cX8_findsBounds 69 = .ok (.aload_n 0, 1) := by decide +kernel
theorem dX8_findsBounds_70 : decode cX8_findsBounds 70 = .ok (.iload_n 1, 1) := by decide +kernel
theorem dX8_findsBounds_71 : decode cX8_findsBounds 71 = .ok (.iload_n 2, 1) := by decide +kernel
theorem dX8_findsBounds_72 : decode cX8_findsBounds 72 = .ok (.invokevirtual 148, 3) := by decide +kernel
theorem dX8_findsBounds_75 : decode cX8_findsBounds 75 = .ok (.istore_n 3, 1) := by decide +kernel
theorem dX8_findsBounds_76 : decode cX8_findsBounds 76 = .ok (.aload_n 0, 1) := by decide +kernel
theorem dX8_findsBounds_77 : decode cX8_findsBounds 77 = .ok (.getfield 47, 3) := by decide +kernel
theorem dX8_findsBounds_80 : decode cX8_findsBounds 80 = .ok (.iload_n 1, 1) := by decide +kernel
theorem dX8_findsBounds_81 : decode cX8_findsBounds 81 = .ok (.iload_n 3, 1) := by decide +kernel
theorem dX8_findsBounds_82 : decode cX8_findsBounds 82 = .ok (.aload_n 0, 1) := by decide +kernel
theorem dX8_findsBounds_83 : decode cX8_findsBounds 83 = .ok (.getfield 47, 3) := by decide +kernel
theorem dX8_findsBounds_86 : decode cX8_findsBounds 86 = .ok (.iload_n 1, 1) := by decide +kernel
theorem dX8_findsBounds_87 : decode cX8_findsBounds 87 = .ok (.iaload, 1) := by decide +kernel
theorem dX8_findsBounds_88 : decode cX8_findsBounds 88 = .ok (.if_icmp .ge 7, 3) := by decide +kernel
theorem dX8_findsBounds_91 : decode cX8_findsBounds 91 = .ok (.iload_n 3, 1) := by decide +kernel
theorem dX8_findsBounds_92 : decode cX8_findsBounds 92 = .ok (.goto 9, 3) := by decide +kernel
theorem dX8_findsBounds_95 : decode cX8_findsBounds 95 = .ok (.aload_n 0, 1) := by decide +kernel
theorem dX8_findsBounds_96 : decode cX8_findsBounds 96 = .ok (.getfield 47, 3) := by decide +kernel
theorem dX8_findsBounds_99 : decode cX8_findsBounds 99 = .ok (.iload_n 1, 1) := by decide +kernel
theorem dX8_findsBounds_100 : decode cX8_findsBounds 100 = .ok (.iaload, 1) := by decide +kernel
theorem dX8_findsBounds_101 : decode cX8_findsBounds 101 = .ok (.iastore, 1) := by decide +kernel
theorem dX8_findsBounds_102 : decode cX8_findsBounds 102 = .ok (.aload_n 0, 1) := by decide +kernel
theorem dX8_findsBounds_103 : decode cX8_findsBounds 103 = .ok (.getfield 50, 3) := by decide +kernel
theorem dX8_findsBounds_106 : decode cX8_findsBounds 106 = .ok (.iload_n 1, 1) := by decide +kernel
theorem dX8_findsBounds_107 : decode cX8_findsBounds 107 = .ok (.iload_n 3, 1) := by decide +kernel
theorem dX8_findsBounds_108 : decode cX8_findsBounds 108 = .ok (.aload_n 0, 1) := by decide +kernel
theorem dX8_findsBounds_109 : decode cX8_findsBounds 109 = .ok (.getfield 50, 3) := by decide +kernel
theorem dX8_findsBounds_112 : decode cX8_findsBounds 112 = .ok (.iload_n 1, 1) := by decide +kernel
theorem dX8_findsBounds_113 : decode cX8_findsBounds 113 = .ok (.iaload, 1) := by decide +kernel
theorem dX8_findsBounds_114 : decode cX8_findsBounds 114 = .ok (.if_icmp .le 7, 3) := by decide +kernel
theorem dX8_findsBounds_117 : decode cX8_findsBounds 117 = .ok (.iload_n 3, 1) := by decide +kernel
theorem dX8_findsBounds_118 : decode cX8_findsBounds 118 = .ok (.goto 9, 3) := by decide +kernel
theorem dX8_findsBounds_121 : decode cX8_findsBounds 121 = .ok (.aload_n 0, 1) := by decide +kernel
theorem dX8_findsBounds_122 : decode cX8_findsBounds 122 = .ok (.getfield 50, 3) := by decide +kernel
theorem dX8_findsBounds_125 : decode cX8_findsBounds 125 = .ok (.iload_n 1, 1) := by decide +kernel
theorem dX8_findsBounds_126 : decode cX8_findsBounds 126 = .ok (.iaload, 1) := by decide +kernel
theorem dX8_findsBounds_127 : decode cX8_findsBounds 127 = .ok (.iastore, 1) := by decide +kernel
theorem dX8_findsBounds_128 : decode cX8_findsBounds 128 = .ok (.iinc 2 1, 3) := by decide +kernel
theorem dX8_findsBounds_131 : decode cX8_findsBounds 131 = .ok (.goto (-82), 3) := by decide +kernel
theorem dX8_findsBounds_134 : decode cX8_findsBounds 134 = .ok (.return_, 1) := by decide +kernel
theorem dX8_looks_0 : decode cX8_looks 0 = .ok (.aload_n 0, 1) := by decide +kernel
theorem dX8_looks_1 : decode cX8_looks 1 = .ok (.iload_n 1, 1) := by decide +kernel
theorem dX8_looks_2 : decode cX8_looks 2 = .ok (.invokevirtual 151, 3) := by decide +kernel
theorem dX8_looks_5 : decode cX8_looks 5 = .ok (.aload_n 0, 1) := by decide +kernel
theorem dX8_looks_6 : decode cX8_looks 6 = .ok (.getfield 47, 3) := by decide +kernel
theorem dX8_looks_9 : decode cX8_looks 9 = .ok (.iload_n 1, 1) := by decide +kernel
theorem dX8_looks_10 : decode cX8_looks 10 = .ok (.iaload, 1) := by decide +kernel
theorem dX8_looks_11 : decode cX8_looks 11 = .ok (.aload_n 0, 1) := by decide +kernel
theorem dX8_looks_12 : decode cX8_looks 12 = .ok (.getfield 96, 3) := by decide +kernel
theorem dX8_looks_15 : decode cX8_looks 15 = .ok (.bipush 14, 2) := by decide +kernel
theorem dX8_looks_17 : decode cX8_looks 17 = .ok (.iadd, 1) := by decide +kernel
theorem dX8_looks_18 : decode cX8_looks 18 = .ok (.if_icmp .gt 7, 3) := by decide +kernel
theorem dX8_looks_21 : decode cX8_looks 21 = .ok (.iconst 1, 1) := by decide +kernel
theorem dX8_looks_22 : decode cX8_looks 22 = .ok (.goto 4, 3) := by decide +kernel
theorem dX8_looks_25 : decode cX8_looks 25 = .ok (.iconst 0, 1) := by decide +kernel
theorem dX8_looks_26 : decode cX8_looks 26 = .ok (.istore_n 2, 1) := by decide +kernel
theorem dX8_looks_27 : decode cX8_looks 27 = .ok (.aload_n 0, 1) := by decide +kernel
theorem dX8_looks_28 : decode cX8_looks 28 = .ok (.getfield 37, 3) := by decide +kernel
theorem dX8_looks_31 : decode cX8_looks 31 = .ok (.iload_n 1, 1) := by decide +kernel
theorem dX8_looks_32 : decode cX8_looks 32 = .ok (.baload, 1) := by decide +kernel
theorem dX8_looks_33 : decode cX8_looks 33 = .ok (.istore_n 3, 1) := by decide +kernel
theorem dX8_looks_34 : decode cX8_looks 34 = .ok (.aload_n 0, 1) := by decide +kernel
theorem dX8_looks_35 : decode cX8_looks 35 = .ok (.getfield 37, 3) := by decide +kernel
theorem dX8_looks_38 : decode cX8_looks 38 = .ok (.iload_n 1, 1) := by decide +kernel
theorem dX8_looks_39 : decode cX8_looks 39 = .ok (.iload_n 3, 1) := by decide +kernel
theorem dX8_looks_40 : decode cX8_looks 40 = .ok (.ifCond .eq 27, 3) := by decide +kernel
theorem dX8_looks_43 : decode cX8_looks 43 = .ok (.aload_n 0, 1) := by decide +kernel
theorem dX8_looks_44 : decode cX8_looks 44 = .ok (.getfield 47, 3) := by decide +kernel
theorem dX8_looks_47 : decode cX8_looks 47 = .ok (.iload_n 1, 1) := by decide +kernel
theorem dX8_looks_48 : decode cX8_looks 48 = .ok (.iaload, 1) := by decide +kernel
theorem dX8_looks_49 : decode cX8_looks 49 = .ok (.aload_n 0, 1) := by decide +kernel
theorem dX8_looks_50 : decode cX8_looks 50 = .ok (.getfield 96, 3) := by decide +kernel
theorem dX8_looks_53 : decode cX8_looks 53 = .ok (.bipush 21, 2) := by decide +kernel
theorem dX8_looks_55 : decode cX8_looks 55 = .ok (.iadd, 1) := by decide +kernel
theorem dX8_looks_56 : decode cX8_looks 56 = .ok (.if_icmp .gt 7, 3) := by decide +kernel
theorem dX8_looks_59 : decode cX8_looks 59 = .ok (.iconst 1, 1) := by decide +kernel
theorem dX8_looks_60 : decode cX8_looks 60 = .ok (.goto 25, 3) := by decide +kernel
theorem dX8_looks_63 : decode cX8_looks 63 = .ok (.iconst 0, 1) := by decide +kernel
theorem dX8_looks_64 : decode cX8_looks 64 = .ok (.goto 21, 3) := by decide +kernel
theorem dX8_looks_67 : decode cX8_looks 67 = .ok (.iload_n 2, 1) := by decide +kernel
theorem dX8_looks_68 : decode cX8_looks 68 = .ok (.ifCond .eq 16, 3) := by decide +kernel
theorem dX8_looks_71 : decode cX8_looks 71 = .ok (.aload_n 0, 1) := by decide +kernel
theorem dX8_looks_72 : decode cX8_looks 72 = .ok (.getfield 41, 3) := by decide +kernel
theorem dX8_looks_75 : decode cX8_looks 75 = .ok (.iload_n 1, 1) := by decide +kernel
theorem dX8_looks_76 : decode cX8_looks 76 = .ok (.baload, 1) := by decide +kernel
theorem dX8_looks_77 : decode cX8_looks 77 = .ok (.ifCond .eq 7, 3) := by decide +kernel
theorem dX8_looks_80 : decode cX8_looks 80 = .ok (.iconst 1, 1) := by decide +kernel
theorem dX8_looks_81 : decode cX8_looks 81 = .ok (.goto 4, 3) := by decide +kernel
theorem dX8_looks_84 : decode cX8_looks 84 = .ok (.iconst 0, 1) := by decide +kernel
theorem dX8_looks_85 : decode cX8_looks 85 = .ok (.bastore, 1) := by decide +kernel
theorem dX8_looks_86 : decode cX8_looks 86 = .ok (.aload_n 0, 1) := by decide +kernel
theorem dX8_looks_87 : decode cX8_looks 87 = .ok (.getfield 41, 3) := by decide +kernel
theorem dX8_looks_90 : decode cX8_looks 90 = .ok (.iload_n 1, 1) := by decide +kernel
theorem dX8_looks_91 : decode cX8_looks 91 = .ok (.iload_n 2, 1) := by decide +kernel
theorem dX8_looks_92 : decode cX8_looks 92 = .ok (.bastore, 1) := by decide +kernel
theorem dX8_looks_93 : decode cX8_looks 93 = .ok (.aload_n 0, 1) := by decide +kernel
theorem dX8_looks_94 : decode cX8_looks 94 = .ok (.getfield 37, 3) := by decide +kernel
theorem dX8_looks_97 : decode cX8_looks 97 = .ok (.iload_n 1, 1) := by decide +kernel
theorem dX8_looks_98 : decode cX8_looks 98 = .ok (.baload, 1) := by decide +kernel
theorem dX8_looks_99 : decode cX8_looks 99 = .ok (.iload_n 3, 1) := by decide +kernel
theorem dX8_looks_100 : decode cX8_looks 100 = .ok (.if_icmp .eq 7, 3) := by decide +kernel
theorem dX8_looks_103 : decode cX8_looks 103 = .ok (.iconst 1, 1) := by decide +kernel
theorem dX8_looks_104 : decode cX8_looks 104 = .ok (.goto 4, 3) := by decide +kernel
theorem dX8_looks_107 : decode cX8_looks 107 = .ok (.iconst 0, 1) := by decide +kernel
theorem dX8_looks_108 : decode cX8_looks 108 = .ok (.ireturn, 1) := by decide +kernel
theorem dX8_pass_0 : decode cX8_pass 0 = .ok (.aload_n 0, 1) := by decide +kernel
theorem dX8_pass_1 : decode cX8_pass 1 = .ok (.iload_n 1, 1) := by decide +kernel
theorem dX8_pass_2 : decode cX8_pass 2 = .ok (.iconst 1, 1) := by decide +kernel
theorem dX8_pass_3 : decode cX8_pass 3 = .ok (.bipush 100, 2) := by decide +kernel
theorem dX8_pass_5 : decode cX8_pass 5 = .ok (.invokestatic 84, 3) := by decide +kernel
theorem dX8_pass_8 : decode cX8_pass 8 = .ok (.ifCond .ne 7, 3) := by decide +kernel
theorem dX8_pass_11 : decode cX8_pass 11 = .ok (.iconst 1, 1) := by decide +kernel
theorem dX8_pass_12 : decode cX8_pass 12 = .ok (.goto 20, 3) := by decide +kernel
theorem dX8_pass_15 : decode cX8_pass 15 = .ok (.aload_n 0, 1) := by decide +kernel
theorem dX8_pass_16 : decode cX8_pass 16 = .ok (.getfield 96, 3) := by decide +kernel
theorem dX8_pass_19 : decode cX8_pass 19 = .ok (.iload_n 1, 1) := by decide +kernel
theorem dX8_pass_20 : decode cX8_pass 20 = .ok (.iadd, 1) := by decide +kernel
theorem dX8_pass_21 : decode cX8_pass 21 = .ok (.sipush 2000, 3) := by decide +kernel
theorem dX8_pass_24 : decode cX8_pass 24 = .ok (.if_icmp .le 7, 3) := by decide +kernel
theorem dX8_pass_27 : decode cX8_pass 27 = .ok (.iconst 2, 1) := by decide +kernel
theorem dX8_pass_28 : decode cX8_pass 28 = .ok (.goto 4, 3) := by decide +kernel
theorem dX8_pass_31 : decode cX8_pass 31 = .ok (.iconst 0, 1) := by decide +kernel
theorem dX8_pass_32 : decode cX8_pass 32 = .ok (.invokevirtual 89, 3) := by decide +kernel
theorem dX8_pass_35 : decode cX8_pass 35 = .ok (.ifCond .ne 5, 3) := by decide +kernel
theorem dX8_pass_38 : decode cX8_pass 38 = .ok (.iconst 0, 1) := by decide +kernel
theorem dX8_pass_39 : decode cX8_pass 39 = .ok (.ireturn, 1) := by decide +kernel
theorem dX8_pass_40 : decode cX8_pass 40 = .ok (.iconst 0, 1) := by decide +kernel
theorem dX8_pass_41 : decode cX8_pass 41 = .ok (.istore_n 2, 1) := by decide +kernel
theorem dX8_pass_42 : decode cX8_pass 42 = .ok (.iconst 0, 1) := by decide +kernel
theorem dX8_pass_43 : decode cX8_pass 43 = .ok (.istore_n 3, 1) := by decide +kernel
theorem dX8_pass_44 : decode cX8_pass 44 = .ok (.iload_n 3, 1) := by decide +kernel
theorem dX8_pass_45 : decode cX8_pass 45 = .ok (.iload_n 1, 1) := by decide +kernel
theorem dX8_pass_46 : decode cX8_pass 46 = .ok (.if_icmp .ge 54, 3) := by decide +kernel
theorem dX8_pass_49 : decode cX8_pass 49 = .ok (.aload_n 0, 1) := by decide +kernel
theorem dX8_pass_50 : decode cX8_pass 50 = .ok (.dup, 1) := by decide +kernel
theorem dX8_pass_51 : decode cX8_pass 51 = .ok (.getfield 96, 3) := by decide +kernel
theorem dX8_pass_54 : decode cX8_pass 54 = .ok (.iconst 1, 1) := by decide +kernel
theorem dX8_pass_55 : decode cX8_pass 55 = .ok (.iadd, 1) := by decide +kernel
theorem dX8_pass_56 : decode cX8_pass 56 = .ok (.putfield 96, 3) := by decide +kernel
theorem dX8_pass_59 : decode cX8_pass 59 = .ok (.iconst 0, 1) := by decide +kernel
theorem dX8_pass_60 : decode cX8_pass 60 = .ok (.istore 4, 2) := by decide +kernel
theorem dX8_pass_62 : decode cX8_pass 62 = .ok (.iload 4, 2) := by decide +kernel
theorem dX8_pass_64 : decode cX8_pass 64 = .ok (.aload_n 0, 1) := by decide +kernel
theorem dX8_pass_65 : decode cX8_pass 65 = .ok (.getfield 81, 3) := by decide +kernel
theorem dX8_pass_68 : decode cX8_pass 68 = .ok (.if_icmp .ge 26, 3) := by decide +kernel
theorem dX8_pass_71 : decode cX8_pass 71 = .ok (.iload_n 2, 1) := by decide +kernel
theorem dX8_pass_72 : decode cX8_pass 72 = .ok (.aload_n 0, 1) := by decide +kernel
theorem dX8_pass_73 : decode cX8_pass 73 = .ok (.iload 4, 2) := by decide +kernel
theorem dX8_pass_75 : decode cX8_pass 75 = .ok (.invokevirtual 155, 3) := by decide +kernel
theorem dX8_pass_78 : decode cX8_pass 78 = .ok (.ifCond .eq 7, 3) := by decide +kernel
theorem dX8_pass_81 : decode cX8_pass 81 = .ok (.iconst 1, 1) := by decide +kernel
theorem dX8_pass_82 : decode cX8_pass 82 = .ok (.goto 4, 3) := by decide +kernel
theorem dX8_pass_85 : decode cX8_pass 85 = .ok (.iconst 0, 1) := by decide +kernel
theorem dX8_pass_86 : decode cX8_pass 86 = .ok (.iadd, 1) := by decide +kernel
theorem dX8_pass_87 : decode cX8_pass 87 = .ok (.istore_n 2, 1) := by decide +kernel
theorem dX8_pass_88 : decode cX8_pass 88 = .ok (.iinc 4 1, 3) := by decide +kernel
theorem dX8_pass_91 : decode cX8_pass 91 = .ok (.goto (-29), 3) := by decide +kernel
theorem dX8_pass_94 : decode cX8_pass 94 = .ok (.iinc 3 1, 3) := by decide +kernel
theorem dX8_pass_97 : decode cX8_pass 97 = .ok (.goto (-53), 3) := by decide +kernel
theorem dX8_pass_100 : decode cX8_pass 100 = .ok (.iload_n 2, 1) := by decide +kernel
theorem dX8_pass_101 : decode cX8_pass 101 = .ok (.ireturn, 1) := by decide +kernel
theorem dX8_today_0 : decode cX8_today 0 = .ok (.aload_n 0, 1) := by decide +kernel
theorem dX8_today_1 : decode cX8_today 1 = .ok (.iconst 0, 1) := by decide +kernel
theorem dX8_today_2 : decode cX8_today 2 = .ok (.putfield 77, 3) := by decide +kernel
theorem dX8_today_5 : decode cX8_today 5 = .ok (.aload_n 0, 1) := by decide +kernel
theorem dX8_today_6 : decode cX8_today 6 = .ok (.getfield 96, 3) := by decide +kernel
theorem dX8_today_9 : decode cX8_today 9 = .ok (.ireturn, 1) := by decide +kernel
theorem dX8_asks_0 : decode cX8_asks 0 = .ok (.aload_n 0, 1) := by decide +kernel
theorem dX8_asks_1 : decode cX8_asks 1 = .ok (.aload_n 0, 1) := by decide +kernel
theorem dX8_asks_2 : decode cX8_asks 2 = .ok (.iload_n 1, 1) := by decide +kernel
theorem dX8_asks_3 : decode cX8_asks 3 = .ok (.invokevirtual 93, 3) := by decide +kernel
theorem dX8_asks_6 : decode cX8_asks 6 = .ok (.ifCond .eq 7, 3) := by decide +kernel
theorem dX8_asks_9 : decode cX8_asks 9 = .ok (.iconst 0, 1) := by decide +kernel
theorem dX8_asks_10 : decode cX8_asks 10 = .ok (.goto 4, 3) := by decide +kernel
theorem dX8_asks_13 : decode cX8_asks 13 = .ok (.iconst 1, 1) := by decide +kernel
theorem dX8_asks_14 : decode cX8_asks 14 = .ok (.invokevirtual 89, 3) := by decide +kernel
theorem dX8_asks_17 : decode cX8_asks 17 = .ok (.ireturn, 1) := by decide +kernel
theorem dX8_samples_0 : decode cX8_samples 0 = .ok (.aload_n 0, 1) := by decide +kernel
theorem dX8_samples_1 : decode cX8_samples 1 = .ok (.iload_n 1, 1) := by decide +kernel
theorem dX8_samples_2 : decode cX8_samples 2 = .ok (.invokevirtual 158, 3) := by decide +kernel
theorem dX8_samples_5 : decode cX8_samples 5 = .ok (.ifCond .eq 12, 3) := by decide +kernel
theorem dX8_samples_8 : decode cX8_samples 8 = .ok (.aload_n 0, 1) := by decide +kernel
theorem dX8_samples_9 : decode cX8_samples 9 = .ok (.getfield 13, 3) := by decide +kernel
theorem dX8_samples_12 : decode cX8_samples 12 = .ok (.iload_n 1, 1) := by decide +kernel
theorem dX8_samples_13 : decode cX8_samples 13 = .ok (.iaload, 1) := by decide +kernel
theorem dX8_samples_14 : decode cX8_samples 14 = .ok (.goto 4, 3) := by decide +kernel
theorem dX8_samples_17 : decode cX8_samples 17 = .ok (.iconst 0, 1) := by decide +kernel
theorem dX8_samples_18 : decode cX8_samples 18 = .ok (.ireturn, 1) := by decide +kernel
theorem dX8_asksSlope_0 : decode cX8_asksSlope 0 = .ok (.aload_n 0, 1) := by decide +kernel
theorem dX8_asksSlope_1 : decode cX8_asksSlope 1 = .ok (.aload_n 0, 1) := by decide +kernel
theorem dX8_asksSlope_2 : decode cX8_asksSlope 2 = .ok (.iload_n 1, 1) := by decide +kernel
theorem dX8_asksSlope_3 : decode cX8_asksSlope 3 = .ok (.invokevirtual 93, 3) := by decide +kernel
theorem dX8_asksSlope_6 : decode cX8_asksSlope 6 = .ok (.ifCond .ne 7, 3) := by decide +kernel
theorem dX8_asksSlope_9 : decode cX8_asksSlope 9 = .ok (.iconst 1, 1) := by decide +kernel
theorem dX8_asksSlope_10 : decode cX8_asksSlope 10 = .ok (.goto 18, 3) := by decide +kernel
theorem dX8_asksSlope_13 : decode cX8_asksSlope 13 = .ok (.aload_n 0, 1) := by decide +kernel
theorem dX8_asksSlope_14 : decode cX8_asksSlope 14 = .ok (.getfield 13, 3) := by decide +kernel
theorem dX8_asksSlope_17 : decode cX8_asksSlope 17 = .ok (.iload_n 1, 1) := by decide +kernel
theorem dX8_asksSlope_18 : decode cX8_asksSlope 18 = .ok (.iaload, 1) := by decide +kernel
theorem dX8_asksSlope_19 : decode cX8_asksSlope 19 = .ok (.iconst 2, 1) := by decide +kernel
theorem dX8_asksSlope_20 : decode cX8_asksSlope 20 = .ok (.if_icmp .ge 7, 3) := by decide +kernel
theorem dX8_asksSlope_23 : decode cX8_asksSlope 23 = .ok (.iconst 2, 1) := by decide +kernel
theorem dX8_asksSlope_24 : decode cX8_asksSlope 24 = .ok (.goto 4, 3) := by decide +kernel
theorem dX8_asksSlope_27 : decode cX8_asksSlope 27 = .ok (.iconst 0, 1) := by decide +kernel
theorem dX8_asksSlope_28 : decode cX8_asksSlope 28 = .ok (.invokevirtual 89, 3) := by decide +kernel
theorem dX8_asksSlope_31 : decode cX8_asksSlope 31 = .ok (.ifCond .eq 16, 3) := by decide +kernel
theorem dX8_asksSlope_34 : decode cX8_asksSlope 34 = .ok (.aload_n 0, 1) := by decide +kernel
theorem dX8_asksSlope_35 : decode cX8_asksSlope 35 = .ok (.iload_n 1, 1) := by decide +kernel
theorem dX8_asksSlope_36 : decode cX8_asksSlope 36 = .ok (.iconst (-1), 1) := by decide +kernel
theorem dX8_asksSlope_37 : decode cX8_asksSlope 37 = .ok (.invokevirtual 138, 3) := by decide +kernel
theorem dX8_asksSlope_40 : decode cX8_asksSlope 40 = .ok (.ifCond .eq 7, 3) := by decide +kernel
theorem dX8_asksSlope_43 : decode cX8_asksSlope 43 = .ok (.iconst 1, 1) := by decide +kernel
theorem dX8_asksSlope_44 : decode cX8_asksSlope 44 = .ok (.goto 4, 3) := by decide +kernel
theorem dX8_asksSlope_47 : decode cX8_asksSlope 47 = .ok (.iconst 0, 1) := by decide +kernel
theorem dX8_asksSlope_48 : decode cX8_asksSlope 48 = .ok (.ireturn, 1) := by decide +kernel
theorem dX8_slopeNumerator_0 : decode cX8_slopeNumerator 0 = .ok (.aload_n 0, 1) := by decide +kernel
theorem dX8_slopeNumerator_1 : decode cX8_slopeNumerator 1 = .ok (.iload_n 1, 1) := by decide +kernel
theorem dX8_slopeNumerator_2 : decode cX8_slopeNumerator 2 = .ok (.invokevirtual 161, 3) := by decide +kernel
theorem dX8_slopeNumerator_5 : decode cX8_slopeNumerator 5 = .ok (.ifCond .eq 10, 3) := by decide +kernel
theorem dX8_slopeNumerator_8 : decode cX8_slopeNumerator 8 = .ok (.aload_n 0, 1) := by decide +kernel
theorem dX8_slopeNumerator_9 : decode cX8_slopeNumerator 9 = .ok (.getfield 127, 3) := by decide +kernel
theorem dX8_slopeNumerator_12 : decode cX8_slopeNumerator 12 = .ok (.goto 4, 3) := by decide +kernel
theorem dX8_slopeNumerator_15 : decode cX8_slopeNumerator 15 = .ok (.iconst 0, 1) := by decide +kernel
theorem dX8_slopeNumerator_16 : decode cX8_slopeNumerator 16 = .ok (.ireturn, 1) := by decide +kernel
theorem dX8_slopeDenominator_0 : decode cX8_slopeDenominator 0 = .ok (.aload_n 0, 1) := by decide +kernel
theorem dX8_slopeDenominator_1 : decode cX8_slopeDenominator 1 = .ok (.iload_n 1, 1) := by decide +kernel
theorem dX8_slopeDenominator_2 : decode cX8_slopeDenominator 2 = .ok (.invokevirtual 161, 3) := by decide +kernel
theorem dX8_slopeDenominator_5 : decode cX8_slopeDenominator 5 = .ok (.ifCond .eq 10, 3) := by decide +kernel
theorem dX8_slopeDenominator_8 : decode cX8_slopeDenominator 8 = .ok (.aload_n 0, 1) := by decide +kernel
theorem dX8_slopeDenominator_9 : decode cX8_slopeDenominator 9 = .ok (.getfield 130, 3) := by decide +kernel
theorem dX8_slopeDenominator_12 : decode cX8_slopeDenominator 12 = .ok (.goto 4, 3) := by decide +kernel
theorem dX8_slopeDenominator_15 : decode cX8_slopeDenominator 15 = .ok (.iconst 0, 1) := by decide +kernel
theorem dX8_slopeDenominator_16 : decode cX8_slopeDenominator 16 = .ok (.ireturn, 1) := by decide +kernel
theorem dX8_usual_0 : decode cX8_usual 0 = .ok (.aload_n 0, 1) := by decide +kernel
theorem dX8_usual_1 : decode cX8_usual 1 = .ok (.iload_n 1, 1) := by decide +kernel
theorem dX8_usual_2 : decode cX8_usual 2 = .ok (.invokevirtual 158, 3) := by decide +kernel
theorem dX8_usual_5 : decode cX8_usual 5 = .ok (.ifCond .eq 11, 3) := by decide +kernel
theorem dX8_usual_8 : decode cX8_usual 8 = .ok (.aload_n 0, 1) := by decide +kernel
theorem dX8_usual_9 : decode cX8_usual 9 = .ok (.iload_n 1, 1) := by decide +kernel
theorem dX8_usual_10 : decode cX8_usual 10 = .ok (.invokevirtual 141, 3) := by decide +kernel
theorem dX8_usual_13 : decode cX8_usual 13 = .ok (.goto 4, 3) := by decide +kernel
theorem dX8_usual_16 : decode cX8_usual 16 = .ok (.iconst 0, 1) := by decide +kernel
theorem dX8_usual_17 : decode cX8_usual 17 = .ok (.ireturn, 1) := by decide +kernel
theorem dX8_forecast_0 : decode cX8_forecast 0 = .ok (.aload_n 0, 1) := by decide +kernel
theorem dX8_forecast_1 : decode cX8_forecast 1 = .ok (.iload_n 1, 1) := by decide +kernel
theorem dX8_forecast_2 : decode cX8_forecast 2 = .ok (.invokevirtual 161, 3) := by decide +kernel
theorem dX8_forecast_5 : decode cX8_forecast 5 = .ok (.ifCond .ne 5, 3) := by decide +kernel
theorem dX8_forecast_8 : decode cX8_forecast 8 = .ok (.iconst 0, 1) := by decide +kernel
theorem dX8_forecast_9 : decode cX8_forecast 9 = .ok (.ireturn, 1) := by decide +kernel
theorem dX8_forecast_10 : decode cX8_forecast 10 = .ok (.aload_n 0, 1) := by decide +kernel
theorem dX8_forecast_11 : decode cX8_forecast 11 = .ok (.iload_n 2, 1) := by decide +kernel
theorem dX8_forecast_12 : decode cX8_forecast 12 = .ok (.aload_n 0, 1) := by decide +kernel
theorem dX8_forecast_13 : decode cX8_forecast 13 = .ok (.getfield 107, 3) := by decide +kernel
theorem dX8_forecast_16 : decode cX8_forecast 16 = .ok (.iconst 1, 1) := by decide +kernel
theorem dX8_forecast_17 : decode cX8_forecast 17 = .ok (.iadd, 1) := by decide +kernel
theorem dX8_forecast_18 : decode cX8_forecast 18 = .ok (.aload_n 0, 1) := by decide +kernel
theorem dX8_forecast_19 : decode cX8_forecast 19 = .ok (.getfield 107, 3) := by decide +kernel
theorem dX8_forecast_22 : decode cX8_forecast 22 = .ok (.sipush 1000, 3) := by decide +kernel
theorem dX8_forecast_25 : decode cX8_forecast 25 = .ok (.iadd, 1) := by decide +kernel
theorem dX8_forecast_26 : decode cX8_forecast 26 = .ok (.invokestatic 84, 3) := by decide +kernel
theorem dX8_forecast_29 : decode cX8_forecast 29 = .ok (.ifCond .eq 7, 3) := by decide +kernel
theorem dX8_forecast_32 : decode cX8_forecast 32 = .ok (.iconst 0, 1) := by decide +kernel
theorem dX8_forecast_33 : decode cX8_forecast 33 = .ok (.goto 4, 3) := by decide +kernel
theorem dX8_forecast_36 : decode cX8_forecast 36 = .ok (.iconst 3, 1) := by decide +kernel
theorem dX8_forecast_37 : decode cX8_forecast 37 = .ok (.invokevirtual 89, 3) := by decide +kernel
theorem dX8_forecast_40 : decode cX8_forecast 40 = .ok (.ifCond .eq 18, 3) := by decide +kernel
theorem dX8_forecast_43 : decode cX8_forecast 43 = .ok (.aload_n 0, 1) := by decide +kernel
theorem dX8_forecast_44 : decode cX8_forecast 44 = .ok (.iload_n 1, 1) := by decide +kernel
theorem dX8_forecast_45 : decode cX8_forecast 45 = .ok (.iload_n 2, 1) := by decide +kernel
theorem dX8_forecast_46 : decode cX8_forecast 46 = .ok (.aload_n 0, 1) := by decide +kernel
theorem dX8_forecast_47 : decode cX8_forecast 47 = .ok (.iload_n 1, 1) := by decide +kernel
theorem dX8_forecast_48 : decode cX8_forecast 48 = .ok (.invokevirtual 141, 3) := by decide +kernel
theorem dX8_forecast_51 : decode cX8_forecast 51 = .ok (.invokevirtual 144, 3) := by decide +kernel
theorem dX8_forecast_54 : decode cX8_forecast 54 = .ok (.l2i, 1) := by decide +kernel
theorem dX8_forecast_55 : decode cX8_forecast 55 = .ok (.goto 4, 3) := by decide +kernel
theorem dX8_forecast_58 : decode cX8_forecast 58 = .ok (.iconst 0, 1) := by decide +kernel
theorem dX8_forecast_59 : decode cX8_forecast 59 = .ok (.ireturn, 1) := by decide +kernel
theorem dX8_told_0 : decode cX8_told 0 = .ok (.iload_n 0, 1) := by decide +kernel
theorem dX8_told_1 : decode cX8_told 1 = .ok (.ldc 88, 2) := by decide +kernel
theorem dX8_told_3 : decode cX8_told 3 = .ok (.if_icmp .ne 7, 3) := by decide +kernel
theorem dX8_told_6 : decode cX8_told 6 = .ok (.iconst (-1), 1) := by decide +kernel
theorem dX8_told_7 : decode cX8_told 7 = .ok (.goto 4, 3) := by decide +kernel
theorem dX8_told_10 : decode cX8_told 10 = .ok (.iload_n 0, 1) := by decide +kernel
theorem dX8_told_11 : decode cX8_told 11 = .ok (.ireturn, 1) := by decide +kernel
theorem dX8_full_0 : decode cX8_full 0 = .ok (.aload_n 0, 1) := by decide +kernel
theorem dX8_full_1 : decode cX8_full 1 = .ok (.iload_n 1, 1) := by decide +kernel
theorem dX8_full_2 : decode cX8_full 2 = .ok (.invokevirtual 158, 3) := by decide +kernel
theorem dX8_full_5 : decode cX8_full 5 = .ok (.ifCond .eq 15, 3) := by decide +kernel
theorem dX8_full_8 : decode cX8_full 8 = .ok (.aload_n 0, 1) := by decide +kernel
theorem dX8_full_9 : decode cX8_full 9 = .ok (.iload_n 1, 1) := by decide +kernel
theorem dX8_full_10 : decode cX8_full 10 = .ok (.iconst (-1), 1) := by decide +kernel
theorem dX8_full_11 : decode cX8_full 11 = .ok (.invokevirtual 148, 3) := by decide +kernel
theorem dX8_full_14 : decode cX8_full 14 = .ok (.invokestatic 164, 3) := by decide +kernel
theorem dX8_full_17 : decode cX8_full 17 = .ok (.goto 4, 3) := by decide +kernel
theorem dX8_full_20 : decode cX8_full 20 = .ok (.iconst 0, 1) := by decide +kernel
theorem dX8_full_21 : decode cX8_full 21 = .ok (.ireturn, 1) := by decide +kernel
theorem dX8_early_0 : decode cX8_early 0 = .ok (.aload_n 0, 1) := by decide +kernel
theorem dX8_early_1 : decode cX8_early 1 = .ok (.iload_n 1, 1) := by decide +kernel
theorem dX8_early_2 : decode cX8_early 2 = .ok (.invokevirtual 158, 3) := by decide +kernel
theorem dX8_early_5 : decode cX8_early 5 = .ok (.ifCond .ne 5, 3) := by decide +kernel
theorem dX8_early_8 : decode cX8_early 8 = .ok (.iconst 0, 1) := by decide +kernel
theorem dX8_early_9 : decode cX8_early 9 = .ok (.ireturn, 1) := by decide +kernel
theorem dX8_early_10 : decode cX8_early 10 = .ok (.aload_n 0, 1) := by decide +kernel
theorem dX8_early_11 : decode cX8_early 11 = .ok (.iload_n 1, 1) := by decide +kernel
theorem dX8_early_12 : decode cX8_early 12 = .ok (.invokevirtual 151, 3) := by decide +kernel
theorem dX8_early_15 : decode cX8_early 15 = .ok (.aload_n 0, 1) := by decide +kernel
theorem dX8_early_16 : decode cX8_early 16 = .ok (.getfield 47, 3) := by decide +kernel
theorem dX8_early_19 : decode cX8_early 19 = .ok (.iload_n 1, 1) := by decide +kernel
theorem dX8_early_20 : decode cX8_early 20 = .ok (.iaload, 1) := by decide +kernel
theorem dX8_early_21 : decode cX8_early 21 = .ok (.invokestatic 164, 3) := by decide +kernel
theorem dX8_early_24 : decode cX8_early 24 = .ok (.ireturn, 1) := by decide +kernel
theorem dX8_late_0 : decode cX8_late 0 = .ok (.aload_n 0, 1) := by decide +kernel
theorem dX8_late_1 : decode cX8_late 1 = .ok (.iload_n 1, 1) := by decide +kernel
theorem dX8_late_2 : decode cX8_late 2 = .ok (.invokevirtual 158, 3) := by decide +kernel
theorem dX8_late_5 : decode cX8_late 5 = .ok (.ifCond .ne 5, 3) := by decide +kernel
theorem dX8_late_8 : decode cX8_late 8 = .ok (.iconst 0, 1) := by decide +kernel
theorem dX8_late_9 : decode cX8_late 9 = .ok (.ireturn, 1) := by decide +kernel
theorem dX8_late_10 : decode cX8_late 10 = .ok (.aload_n 0, 1) := by decide +kernel
theorem dX8_late_11 : decode cX8_late 11 = .ok (.iload_n 1, 1) := by decide +kernel
theorem dX8_late_12 : decode cX8_late 12 = .ok (.invokevirtual 151, 3) := by decide +kernel
theorem dX8_late_15 : decode cX8_late 15 = .ok (.aload_n 0, 1) := by decide +kernel
theorem dX8_late_16 : decode cX8_late 16 = .ok (.getfield 50, 3) := by decide +kernel
theorem dX8_late_19 : decode cX8_late 19 = .ok (.iload_n 1, 1) := by decide +kernel
theorem dX8_late_20 : decode cX8_late 20 = .ok (.iaload, 1) := by decide +kernel
theorem dX8_late_21 : decode cX8_late 21 = .ok (.invokestatic 164, 3) := by decide +kernel
theorem dX8_late_24 : decode cX8_late 24 = .ok (.ireturn, 1) := by decide +kernel
theorem dX8_warns_0 : decode cX8_warns 0 = .ok (.aload_n 0, 1) := by decide +kernel
theorem dX8_warns_1 : decode cX8_warns 1 = .ok (.iload_n 1, 1) := by decide +kernel
theorem dX8_warns_2 : decode cX8_warns 2 = .ok (.invokevirtual 158, 3) := by decide +kernel
theorem dX8_warns_5 : decode cX8_warns 5 = .ok (.ifCond .eq 16, 3) := by decide +kernel
theorem dX8_warns_8 : decode cX8_warns 8 = .ok (.aload_n 0, 1) := by decide +kernel
theorem dX8_warns_9 : decode cX8_warns 9 = .ok (.getfield 37, 3) := by decide +kernel
theorem dX8_warns_12 : decode cX8_warns 12 = .ok (.iload_n 1, 1) := by decide +kernel
theorem dX8_warns_13 : decode cX8_warns 13 = .ok (.baload, 1) := by decide +kernel
theorem dX8_warns_14 : decode cX8_warns 14 = .ok (.ifCond .eq 7, 3) := by decide +kernel
theorem dX8_warns_17 : decode cX8_warns 17 = .ok (.iconst 1, 1) := by decide +kernel
theorem dX8_warns_18 : decode cX8_warns 18 = .ok (.goto 4, 3) := by decide +kernel
theorem dX8_warns_21 : decode cX8_warns 21 = .ok (.iconst 0, 1) := by decide +kernel
theorem dX8_warns_22 : decode cX8_warns 22 = .ok (.ireturn, 1) := by decide +kernel
theorem dX8_keeps_0 : decode cX8_keeps 0 = .ok (.aload_n 0, 1) := by decide +kernel
theorem dX8_keeps_1 : decode cX8_keeps 1 = .ok (.iload_n 1, 1) := by decide +kernel
theorem dX8_keeps_2 : decode cX8_keeps 2 = .ok (.iconst (-1), 1) := by decide +kernel
theorem dX8_keeps_3 : decode cX8_keeps 3 = .ok (.invokevirtual 138, 3) := by decide +kernel
theorem dX8_keeps_6 : decode cX8_keeps 6 = .ok (.pop, 1) := by decide +kernel
theorem dX8_keeps_7 : decode cX8_keeps 7 = .ok (.aload_n 0, 1) := by decide +kernel
theorem dX8_keeps_8 : decode cX8_keeps 8 = .ok (.getfield 62, 3) := by decide +kernel
theorem dX8_keeps_11 : decode cX8_keeps 11 = .ok (.iload_n 1, 1) := by decide +kernel
theorem dX8_keeps_12 : decode cX8_keeps 12 = .ok (.aload_n 0, 1) := by decide +kernel
theorem dX8_keeps_13 : decode cX8_keeps 13 = .ok (.getfield 127, 3) := by decide +kernel
theorem dX8_keeps_16 : decode cX8_keeps 16 = .ok (.iastore, 1) := by decide +kernel
theorem dX8_keeps_17 : decode cX8_keeps 17 = .ok (.aload_n 0, 1) := by decide +kernel
theorem dX8_keeps_18 : decode cX8_keeps 18 = .ok (.getfield 65, 3) := by decide +kernel
theorem dX8_keeps_21 : decode cX8_keeps 21 = .ok (.iload_n 1, 1) := by decide +kernel
theorem dX8_keeps_22 : decode cX8_keeps 22 = .ok (.aload_n 0, 1) := by decide +kernel
theorem dX8_keeps_23 : decode cX8_keeps 23 = .ok (.getfield 130, 3) := by decide +kernel
theorem dX8_keeps_26 : decode cX8_keeps 26 = .ok (.iastore, 1) := by decide +kernel
theorem dX8_keeps_27 : decode cX8_keeps 27 = .ok (.aload_n 0, 1) := by decide +kernel
theorem dX8_keeps_28 : decode cX8_keeps 28 = .ok (.getfield 68, 3) := by decide +kernel
theorem dX8_keeps_31 : decode cX8_keeps 31 = .ok (.iload_n 1, 1) := by decide +kernel
theorem dX8_keeps_32 : decode cX8_keeps 32 = .ok (.aload_n 0, 1) := by decide +kernel
theorem dX8_keeps_33 : decode cX8_keeps 33 = .ok (.getfield 107, 3) := by decide +kernel
theorem dX8_keeps_36 : decode cX8_keeps 36 = .ok (.iastore, 1) := by decide +kernel
theorem dX8_keeps_37 : decode cX8_keeps 37 = .ok (.aload_n 0, 1) := by decide +kernel
theorem dX8_keeps_38 : decode cX8_keeps 38 = .ok (.getfield 71, 3) := by decide +kernel
theorem dX8_keeps_41 : decode cX8_keeps 41 = .ok (.iload_n 1, 1) := by decide +kernel
theorem dX8_keeps_42 : decode cX8_keeps 42 = .ok (.aload_n 0, 1) := by decide +kernel
theorem dX8_keeps_43 : decode cX8_keeps 43 = .ok (.getfield 110, 3) := by decide +kernel
theorem dX8_keeps_46 : decode cX8_keeps 46 = .ok (.iastore, 1) := by decide +kernel
theorem dX8_keeps_47 : decode cX8_keeps 47 = .ok (.aload_n 0, 1) := by decide +kernel
theorem dX8_keeps_48 : decode cX8_keeps 48 = .ok (.getfield 74, 3) := by decide +kernel
theorem dX8_keeps_51 : decode cX8_keeps 51 = .ok (.iload_n 1, 1) := by decide +kernel
theorem dX8_keeps_52 : decode cX8_keeps 52 = .ok (.aload_n 0, 1) := by decide +kernel
theorem dX8_keeps_53 : decode cX8_keeps 53 = .ok (.iload_n 1, 1) := by decide +kernel
theorem dX8_keeps_54 : decode cX8_keeps 54 = .ok (.invokevirtual 141, 3) := by decide +kernel
theorem dX8_keeps_57 : decode cX8_keeps 57 = .ok (.iastore, 1) := by decide +kernel
theorem dX8_keeps_58 : decode cX8_keeps 58 = .ok (.return_, 1) := by decide +kernel
theorem dX8_together_0 : decode cX8_together 0 = .ok (.lconst 0, 1) := by decide +kernel
theorem dX8_together_1 : decode cX8_together 1 = .ok (.lstore_n 3, 1) := by decide +kernel
theorem dX8_together_2 : decode cX8_together 2 = .ok (.iconst 0, 1) := by decide +kernel
theorem dX8_together_3 : decode cX8_together 3 = .ok (.istore 5, 2) := by decide +kernel
theorem dX8_together_5 : decode cX8_together 5 = .ok (.iload 5, 2) := by decide +kernel
theorem dX8_together_7 : decode cX8_together 7 = .ok (.aload_n 0, 1) := by decide +kernel
theorem dX8_together_8 : decode cX8_together 8 = .ok (.getfield 81, 3) := by decide +kernel
theorem dX8_together_11 : decode cX8_together 11 = .ok (.if_icmp .ge 80, 3) := by decide +kernel
theorem dX8_together_14 : decode cX8_together 14 = .ok (.iload_n 1, 1) := by decide +kernel
theorem dX8_together_15 : decode cX8_together 15 = .ok (.iload 5, 2) := by decide +kernel
theorem dX8_together_17 : decode cX8_together 17 = .ok (.ishr, 1) := by decide +kernel
theorem dX8_together_18 : decode cX8_together 18 = .ok (.iconst 1, 1) := by decide +kernel
theorem dX8_together_19 : decode cX8_together 19 = .ok (.iand, 1) := by decide +kernel
theorem dX8_together_20 : decode cX8_together 20 = .ok (.iconst 1, 1) := by decide +kernel
theorem dX8_together_21 : decode cX8_together 21 = .ok (.if_icmp .ne 64, 3) := by decide +kernel
theorem dX8_together_24 : decode cX8_together 24 = .ok (.aload_n 0, 1) := by decide +kernel
theorem dX8_together_25 : decode cX8_together 25 = .ok (.aload_n 0, 1) := by decide +kernel
theorem dX8_together_26 : decode cX8_together 26 = .ok (.getfield 62, 3) := by decide +kernel
theorem dX8_together_29 : decode cX8_together 29 = .ok (.iload 5, 2) := by decide +kernel
theorem dX8_together_31 : decode cX8_together 31 = .ok (.iaload, 1) := by decide +kernel
theorem dX8_together_32 : decode cX8_together 32 = .ok (.putfield 127, 3) := by decide +kernel
theorem dX8_together_35 : decode cX8_together 35 = .ok (.aload_n 0, 1) := by decide +kernel
theorem dX8_together_36 : decode cX8_together 36 = .ok (.aload_n 0, 1) := by decide +kernel
theorem dX8_together_37 : decode cX8_together 37 = .ok (.getfield 65, 3) := by decide +kernel
theorem dX8_together_40 : decode cX8_together 40 = .ok (.iload 5, 2) := by decide +kernel
theorem dX8_together_42 : decode cX8_together 42 = .ok (.iaload, 1) := by decide +kernel
theorem dX8_together_43 : decode cX8_together 43 = .ok (.putfield 130, 3) := by decide +kernel
theorem dX8_together_46 : decode cX8_together 46 = .ok (.aload_n 0, 1) := by decide +kernel
theorem dX8_together_47 : decode cX8_together 47 = .ok (.aload_n 0, 1) := by decide +kernel
theorem dX8_together_48 : decode cX8_together 48 = .ok (.getfield 68, 3) := by decide +kernel
theorem dX8_together_51 : decode cX8_together 51 = .ok (.iload 5, 2) := by decide +kernel
theorem dX8_together_53 : decode cX8_together 53 = .ok (.iaload, 1) := by decide +kernel
theorem dX8_together_54 : decode cX8_together 54 = .ok (.putfield 107, 3) := by decide +kernel
theorem dX8_together_57 : decode cX8_together 57 = .ok (.aload_n 0, 1) := by decide +kernel
theorem dX8_together_58 : decode cX8_together 58 = .ok (.aload_n 0, 1) := by decide +kernel
theorem dX8_together_59 : decode cX8_together 59 = .ok (.getfield 71, 3) := by decide +kernel
theorem dX8_together_62 : decode cX8_together 62 = .ok (.iload 5, 2) := by decide +kernel
theorem dX8_together_64 : decode cX8_together 64 = .ok (.iaload, 1) := by decide +kernel
theorem dX8_together_65 : decode cX8_together 65 = .ok (.putfield 110, 3) := by decide +kernel
theorem dX8_together_68 : decode cX8_together 68 = .ok (.lload_n 3, 1) := by decide +kernel
theorem dX8_together_69 : decode cX8_together 69 = .ok (.aload_n 0, 1) := by decide +kernel
theorem dX8_together_70 : decode cX8_together 70 = .ok (.iload 5, 2) := by decide +kernel
theorem dX8_together_72 : decode cX8_together 72 = .ok (.iload_n 2, 1) := by decide +kernel
theorem dX8_together_73 : decode cX8_together 73 = .ok (.aload_n 0, 1) := by decide +kernel
theorem dX8_together_74 : decode cX8_together 74 = .ok (.getfield 74, 3) := by decide +kernel
theorem dX8_together_77 : decode cX8_together 77 = .ok (.iload 5, 2) := by decide +kernel
theorem dX8_together_79 : decode cX8_together 79 = .ok (.iaload, 1) := by decide +kernel
theorem dX8_together_80 : decode cX8_together 80 = .ok (.invokevirtual 144, 3) := by decide +kernel
theorem dX8_together_83 : decode cX8_together 83 = .ok (.ladd, 1) := by decide +kernel
theorem dX8_together_84 : decode cX8_together 84 = .ok (.lstore_n 3, 1) := by decide +kernel
theorem dX8_together_85 : decode cX8_together 85 = .ok (.iinc 5 1, 3) := by decide +kernel
theorem dX8_together_88 : decode cX8_together 88 = .ok (.goto (-83), 3) := by decide +kernel
theorem dX8_together_91 : decode cX8_together 91 = .ok (.lload_n 3, 1) := by decide +kernel
theorem dX8_together_92 : decode cX8_together 92 = .ok (.lreturn, 1) := by decide +kernel
theorem dX8_poolFull_0 : decode cX8_poolFull 0 = .ok (.aload_n 0, 1) := by decide +kernel
theorem dX8_poolFull_1 : decode cX8_poolFull 1 = .ok (.iload_n 1, 1) := by decide +kernel
theorem dX8_poolFull_2 : decode cX8_poolFull 2 = .ok (.ifCond .le 16, 3) := by decide +kernel
theorem dX8_poolFull_5 : decode cX8_poolFull 5 = .ok (.iload_n 1, 1) := by decide +kernel
theorem dX8_poolFull_6 : decode cX8_poolFull 6 = .ok (.aload_n 0, 1) := by decide +kernel
theorem dX8_poolFull_7 : decode cX8_poolFull 7 = .ok (.getfield 81, 3) := by decide +kernel
theorem dX8_poolFull_10 : decode cX8_poolFull 10 = .ok (.ishr, 1) := by decide +kernel
theorem dX8_poolFull_11 : decode cX8_poolFull 11 = .ok (.ifCond .ne 7, 3) := by decide +kernel
theorem dX8_poolFull_14 : decode cX8_poolFull 14 = .ok (.iconst 0, 1) := by decide +kernel
theorem dX8_poolFull_15 : decode cX8_poolFull 15 = .ok (.goto 4, 3) := by decide +kernel
theorem dX8_poolFull_18 : decode cX8_poolFull 18 = .ok (.iconst 1, 1) := by decide +kernel
theorem dX8_poolFull_19 : decode cX8_poolFull 19 = .ok (.invokevirtual 89, 3) := by decide +kernel
theorem dX8_poolFull_22 : decode cX8_poolFull 22 = .ok (.ifCond .ne 5, 3) := by decide +kernel
theorem dX8_poolFull_25 : decode cX8_poolFull 25 = .ok (.iconst 0, 1) := by decide +kernel
theorem dX8_poolFull_26 : decode cX8_poolFull 26 = .ok (.ireturn, 1) := by decide +kernel
theorem dX8_poolFull_27 : decode cX8_poolFull 27 = .ok (.lconst 0, 1) := by decide +kernel
theorem dX8_poolFull_28 : decode cX8_poolFull 28 = .ok (.lstore_n 2, 1) := by decide +kernel
theorem dX8_poolFull_29 : decode cX8_poolFull 29 = .ok (.iconst 1, 1) := by decide +kernel
theorem dX8_poolFull_30 : decode cX8_poolFull 30 = .ok (.istore 4, 2) := by decide +kernel
theorem dX8_poolFull_32 : decode cX8_poolFull 32 = .ok (.iconst 0, 1) := by decide +kernel
theorem dX8_poolFull_33 : decode cX8_poolFull 33 = .ok (.istore 5, 2) := by decide +kernel
theorem dX8_poolFull_35 : decode cX8_poolFull 35 = .ok (.iload 5, 2) := by decide +kernel
theorem dX8_poolFull_37 : decode cX8_poolFull 37 = .ok (.aload_n 0, 1) := by decide +kernel
theorem dX8_poolFull_38 : decode cX8_poolFull 38 = .ok (.getfield 81, 3) := by decide +kernel
theorem dX8_poolFull_41 : decode cX8_poolFull 41 = .ok (.if_icmp .ge 80, 3) := by decide +kernel
theorem dX8_poolFull_44 : decode cX8_poolFull 44 = .ok (.iload_n 1, 1) := by decide +kernel
theorem dX8_poolFull_45 : decode cX8_poolFull 45 = .ok (.iload 5, 2) := by decide +kernel
theorem dX8_poolFull_47 : decode cX8_poolFull 47 = .ok (.ishr, 1) := by decide +kernel
theorem dX8_poolFull_48 : decode cX8_poolFull 48 = .ok (.iconst 1, 1) := by decide +kernel
theorem dX8_poolFull_49 : decode cX8_poolFull 49 = .ok (.iand, 1) := by decide +kernel
theorem dX8_poolFull_50 : decode cX8_poolFull 50 = .ok (.iconst 1, 1) := by decide +kernel
theorem dX8_poolFull_51 : decode cX8_poolFull 51 = .ok (.if_icmp .ne 7, 3) := by decide +kernel
theorem dX8_poolFull_54 : decode cX8_poolFull 54 = .ok (.iconst 1, 1) := by decide +kernel
theorem dX8_poolFull_55 : decode cX8_poolFull 55 = .ok (.goto 4, 3) := by decide +kernel
theorem dX8_poolFull_58 : decode cX8_poolFull 58 = .ok (.iconst 0, 1) := by decide +kernel
theorem dX8_poolFull_59 : decode cX8_poolFull 59 = .ok (.istore 6, 2) := by decide +kernel
theorem dX8_poolFull_61 : decode cX8_poolFull 61 = .ok (.iload 4, 2) := by decide +kernel
theorem dX8_poolFull_63 : decode cX8_poolFull 63 = .ok (.ifCond .eq 23, 3) := by decide +kernel
theorem dX8_poolFull_66 : decode cX8_poolFull 66 = .ok (.iload 6, 2) := by decide +kernel
theorem dX8_poolFull_68 : decode cX8_poolFull 68 = .ok (.ifCond .eq 14, 3) := by decide +kernel
theorem dX8_poolFull_71 : decode cX8_poolFull 71 = .ok (.aload_n 0, 1) := by decide +kernel
theorem dX8_poolFull_72 : decode cX8_poolFull 72 = .ok (.getfield 13, 3) := by decide +kernel
theorem dX8_poolFull_75 : decode cX8_poolFull 75 = .ok (.iload 5, 2) := by decide +kernel
theorem dX8_poolFull_77 : decode cX8_poolFull 77 = .ok (.iaload, 1) := by decide +kernel
theorem dX8_poolFull_78 : decode cX8_poolFull 78 = .ok (.iconst 1, 1) := by decide +kernel
theorem dX8_poolFull_79 : decode cX8_poolFull 79 = .ok (.if_icmp .le 7, 3) := by decide +kernel
theorem dX8_poolFull_82 : decode cX8_poolFull 82 = .ok (.iconst 1, 1) := by decide +kernel
theorem dX8_poolFull_83 : decode cX8_poolFull 83 = .ok (.goto 4, 3) := by decide +kernel
theorem dX8_poolFull_86 : decode cX8_poolFull 86 = .ok (.iconst 0, 1) := by decide +kernel
theorem dX8_poolFull_87 : decode cX8_poolFull 87 = .ok (.istore 4, 2) := by decide +kernel
theorem dX8_poolFull_89 : decode cX8_poolFull 89 = .ok (.lload_n 2, 1) := by decide +kernel
theorem dX8_poolFull_90 : decode cX8_poolFull 90 = .ok (.iload 6, 2) := by decide +kernel
theorem dX8_poolFull_92 : decode cX8_poolFull 92 = .ok (.ifCond .eq 14, 3) := by decide +kernel
theorem dX8_poolFull_95 : decode cX8_poolFull 95 = .ok (.aload_n 0, 1) := by decide +kernel
theorem dX8_poolFull_96 : decode cX8_poolFull 96 = .ok (.getfield 7, 3) := by decide +kernel
theorem dX8_poolFull_99 : decode cX8_poolFull 99 = .ok (.iload 5, 2) := by decide +kernel
theorem dX8_poolFull_101 : decode cX8_poolFull 101 = .ok (.iaload, 1) := by decide +kernel
theorem dX8_poolFull_102 : decode cX8_poolFull 102 = .ok (.i2l, 1) := by decide +kernel
theorem dX8_poolFull_103 : decode cX8_poolFull 103 = .ok (.goto 4, 3) := by decide +kernel
theorem dX8_poolFull_106 : decode cX8_poolFull 106 = .ok (.lconst 0, 1) := by decide +kernel
theorem dX8_poolFull_107 : decode cX8_poolFull 107 = .ok (.ladd, 1) := by decide +kernel
theorem dX8_poolFull_108 : decode cX8_poolFull 108 = .ok (.lstore_n 2, 1) := by decide +kernel
theorem dX8_poolFull_109 : decode cX8_poolFull 109 = .ok (.aload_n 0, 1) := by decide +kernel
theorem dX8_poolFull_110 : decode cX8_poolFull 110 = .ok (.iload 5, 2) := by decide +kernel
theorem dX8_poolFull_112 : decode cX8_poolFull 112 = .ok (.invokevirtual 167, 3) := by decide +kernel
theorem dX8_poolFull_115 : decode cX8_poolFull 115 = .ok (.iinc 5 1, 3) := by decide +kernel
theorem dX8_poolFull_118 : decode cX8_poolFull 118 = .ok (.goto (-83), 3) := by decide +kernel
theorem dX8_poolFull_121 : decode cX8_poolFull 121 = .ok (.iconst (-1), 1) := by decide +kernel
theorem dX8_poolFull_122 : decode cX8_poolFull 122 = .ok (.istore 5, 2) := by decide +kernel
theorem dX8_poolFull_124 : decode cX8_poolFull 124 = .ok (.aload_n 0, 1) := by decide +kernel
theorem dX8_poolFull_125 : decode cX8_poolFull 125 = .ok (.getfield 96, 3) := by decide +kernel
theorem dX8_poolFull_128 : decode cX8_poolFull 128 = .ok (.iconst 1, 1) := by decide +kernel
theorem dX8_poolFull_129 : decode cX8_poolFull 129 = .ok (.iadd, 1) := by decide +kernel
theorem dX8_poolFull_130 : decode cX8_poolFull 130 = .ok (.istore 6, 2) := by decide +kernel
theorem dX8_poolFull_132 : decode cX8_poolFull 132 = .ok (.iload 6, 2) := by decide +kernel
theorem dX8_poolFull_134 : decode cX8_poolFull 134 = .ok (.aload_n 0, 1) := by decide +kernel
theorem dX8_poolFull_135 : decode cX8_poolFull 135 = .ok (.getfield 96, 3) := by decide +kernel
theorem dX8_poolFull_138 : decode cX8_poolFull 138 = .ok (.sipush 1000, 3) := by decide +kernel
theorem dX8_poolFull_141 : decode cX8_poolFull 141 = .ok (.iadd, 1) := by decide +kernel
theorem dX8_poolFull_142 : decode cX8_poolFull 142 = .ok (.if_icmp .gt 40, 3) := by decide +kernel
theorem dX8_poolFull_145 : decode cX8_poolFull 145 = .ok (.iload 4, 2) := by decide +kernel
theorem dX8_poolFull_147 : decode cX8_poolFull 147 = .ok (.ifCond .eq 35, 3) := by decide +kernel
theorem dX8_poolFull_150 : decode cX8_poolFull 150 = .ok (.iload 5, 2) := by decide +kernel
theorem dX8_poolFull_152 : decode cX8_poolFull 152 = .ok (.iconst (-1), 1) := by decide +kernel
theorem dX8_poolFull_153 : decode cX8_poolFull 153 = .ok (.if_icmp .ne 29, 3) := by decide +kernel
theorem dX8_poolFull_156 : decode cX8_poolFull 156 = .ok (.aload_n 0, 1) := by decide +kernel
theorem dX8_poolFull_157 : decode cX8_poolFull 157 = .ok (.iload_n 1, 1) := by decide +kernel
theorem dX8_poolFull_158 : decode cX8_poolFull 158 = .ok (.iload 6, 2) := by decide +kernel
theorem dX8_poolFull_160 : decode cX8_poolFull 160 = .ok (.invokevirtual 170, 3) := by decide +kernel
theorem dX8_poolFull_163 : decode cX8_poolFull 163 = .ok (.lload_n 2, 1) := by decide +kernel
theorem dX8_poolFull_164 : decode cX8_poolFull 164 = .ok (.lcmp, 1) := by decide +kernel
theorem dX8_poolFull_165 : decode cX8_poolFull 165 = .ok (.ifCond .lt 8, 3) := by decide +kernel
theorem dX8_poolFull_168 : decode cX8_poolFull 168 = .ok (.iload 6, 2) := by decide +kernel
theorem dX8_poolFull_170 : decode cX8_poolFull 170 = .ok (.goto 4, 3) := by decide +kernel
theorem dX8_poolFull_173 : decode cX8_poolFull 173 = .ok (.iconst (-1), 1) := by decide +kernel
theorem dX8_poolFull_174 : decode cX8_poolFull 174 = .ok (.istore 5, 2) := by decide +kernel
theorem dX8_poolFull_176 : decode cX8_poolFull 176 = .ok (.iinc 6 1, 3) := by decide +kernel
theorem dX8_poolFull_179 : decode cX8_poolFull 179 = .ok (.goto (-47), 3) := by decide +kernel
theorem dX8_poolFull_182 : decode cX8_poolFull 182 = .ok (.iload 5, 2) := by decide +kernel
theorem dX8_poolFull_184 : decode cX8_poolFull 184 = .ok (.ireturn, 1) := by decide +kernel
theorem dJ9_floorDiv_f86c9_0 : decode cJ9_floorDiv_f86c9 0 = .ok (.lload_n 0, 1) := by decide +kernel
theorem dJ9_floorDiv_f86c9_1 : decode cJ9_floorDiv_f86c9 1 = .ok (.lload_n 2, 1) := by decide +kernel
theorem dJ9_floorDiv_f86c9_2 : decode cJ9_floorDiv_f86c9 2 = .ok (.ldiv, 1) := by decide +kernel
theorem dJ9_floorDiv_f86c9_3 : decode cJ9_floorDiv_f86c9 3 = .ok (.lstore 4, 2) := by decide +kernel
theorem dJ9_floorDiv_f86c9_5 : decode cJ9_floorDiv_f86c9 5 = .ok (.lload_n 0, 1) := by decide +kernel
theorem dJ9_floorDiv_f86c9_6 : decode cJ9_floorDiv_f86c9 6 = .ok (.lload_n 2, 1) := by decide +kernel
theorem dJ9_floorDiv_f86c9_7 : decode cJ9_floorDiv_f86c9 7 = .ok (.lxor, 1) := by decide +kernel
theorem dJ9_floorDiv_f86c9_8 : decode cJ9_floorDiv_f86c9 8 = .ok (.lconst 0, 1) := by decide +kernel
theorem dJ9_floorDiv_f86c9_9 : decode cJ9_floorDiv_f86c9 9 = .ok (.lcmp, 1) := by decide +kernel
theorem dJ9_floorDiv_f86c9_10 : decode cJ9_floorDiv_f86c9 10 = .ok (.ifCond .ge 17, 3) := by decide +kernel
theorem dJ9_floorDiv_f86c9_13 : decode cJ9_floorDiv_f86c9 13 = .ok (.lload 4, 2) := by decide +kernel
theorem dJ9_floorDiv_f86c9_15 : decode cJ9_floorDiv_f86c9 15 = .ok (.lload_n 2, 1) := by decide +kernel
theorem dJ9_floorDiv_f86c9_16 : decode cJ9_floorDiv_f86c9 16 = .ok (.lmul, 1) := by decide +kernel
theorem dJ9_floorDiv_f86c9_17 : decode cJ9_floorDiv_f86c9 17 = .ok (.lload_n 0, 1) := by decide +kernel
theorem dJ9_floorDiv_f86c9_18 : decode cJ9_floorDiv_f86c9 18 = .ok (.lcmp, 1) := by decide +kernel
theorem dJ9_floorDiv_f86c9_19 : decode cJ9_floorDiv_f86c9 19 = .ok (.ifCond .eq 8, 3) := by decide +kernel
theorem dJ9_floorDiv_f86c9_22 : decode cJ9_floorDiv_f86c9 22 = .ok (.lload 4, 2) := by decide +kernel
theorem dJ9_floorDiv_f86c9_24 : decode cJ9_floorDiv_f86c9 24 = .ok (.lconst 1, 1) := by decide +kernel
theorem dJ9_floorDiv_f86c9_25 : decode cJ9_floorDiv_f86c9 25 = .ok (.lsub, 1) := by decide +kernel
theorem dJ9_floorDiv_f86c9_26 : decode cJ9_floorDiv_f86c9 26 = .ok (.lreturn, 1) := by decide +kernel
theorem dJ9_floorDiv_f86c9_27 : decode cJ9_floorDiv_f86c9 27 = .ok (.lload 4, 2) := by decide +kernel
theorem dJ9_floorDiv_f86c9_29 : decode cJ9_floorDiv_f86c9 29 = .ok (.lreturn, 1) := by decide +kernel
theorem dJ9_abs_0f7a4_0 : decode cJ9_abs_0f7a4 0 = .ok (.iload_n 0, 1) := by decide +kernel
theorem dJ9_abs_0f7a4_1 : decode cJ9_abs_0f7a4 1 = .ok (.ifCond .ge 8, 3) := by decide +kernel
theorem dJ9_abs_0f7a4_4 : decode cJ9_abs_0f7a4 4 = .ok (.iload_n 0, 1) := by decide +kernel
theorem dJ9_abs_0f7a4_5 : decode cJ9_abs_0f7a4 5 = .ok (.ineg, 1) := by decide +kernel
theorem dJ9_abs_0f7a4_6 : decode cJ9_abs_0f7a4 6 = .ok (.goto 4, 3) := by decide +kernel
theorem dJ9_abs_0f7a4_9 : decode cJ9_abs_0f7a4 9 = .ok (.iload_n 0, 1) := by decide +kernel
theorem dJ9_abs_0f7a4_10 : decode cJ9_abs_0f7a4 10 = .ok (.ireturn, 1) := by decide +kernel
theorem dJ9_max_7cf53_0 : decode cJ9_max_7cf53 0 = .ok (.iload_n 0, 1) := by decide +kernel
theorem dJ9_max_7cf53_1 : decode cJ9_max_7cf53 1 = .ok (.iload_n 1, 1) := by decide +kernel
theorem dJ9_max_7cf53_2 : decode cJ9_max_7cf53 2 = .ok (.if_icmp .lt 7, 3) := by decide +kernel
theorem dJ9_max_7cf53_5 : decode cJ9_max_7cf53 5 = .ok (.iload_n 0, 1) := by decide +kernel
theorem dJ9_max_7cf53_6 : decode cJ9_max_7cf53 6 = .ok (.goto 4, 3) := by decide +kernel
theorem dJ9_max_7cf53_9 : decode cJ9_max_7cf53 9 = .ok (.iload_n 1, 1) := by decide +kernel
theorem dJ9_max_7cf53_10 : decode cJ9_max_7cf53 10 = .ok (.ireturn, 1) := by decide +kernel
theorem dJ9_max_f86c9_0 : decode cJ9_max_f86c9 0 = .ok (.lload_n 0, 1) := by decide +kernel
theorem dJ9_max_f86c9_1 : decode cJ9_max_f86c9 1 = .ok (.lload_n 2, 1) := by decide +kernel
theorem dJ9_max_f86c9_2 : decode cJ9_max_f86c9 2 = .ok (.lcmp, 1) := by decide +kernel
theorem dJ9_max_f86c9_3 : decode cJ9_max_f86c9 3 = .ok (.ifCond .lt 7, 3) := by decide +kernel
theorem dJ9_max_f86c9_6 : decode cJ9_max_f86c9 6 = .ok (.lload_n 0, 1) := by decide +kernel
theorem dJ9_max_f86c9_7 : decode cJ9_max_f86c9 7 = .ok (.goto 4, 3) := by decide +kernel
theorem dJ9_max_f86c9_10 : decode cJ9_max_f86c9 10 = .ok (.lload_n 2, 1) := by decide +kernel
theorem dJ9_max_f86c9_11 : decode cJ9_max_f86c9 11 = .ok (.lreturn, 1) := by decide +kernel
theorem dJ9_min_7cf53_0 : decode cJ9_min_7cf53 0 = .ok (.iload_n 0, 1) := by decide +kernel
theorem dJ9_min_7cf53_1 : decode cJ9_min_7cf53 1 = .ok (.iload_n 1, 1) := by decide +kernel
theorem dJ9_min_7cf53_2 : decode cJ9_min_7cf53 2 = .ok (.if_icmp .gt 7, 3) := by decide +kernel
theorem dJ9_min_7cf53_5 : decode cJ9_min_7cf53 5 = .ok (.iload_n 0, 1) := by decide +kernel
theorem dJ9_min_7cf53_6 : decode cJ9_min_7cf53 6 = .ok (.goto 4, 3) := by decide +kernel
theorem dJ9_min_7cf53_9 : decode cJ9_min_7cf53 9 = .ok (.iload_n 1, 1) := by decide +kernel
theorem dJ9_min_7cf53_10 : decode cJ9_min_7cf53 10 = .ok (.ireturn, 1) := by decide +kernel
theorem dJ9_min_f86c9_0 : decode cJ9_min_f86c9 0 = .ok (.lload_n 0, 1) := by decide +kernel
theorem dJ9_min_f86c9_1 : decode cJ9_min_f86c9 1 = .ok (.lload_n 2, 1) := by decide +kernel
theorem dJ9_min_f86c9_2 : decode cJ9_min_f86c9 2 = .ok (.lcmp, 1) := by decide +kernel
theorem dJ9_min_f86c9_3 : decode cJ9_min_f86c9 3 = .ok (.ifCond .gt 7, 3) := by decide +kernel
theorem dJ9_min_f86c9_6 : decode cJ9_min_f86c9 6 = .ok (.lload_n 0, 1) := by decide +kernel
theorem dJ9_min_f86c9_7 : decode cJ9_min_f86c9 7 = .ok (.goto 4, 3) := by decide +kernel
theorem dJ9_min_f86c9_10 : decode cJ9_min_f86c9 10 = .ok (.lload_n 2, 1) := by decide +kernel
theorem dJ9_min_f86c9_11 : decode cJ9_min_f86c9 11 = .ok (.lreturn, 1) := by decide +kernel
theorem dJxa1e45_init_da8c8_0 : decode cJxa1e45_init_da8c8 0 = .ok (.aload_n 0, 1) := by decide +kernel
theorem dJxa1e45_init_da8c8_1 : decode cJxa1e45_init_da8c8 1 = .ok (.invokespecial 1, 3) := by decide +kernel
theorem dJxa1e45_init_da8c8_4 : decode cJxa1e45_init_da8c8 4 = .ok (.return_, 1) := by decide +kernel
theorem dJxc12de_init_da8c8_0 : decode cJxc12de_init_da8c8 0 = .ok (.aload_n 0, 1) := by decide +kernel
theorem dJxc12de_init_da8c8_1 : decode cJxc12de_init_da8c8 1 = .ok (.invokespecial 1, 3) := by decide +kernel
theorem dJxc12de_init_da8c8_4 : decode cJxc12de_init_da8c8 4 = .ok (.aload_n 0, 1) := by decide +kernel
theorem dJxc12de_init_da8c8_5 : decode cJxc12de_init_da8c8 5 = .ok (.iconst 0, 1) := by decide +kernel
theorem dJxc12de_init_da8c8_6 : decode cJxc12de_init_da8c8 6 = .ok (.putfield 7, 3) := by decide +kernel
theorem dJxc12de_init_da8c8_9 : decode cJxc12de_init_da8c8 9 = .ok (.return_, 1) := by decide +kernel
theorem dJx4a65c_init_da8c8_0 : decode cJx4a65c_init_da8c8 0 = .ok (.aload_n 0, 1) := by decide +kernel
theorem dJx4a65c_init_da8c8_1 : decode cJx4a65c_init_da8c8 1 = .ok (.invokespecial 1, 3) := by decide +kernel
theorem dJx4a65c_init_da8c8_4 : decode cJx4a65c_init_da8c8 4 = .ok (.aload_n 0, 1) := by decide +kernel
theorem dJx4a65c_init_da8c8_5 : decode cJx4a65c_init_da8c8 5 = .ok (.getstatic 39, 3) := by decide +kernel
theorem dJx4a65c_init_da8c8_8 : decode cJx4a65c_init_da8c8 8 = .ok (.putfield 9, 3) := by decide +kernel
theorem dJx4a65c_init_da8c8_11 : decode cJx4a65c_init_da8c8 11 = .ok (.return_, 1) := by decide +kernel
theorem dJx4a65c_grow_92f84_0 : decode cJx4a65c_grow_92f84 0 = .ok (.aload_n 0, 1) := by decide +kernel
theorem dJx4a65c_grow_92f84_1 : decode cJx4a65c_grow_92f84 1 = .ok (.getfield 9, 3) := by decide +kernel
theorem dJx4a65c_grow_92f84_4 : decode cJx4a65c_grow_92f84 4 = .ok (.arraylength, 1) := by decide +kernel
theorem dJx4a65c_grow_92f84_5 : decode cJx4a65c_grow_92f84 5 = .ok (.istore_n 2, 1) := by decide +kernel
theorem dJx4a65c_grow_92f84_6 : decode cJx4a65c_grow_92f84 6 = .ok (.iload_n 2, 1) := by decide +kernel
theorem dJx4a65c_grow_92f84_7 : decode cJx4a65c_grow_92f84 7 = .ok (.ifCond .gt 13, 3) := by decide +kernel
theorem dJx4a65c_grow_92f84_10 : decode cJx4a65c_grow_92f84 10 = .ok (.aload_n 0, 1) := by decide +kernel
theorem dJx4a65c_grow_92f84_11 : decode cJx4a65c_grow_92f84 11 = .ok (.getfield 9, 3) := by decide +kernel
theorem dJx4a65c_grow_92f84_14 : decode cJx4a65c_grow_92f84 14 = .ok (.getstatic 39, 3) := by decide +kernel
theorem dJx4a65c_grow_92f84_17 : decode cJx4a65c_grow_92f84 17 = .ok (.if_acmp .eq 28, 3) := by decide +kernel
theorem dJx4a65c_grow_92f84_20 : decode cJx4a65c_grow_92f84 20 = .ok (.iload_n 2, 1) := by decide +kernel
theorem dJx4a65c_grow_92f84_21 : decode cJx4a65c_grow_92f84 21 = .ok (.iload_n 1, 1) := by decide +kernel
theorem dJx4a65c_grow_92f84_22 : decode cJx4a65c_grow_92f84 22 = .ok (.iload_n 2, 1) := by decide +kernel
theorem dJx4a65c_grow_92f84_23 : decode cJx4a65c_grow_92f84 23 = .ok (.isub, 1) := by decide +kernel
theorem dJx4a65c_grow_92f84_24 : decode cJx4a65c_grow_92f84 24 = .ok (.iload_n 2, 1) := by decide +kernel
theorem dJx4a65c_grow_92f84_25 : decode cJx4a65c_grow_92f84 25 = .ok (.iconst 1, 1) := by decide +kernel
theorem dJx4a65c_grow_92f84_26 : decode cJx4a65c_grow_92f84 26 = .ok (.ishr, 1) := by decide +kernel
theorem dJx4a65c_grow_92f84_27 : decode cJx4a65c_grow_92f84 27 = .ok (.invokestatic 73, 3) := by decide +kernel
theorem dJx4a65c_grow_92f84_30 : decode cJx4a65c_grow_92f84 30 = .ok (.istore_n 3, 1) := by decide +kernel
theorem dJx4a65c_grow_92f84_31 : decode cJx4a65c_grow_92f84 31 = .ok (.aload_n 0, 1) := by decide +kernel
theorem dJx4a65c_grow_92f84_32 : decode cJx4a65c_grow_92f84 32 = .ok (.aload_n 0, 1) := by decide +kernel
theorem dJx4a65c_grow_92f84_33 : decode cJx4a65c_grow_92f84 33 = .ok (.getfield 9, 3) := by decide +kernel
theorem dJx4a65c_grow_92f84_36 : decode cJx4a65c_grow_92f84 36 = .ok (.iload_n 3, 1) := by decide +kernel
theorem dJx4a65c_grow_92f84_37 : decode cJx4a65c_grow_92f84 37 = .ok (.invokestatic 66, 3) := by decide +kernel
theorem dJx4a65c_grow_92f84_40 : decode cJx4a65c_grow_92f84 40 = .ok (.dup_x1, 1) := by decide +kernel
theorem dJx4a65c_grow_92f84_41 : decode cJx4a65c_grow_92f84 41 = .ok (.putfield 9, 3) := by decide +kernel
theorem dJx4a65c_grow_92f84_44 : decode cJx4a65c_grow_92f84 44 = .ok (.areturn, 1) := by decide +kernel
theorem dJx4a65c_grow_92f84_45 : decode cJx4a65c_grow_92f84 45 = .ok (.aload_n 0, 1) := by decide +kernel
theorem dJx4a65c_grow_92f84_46 : decode cJx4a65c_grow_92f84 46 = .ok (.bipush 10, 2) := by decide +kernel
theorem dJx4a65c_grow_92f84_48 : decode cJx4a65c_grow_92f84 48 = .ok (.iload_n 1, 1) := by decide +kernel
theorem dJx4a65c_grow_92f84_49 : decode cJx4a65c_grow_92f84 49 = .ok (.invokestatic 79, 3) := by decide +kernel
theorem dJx4a65c_grow_92f84_52 : decode cJx4a65c_grow_92f84 52 = .ok (.anewarray 7, 3) := by decide +kernel
theorem dJx4a65c_grow_92f84_55 : decode cJx4a65c_grow_92f84 55 = .ok (.dup_x1, 1) := by decide +kernel
theorem dJx4a65c_grow_92f84_56 : decode cJx4a65c_grow_92f84 56 = .ok (.putfield 9, 3) := by decide +kernel
theorem dJx4a65c_grow_92f84_59 : decode cJx4a65c_grow_92f84 59 = .ok (.areturn, 1) := by decide +kernel
theorem dJx4a65c_grow_d5877_0 : decode cJx4a65c_grow_d5877 0 = .ok (.aload_n 0, 1) := by decide +kernel
theorem dJx4a65c_grow_d5877_1 : decode cJx4a65c_grow_d5877 1 = .ok (.aload_n 0, 1) := by decide +kernel
theorem dJx4a65c_grow_d5877_2 : decode cJx4a65c_grow_d5877 2 = .ok (.getfield 48, 3) := by decide +kernel
theorem dJx4a65c_grow_d5877_5 : decode cJx4a65c_grow_d5877 5 = .ok (.iconst 1, 1) := by decide +kernel
