-- decode rows, as printed (NAMES.whole)
theorem dX10_which_28 : decode cX10_which 28 = .ok (.if_icmp .ne 10, 3) := by decide +kernel
theorem dX10_which_31 : decode cX10_which 31 = .ok (.aload_n 0, 1) := by decide +kernel
theorem dX10_which_32 : decode cX10_which 32 = .ok (.invokevirtual 245, 3) := by decide +kernel
theorem dX10_which_35 : decode cX10_which 35 = .ok (.goto 7, 3) := by decide +kernel
theorem dX10_which_38 : decode cX10_which 38 = .ok (.aload_n 0, 1) := by decide +kernel
theorem dX10_which_39 : decode cX10_which 39 = .ok (.invokevirtual 248, 3) := by decide +kernel
theorem dX10_which_42 : decode cX10_which 42 = .ok (.ireturn, 1) := by decide +kernel
theorem dX10_next_0 : decode cX10_next 0 = .ok (.aload_n 0, 1) := by decide +kernel
theorem dX10_next_1 : decode cX10_next 1 = .ok (.invokevirtual 205, 3) := by decide +kernel
theorem dX10_next_4 : decode cX10_next 4 = .ok (.bipush (-5), 2) := by decide +kernel
theorem dX10_next_6 : decode cX10_next 6 = .ok (.istore_n 1, 1) := by decide +kernel
theorem dX10_next_7 : decode cX10_next 7 = .ok (.iconst 0, 1) := by decide +kernel
theorem dX10_next_8 : decode cX10_next 8 = .ok (.istore_n 2, 1) := by decide +kernel
theorem dX10_next_9 : decode cX10_next 9 = .ok (.iconst 0, 1) := by decide +kernel
theorem dX10_next_10 : decode cX10_next 10 = .ok (.istore_n 3, 1) := by decide +kernel
theorem dX10_next_11 : decode cX10_next 11 = .ok (.iload_n 3, 1) := by decide +kernel
theorem dX10_next_12 : decode cX10_next 12 = .ok (.bipush 10, 2) := by decide +kernel
theorem dX10_next_14 : decode cX10_next 14 = .ok (.if_icmp .ge 209, 3) := by decide +kernel
theorem dX10_next_17 : decode cX10_next 17 = .ok (.aload_n 0, 1) := by decide +kernel
theorem dX10_next_18 : decode cX10_next 18 = .ok (.getfield 9, 3) := by decide +kernel
theorem dX10_next_21 : decode cX10_next 21 = .ok (.iconst 0, 1) := by decide +kernel
theorem dX10_next_22 : decode cX10_next 22 = .ok (.iaload, 1) := by decide +kernel
theorem dX10_next_23 : decode cX10_next 23 = .ok (.ifCond .le 200, 3) := by decide +kernel
theorem dX10_next_26 : decode cX10_next 26 = .ok (.iconst 0, 1) := by decide +kernel
theorem dX10_next_27 : decode cX10_next 27 = .ok (.istore 4, 2) := by decide +kernel
theorem dX10_next_29 : decode cX10_next 29 = .ok (.iload 4, 2) := by decide +kernel
theorem dX10_next_31 : decode cX10_next 31 = .ok (.bipush 40, 2) := by decide +kernel
theorem dX10_next_33 : decode cX10_next 33 = .ok (.if_icmp .ge 184, 3) := by decide +kernel
theorem dX10_next_36 : decode cX10_next 36 = .ok (.iconst 0, 1) := by decide +kernel
theorem dX10_next_37 : decode cX10_next 37 = .ok (.istore 5, 2) := by decide +kernel
theorem dX10_next_39 : decode cX10_next 39 = .ok (.iload 5, 2) := by decide +kernel
theorem dX10_next_41 : decode cX10_next 41 = .ok (.aload_n 0, 1) := by decide +kernel
theorem dX10_next_42 : decode cX10_next 42 = .ok (.getfield 9, 3) := by decide +kernel
theorem dX10_next_45 : decode cX10_next 45 = .ok (.iconst 0, 1) := by decide +kernel
theorem dX10_next_46 : decode cX10_next 46 = .ok (.iaload, 1) := by decide +kernel
theorem dX10_next_47 : decode cX10_next 47 = .ok (.if_icmp .ge 27, 3) := by decide +kernel
theorem dX10_next_50 : decode cX10_next 50 = .ok (.aload_n 0, 1) := by decide +kernel
theorem dX10_next_51 : decode cX10_next 51 = .ok (.getfield 31, 3) := by decide +kernel
theorem dX10_next_54 : decode cX10_next 54 = .ok (.iload 5, 2) := by decide +kernel
theorem dX10_next_56 : decode cX10_next 56 = .ok (.aload_n 0, 1) := by decide +kernel
theorem dX10_next_57 : decode cX10_next 57 = .ok (.iconst 1, 1) := by decide +kernel
theorem dX10_next_58 : decode cX10_next 58 = .ok (.iload 5, 2) := by decide +kernel
theorem dX10_next_60 : decode cX10_next 60 = .ok (.ishl, 1) := by decide +kernel
theorem dX10_next_61 : decode cX10_next 61 = .ok (.iload_n 3, 1) := by decide +kernel
theorem dX10_next_62 : decode cX10_next 62 = .ok (.iload 4, 2) := by decide +kernel
theorem dX10_next_64 : decode cX10_next 64 = .ok (.invokevirtual 221, 3) := by decide +kernel
theorem dX10_next_67 : decode cX10_next 67 = .ok (.iastore, 1) := by decide +kernel
theorem dX10_next_68 : decode cX10_next 68 = .ok (.iinc 5 1, 3) := by decide +kernel
theorem dX10_next_71 : decode cX10_next 71 = .ok (.goto (-32), 3) := by decide +kernel
theorem dX10_next_74 : decode cX10_next 74 = .ok (.iconst 0, 1) := by decide +kernel
theorem dX10_next_75 : decode cX10_next 75 = .ok (.istore 5, 2) := by decide +kernel
theorem dX10_next_77 : decode cX10_next 77 = .ok (.iconst 0, 1) := by decide +kernel
theorem dX10_next_78 : decode cX10_next 78 = .ok (.istore 6, 2) := by decide +kernel
theorem dX10_next_80 : decode cX10_next 80 = .ok (.iload 6, 2) := by decide +kernel
theorem dX10_next_82 : decode cX10_next 82 = .ok (.aload_n 0, 1) := by decide +kernel
theorem dX10_next_83 : decode cX10_next 83 = .ok (.getfield 9, 3) := by decide +kernel
theorem dX10_next_86 : decode cX10_next 86 = .ok (.iconst 0, 1) := by decide +kernel
theorem dX10_next_87 : decode cX10_next 87 = .ok (.iaload, 1) := by decide +kernel
theorem dX10_next_88 : decode cX10_next 88 = .ok (.if_icmp .ge 75, 3) := by decide +kernel
theorem dX10_next_91 : decode cX10_next 91 = .ok (.iconst 0, 1) := by decide +kernel
theorem dX10_next_92 : decode cX10_next 92 = .ok (.istore 7, 2) := by decide +kernel
theorem dX10_next_94 : decode cX10_next 94 = .ok (.iconst 0, 1) := by decide +kernel
theorem dX10_next_95 : decode cX10_next 95 = .ok (.istore 8, 2) := by decide +kernel
theorem dX10_next_97 : decode cX10_next 97 = .ok (.iload 8, 2) := by decide +kernel
theorem dX10_next_99 : decode cX10_next 99 = .ok (.aload_n 0, 1) := by decide +kernel
theorem dX10_next_100 : decode cX10_next 100 = .ok (.getfield 9, 3) := by decide +kernel
theorem dX10_next_103 : decode cX10_next 103 = .ok (.iconst 0, 1) := by decide +kernel
theorem dX10_next_104 : decode cX10_next 104 = .ok (.iaload, 1) := by decide +kernel
theorem dX10_next_105 : decode cX10_next 105 = .ok (.if_icmp .ge 36, 3) := by decide +kernel
theorem dX10_next_108 : decode cX10_next 108 = .ok (.iload 7, 2) := by decide +kernel
theorem dX10_next_110 : decode cX10_next 110 = .ok (.aload_n 0, 1) := by decide +kernel
theorem dX10_next_111 : decode cX10_next 111 = .ok (.getfield 31, 3) := by decide +kernel
theorem dX10_next_114 : decode cX10_next 114 = .ok (.iload 8, 2) := by decide +kernel
theorem dX10_next_116 : decode cX10_next 116 = .ok (.iaload, 1) := by decide +kernel
theorem dX10_next_117 : decode cX10_next 117 = .ok (.aload_n 0, 1) := by decide +kernel
theorem dX10_next_118 : decode cX10_next 118 = .ok (.getfield 31, 3) := by decide +kernel
theorem dX10_next_121 : decode cX10_next 121 = .ok (.iload 6, 2) := by decide +kernel
theorem dX10_next_123 : decode cX10_next 123 = .ok (.iaload, 1) := by decide +kernel
theorem dX10_next_124 : decode cX10_next 124 = .ok (.if_icmp .ne 7, 3) := by decide +kernel
theorem dX10_next_127 : decode cX10_next 127 = .ok (.iconst 1, 1) := by decide +kernel
theorem dX10_next_128 : decode cX10_next 128 = .ok (.goto 4, 3) := by decide +kernel
theorem dX10_next_131 : decode cX10_next 131 = .ok (.iconst 0, 1) := by decide +kernel
theorem dX10_next_132 : decode cX10_next 132 = .ok (.iadd, 1) := by decide +kernel
theorem dX10_next_133 : decode cX10_next 133 = .ok (.istore 7, 2) := by decide +kernel
theorem dX10_next_135 : decode cX10_next 135 = .ok (.iinc 8 1, 3) := by decide +kernel
theorem dX10_next_138 : decode cX10_next 138 = .ok (.goto (-41), 3) := by decide +kernel
theorem dX10_next_141 : decode cX10_next 141 = .ok (.iload 7, 2) := by decide +kernel
theorem dX10_next_143 : decode cX10_next 143 = .ok (.iload 5, 2) := by decide +kernel
theorem dX10_next_145 : decode cX10_next 145 = .ok (.if_icmp .le 8, 3) := by decide +kernel
theorem dX10_next_148 : decode cX10_next 148 = .ok (.iload 7, 2) := by decide +kernel
theorem dX10_next_150 : decode cX10_next 150 = .ok (.goto 5, 3) := by decide +kernel
theorem dX10_next_153 : decode cX10_next 153 = .ok (.iload 5, 2) := by decide +kernel
theorem dX10_next_155 : decode cX10_next 155 = .ok (.istore 5, 2) := by decide +kernel
theorem dX10_next_157 : decode cX10_next 157 = .ok (.iinc 6 1, 3) := by decide +kernel
theorem dX10_next_160 : decode cX10_next 160 = .ok (.goto (-80), 3) := by decide +kernel
theorem dX10_next_163 : decode cX10_next 163 = .ok (.iload_n 1, 1) := by decide +kernel
theorem dX10_next_164 : decode cX10_next 164 = .ok (.bipush (-5), 2) := by decide +kernel
theorem dX10_next_166 : decode cX10_next 166 = .ok (.if_icmp .eq 9, 3) := by decide +kernel
theorem dX10_next_169 : decode cX10_next 169 = .ok (.iload 5, 2) := by decide +kernel
theorem dX10_next_171 : decode cX10_next 171 = .ok (.iload_n 2, 1) := by decide +kernel
theorem dX10_next_172 : decode cX10_next 172 = .ok (.if_icmp .ge 7, 3) := by decide +kernel
theorem dX10_next_175 : decode cX10_next 175 = .ok (.iconst 1, 1) := by decide +kernel
theorem dX10_next_176 : decode cX10_next 176 = .ok (.goto 4, 3) := by decide +kernel
theorem dX10_next_179 : decode cX10_next 179 = .ok (.iconst 0, 1) := by decide +kernel
theorem dX10_next_180 : decode cX10_next 180 = .ok (.istore 6, 2) := by decide +kernel
theorem dX10_next_182 : decode cX10_next 182 = .ok (.iload 6, 2) := by decide +kernel
theorem dX10_next_184 : decode cX10_next 184 = .ok (.ifCond .eq 13, 3) := by decide +kernel
theorem dX10_next_187 : decode cX10_next 187 = .ok (.bipush 100, 2) := by decide +kernel
theorem dX10_next_189 : decode cX10_next 189 = .ok (.iload_n 3, 1) := by decide +kernel
theorem dX10_next_190 : decode cX10_next 190 = .ok (.imul, 1) := by decide +kernel
theorem dX10_next_191 : decode cX10_next 191 = .ok (.iload 4, 2) := by decide +kernel
theorem dX10_next_193 : decode cX10_next 193 = .ok (.iadd, 1) := by decide +kernel
theorem dX10_next_194 : decode cX10_next 194 = .ok (.goto 4, 3) := by decide +kernel
theorem dX10_next_197 : decode cX10_next 197 = .ok (.iload_n 1, 1) := by decide +kernel
theorem dX10_next_198 : decode cX10_next 198 = .ok (.istore_n 1, 1) := by decide +kernel
theorem dX10_next_199 : decode cX10_next 199 = .ok (.iload 6, 2) := by decide +kernel
theorem dX10_next_201 : decode cX10_next 201 = .ok (.ifCond .eq 8, 3) := by decide +kernel
theorem dX10_next_204 : decode cX10_next 204 = .ok (.iload 5, 2) := by decide +kernel
theorem dX10_next_206 : decode cX10_next 206 = .ok (.goto 4, 3) := by decide +kernel
theorem dX10_next_209 : decode cX10_next 209 = .ok (.iload_n 2, 1) := by decide +kernel
theorem dX10_next_210 : decode cX10_next 210 = .ok (.istore_n 2, 1) := by decide +kernel
theorem dX10_next_211 : decode cX10_next 211 = .ok (.iinc 4 1, 3) := by decide +kernel
theorem dX10_next_214 : decode cX10_next 214 = .ok (.goto (-185), 3) := by decide +kernel
theorem dX10_next_217 : decode cX10_next 217 = .ok (.iinc 3 1, 3) := by decide +kernel
theorem dX10_next_220 : decode cX10_next 220 = .ok (.goto (-209), 3) := by decide +kernel
theorem dX10_next_223 : decode cX10_next 223 = .ok (.iload_n 1, 1) := by decide +kernel
theorem dX10_next_224 : decode cX10_next 224 = .ok (.ireturn, 1) := by decide +kernel
theorem dX10_least_0 : decode cX10_least 0 = .ok (.iload_n 1, 1) := by decide +kernel
theorem dX10_least_1 : decode cX10_least 1 = .ok (.invokestatic 199, 3) := by decide +kernel
theorem dX10_least_4 : decode cX10_least 4 = .ok (.ifCond .ne 5, 3) := by decide +kernel
theorem dX10_least_7 : decode cX10_least 7 = .ok (.iconst (-1), 1) := by decide +kernel
theorem dX10_least_8 : decode cX10_least 8 = .ok (.ireturn, 1) := by decide +kernel
theorem dX10_least_9 : decode cX10_least 9 = .ok (.iload_n 2, 1) := by decide +kernel
theorem dX10_least_10 : decode cX10_least 10 = .ok (.iconst 0, 1) := by decide +kernel
theorem dX10_least_11 : decode cX10_least 11 = .ok (.bipush 99, 2) := by decide +kernel
theorem dX10_least_13 : decode cX10_least 13 = .ok (.invokestatic 44, 3) := by decide +kernel
theorem dX10_least_16 : decode cX10_least 16 = .ok (.ifCond .ne 6, 3) := by decide +kernel
theorem dX10_least_19 : decode cX10_least 19 = .ok (.bipush (-2), 2) := by decide +kernel
theorem dX10_least_21 : decode cX10_least 21 = .ok (.ireturn, 1) := by decide +kernel
theorem dX10_least_22 : decode cX10_least 22 = .ok (.aload_n 0, 1) := by decide +kernel
theorem dX10_least_23 : decode cX10_least 23 = .ok (.invokevirtual 205, 3) := by decide +kernel
theorem dX10_least_26 : decode cX10_least 26 = .ok (.aload_n 0, 1) := by decide +kernel
theorem dX10_least_27 : decode cX10_least 27 = .ok (.invokevirtual 224, 3) := by decide +kernel
theorem dX10_least_30 : decode cX10_least 30 = .ok (.istore_n 3, 1) := by decide +kernel
theorem dX10_least_31 : decode cX10_least 31 = .ok (.iconst 0, 1) := by decide +kernel
theorem dX10_least_32 : decode cX10_least 32 = .ok (.istore 4, 2) := by decide +kernel
theorem dX10_least_34 : decode cX10_least 34 = .ok (.iload 4, 2) := by decide +kernel
theorem dX10_least_36 : decode cX10_least 36 = .ok (.aload_n 0, 1) := by decide +kernel
theorem dX10_least_37 : decode cX10_least 37 = .ok (.getfield 9, 3) := by decide +kernel
theorem dX10_least_40 : decode cX10_least 40 = .ok (.iconst 0, 1) := by decide +kernel
theorem dX10_least_41 : decode cX10_least 41 = .ok (.iaload, 1) := by decide +kernel
theorem dX10_least_42 : decode cX10_least 42 = .ok (.if_icmp .ge 27, 3) := by decide +kernel
theorem dX10_least_45 : decode cX10_least 45 = .ok (.aload_n 0, 1) := by decide +kernel
theorem dX10_least_46 : decode cX10_least 46 = .ok (.getfield 34, 3) := by decide +kernel
theorem dX10_least_49 : decode cX10_least 49 = .ok (.iload 4, 2) := by decide +kernel
theorem dX10_least_51 : decode cX10_least 51 = .ok (.aload_n 0, 1) := by decide +kernel
theorem dX10_least_52 : decode cX10_least 52 = .ok (.iload_n 3, 1) := by decide +kernel
theorem dX10_least_53 : decode cX10_least 53 = .ok (.iconst 1, 1) := by decide +kernel
theorem dX10_least_54 : decode cX10_least 54 = .ok (.iload 4, 2) := by decide +kernel
theorem dX10_least_56 : decode cX10_least 56 = .ok (.ishl, 1) := by decide +kernel
theorem dX10_least_57 : decode cX10_least 57 = .ok (.iand, 1) := by decide +kernel
theorem dX10_least_58 : decode cX10_least 58 = .ok (.iload_n 1, 1) := by decide +kernel
theorem dX10_least_59 : decode cX10_least 59 = .ok (.invokevirtual 227, 3) := by decide +kernel
theorem dX10_least_62 : decode cX10_least 62 = .ok (.iastore, 1) := by decide +kernel
theorem dX10_least_63 : decode cX10_least 63 = .ok (.iinc 4 1, 3) := by decide +kernel
theorem dX10_least_66 : decode cX10_least 66 = .ok (.goto (-32), 3) := by decide +kernel
theorem dX10_least_69 : decode cX10_least 69 = .ok (.bipush (-5), 2) := by decide +kernel
theorem dX10_least_71 : decode cX10_least 71 = .ok (.istore 4, 2) := by decide +kernel
theorem dX10_least_73 : decode cX10_least 73 = .ok (.iconst 0, 1) := by decide +kernel
theorem dX10_least_74 : decode cX10_least 74 = .ok (.istore 5, 2) := by decide +kernel
theorem dX10_least_76 : decode cX10_least 76 = .ok (.iload 5, 2) := by decide +kernel
theorem dX10_least_78 : decode cX10_least 78 = .ok (.iconst 1, 1) := by decide +kernel
theorem dX10_least_79 : decode cX10_least 79 = .ok (.aload_n 0, 1) := by decide +kernel
theorem dX10_least_80 : decode cX10_least 80 = .ok (.getfield 9, 3) := by decide +kernel
theorem dX10_least_83 : decode cX10_least 83 = .ok (.iconst 0, 1) := by decide +kernel
theorem dX10_least_84 : decode cX10_least 84 = .ok (.iaload, 1) := by decide +kernel
theorem dX10_least_85 : decode cX10_least 85 = .ok (.ishl, 1) := by decide +kernel
theorem dX10_least_86 : decode cX10_least 86 = .ok (.if_icmp .ge 114, 3) := by decide +kernel
theorem dX10_least_89 : decode cX10_least 89 = .ok (.iconst 0, 1) := by decide +kernel
theorem dX10_least_90 : decode cX10_least 90 = .ok (.istore 6, 2) := by decide +kernel
theorem dX10_least_92 : decode cX10_least 92 = .ok (.iconst 0, 1) := by decide +kernel
theorem dX10_least_93 : decode cX10_least 93 = .ok (.istore 7, 2) := by decide +kernel
theorem dX10_least_95 : decode cX10_least 95 = .ok (.iload 7, 2) := by decide +kernel
theorem dX10_least_97 : decode cX10_least 97 = .ok (.aload_n 0, 1) := by decide +kernel
theorem dX10_least_98 : decode cX10_least 98 = .ok (.getfield 9, 3) := by decide +kernel
theorem dX10_least_101 : decode cX10_least 101 = .ok (.iconst 0, 1) := by decide +kernel
theorem dX10_least_102 : decode cX10_least 102 = .ok (.iaload, 1) := by decide +kernel
theorem dX10_least_103 : decode cX10_least 103 = .ok (.if_icmp .ge 35, 3) := by decide +kernel
theorem dX10_least_106 : decode cX10_least 106 = .ok (.iload 6, 2) := by decide +kernel
theorem dX10_least_108 : decode cX10_least 108 = .ok (.iload 5, 2) := by decide +kernel
theorem dX10_least_110 : decode cX10_least 110 = .ok (.iload 7, 2) := by decide +kernel
theorem dX10_least_112 : decode cX10_least 112 = .ok (.ishr, 1) := by decide +kernel
theorem dX10_least_113 : decode cX10_least 113 = .ok (.iconst 1, 1) := by decide +kernel
theorem dX10_least_114 : decode cX10_least 114 = .ok (.iand, 1) := by decide +kernel
theorem dX10_least_115 : decode cX10_least 115 = .ok (.ifCond .ne 13, 3) := by decide +kernel
theorem dX10_least_118 : decode cX10_least 118 = .ok (.aload_n 0, 1) := by decide +kernel
theorem dX10_least_119 : decode cX10_least 119 = .ok (.getfield 34, 3) := by decide +kernel
theorem dX10_least_122 : decode cX10_least 122 = .ok (.iload 7, 2) := by decide +kernel
theorem dX10_least_124 : decode cX10_least 124 = .ok (.iaload, 1) := by decide +kernel
theorem dX10_least_125 : decode cX10_least 125 = .ok (.goto 4, 3) := by decide +kernel
theorem dX10_least_128 : decode cX10_least 128 = .ok (.iconst 0, 1) := by decide +kernel
theorem dX10_least_129 : decode cX10_least 129 = .ok (.iadd, 1) := by decide +kernel
theorem dX10_least_130 : decode cX10_least 130 = .ok (.istore 6, 2) := by decide +kernel
theorem dX10_least_132 : decode cX10_least 132 = .ok (.iinc 7 1, 3) := by decide +kernel
theorem dX10_least_135 : decode cX10_least 135 = .ok (.goto (-40), 3) := by decide +kernel
theorem dX10_least_138 : decode cX10_least 138 = .ok (.iload 5, 2) := by decide +kernel
theorem dX10_least_140 : decode cX10_least 140 = .ok (.iload_n 3, 1) := by decide +kernel
theorem dX10_least_141 : decode cX10_least 141 = .ok (.iconst (-1), 1) := by decide +kernel
theorem dX10_least_142 : decode cX10_least 142 = .ok (.ixor, 1) := by decide +kernel
theorem dX10_least_143 : decode cX10_least 143 = .ok (.iand, 1) := by decide +kernel
theorem dX10_least_144 : decode cX10_least 144 = .ok (.ifCond .ne 13, 3) := by decide +kernel
theorem dX10_least_147 : decode cX10_least 147 = .ok (.iload 6, 2) := by decide +kernel
theorem dX10_least_149 : decode cX10_least 149 = .ok (.iload_n 2, 1) := by decide +kernel
theorem dX10_least_150 : decode cX10_least 150 = .ok (.if_icmp .gt 7, 3) := by decide +kernel
theorem dX10_least_153 : decode cX10_least 153 = .ok (.iconst 1, 1) := by decide +kernel
theorem dX10_least_154 : decode cX10_least 154 = .ok (.goto 4, 3) := by decide +kernel
theorem dX10_least_157 : decode cX10_least 157 = .ok (.iconst 0, 1) := by decide +kernel
theorem dX10_least_158 : decode cX10_least 158 = .ok (.istore 7, 2) := by decide +kernel
theorem dX10_least_160 : decode cX10_least 160 = .ok (.iload 7, 2) := by decide +kernel
theorem dX10_least_162 : decode cX10_least 162 = .ok (.ifCond .eq 28, 3) := by decide +kernel
theorem dX10_least_165 : decode cX10_least 165 = .ok (.iload 4, 2) := by decide +kernel
theorem dX10_least_167 : decode cX10_least 167 = .ok (.bipush (-5), 2) := by decide +kernel
theorem dX10_least_169 : decode cX10_least 169 = .ok (.if_icmp .eq 16, 3) := by decide +kernel
theorem dX10_least_172 : decode cX10_least 172 = .ok (.iload 5, 2) := by decide +kernel
theorem dX10_least_174 : decode cX10_least 174 = .ok (.invokestatic 233, 3) := by decide +kernel
theorem dX10_least_177 : decode cX10_least 177 = .ok (.iload 4, 2) := by decide +kernel
theorem dX10_least_179 : decode cX10_least 179 = .ok (.invokestatic 233, 3) := by decide +kernel
theorem dX10_least_182 : decode cX10_least 182 = .ok (.if_icmp .ge 8, 3) := by decide +kernel
theorem dX10_least_185 : decode cX10_least 185 = .ok (.iload 5, 2) := by decide +kernel
theorem dX10_least_187 : decode cX10_least 187 = .ok (.goto 5, 3) := by decide +kernel
theorem dX10_least_190 : decode cX10_least 190 = .ok (.iload 4, 2) := by decide +kernel
theorem dX10_least_192 : decode cX10_least 192 = .ok (.istore 4, 2) := by decide +kernel
theorem dX10_least_194 : decode cX10_least 194 = .ok (.iinc 5 1, 3) := by decide +kernel
theorem dX10_least_197 : decode cX10_least 197 = .ok (.goto (-121), 3) := by decide +kernel
theorem dX10_least_200 : decode cX10_least 200 = .ok (.iload 4, 2) := by decide +kernel
theorem dX10_least_202 : decode cX10_least 202 = .ok (.ireturn, 1) := by decide +kernel
theorem dX10_eased_0 : decode cX10_eased 0 = .ok (.iload_n 1, 1) := by decide +kernel
theorem dX10_eased_1 : decode cX10_eased 1 = .ok (.invokestatic 199, 3) := by decide +kernel
theorem dX10_eased_4 : decode cX10_eased 4 = .ok (.ifCond .ne 5, 3) := by decide +kernel
theorem dX10_eased_7 : decode cX10_eased 7 = .ok (.iconst (-1), 1) := by decide +kernel
theorem dX10_eased_8 : decode cX10_eased 8 = .ok (.ireturn, 1) := by decide +kernel
theorem dX10_eased_9 : decode cX10_eased 9 = .ok (.iload_n 2, 1) := by decide +kernel
theorem dX10_eased_10 : decode cX10_eased 10 = .ok (.iconst 0, 1) := by decide +kernel
theorem dX10_eased_11 : decode cX10_eased 11 = .ok (.bipush 40, 2) := by decide +kernel
theorem dX10_eased_13 : decode cX10_eased 13 = .ok (.invokestatic 44, 3) := by decide +kernel
theorem dX10_eased_16 : decode cX10_eased 16 = .ok (.ifCond .ne 6, 3) := by decide +kernel
theorem dX10_eased_19 : decode cX10_eased 19 = .ok (.bipush (-2), 2) := by decide +kernel
theorem dX10_eased_21 : decode cX10_eased 21 = .ok (.ireturn, 1) := by decide +kernel
theorem dX10_eased_22 : decode cX10_eased 22 = .ok (.aload_n 0, 1) := by decide +kernel
theorem dX10_eased_23 : decode cX10_eased 23 = .ok (.invokevirtual 205, 3) := by decide +kernel
theorem dX10_eased_26 : decode cX10_eased 26 = .ok (.aload_n 0, 1) := by decide +kernel
theorem dX10_eased_27 : decode cX10_eased 27 = .ok (.aload_n 0, 1) := by decide +kernel
theorem dX10_eased_28 : decode cX10_eased 28 = .ok (.invokevirtual 224, 3) := by decide +kernel
theorem dX10_eased_31 : decode cX10_eased 31 = .ok (.iload_n 1, 1) := by decide +kernel
theorem dX10_eased_32 : decode cX10_eased 32 = .ok (.invokevirtual 227, 3) := by decide +kernel
theorem dX10_eased_35 : decode cX10_eased 35 = .ok (.istore_n 3, 1) := by decide +kernel
theorem dX10_eased_36 : decode cX10_eased 36 = .ok (.aload_n 0, 1) := by decide +kernel
theorem dX10_eased_37 : decode cX10_eased 37 = .ok (.iload_n 2, 1) := by decide +kernel
theorem dX10_eased_38 : decode cX10_eased 38 = .ok (.putfield 214, 3) := by decide +kernel
theorem dX10_eased_41 : decode cX10_eased 41 = .ok (.aload_n 0, 1) := by decide +kernel
theorem dX10_eased_42 : decode cX10_eased 42 = .ok (.aload_n 0, 1) := by decide +kernel
theorem dX10_eased_43 : decode cX10_eased 43 = .ok (.invokevirtual 224, 3) := by decide +kernel
theorem dX10_eased_46 : decode cX10_eased 46 = .ok (.iload_n 1, 1) := by decide +kernel
theorem dX10_eased_47 : decode cX10_eased 47 = .ok (.invokevirtual 227, 3) := by decide +kernel
theorem dX10_eased_50 : decode cX10_eased 50 = .ok (.istore 4, 2) := by decide +kernel
theorem dX10_eased_52 : decode cX10_eased 52 = .ok (.aload_n 0, 1) := by decide +kernel
theorem dX10_eased_53 : decode cX10_eased 53 = .ok (.iconst 0, 1) := by decide +kernel
theorem dX10_eased_54 : decode cX10_eased 54 = .ok (.putfield 214, 3) := by decide +kernel
theorem dX10_eased_57 : decode cX10_eased 57 = .ok (.iload_n 3, 1) := by decide +kernel
theorem dX10_eased_58 : decode cX10_eased 58 = .ok (.iload 4, 2) := by decide +kernel
theorem dX10_eased_60 : decode cX10_eased 60 = .ok (.isub, 1) := by decide +kernel
theorem dX10_eased_61 : decode cX10_eased 61 = .ok (.ireturn, 1) := by decide +kernel
theorem dX10_parted_0 : decode cX10_parted 0 = .ok (.aload_n 0, 1) := by decide +kernel
theorem dX10_parted_1 : decode cX10_parted 1 = .ok (.iload_n 1, 1) := by decide +kernel
theorem dX10_parted_2 : decode cX10_parted 2 = .ok (.invokevirtual 202, 3) := by decide +kernel
theorem dX10_parted_5 : decode cX10_parted 5 = .ok (.ifCond .eq 16, 3) := by decide +kernel
theorem dX10_parted_8 : decode cX10_parted 8 = .ok (.aload_n 0, 1) := by decide +kernel
theorem dX10_parted_9 : decode cX10_parted 9 = .ok (.iload_n 2, 1) := by decide +kernel
theorem dX10_parted_10 : decode cX10_parted 10 = .ok (.invokevirtual 202, 3) := by decide +kernel
theorem dX10_parted_13 : decode cX10_parted 13 = .ok (.ifCond .eq 8, 3) := by decide +kernel
theorem dX10_parted_16 : decode cX10_parted 16 = .ok (.iload_n 1, 1) := by decide +kernel
theorem dX10_parted_17 : decode cX10_parted 17 = .ok (.iload_n 2, 1) := by decide +kernel
theorem dX10_parted_18 : decode cX10_parted 18 = .ok (.if_icmp .ne 7, 3) := by decide +kernel
theorem dX10_parted_21 : decode cX10_parted 21 = .ok (.ldc2_w 251, 3) := by decide +kernel
theorem dX10_parted_24 : decode cX10_parted 24 = .ok (.lreturn, 1) := by decide +kernel
theorem dX10_parted_25 : decode cX10_parted 25 = .ok (.aload_n 0, 1) := by decide +kernel
theorem dX10_parted_26 : decode cX10_parted 26 = .ok (.invokevirtual 205, 3) := by decide +kernel
theorem dX10_parted_29 : decode cX10_parted 29 = .ok (.lconst 0, 1) := by decide +kernel
theorem dX10_parted_30 : decode cX10_parted 30 = .ok (.lstore_n 3, 1) := by decide +kernel
theorem dX10_parted_31 : decode cX10_parted 31 = .ok (.iconst 0, 1) := by decide +kernel
theorem dX10_parted_32 : decode cX10_parted 32 = .ok (.istore 5, 2) := by decide +kernel
theorem dX10_parted_34 : decode cX10_parted 34 = .ok (.iload 5, 2) := by decide +kernel
theorem dX10_parted_36 : decode cX10_parted 36 = .ok (.bipush 40, 2) := by decide +kernel
theorem dX10_parted_38 : decode cX10_parted 38 = .ok (.if_icmp .ge 63, 3) := by decide +kernel
theorem dX10_parted_41 : decode cX10_parted 41 = .ok (.lload_n 3, 1) := by decide +kernel
theorem dX10_parted_42 : decode cX10_parted 42 = .ok (.aload_n 0, 1) := by decide +kernel
theorem dX10_parted_43 : decode cX10_parted 43 = .ok (.getfield 28, 3) := by decide +kernel
theorem dX10_parted_46 : decode cX10_parted 46 = .ok (.bipush 40, 2) := by decide +kernel
theorem dX10_parted_48 : decode cX10_parted 48 = .ok (.iload_n 1, 1) := by decide +kernel
theorem dX10_parted_49 : decode cX10_parted 49 = .ok (.imul, 1) := by decide +kernel
theorem dX10_parted_50 : decode cX10_parted 50 = .ok (.iload 5, 2) := by decide +kernel
theorem dX10_parted_52 : decode cX10_parted 52 = .ok (.iadd, 1) := by decide +kernel
theorem dX10_parted_53 : decode cX10_parted 53 = .ok (.iaload, 1) := by decide +kernel
theorem dX10_parted_54 : decode cX10_parted 54 = .ok (.ifCond .le 7, 3) := by decide +kernel
theorem dX10_parted_57 : decode cX10_parted 57 = .ok (.iconst 1, 1) := by decide +kernel
theorem dX10_parted_58 : decode cX10_parted 58 = .ok (.goto 4, 3) := by decide +kernel
theorem dX10_parted_61 : decode cX10_parted 61 = .ok (.iconst 0, 1) := by decide +kernel
theorem dX10_parted_62 : decode cX10_parted 62 = .ok (.aload_n 0, 1) := by decide +kernel
theorem dX10_parted_63 : decode cX10_parted 63 = .ok (.getfield 28, 3) := by decide +kernel
theorem dX10_parted_66 : decode cX10_parted 66 = .ok (.bipush 40, 2) := by decide +kernel
theorem dX10_parted_68 : decode cX10_parted 68 = .ok (.iload_n 2, 1) := by decide +kernel
theorem dX10_parted_69 : decode cX10_parted 69 = .ok (.imul, 1) := by decide +kernel
theorem dX10_parted_70 : decode cX10_parted 70 = .ok (.iload 5, 2) := by decide +kernel
theorem dX10_parted_72 : decode cX10_parted 72 = .ok (.iadd, 1) := by decide +kernel
theorem dX10_parted_73 : decode cX10_parted 73 = .ok (.iaload, 1) := by decide +kernel
theorem dX10_parted_74 : decode cX10_parted 74 = .ok (.ifCond .le 7, 3) := by decide +kernel
theorem dX10_parted_77 : decode cX10_parted 77 = .ok (.iconst 1, 1) := by decide +kernel
theorem dX10_parted_78 : decode cX10_parted 78 = .ok (.goto 4, 3) := by decide +kernel
theorem dX10_parted_81 : decode cX10_parted 81 = .ok (.iconst 0, 1) := by decide +kernel
theorem dX10_parted_82 : decode cX10_parted 82 = .ok (.if_icmp .eq 10, 3) := by decide +kernel
theorem dX10_parted_85 : decode cX10_parted 85 = .ok (.lconst 1, 1) := by decide +kernel
theorem dX10_parted_86 : decode cX10_parted 86 = .ok (.iload 5, 2) := by decide +kernel
theorem dX10_parted_88 : decode cX10_parted 88 = .ok (.lshl, 1) := by decide +kernel
theorem dX10_parted_89 : decode cX10_parted 89 = .ok (.goto 4, 3) := by decide +kernel
theorem dX10_parted_92 : decode cX10_parted 92 = .ok (.lconst 0, 1) := by decide +kernel
theorem dX10_parted_93 : decode cX10_parted 93 = .ok (.lor, 1) := by decide +kernel
theorem dX10_parted_94 : decode cX10_parted 94 = .ok (.lstore_n 3, 1) := by decide +kernel
theorem dX10_parted_95 : decode cX10_parted 95 = .ok (.iinc 5 1, 3) := by decide +kernel
theorem dX10_parted_98 : decode cX10_parted 98 = .ok (.goto (-64), 3) := by decide +kernel
theorem dX10_parted_101 : decode cX10_parted 101 = .ok (.lload_n 3, 1) := by decide +kernel
theorem dX10_parted_102 : decode cX10_parted 102 = .ok (.lreturn, 1) := by decide +kernel
theorem dX10_quiet_0 : decode cX10_quiet 0 = .ok (.iload_n 1, 1) := by decide +kernel
theorem dX10_quiet_1 : decode cX10_quiet 1 = .ok (.iconst 0, 1) := by decide +kernel
theorem dX10_quiet_2 : decode cX10_quiet 2 = .ok (.iconst 1, 1) := by decide +kernel
theorem dX10_quiet_3 : decode cX10_quiet 3 = .ok (.invokestatic 44, 3) := by decide +kernel
theorem dX10_quiet_6 : decode cX10_quiet 6 = .ok (.ifCond .ne 5, 3) := by decide +kernel
theorem dX10_quiet_9 : decode cX10_quiet 9 = .ok (.iconst (-1), 1) := by decide +kernel
theorem dX10_quiet_10 : decode cX10_quiet 10 = .ok (.ireturn, 1) := by decide +kernel
theorem dX10_quiet_11 : decode cX10_quiet 11 = .ok (.aload_n 0, 1) := by decide +kernel
theorem dX10_quiet_12 : decode cX10_quiet 12 = .ok (.iconst 1, 1) := by decide +kernel
theorem dX10_quiet_13 : decode cX10_quiet 13 = .ok (.putfield 155, 3) := by decide +kernel
theorem dX10_quiet_16 : decode cX10_quiet 16 = .ok (.aload_n 0, 1) := by decide +kernel
theorem dX10_quiet_17 : decode cX10_quiet 17 = .ok (.invokevirtual 205, 3) := by decide +kernel
theorem dX10_quiet_20 : decode cX10_quiet 20 = .ok (.aload_n 0, 1) := by decide +kernel
theorem dX10_quiet_21 : decode cX10_quiet 21 = .ok (.iconst 0, 1) := by decide +kernel
theorem dX10_quiet_22 : decode cX10_quiet 22 = .ok (.putfield 155, 3) := by decide +kernel
theorem dX10_quiet_25 : decode cX10_quiet 25 = .ok (.iconst 0, 1) := by decide +kernel
theorem dX10_quiet_26 : decode cX10_quiet 26 = .ok (.istore_n 2, 1) := by decide +kernel
theorem dX10_quiet_27 : decode cX10_quiet 27 = .ok (.iconst 0, 1) := by decide +kernel
theorem dX10_quiet_28 : decode cX10_quiet 28 = .ok (.istore_n 3, 1) := by decide +kernel
theorem dX10_quiet_29 : decode cX10_quiet 29 = .ok (.iload_n 3, 1) := by decide +kernel
theorem dX10_quiet_30 : decode cX10_quiet 30 = .ok (.aload_n 0, 1) := by decide +kernel
theorem dX10_quiet_31 : decode cX10_quiet 31 = .ok (.getfield 9, 3) := by decide +kernel
theorem dX10_quiet_34 : decode cX10_quiet 34 = .ok (.iconst 0, 1) := by decide +kernel
theorem dX10_quiet_35 : decode cX10_quiet 35 = .ok (.iaload, 1) := by decide +kernel
theorem dX10_quiet_36 : decode cX10_quiet 36 = .ok (.if_icmp .ge 58, 3) := by decide +kernel
theorem dX10_quiet_39 : decode cX10_quiet 39 = .ok (.iconst 0, 1) := by decide +kernel
theorem dX10_quiet_40 : decode cX10_quiet 40 = .ok (.istore 4, 2) := by decide +kernel
theorem dX10_quiet_42 : decode cX10_quiet 42 = .ok (.iload 4, 2) := by decide +kernel
theorem dX10_quiet_44 : decode cX10_quiet 44 = .ok (.bipush 40, 2) := by decide +kernel
theorem dX10_quiet_46 : decode cX10_quiet 46 = .ok (.if_icmp .ge 42, 3) := by decide +kernel
theorem dX10_quiet_49 : decode cX10_quiet 49 = .ok (.iload_n 2, 1) := by decide +kernel
theorem dX10_quiet_50 : decode cX10_quiet 50 = .ok (.aload_n 0, 1) := by decide +kernel
theorem dX10_quiet_51 : decode cX10_quiet 51 = .ok (.iload_n 3, 1) := by decide +kernel
theorem dX10_quiet_52 : decode cX10_quiet 52 = .ok (.invokevirtual 208, 3) := by decide +kernel
theorem dX10_quiet_55 : decode cX10_quiet 55 = .ok (.ifCond .ne 24, 3) := by decide +kernel
theorem dX10_quiet_58 : decode cX10_quiet 58 = .ok (.aload_n 0, 1) := by decide +kernel
theorem dX10_quiet_59 : decode cX10_quiet 59 = .ok (.getfield 28, 3) := by decide +kernel
theorem dX10_quiet_62 : decode cX10_quiet 62 = .ok (.bipush 40, 2) := by decide +kernel
theorem dX10_quiet_64 : decode cX10_quiet 64 = .ok (.iload_n 3, 1) := by decide +kernel
theorem dX10_quiet_65 : decode cX10_quiet 65 = .ok (.imul, 1) := by decide +kernel
theorem dX10_quiet_66 : decode cX10_quiet 66 = .ok (.iload 4, 2) := by decide +kernel
theorem dX10_quiet_68 : decode cX10_quiet 68 = .ok (.iadd, 1) := by decide +kernel
theorem dX10_quiet_69 : decode cX10_quiet 69 = .ok (.iaload, 1) := by decide +kernel
theorem dX10_quiet_70 : decode cX10_quiet 70 = .ok (.ifCond .le 9, 3) := by decide +kernel
theorem dX10_quiet_73 : decode cX10_quiet 73 = .ok (.iconst 1, 1) := by decide +kernel
theorem dX10_quiet_74 : decode cX10_quiet 74 = .ok (.iload_n 3, 1) := by decide +kernel
theorem dX10_quiet_75 : decode cX10_quiet 75 = .ok (.ishl, 1) := by decide +kernel
theorem dX10_quiet_76 : decode cX10_quiet 76 = .ok (.goto 4, 3) := by decide +kernel
theorem dX10_quiet_79 : decode cX10_quiet 79 = .ok (.iconst 0, 1) := by decide +kernel
theorem dX10_quiet_80 : decode cX10_quiet 80 = .ok (.ior, 1) := by decide +kernel
theorem dX10_quiet_81 : decode cX10_quiet 81 = .ok (.istore_n 2, 1) := by decide +kernel
theorem dX10_quiet_82 : decode cX10_quiet 82 = .ok (.iinc 4 1, 3) := by decide +kernel
theorem dX10_quiet_85 : decode cX10_quiet 85 = .ok (.goto (-43), 3) := by decide +kernel
theorem dX10_quiet_88 : decode cX10_quiet 88 = .ok (.iinc 3 1, 3) := by decide +kernel
theorem dX10_quiet_91 : decode cX10_quiet 91 = .ok (.goto (-62), 3) := by decide +kernel
theorem dX10_quiet_94 : decode cX10_quiet 94 = .ok (.iload_n 1, 1) := by decide +kernel
theorem dX10_quiet_95 : decode cX10_quiet 95 = .ok (.iconst 1, 1) := by decide +kernel
theorem dX10_quiet_96 : decode cX10_quiet 96 = .ok (.if_icmp .ne 7, 3) := by decide +kernel
theorem dX10_quiet_99 : decode cX10_quiet 99 = .ok (.iload_n 2, 1) := by decide +kernel
theorem dX10_quiet_100 : decode cX10_quiet 100 = .ok (.goto 12, 3) := by decide +kernel
theorem dX10_quiet_103 : decode cX10_quiet 103 = .ok (.iload_n 2, 1) := by decide +kernel
theorem dX10_quiet_104 : decode cX10_quiet 104 = .ok (.ifCond .ne 7, 3) := by decide +kernel
theorem dX10_quiet_107 : decode cX10_quiet 107 = .ok (.iconst 1, 1) := by decide +kernel
theorem dX10_quiet_108 : decode cX10_quiet 108 = .ok (.goto 4, 3) := by decide +kernel
theorem dX10_quiet_111 : decode cX10_quiet 111 = .ok (.iconst 0, 1) := by decide +kernel
theorem dX10_quiet_112 : decode cX10_quiet 112 = .ok (.ireturn, 1) := by decide +kernel
theorem dX10_moved_0 : decode cX10_moved 0 = .ok (.aload_n 0, 1) := by decide +kernel
theorem dX10_moved_1 : decode cX10_moved 1 = .ok (.iload_n 1, 1) := by decide +kernel
theorem dX10_moved_2 : decode cX10_moved 2 = .ok (.invokevirtual 202, 3) := by decide +kernel
theorem dX10_moved_5 : decode cX10_moved 5 = .ok (.ifCond .eq 10, 3) := by decide +kernel
theorem dX10_moved_8 : decode cX10_moved 8 = .ok (.iload_n 2, 1) := by decide +kernel
theorem dX10_moved_9 : decode cX10_moved 9 = .ok (.invokestatic 199, 3) := by decide +kernel
theorem dX10_moved_12 : decode cX10_moved 12 = .ok (.ifCond .ne 5, 3) := by decide +kernel
theorem dX10_moved_15 : decode cX10_moved 15 = .ok (.iconst (-1), 1) := by decide +kernel
theorem dX10_moved_16 : decode cX10_moved 16 = .ok (.ireturn, 1) := by decide +kernel
theorem dX10_moved_17 : decode cX10_moved 17 = .ok (.aload_n 0, 1) := by decide +kernel
theorem dX10_moved_18 : decode cX10_moved 18 = .ok (.getfield 9, 3) := by decide +kernel
theorem dX10_moved_21 : decode cX10_moved 21 = .ok (.sipush 260, 3) := by decide +kernel
theorem dX10_moved_24 : decode cX10_moved 24 = .ok (.iload_n 1, 1) := by decide +kernel
theorem dX10_moved_25 : decode cX10_moved 25 = .ok (.iadd, 1) := by decide +kernel
theorem dX10_moved_26 : decode cX10_moved 26 = .ok (.iaload, 1) := by decide +kernel
theorem dX10_moved_27 : decode cX10_moved 27 = .ok (.istore_n 3, 1) := by decide +kernel
theorem dX10_moved_28 : decode cX10_moved 28 = .ok (.iconst 0, 1) := by decide +kernel
theorem dX10_moved_29 : decode cX10_moved 29 = .ok (.istore 4, 2) := by decide +kernel
theorem dX10_moved_31 : decode cX10_moved 31 = .ok (.iconst 0, 1) := by decide +kernel
theorem dX10_moved_32 : decode cX10_moved 32 = .ok (.istore 5, 2) := by decide +kernel
theorem dX10_moved_34 : decode cX10_moved 34 = .ok (.iconst 0, 1) := by decide +kernel
theorem dX10_moved_35 : decode cX10_moved 35 = .ok (.istore 6, 2) := by decide +kernel
theorem dX10_moved_37 : decode cX10_moved 37 = .ok (.iload 6, 2) := by decide +kernel
theorem dX10_moved_39 : decode cX10_moved 39 = .ok (.bipush 10, 2) := by decide +kernel
theorem dX10_moved_41 : decode cX10_moved 41 = .ok (.if_icmp .ge 78, 3) := by decide +kernel
theorem dX10_moved_44 : decode cX10_moved 44 = .ok (.aload_n 0, 1) := by decide +kernel
theorem dX10_moved_45 : decode cX10_moved 45 = .ok (.getfield 9, 3) := by decide +kernel
theorem dX10_moved_48 : decode cX10_moved 48 = .ok (.sipush 260, 3) := by decide +kernel
theorem dX10_moved_51 : decode cX10_moved 51 = .ok (.iload_n 1, 1) := by decide +kernel
theorem dX10_moved_52 : decode cX10_moved 52 = .ok (.iadd, 1) := by decide +kernel
theorem dX10_moved_53 : decode cX10_moved 53 = .ok (.iload 6, 2) := by decide +kernel
theorem dX10_moved_55 : decode cX10_moved 55 = .ok (.iastore, 1) := by decide +kernel
theorem dX10_moved_56 : decode cX10_moved 56 = .ok (.aload_n 0, 1) := by decide +kernel
theorem dX10_moved_57 : decode cX10_moved 57 = .ok (.invokevirtual 205, 3) := by decide +kernel
theorem dX10_moved_60 : decode cX10_moved 60 = .ok (.aload_n 0, 1) := by decide +kernel
theorem dX10_moved_61 : decode cX10_moved 61 = .ok (.aload_n 0, 1) := by decide +kernel
theorem dX10_moved_62 : decode cX10_moved 62 = .ok (.invokevirtual 224, 3) := by decide +kernel
theorem dX10_moved_65 : decode cX10_moved 65 = .ok (.iload_n 2, 1) := by decide +kernel
theorem dX10_moved_66 : decode cX10_moved 66 = .ok (.invokevirtual 227, 3) := by decide +kernel
theorem dX10_moved_69 : decode cX10_moved 69 = .ok (.istore 7, 2) := by decide +kernel
theorem dX10_moved_71 : decode cX10_moved 71 = .ok (.iload 6, 2) := by decide +kernel
theorem dX10_moved_73 : decode cX10_moved 73 = .ok (.ifCond .eq 10, 3) := by decide +kernel
theorem dX10_moved_76 : decode cX10_moved 76 = .ok (.iload 7, 2) := by decide +kernel
theorem dX10_moved_78 : decode cX10_moved 78 = .ok (.iload 5, 2) := by decide +kernel
theorem dX10_moved_80 : decode cX10_moved 80 = .ok (.if_icmp .ge 8, 3) := by decide +kernel
theorem dX10_moved_83 : decode cX10_moved 83 = .ok (.iload 6, 2) := by decide +kernel
theorem dX10_moved_85 : decode cX10_moved 85 = .ok (.goto 5, 3) := by decide +kernel
theorem dX10_moved_88 : decode cX10_moved 88 = .ok (.iload 4, 2) := by decide +kernel
theorem dX10_moved_90 : decode cX10_moved 90 = .ok (.istore 4, 2) := by decide +kernel
theorem dX10_moved_92 : decode cX10_moved 92 = .ok (.iload 6, 2) := by decide +kernel
theorem dX10_moved_94 : decode cX10_moved 94 = .ok (.ifCond .eq 10, 3) := by decide +kernel
theorem dX10_moved_97 : decode cX10_moved 97 = .ok (.iload 7, 2) := by decide +kernel
theorem dX10_moved_99 : decode cX10_moved 99 = .ok (.iload 5, 2) := by decide +kernel
theorem dX10_moved_101 : decode cX10_moved 101 = .ok (.if_icmp .ge 8, 3) := by decide +kernel
theorem dX10_moved_104 : decode cX10_moved 104 = .ok (.iload 7, 2) := by decide +kernel
theorem dX10_moved_106 : decode cX10_moved 106 = .ok (.goto 5, 3) := by decide +kernel
theorem dX10_moved_109 : decode cX10_moved 109 = .ok (.iload 5, 2) := by decide +kernel
theorem dX10_moved_111 : decode cX10_moved 111 = .ok (.istore 5, 2) := by decide +kernel
theorem dX10_moved_113 : decode cX10_moved 113 = .ok (.iinc 6 1, 3) := by decide +kernel
theorem dX10_moved_116 : decode cX10_moved 116 = .ok (.goto (-79), 3) := by decide +kernel
theorem dX10_moved_119 : decode cX10_moved 119 = .ok (.aload_n 0, 1) := by decide +kernel
theorem dX10_moved_120 : decode cX10_moved 120 = .ok (.getfield 9, 3) := by decide +kernel
theorem dX10_moved_123 : decode cX10_moved 123 = .ok (.sipush 260, 3) := by decide +kernel
theorem dX10_moved_126 : decode cX10_moved 126 = .ok (.iload_n 1, 1) := by decide +kernel
theorem dX10_moved_127 : decode cX10_moved 127 = .ok (.iadd, 1) := by decide +kernel
theorem dX10_moved_128 : decode cX10_moved 128 = .ok (.iload_n 3, 1) := by decide +kernel
theorem dX10_moved_129 : decode cX10_moved 129 = .ok (.iastore, 1) := by decide +kernel
theorem dX10_moved_130 : decode cX10_moved 130 = .ok (.iload 4, 2) := by decide +kernel
theorem dX10_moved_132 : decode cX10_moved 132 = .ok (.ireturn, 1) := by decide +kernel
theorem dX10_older_0 : decode cX10_older 0 = .ok (.aload_n 0, 1) := by decide +kernel
theorem dX10_older_1 : decode cX10_older 1 = .ok (.invokevirtual 205, 3) := by decide +kernel
theorem dX10_older_4 : decode cX10_older 4 = .ok (.aload_n 0, 1) := by decide +kernel
theorem dX10_older_5 : decode cX10_older 5 = .ok (.aload_n 0, 1) := by decide +kernel
theorem dX10_older_6 : decode cX10_older 6 = .ok (.invokevirtual 224, 3) := by decide +kernel
theorem dX10_older_9 : decode cX10_older 9 = .ok (.invokevirtual 230, 3) := by decide +kernel
theorem dX10_older_12 : decode cX10_older 12 = .ok (.invokestatic 233, 3) := by decide +kernel
theorem dX10_older_15 : decode cX10_older 15 = .ok (.istore_n 1, 1) := by decide +kernel
theorem dX10_older_16 : decode cX10_older 16 = .ok (.iconst 0, 1) := by decide +kernel
theorem dX10_older_17 : decode cX10_older 17 = .ok (.istore_n 2, 1) := by decide +kernel
theorem dX10_older_18 : decode cX10_older 18 = .ok (.iconst 1, 1) := by decide +kernel
theorem dX10_older_19 : decode cX10_older 19 = .ok (.istore_n 3, 1) := by decide +kernel
theorem dX10_older_20 : decode cX10_older 20 = .ok (.iload_n 3, 1) := by decide +kernel
theorem dX10_older_21 : decode cX10_older 21 = .ok (.bipush 40, 2) := by decide +kernel
theorem dX10_older_23 : decode cX10_older 23 = .ok (.if_icmp .gt 39, 3) := by decide +kernel
theorem dX10_older_26 : decode cX10_older 26 = .ok (.aload_n 0, 1) := by decide +kernel
theorem dX10_older_27 : decode cX10_older 27 = .ok (.iload_n 3, 1) := by decide +kernel
theorem dX10_older_28 : decode cX10_older 28 = .ok (.putfield 152, 3) := by decide +kernel
theorem dX10_older_31 : decode cX10_older 31 = .ok (.aload_n 0, 1) := by decide +kernel
theorem dX10_older_32 : decode cX10_older 32 = .ok (.invokevirtual 205, 3) := by decide +kernel
theorem dX10_older_35 : decode cX10_older 35 = .ok (.aload_n 0, 1) := by decide +kernel
theorem dX10_older_36 : decode cX10_older 36 = .ok (.aload_n 0, 1) := by decide +kernel
theorem dX10_older_37 : decode cX10_older 37 = .ok (.invokevirtual 224, 3) := by decide +kernel
theorem dX10_older_40 : decode cX10_older 40 = .ok (.invokevirtual 230, 3) := by decide +kernel
theorem dX10_older_43 : decode cX10_older 43 = .ok (.invokestatic 233, 3) := by decide +kernel
theorem dX10_older_46 : decode cX10_older 46 = .ok (.iload_n 1, 1) := by decide +kernel
theorem dX10_older_47 : decode cX10_older 47 = .ok (.if_icmp .lt 7, 3) := by decide +kernel
theorem dX10_older_50 : decode cX10_older 50 = .ok (.iload_n 3, 1) := by decide +kernel
theorem dX10_older_51 : decode cX10_older 51 = .ok (.goto 4, 3) := by decide +kernel
theorem dX10_older_54 : decode cX10_older 54 = .ok (.iload_n 2, 1) := by decide +kernel
theorem dX10_older_55 : decode cX10_older 55 = .ok (.istore_n 2, 1) := by decide +kernel
theorem dX10_older_56 : decode cX10_older 56 = .ok (.iinc 3 1, 3) := by decide +kernel
theorem dX10_older_59 : decode cX10_older 59 = .ok (.goto (-39), 3) := by decide +kernel
theorem dX10_older_62 : decode cX10_older 62 = .ok (.aload_n 0, 1) := by decide +kernel
theorem dX10_older_63 : decode cX10_older 63 = .ok (.iconst 0, 1) := by decide +kernel
theorem dX10_older_64 : decode cX10_older 64 = .ok (.putfield 152, 3) := by decide +kernel
theorem dX10_older_67 : decode cX10_older 67 = .ok (.iload_n 2, 1) := by decide +kernel
theorem dX10_older_68 : decode cX10_older 68 = .ok (.ireturn, 1) := by decide +kernel
theorem dX10_harm_0 : decode cX10_harm 0 = .ok (.aload_n 0, 1) := by decide +kernel
theorem dX10_harm_1 : decode cX10_harm 1 = .ok (.iload_n 1, 1) := by decide +kernel
theorem dX10_harm_2 : decode cX10_harm 2 = .ok (.invokevirtual 202, 3) := by decide +kernel
theorem dX10_harm_5 : decode cX10_harm 5 = .ok (.ifCond .ne 5, 3) := by decide +kernel
theorem dX10_harm_8 : decode cX10_harm 8 = .ok (.iconst (-1), 1) := by decide +kernel
theorem dX10_harm_9 : decode cX10_harm 9 = .ok (.ireturn, 1) := by decide +kernel
theorem dX10_harm_10 : decode cX10_harm 10 = .ok (.aload_n 0, 1) := by decide +kernel
theorem dX10_harm_11 : decode cX10_harm 11 = .ok (.invokevirtual 205, 3) := by decide +kernel
theorem dX10_harm_14 : decode cX10_harm 14 = .ok (.aload_n 0, 1) := by decide +kernel
theorem dX10_harm_15 : decode cX10_harm 15 = .ok (.iload_n 1, 1) := by decide +kernel
theorem dX10_harm_16 : decode cX10_harm 16 = .ok (.invokevirtual 239, 3) := by decide +kernel
theorem dX10_harm_19 : decode cX10_harm 19 = .ok (.ireturn, 1) := by decide +kernel
theorem dX10_runs_0 : decode cX10_runs 0 = .ok (.aload_n 0, 1) := by decide +kernel
theorem dX10_runs_1 : decode cX10_runs 1 = .ok (.getfield 253, 3) := by decide +kernel
theorem dX10_runs_4 : decode cX10_runs 4 = .ok (.bipush 20, 2) := by decide +kernel
theorem dX10_runs_6 : decode cX10_runs 6 = .ok (.if_icmp .ge 13, 3) := by decide +kernel
theorem dX10_runs_9 : decode cX10_runs 9 = .ok (.aload_n 0, 1) := by decide +kernel
theorem dX10_runs_10 : decode cX10_runs 10 = .ok (.getfield 37, 3) := by decide +kernel
theorem dX10_runs_13 : decode cX10_runs 13 = .ok (.aload_n 0, 1) := by decide +kernel
theorem dX10_runs_14 : decode cX10_runs 14 = .ok (.getfield 253, 3) := by decide +kernel
theorem dX10_runs_17 : decode cX10_runs 17 = .ok (.iload_n 1, 1) := by decide +kernel
theorem dX10_runs_18 : decode cX10_runs 18 = .ok (.iastore, 1) := by decide +kernel
theorem dX10_runs_19 : decode cX10_runs 19 = .ok (.aload_n 0, 1) := by decide +kernel
theorem dX10_runs_20 : decode cX10_runs 20 = .ok (.dup, 1) := by decide +kernel
theorem dX10_runs_21 : decode cX10_runs 21 = .ok (.getfield 253, 3) := by decide +kernel
theorem dX10_runs_24 : decode cX10_runs 24 = .ok (.iconst 1, 1) := by decide +kernel
theorem dX10_runs_25 : decode cX10_runs 25 = .ok (.iadd, 1) := by decide +kernel
theorem dX10_runs_26 : decode cX10_runs 26 = .ok (.putfield 253, 3) := by decide +kernel
theorem dX10_runs_29 : decode cX10_runs 29 = .ok (.return_, 1) := by decide +kernel
theorem dX10_isUnder_0 : decode cX10_isUnder 0 = .ok (.iload_n 1, 1) := by decide +kernel
theorem dX10_isUnder_1 : decode cX10_isUnder 1 = .ok (.ifCond .eq 39, 3) := by decide +kernel
theorem dX10_isUnder_4 : decode cX10_isUnder 4 = .ok (.iload_n 1, 1) := by decide +kernel
theorem dX10_isUnder_5 : decode cX10_isUnder 5 = .ok (.iload_n 0, 1) := by decide +kernel
theorem dX10_isUnder_6 : decode cX10_isUnder 6 = .ok (.if_icmp .eq 34, 3) := by decide +kernel
theorem dX10_isUnder_9 : decode cX10_isUnder 9 = .ok (.iload_n 1, 1) := by decide +kernel
theorem dX10_isUnder_10 : decode cX10_isUnder 10 = .ok (.iconst 1, 1) := by decide +kernel
theorem dX10_isUnder_11 : decode cX10_isUnder 11 = .ok (.if_icmp .ne 8, 3) := by decide +kernel
theorem dX10_isUnder_14 : decode cX10_isUnder 14 = .ok (.iload_n 0, 1) := by decide +kernel
theorem dX10_isUnder_15 : decode cX10_isUnder 15 = .ok (.iconst 4, 1) := by decide +kernel
theorem dX10_isUnder_16 : decode cX10_isUnder 16 = .ok (.if_icmp .eq 24, 3) := by decide +kernel
theorem dX10_isUnder_19 : decode cX10_isUnder 19 = .ok (.iload_n 1, 1) := by decide +kernel
theorem dX10_isUnder_20 : decode cX10_isUnder 20 = .ok (.iconst 2, 1) := by decide +kernel
theorem dX10_isUnder_21 : decode cX10_isUnder 21 = .ok (.if_icmp .ne 8, 3) := by decide +kernel
theorem dX10_isUnder_24 : decode cX10_isUnder 24 = .ok (.iload_n 0, 1) := by decide +kernel
theorem dX10_isUnder_25 : decode cX10_isUnder 25 = .ok (.iconst 5, 1) := by decide +kernel
theorem dX10_isUnder_26 : decode cX10_isUnder 26 = .ok (.if_icmp .eq 14, 3) := by decide +kernel
theorem dX10_isUnder_29 : decode cX10_isUnder 29 = .ok (.iload_n 1, 1) := by decide +kernel
theorem dX10_isUnder_30 : decode cX10_isUnder 30 = .ok (.iconst 3, 1) := by decide +kernel
theorem dX10_isUnder_31 : decode cX10_isUnder 31 = .ok (.if_icmp .ne 13, 3) := by decide +kernel
theorem dX10_isUnder_34 : decode cX10_isUnder 34 = .ok (.iload_n 0, 1) := by decide +kernel
theorem dX10_isUnder_35 : decode cX10_isUnder 35 = .ok (.bipush 6, 2) := by decide +kernel
theorem dX10_isUnder_37 : decode cX10_isUnder 37 = .ok (.if_icmp .ne 7, 3) := by decide +kernel
theorem dX10_isUnder_40 : decode cX10_isUnder 40 = .ok (.iconst 1, 1) := by decide +kernel
theorem dX10_isUnder_41 : decode cX10_isUnder 41 = .ok (.goto 4, 3) := by decide +kernel
theorem dX10_isUnder_44 : decode cX10_isUnder 44 = .ok (.iconst 0, 1) := by decide +kernel
theorem dX10_isUnder_45 : decode cX10_isUnder 45 = .ok (.ireturn, 1) := by decide +kernel
theorem dX10_plainGrows_0 : decode cX10_plainGrows 0 = .ok (.aload_n 0, 1) := by decide +kernel
theorem dX10_plainGrows_1 : decode cX10_plainGrows 1 = .ok (.iconst 1, 1) := by decide +kernel
theorem dX10_plainGrows_2 : decode cX10_plainGrows 2 = .ok (.invokevirtual 256, 3) := by decide +kernel
theorem dX10_plainGrows_5 : decode cX10_plainGrows 5 = .ok (.iload_n 1, 1) := by decide +kernel
theorem dX10_plainGrows_6 : decode cX10_plainGrows 6 = .ok (.aload_n 0, 1) := by decide +kernel
theorem dX10_plainGrows_7 : decode cX10_plainGrows 7 = .ok (.getfield 259, 3) := by decide +kernel
theorem dX10_plainGrows_10 : decode cX10_plainGrows 10 = .ok (.iadd, 1) := by decide +kernel
theorem dX10_plainGrows_11 : decode cX10_plainGrows 11 = .ok (.ireturn, 1) := by decide +kernel
theorem dX10_growsActs_0 : decode cX10_growsActs 0 = .ok (.aload_n 0, 1) := by decide +kernel
theorem dX10_growsActs_1 : decode cX10_growsActs 1 = .ok (.getfield 262, 3) := by decide +kernel
theorem dX10_growsActs_4 : decode cX10_growsActs 4 = .ok (.iconst 1, 1) := by decide +kernel
theorem dX10_growsActs_5 : decode cX10_growsActs 5 = .ok (.invokestatic 265, 3) := by decide +kernel
theorem dX10_growsActs_8 : decode cX10_growsActs 8 = .ok (.ifCond .eq 17, 3) := by decide +kernel
theorem dX10_growsActs_11 : decode cX10_growsActs 11 = .ok (.aload_n 0, 1) := by decide +kernel
theorem dX10_growsActs_12 : decode cX10_growsActs 12 = .ok (.bipush 11, 2) := by decide +kernel
theorem dX10_growsActs_14 : decode cX10_growsActs 14 = .ok (.invokevirtual 256, 3) := by decide +kernel
theorem dX10_growsActs_17 : decode cX10_growsActs 17 = .ok (.aload_n 0, 1) := by decide +kernel
theorem dX10_growsActs_18 : decode cX10_growsActs 18 = .ok (.iload_n 1, 1) := by decide +kernel
theorem dX10_growsActs_19 : decode cX10_growsActs 19 = .ok (.iconst 3, 1) := by decide +kernel
theorem dX10_growsActs_20 : decode cX10_growsActs 20 = .ok (.imul, 1) := by decide +kernel
theorem dX10_growsActs_21 : decode cX10_growsActs 21 = .ok (.invokevirtual 268, 3) := by decide +kernel
theorem dX10_growsActs_24 : decode cX10_growsActs 24 = .ok (.ireturn, 1) := by decide +kernel
theorem dX10_growsActs_25 : decode cX10_growsActs 25 = .ok (.aload_n 0, 1) := by decide +kernel
theorem dX10_growsActs_26 : decode cX10_growsActs 26 = .ok (.getfield 262, 3) := by decide +kernel
theorem dX10_growsActs_29 : decode cX10_growsActs 29 = .ok (.iconst 5, 1) := by decide +kernel
theorem dX10_growsActs_30 : decode cX10_growsActs 30 = .ok (.if_icmp .ne 20, 3) := by decide +kernel
theorem dX10_growsActs_33 : decode cX10_growsActs 33 = .ok (.aload_n 0, 1) := by decide +kernel
theorem dX10_growsActs_34 : decode cX10_growsActs 34 = .ok (.bipush 51, 2) := by decide +kernel
theorem dX10_growsActs_36 : decode cX10_growsActs 36 = .ok (.invokevirtual 256, 3) := by decide +kernel
theorem dX10_growsActs_39 : decode cX10_growsActs 39 = .ok (.aload_n 0, 1) := by decide +kernel
theorem dX10_growsActs_40 : decode cX10_growsActs 40 = .ok (.iload_n 1, 1) := by decide +kernel
theorem dX10_growsActs_41 : decode cX10_growsActs 41 = .ok (.invokevirtual 268, 3) := by decide +kernel
theorem dX10_growsActs_44 : decode cX10_growsActs 44 = .ok (.aload_n 0, 1) := by decide +kernel
theorem dX10_growsActs_45 : decode cX10_growsActs 45 = .ok (.getfield 259, 3) := by decide +kernel
theorem dX10_growsActs_48 : decode cX10_growsActs 48 = .ok (.ixor, 1) := by decide +kernel
theorem dX10_growsActs_49 : decode cX10_growsActs 49 = .ok (.ireturn, 1) := by decide +kernel
theorem dX10_growsActs_50 : decode cX10_growsActs 50 = .ok (.aload_n 0, 1) := by decide +kernel
theorem dX10_growsActs_51 : decode cX10_growsActs 51 = .ok (.iload_n 1, 1) := by decide +kernel
theorem dX10_growsActs_52 : decode cX10_growsActs 52 = .ok (.invokevirtual 268, 3) := by decide +kernel
theorem dX10_growsActs_55 : decode cX10_growsActs 55 = .ok (.ireturn, 1) := by decide +kernel
theorem dX10_plainStrikes_0 : decode cX10_plainStrikes 0 = .ok (.aload_n 0, 1) := by decide +kernel
theorem dX10_plainStrikes_1 : decode cX10_plainStrikes 1 = .ok (.iconst 2, 1) := by decide +kernel
theorem dX10_plainStrikes_2 : decode cX10_plainStrikes 2 = .ok (.invokevirtual 256, 3) := by decide +kernel
theorem dX10_plainStrikes_5 : decode cX10_plainStrikes 5 = .ok (.aload_n 0, 1) := by decide +kernel
theorem dX10_plainStrikes_6 : decode cX10_plainStrikes 6 = .ok (.iload_n 1, 1) := by decide +kernel
theorem dX10_plainStrikes_7 : decode cX10_plainStrikes 7 = .ok (.invokevirtual 271, 3) := by decide +kernel
theorem dX10_plainStrikes_10 : decode cX10_plainStrikes 10 = .ok (.aload_n 0, 1) := by decide +kernel
theorem dX10_plainStrikes_11 : decode cX10_plainStrikes 11 = .ok (.getfield 274, 3) := by decide +kernel
theorem dX10_plainStrikes_14 : decode cX10_plainStrikes 14 = .ok (.isub, 1) := by decide +kernel
theorem dX10_plainStrikes_15 : decode cX10_plainStrikes 15 = .ok (.ireturn, 1) := by decide +kernel
theorem dX10_strikesActs_0 : decode cX10_strikesActs 0 = .ok (.aload_n 0, 1) := by decide +kernel
theorem dX10_strikesActs_1 : decode cX10_strikesActs 1 = .ok (.getfield 262, 3) := by decide +kernel
theorem dX10_strikesActs_4 : decode cX10_strikesActs 4 = .ok (.iconst 2, 1) := by decide +kernel
theorem dX10_strikesActs_5 : decode cX10_strikesActs 5 = .ok (.invokestatic 265, 3) := by decide +kernel
theorem dX10_strikesActs_8 : decode cX10_strikesActs 8 = .ok (.ifCond .eq 16, 3) := by decide +kernel
theorem dX10_strikesActs_11 : decode cX10_strikesActs 11 = .ok (.aload_n 0, 1) := by decide +kernel
theorem dX10_strikesActs_12 : decode cX10_strikesActs 12 = .ok (.bipush 21, 2) := by decide +kernel
theorem dX10_strikesActs_14 : decode cX10_strikesActs 14 = .ok (.invokevirtual 256, 3) := by decide +kernel
theorem dX10_strikesActs_17 : decode cX10_strikesActs 17 = .ok (.aload_n 0, 1) := by decide +kernel
theorem dX10_strikesActs_18 : decode cX10_strikesActs 18 = .ok (.iload_n 1, 1) := by decide +kernel
theorem dX10_strikesActs_19 : decode cX10_strikesActs 19 = .ok (.invokevirtual 277, 3) := by decide +kernel
theorem dX10_strikesActs_22 : decode cX10_strikesActs 22 = .ok (.ineg, 1) := by decide +kernel
theorem dX10_strikesActs_23 : decode cX10_strikesActs 23 = .ok (.ireturn, 1) := by decide +kernel
theorem dX10_strikesActs_24 : decode cX10_strikesActs 24 = .ok (.aload_n 0, 1) := by decide +kernel
theorem dX10_strikesActs_25 : decode cX10_strikesActs 25 = .ok (.getfield 262, 3) := by decide +kernel
theorem dX10_strikesActs_28 : decode cX10_strikesActs 28 = .ok (.bipush 6, 2) := by decide +kernel
theorem dX10_strikesActs_30 : decode cX10_strikesActs 30 = .ok (.if_icmp .ne 20, 3) := by decide +kernel
theorem dX10_strikesActs_33 : decode cX10_strikesActs 33 = .ok (.aload_n 0, 1) := by decide +kernel
theorem dX10_strikesActs_34 : decode cX10_strikesActs 34 = .ok (.bipush 61, 2) := by decide +kernel
theorem dX10_strikesActs_36 : decode cX10_strikesActs 36 = .ok (.invokevirtual 256, 3) := by decide +kernel
theorem dX10_strikesActs_39 : decode cX10_strikesActs 39 = .ok (.aload_n 0, 1) := by decide +kernel
theorem dX10_strikesActs_40 : decode cX10_strikesActs 40 = .ok (.iload_n 1, 1) := by decide +kernel
theorem dX10_strikesActs_41 : decode cX10_strikesActs 41 = .ok (.invokevirtual 277, 3) := by decide +kernel
theorem dX10_strikesActs_44 : decode cX10_strikesActs 44 = .ok (.aload_n 0, 1) := by decide +kernel
theorem dX10_strikesActs_45 : decode cX10_strikesActs 45 = .ok (.getfield 274, 3) := by decide +kernel
theorem dX10_strikesActs_48 : decode cX10_strikesActs 48 = .ok (.iadd, 1) := by decide +kernel
theorem dX10_strikesActs_49 : decode cX10_strikesActs 49 = .ok (.ireturn, 1) := by decide +kernel
theorem dX10_strikesActs_50 : decode cX10_strikesActs 50 = .ok (.aload_n 0, 1) := by decide +kernel
theorem dX10_strikesActs_51 : decode cX10_strikesActs 51 = .ok (.iload_n 1, 1) := by decide +kernel
theorem dX10_strikesActs_52 : decode cX10_strikesActs 52 = .ok (.invokevirtual 277, 3) := by decide +kernel
theorem dX10_strikesActs_55 : decode cX10_strikesActs 55 = .ok (.ireturn, 1) := by decide +kernel
theorem dX10_plainTells_0 : decode cX10_plainTells 0 = .ok (.aload_n 0, 1) := by decide +kernel
theorem dX10_plainTells_1 : decode cX10_plainTells 1 = .ok (.iconst 3, 1) := by decide +kernel
theorem dX10_plainTells_2 : decode cX10_plainTells 2 = .ok (.invokevirtual 256, 3) := by decide +kernel
theorem dX10_plainTells_5 : decode cX10_plainTells 5 = .ok (.aload_n 0, 1) := by decide +kernel
theorem dX10_plainTells_6 : decode cX10_plainTells 6 = .ok (.iload_n 1, 1) := by decide +kernel
theorem dX10_plainTells_7 : decode cX10_plainTells 7 = .ok (.invokevirtual 280, 3) := by decide +kernel
theorem dX10_plainTells_10 : decode cX10_plainTells 10 = .ok (.iconst 2, 1) := by decide +kernel
theorem dX10_plainTells_11 : decode cX10_plainTells 11 = .ok (.imul, 1) := by decide +kernel
theorem dX10_plainTells_12 : decode cX10_plainTells 12 = .ok (.ireturn, 1) := by decide +kernel
theorem dX10_tellsActs_0 : decode cX10_tellsActs 0 = .ok (.aload_n 0, 1) := by decide +kernel
theorem dX10_tellsActs_1 : decode cX10_tellsActs 1 = .ok (.getfield 262, 3) := by decide +kernel
theorem dX10_tellsActs_4 : decode cX10_tellsActs 4 = .ok (.iconst 3, 1) := by decide +kernel
theorem dX10_tellsActs_5 : decode cX10_tellsActs 5 = .ok (.invokestatic 265, 3) := by decide +kernel
theorem dX10_tellsActs_8 : decode cX10_tellsActs 8 = .ok (.ifCond .eq 18, 3) := by decide +kernel
theorem dX10_tellsActs_11 : decode cX10_tellsActs 11 = .ok (.aload_n 0, 1) := by decide +kernel
theorem dX10_tellsActs_12 : decode cX10_tellsActs 12 = .ok (.bipush 31, 2) := by decide +kernel
theorem dX10_tellsActs_14 : decode cX10_tellsActs 14 = .ok (.invokevirtual 256, 3) := by decide +kernel
theorem dX10_tellsActs_17 : decode cX10_tellsActs 17 = .ok (.aload_n 0, 1) := by decide +kernel
theorem dX10_tellsActs_18 : decode cX10_tellsActs 18 = .ok (.iload_n 1, 1) := by decide +kernel
theorem dX10_tellsActs_19 : decode cX10_tellsActs 19 = .ok (.invokevirtual 283, 3) := by decide +kernel
theorem dX10_tellsActs_22 : decode cX10_tellsActs 22 = .ok (.bipush 7, 2) := by decide +kernel
theorem dX10_tellsActs_24 : decode cX10_tellsActs 24 = .ok (.ixor, 1) := by decide +kernel
theorem dX10_tellsActs_25 : decode cX10_tellsActs 25 = .ok (.ireturn, 1) := by decide +kernel
theorem dX10_tellsActs_26 : decode cX10_tellsActs 26 = .ok (.aload_n 0, 1) := by decide +kernel
theorem dX10_tellsActs_27 : decode cX10_tellsActs 27 = .ok (.getfield 262, 3) := by decide +kernel
theorem dX10_tellsActs_30 : decode cX10_tellsActs 30 = .ok (.iconst 4, 1) := by decide +kernel
theorem dX10_tellsActs_31 : decode cX10_tellsActs 31 = .ok (.if_icmp .ne 25, 3) := by decide +kernel
theorem dX10_tellsActs_34 : decode cX10_tellsActs 34 = .ok (.aload_n 0, 1) := by decide +kernel
theorem dX10_tellsActs_35 : decode cX10_tellsActs 35 = .ok (.bipush 41, 2) := by decide +kernel
theorem dX10_tellsActs_37 : decode cX10_tellsActs 37 = .ok (.invokevirtual 256, 3) := by decide +kernel
theorem dX10_tellsActs_40 : decode cX10_tellsActs 40 = .ok (.aload_n 0, 1) := by decide +kernel
theorem dX10_tellsActs_41 : decode cX10_tellsActs 41 = .ok (.iload_n 1, 1) := by decide +kernel
theorem dX10_tellsActs_42 : decode cX10_tellsActs 42 = .ok (.iconst 1, 1) := by decide +kernel
theorem dX10_tellsActs_43 : decode cX10_tellsActs 43 = .ok (.isub, 1) := by decide +kernel
theorem dX10_tellsActs_44 : decode cX10_tellsActs 44 = .ok (.invokevirtual 283, 3) := by decide +kernel
theorem dX10_tellsActs_47 : decode cX10_tellsActs 47 = .ok (.istore_n 2, 1) := by decide +kernel
theorem dX10_tellsActs_48 : decode cX10_tellsActs 48 = .ok (.iload_n 2, 1) := by decide +kernel
theorem dX10_tellsActs_49 : decode cX10_tellsActs 49 = .ok (.aload_n 0, 1) := by decide +kernel
theorem dX10_tellsActs_50 : decode cX10_tellsActs 50 = .ok (.iconst 2, 1) := by decide +kernel
theorem dX10_tellsActs_51 : decode cX10_tellsActs 51 = .ok (.invokevirtual 271, 3) := by decide +kernel
theorem dX10_tellsActs_54 : decode cX10_tellsActs 54 = .ok (.iadd, 1) := by decide +kernel
theorem dX10_tellsActs_55 : decode cX10_tellsActs 55 = .ok (.ireturn, 1) := by decide +kernel
theorem dX10_tellsActs_56 : decode cX10_tellsActs 56 = .ok (.aload_n 0, 1) := by decide +kernel
theorem dX10_tellsActs_57 : decode cX10_tellsActs 57 = .ok (.iload_n 1, 1) := by decide +kernel
theorem dX10_tellsActs_58 : decode cX10_tellsActs 58 = .ok (.invokevirtual 283, 3) := by decide +kernel
theorem dX10_tellsActs_61 : decode cX10_tellsActs 61 = .ok (.ireturn, 1) := by decide +kernel
theorem dX10_act_0 : decode cX10_act 0 = .ok (.aload_n 0, 1) := by decide +kernel
theorem dX10_act_1 : decode cX10_act 1 = .ok (.iconst 0, 1) := by decide +kernel
theorem dX10_act_2 : decode cX10_act 2 = .ok (.putfield 253, 3) := by decide +kernel
theorem dX10_act_5 : decode cX10_act 5 = .ok (.aload_n 0, 1) := by decide +kernel
theorem dX10_act_6 : decode cX10_act 6 = .ok (.iload_n 1, 1) := by decide +kernel
theorem dX10_act_7 : decode cX10_act 7 = .ok (.invokevirtual 202, 3) := by decide +kernel
theorem dX10_act_10 : decode cX10_act 10 = .ok (.ifCond .eq 12, 3) := by decide +kernel
theorem dX10_act_13 : decode cX10_act 13 = .ok (.iload_n 2, 1) := by decide +kernel
theorem dX10_act_14 : decode cX10_act 14 = .ok (.iconst 0, 1) := by decide +kernel
theorem dX10_act_15 : decode cX10_act 15 = .ok (.iconst 2, 1) := by decide +kernel
theorem dX10_act_16 : decode cX10_act 16 = .ok (.invokestatic 44, 3) := by decide +kernel
theorem dX10_act_19 : decode cX10_act 19 = .ok (.ifCond .ne 5, 3) := by decide +kernel
theorem dX10_act_22 : decode cX10_act 22 = .ok (.iconst 0, 1) := by decide +kernel
theorem dX10_act_23 : decode cX10_act 23 = .ok (.ireturn, 1) := by decide +kernel
theorem dX10_act_24 : decode cX10_act 24 = .ok (.aload_n 0, 1) := by decide +kernel
theorem dX10_act_25 : decode cX10_act 25 = .ok (.aload_n 0, 1) := by decide +kernel
theorem dX10_act_26 : decode cX10_act 26 = .ok (.getfield 9, 3) := by decide +kernel
theorem dX10_act_29 : decode cX10_act 29 = .ok (.sipush 250, 3) := by decide +kernel
theorem dX10_act_32 : decode cX10_act 32 = .ok (.iload_n 1, 1) := by decide +kernel
theorem dX10_act_33 : decode cX10_act 33 = .ok (.iadd, 1) := by decide +kernel
theorem dX10_act_34 : decode cX10_act 34 = .ok (.iaload, 1) := by decide +kernel
theorem dX10_act_35 : decode cX10_act 35 = .ok (.putfield 262, 3) := by decide +kernel
theorem dX10_act_38 : decode cX10_act 38 = .ok (.aload_n 0, 1) := by decide +kernel
theorem dX10_act_39 : decode cX10_act 39 = .ok (.iload_n 1, 1) := by decide +kernel
theorem dX10_act_40 : decode cX10_act 40 = .ok (.putfield 259, 3) := by decide +kernel
theorem dX10_act_43 : decode cX10_act 43 = .ok (.aload_n 0, 1) := by decide +kernel
theorem dX10_act_44 : decode cX10_act 44 = .ok (.aload_n 0, 1) := by decide +kernel
theorem dX10_act_45 : decode cX10_act 45 = .ok (.getfield 9, 3) := by decide +kernel
theorem dX10_act_48 : decode cX10_act 48 = .ok (.sipush 270, 3) := by decide +kernel
theorem dX10_act_51 : decode cX10_act 51 = .ok (.iload_n 1, 1) := by decide +kernel
theorem dX10_act_52 : decode cX10_act 52 = .ok (.iadd, 1) := by decide +kernel
theorem dX10_act_53 : decode cX10_act 53 = .ok (.iaload, 1) := by decide +kernel
theorem dX10_act_54 : decode cX10_act 54 = .ok (.putfield 274, 3) := by decide +kernel
theorem dX10_act_57 : decode cX10_act 57 = .ok (.iload_n 2, 1) := by decide +kernel
theorem dX10_act_58 : decode cX10_act 58 = .ok (.ifCond .ne 11, 3) := by decide +kernel
theorem dX10_act_61 : decode cX10_act 61 = .ok (.aload_n 0, 1) := by decide +kernel
theorem dX10_act_62 : decode cX10_act 62 = .ok (.iload_n 3, 1) := by decide +kernel
theorem dX10_act_63 : decode cX10_act 63 = .ok (.invokevirtual 271, 3) := by decide +kernel
theorem dX10_act_66 : decode cX10_act 66 = .ok (.goto 21, 3) := by decide +kernel
theorem dX10_act_69 : decode cX10_act 69 = .ok (.iload_n 2, 1) := by decide +kernel
theorem dX10_act_70 : decode cX10_act 70 = .ok (.iconst 1, 1) := by decide +kernel
theorem dX10_act_71 : decode cX10_act 71 = .ok (.if_icmp .ne 11, 3) := by decide +kernel
theorem dX10_act_74 : decode cX10_act 74 = .ok (.aload_n 0, 1) := by decide +kernel
theorem dX10_act_75 : decode cX10_act 75 = .ok (.iload_n 3, 1) := by decide +kernel
theorem dX10_act_76 : decode cX10_act 76 = .ok (.invokevirtual 280, 3) := by decide +kernel
theorem dX10_act_79 : decode cX10_act 79 = .ok (.goto 8, 3) := by decide +kernel
theorem dX10_act_82 : decode cX10_act 82 = .ok (.aload_n 0, 1) := by decide +kernel
theorem dX10_act_83 : decode cX10_act 83 = .ok (.iload_n 3, 1) := by decide +kernel
theorem dX10_act_84 : decode cX10_act 84 = .ok (.invokevirtual 286, 3) := by decide +kernel
theorem dX10_act_87 : decode cX10_act 87 = .ok (.ireturn, 1) := by decide +kernel
theorem dX10_trace_0 : decode cX10_trace 0 = .ok (.iload_n 1, 1) := by decide +kernel
theorem dX10_trace_1 : decode cX10_trace 1 = .ok (.iconst 0, 1) := by decide +kernel
theorem dX10_trace_2 : decode cX10_trace 2 = .ok (.aload_n 0, 1) := by decide +kernel
theorem dX10_trace_3 : decode cX10_trace 3 = .ok (.getfield 253, 3) := by decide +kernel
theorem dX10_trace_6 : decode cX10_trace 6 = .ok (.bipush 20, 2) := by decide +kernel
theorem dX10_trace_8 : decode cX10_trace 8 = .ok (.if_icmp .ge 10, 3) := by decide +kernel
theorem dX10_trace_11 : decode cX10_trace 11 = .ok (.aload_n 0, 1) := by decide +kernel
theorem dX10_trace_12 : decode cX10_trace 12 = .ok (.getfield 253, 3) := by decide +kernel
theorem dX10_trace_15 : decode cX10_trace 15 = .ok (.goto 5, 3) := by decide +kernel
theorem dX10_trace_18 : decode cX10_trace 18 = .ok (.bipush 20, 2) := by decide +kernel
theorem dX10_trace_20 : decode cX10_trace 20 = .ok (.iconst 1, 1) := by decide +kernel
theorem dX10_trace_21 : decode cX10_trace 21 = .ok (.isub, 1) := by decide +kernel
theorem dX10_trace_22 : decode cX10_trace 22 = .ok (.invokestatic 44, 3) := by decide +kernel
theorem dX10_trace_25 : decode cX10_trace 25 = .ok (.ifCond .eq 12, 3) := by decide +kernel
theorem dX10_trace_28 : decode cX10_trace 28 = .ok (.aload_n 0, 1) := by decide +kernel
theorem dX10_trace_29 : decode cX10_trace 29 = .ok (.getfield 37, 3) := by decide +kernel
theorem dX10_trace_32 : decode cX10_trace 32 = .ok (.iload_n 1, 1) := by decide +kernel
theorem dX10_trace_33 : decode cX10_trace 33 = .ok (.iaload, 1) := by decide +kernel
theorem dX10_trace_34 : decode cX10_trace 34 = .ok (.goto 4, 3) := by decide +kernel
theorem dX10_trace_37 : decode cX10_trace 37 = .ok (.iconst (-1), 1) := by decide +kernel
theorem dX10_trace_38 : decode cX10_trace 38 = .ok (.ireturn, 1) := by decide +kernel
theorem dX10_as_0 : decode cX10_as 0 = .ok (.aload_n 0, 1) := by decide +kernel
theorem dX10_as_1 : decode cX10_as 1 = .ok (.iload_n 1, 1) := by decide +kernel
theorem dX10_as_2 : decode cX10_as 2 = .ok (.invokevirtual 202, 3) := by decide +kernel
theorem dX10_as_5 : decode cX10_as 5 = .ok (.ifCond .eq 13, 3) := by decide +kernel
theorem dX10_as_8 : decode cX10_as 8 = .ok (.iload_n 2, 1) := by decide +kernel
theorem dX10_as_9 : decode cX10_as 9 = .ok (.iconst 0, 1) := by decide +kernel
theorem dX10_as_10 : decode cX10_as 10 = .ok (.bipush 6, 2) := by decide +kernel
theorem dX10_as_12 : decode cX10_as 12 = .ok (.invokestatic 44, 3) := by decide +kernel
theorem dX10_as_15 : decode cX10_as 15 = .ok (.ifCond .ne 5, 3) := by decide +kernel
theorem dX10_as_18 : decode cX10_as 18 = .ok (.iconst (-1), 1) := by decide +kernel
theorem dX10_as_19 : decode cX10_as 19 = .ok (.ireturn, 1) := by decide +kernel
theorem dX10_as_20 : decode cX10_as 20 = .ok (.aload_n 0, 1) := by decide +kernel
theorem dX10_as_21 : decode cX10_as 21 = .ok (.getfield 9, 3) := by decide +kernel
theorem dX10_as_24 : decode cX10_as 24 = .ok (.sipush 250, 3) := by decide +kernel
theorem dX10_as_27 : decode cX10_as 27 = .ok (.iload_n 1, 1) := by decide +kernel
theorem dX10_as_28 : decode cX10_as 28 = .ok (.iadd, 1) := by decide +kernel
theorem dX10_as_29 : decode cX10_as 29 = .ok (.iaload, 1) := by decide +kernel
theorem dX10_as_30 : decode cX10_as 30 = .ok (.iload_n 2, 1) := by decide +kernel
theorem dX10_as_31 : decode cX10_as 31 = .ok (.invokestatic 265, 3) := by decide +kernel
theorem dX10_as_34 : decode cX10_as 34 = .ok (.ifCond .eq 16, 3) := by decide +kernel
theorem dX10_as_37 : decode cX10_as 37 = .ok (.aload_n 0, 1) := by decide +kernel
theorem dX10_as_38 : decode cX10_as 38 = .ok (.getfield 9, 3) := by decide +kernel
theorem dX10_as_41 : decode cX10_as 41 = .ok (.sipush 270, 3) := by decide +kernel
theorem dX10_as_44 : decode cX10_as 44 = .ok (.iload_n 1, 1) := by decide +kernel
theorem dX10_as_45 : decode cX10_as 45 = .ok (.iadd, 1) := by decide +kernel
theorem dX10_as_46 : decode cX10_as 46 = .ok (.iaload, 1) := by decide +kernel
theorem dX10_as_47 : decode cX10_as 47 = .ok (.goto 5, 3) := by decide +kernel
theorem dX10_as_50 : decode cX10_as 50 = .ok (.bipush (-6), 2) := by decide +kernel
theorem dX10_as_52 : decode cX10_as 52 = .ok (.ireturn, 1) := by decide +kernel
theorem dX10_image_0 : decode cX10_image 0 = .ok (.iconst 0, 1) := by decide +kernel
theorem dX10_image_1 : decode cX10_image 1 = .ok (.istore_n 1, 1) := by decide +kernel
theorem dX10_image_2 : decode cX10_image 2 = .ok (.iload_n 1, 1) := by decide +kernel
theorem dX10_image_3 : decode cX10_image 3 = .ok (.sipush 1066, 3) := by decide +kernel
theorem dX10_image_6 : decode cX10_image 6 = .ok (.if_icmp .ge 21, 3) := by decide +kernel
theorem dX10_image_9 : decode cX10_image 9 = .ok (.aload_n 0, 1) := by decide +kernel
theorem dX10_image_10 : decode cX10_image 10 = .ok (.getfield 15, 3) := by decide +kernel
theorem dX10_image_13 : decode cX10_image 13 = .ok (.iload_n 1, 1) := by decide +kernel
theorem dX10_image_14 : decode cX10_image 14 = .ok (.aload_n 0, 1) := by decide +kernel
theorem dX10_image_15 : decode cX10_image 15 = .ok (.getfield 9, 3) := by decide +kernel
theorem dX10_image_18 : decode cX10_image 18 = .ok (.iload_n 1, 1) := by decide +kernel
theorem dX10_image_19 : decode cX10_image 19 = .ok (.iaload, 1) := by decide +kernel
theorem dX10_image_20 : decode cX10_image 20 = .ok (.iastore, 1) := by decide +kernel
theorem dX10_image_21 : decode cX10_image 21 = .ok (.iinc 1 1, 3) := by decide +kernel
theorem dX10_image_24 : decode cX10_image 24 = .ok (.goto (-22), 3) := by decide +kernel
theorem dX10_image_27 : decode cX10_image 27 = .ok (.aload_n 0, 1) := by decide +kernel
theorem dX10_image_28 : decode cX10_image 28 = .ok (.iconst 1, 1) := by decide +kernel
theorem dX10_image_29 : decode cX10_image 29 = .ok (.putfield 289, 3) := by decide +kernel
theorem dX10_image_32 : decode cX10_image 32 = .ok (.aload_n 0, 1) := by decide +kernel
theorem dX10_image_33 : decode cX10_image 33 = .ok (.getfield 9, 3) := by decide +kernel
theorem dX10_image_36 : decode cX10_image 36 = .ok (.iconst 0, 1) := by decide +kernel
theorem dX10_image_37 : decode cX10_image 37 = .ok (.iaload, 1) := by decide +kernel
theorem dX10_image_38 : decode cX10_image 38 = .ok (.ireturn, 1) := by decide +kernel
theorem dX10_undo_0 : decode cX10_undo 0 = .ok (.aload_n 0, 1) := by decide +kernel
theorem dX10_undo_1 : decode cX10_undo 1 = .ok (.getfield 289, 3) := by decide +kernel
theorem dX10_undo_4 : decode cX10_undo 4 = .ok (.ifCond .ne 6, 3) := by decide +kernel
theorem dX10_undo_7 : decode cX10_undo 7 = .ok (.bipush (-3), 2) := by decide +kernel
theorem dX10_undo_9 : decode cX10_undo 9 = .ok (.ireturn, 1) := by decide +kernel
theorem dX10_undo_10 : decode cX10_undo 10 = .ok (.iconst 0, 1) := by decide +kernel
theorem dX10_undo_11 : decode cX10_undo 11 = .ok (.istore_n 1, 1) := by decide +kernel
theorem dX10_undo_12 : decode cX10_undo 12 = .ok (.iload_n 1, 1) := by decide +kernel
theorem dX10_undo_13 : decode cX10_undo 13 = .ok (.sipush 1066, 3) := by decide +kernel
theorem dX10_undo_16 : decode cX10_undo 16 = .ok (.if_icmp .ge 21, 3) := by decide +kernel
theorem dX10_undo_19 : decode cX10_undo 19 = .ok (.aload_n 0, 1) := by decide +kernel
theorem dX10_undo_20 : decode cX10_undo 20 = .ok (.getfield 9, 3) := by decide +kernel
theorem dX10_undo_23 : decode cX10_undo 23 = .ok (.iload_n 1, 1) := by decide +kernel
theorem dX10_undo_24 : decode cX10_undo 24 = .ok (.aload_n 0, 1) := by decide +kernel
theorem dX10_undo_25 : decode cX10_undo 25 = .ok (.getfield 15, 3) := by decide +kernel
theorem dX10_undo_28 : decode cX10_undo 28 = .ok (.iload_n 1, 1) := by decide +kernel
theorem dX10_undo_29 : decode cX10_undo 29 = .ok (.iaload, 1) := by decide +kernel
theorem dX10_undo_30 : decode cX10_undo 30 = .ok (.iastore, 1) := by decide +kernel
theorem dX10_undo_31 : decode cX10_undo 31 = .ok (.iinc 1 1, 3) := by decide +kernel
theorem dX10_undo_34 : decode cX10_undo 34 = .ok (.goto (-22), 3) := by decide +kernel
theorem dX10_undo_37 : decode cX10_undo 37 = .ok (.aload_n 0, 1) := by decide +kernel
theorem dX10_undo_38 : decode cX10_undo 38 = .ok (.getfield 9, 3) := by decide +kernel
theorem dX10_undo_41 : decode cX10_undo 41 = .ok (.iconst 0, 1) := by decide +kernel
theorem dX10_undo_42 : decode cX10_undo 42 = .ok (.iaload, 1) := by decide +kernel
theorem dX10_undo_43 : decode cX10_undo 43 = .ok (.ireturn, 1) := by decide +kernel
theorem dX10_count_0 : decode cX10_count 0 = .ok (.iload_n 1, 1) := by decide +kernel
theorem dX10_count_1 : decode cX10_count 1 = .ok (.tableswitch 68 0 4 #[35, 42, 49, 56, 63], 35) := by decide +kernel
theorem dX10_count_36 : decode cX10_count 36 = .ok (.aload_n 0, 1) := by decide +kernel
theorem dX10_count_37 : decode cX10_count 37 = .ok (.getfield 9, 3) := by decide +kernel
theorem dX10_count_40 : decode cX10_count 40 = .ok (.iconst 0, 1) := by decide +kernel
theorem dX10_count_41 : decode cX10_count 41 = .ok (.iaload, 1) := by decide +kernel
theorem dX10_count_42 : decode cX10_count 42 = .ok (.ireturn, 1) := by decide +kernel
theorem dX10_count_43 : decode cX10_count 43 = .ok (.aload_n 0, 1) := by decide +kernel
theorem dX10_count_44 : decode cX10_count 44 = .ok (.getfield 9, 3) := by decide +kernel
theorem dX10_count_47 : decode cX10_count 47 = .ok (.iconst 1, 1) := by decide +kernel
theorem dX10_count_48 : decode cX10_count 48 = .ok (.iaload, 1) := by decide +kernel
theorem dX10_count_49 : decode cX10_count 49 = .ok (.ireturn, 1) := by decide +kernel
theorem dX10_count_50 : decode cX10_count 50 = .ok (.aload_n 0, 1) := by decide +kernel
theorem dX10_count_51 : decode cX10_count 51 = .ok (.getfield 9, 3) := by decide +kernel
theorem dX10_count_54 : decode cX10_count 54 = .ok (.iconst 2, 1) := by decide +kernel
theorem dX10_count_55 : decode cX10_count 55 = .ok (.iaload, 1) := by decide +kernel
theorem dX10_count_56 : decode cX10_count 56 = .ok (.ireturn, 1) := by decide +kernel
theorem dX10_count_57 : decode cX10_count 57 = .ok (.aload_n 0, 1) := by decide +kernel
theorem dX10_count_58 : decode cX10_count 58 = .ok (.getfield 9, 3) := by decide +kernel
theorem dX10_count_61 : decode cX10_count 61 = .ok (.iconst 3, 1) := by decide +kernel
theorem dX10_count_62 : decode cX10_count 62 = .ok (.iaload, 1) := by decide +kernel
theorem dX10_count_63 : decode cX10_count 63 = .ok (.ireturn, 1) := by decide +kernel
theorem dX10_count_64 : decode cX10_count 64 = .ok (.aload_n 0, 1) := by decide +kernel
theorem dX10_count_65 : decode cX10_count 65 = .ok (.getfield 253, 3) := by decide +kernel
theorem dX10_count_68 : decode cX10_count 68 = .ok (.ireturn, 1) := by decide +kernel
theorem dX10_count_69 : decode cX10_count 69 = .ok (.iconst (-1), 1) := by decide +kernel
theorem dX10_count_70 : decode cX10_count 70 = .ok (.ireturn, 1) := by decide +kernel
theorem dJ6_bitCount_0f7a4_0 : decode cJ6_bitCount_0f7a4 0 = .ok (.iload_n 0, 1) := by decide +kernel
theorem dJ6_bitCount_0f7a4_1 : decode cJ6_bitCount_0f7a4 1 = .ok (.iload_n 0, 1) := by decide +kernel
theorem dJ6_bitCount_0f7a4_2 : decode cJ6_bitCount_0f7a4 2 = .ok (.iconst 1, 1) := by decide +kernel
theorem dJ6_bitCount_0f7a4_3 : decode cJ6_bitCount_0f7a4 3 = .ok (.iushr, 1) := by decide +kernel
theorem dJ6_bitCount_0f7a4_4 : decode cJ6_bitCount_0f7a4 4 = .ok (.ldc_w 265, 3) := by decide +kernel
theorem dJ6_bitCount_0f7a4_7 : decode cJ6_bitCount_0f7a4 7 = .ok (.iand, 1) := by decide +kernel
theorem dJ6_bitCount_0f7a4_8 : decode cJ6_bitCount_0f7a4 8 = .ok (.isub, 1) := by decide +kernel
theorem dJ6_bitCount_0f7a4_9 : decode cJ6_bitCount_0f7a4 9 = .ok (.istore_n 0, 1) := by decide +kernel
theorem dJ6_bitCount_0f7a4_10 : decode cJ6_bitCount_0f7a4 10 = .ok (.iload_n 0, 1) := by decide +kernel
theorem dJ6_bitCount_0f7a4_11 : decode cJ6_bitCount_0f7a4 11 = .ok (.ldc_w 266, 3) := by decide +kernel
theorem dJ6_bitCount_0f7a4_14 : decode cJ6_bitCount_0f7a4 14 = .ok (.iand, 1) := by decide +kernel
theorem dJ6_bitCount_0f7a4_15 : decode cJ6_bitCount_0f7a4 15 = .ok (.iload_n 0, 1) := by decide +kernel
theorem dJ6_bitCount_0f7a4_16 : decode cJ6_bitCount_0f7a4 16 = .ok (.iconst 2, 1) := by decide +kernel
theorem dJ6_bitCount_0f7a4_17 : decode cJ6_bitCount_0f7a4 17 = .ok (.iushr, 1) := by decide +kernel
theorem dJ6_bitCount_0f7a4_18 : decode cJ6_bitCount_0f7a4 18 = .ok (.ldc_w 266, 3) := by decide +kernel
theorem dJ6_bitCount_0f7a4_21 : decode cJ6_bitCount_0f7a4 21 = .ok (.iand, 1) := by decide +kernel
theorem dJ6_bitCount_0f7a4_22 : decode cJ6_bitCount_0f7a4 22 = .ok (.iadd, 1) := by decide +kernel
theorem dJ6_bitCount_0f7a4_23 : decode cJ6_bitCount_0f7a4 23 = .ok (.istore_n 0, 1) := by decide +kernel
theorem dJ6_bitCount_0f7a4_24 : decode cJ6_bitCount_0f7a4 24 = .ok (.iload_n 0, 1) := by decide +kernel
theorem dJ6_bitCount_0f7a4_25 : decode cJ6_bitCount_0f7a4 25 = .ok (.iload_n 0, 1) := by decide +kernel
theorem dJ6_bitCount_0f7a4_26 : decode cJ6_bitCount_0f7a4 26 = .ok (.iconst 4, 1) := by decide +kernel
theorem dJ6_bitCount_0f7a4_27 : decode cJ6_bitCount_0f7a4 27 = .ok (.iushr, 1) := by decide +kernel
theorem dJ6_bitCount_0f7a4_28 : decode cJ6_bitCount_0f7a4 28 = .ok (.iadd, 1) := by decide +kernel
theorem dJ6_bitCount_0f7a4_29 : decode cJ6_bitCount_0f7a4 29 = .ok (.ldc_w 267, 3) := by decide +kernel
theorem dJ6_bitCount_0f7a4_32 : decode cJ6_bitCount_0f7a4 32 = .ok (.iand, 1) := by decide +kernel
theorem dJ6_bitCount_0f7a4_33 : decode cJ6_bitCount_0f7a4 33 = .ok (.istore_n 0, 1) := by decide +kernel
theorem dJ6_bitCount_0f7a4_34 : decode cJ6_bitCount_0f7a4 34 = .ok (.iload_n 0, 1) := by decide +kernel
theorem dJ6_bitCount_0f7a4_35 : decode cJ6_bitCount_0f7a4 35 = .ok (.iload_n 0, 1) := by decide +kernel
theorem dJ6_bitCount_0f7a4_36 : decode cJ6_bitCount_0f7a4 36 = .ok (.bipush 8, 2) := by decide +kernel
theorem dJ6_bitCount_0f7a4_38 : decode cJ6_bitCount_0f7a4 38 = .ok (.iushr, 1) := by decide +kernel
theorem dJ6_bitCount_0f7a4_39 : decode cJ6_bitCount_0f7a4 39 = .ok (.iadd, 1) := by decide +kernel
theorem dJ6_bitCount_0f7a4_40 : decode cJ6_bitCount_0f7a4 40 = .ok (.istore_n 0, 1) := by decide +kernel
theorem dJ6_bitCount_0f7a4_41 : decode cJ6_bitCount_0f7a4 41 = .ok (.iload_n 0, 1) := by decide +kernel
theorem dJ6_bitCount_0f7a4_42 : decode cJ6_bitCount_0f7a4 42 = .ok (.iload_n 0, 1) := by decide +kernel
theorem dJ6_bitCount_0f7a4_43 : decode cJ6_bitCount_0f7a4 43 = .ok (.bipush 16, 2) := by decide +kernel
theorem dJ6_bitCount_0f7a4_45 : decode cJ6_bitCount_0f7a4 45 = .ok (.iushr, 1) := by decide +kernel
theorem dJ6_bitCount_0f7a4_46 : decode cJ6_bitCount_0f7a4 46 = .ok (.iadd, 1) := by decide +kernel
theorem dJ6_bitCount_0f7a4_47 : decode cJ6_bitCount_0f7a4 47 = .ok (.istore_n 0, 1) := by decide +kernel
theorem dJ6_bitCount_0f7a4_48 : decode cJ6_bitCount_0f7a4 48 = .ok (.iload_n 0, 1) := by decide +kernel
theorem dJ6_bitCount_0f7a4_49 : decode cJ6_bitCount_0f7a4 49 = .ok (.bipush 63, 2) := by decide +kernel
theorem dJ6_bitCount_0f7a4_51 : decode cJ6_bitCount_0f7a4 51 = .ok (.iand, 1) := by decide +kernel
theorem dJ6_bitCount_0f7a4_52 : decode cJ6_bitCount_0f7a4 52 = .ok (.ireturn, 1) := by decide +kernel
theorem dJ13_bitCount_95d88_0 : decode cJ13_bitCount_95d88 0 = .ok (.lload_n 0, 1) := by decide +kernel
theorem dJ13_bitCount_95d88_1 : decode cJ13_bitCount_95d88 1 = .ok (.lload_n 0, 1) := by decide +kernel
theorem dJ13_bitCount_95d88_2 : decode cJ13_bitCount_95d88 2 = .ok (.iconst 1, 1) := by decide +kernel
theorem dJ13_bitCount_95d88_3 : decode cJ13_bitCount_95d88 3 = .ok (.lushr, 1) := by decide +kernel
theorem dJ13_bitCount_95d88_4 : decode cJ13_bitCount_95d88 4 = .ok (.ldc2_w 314, 3) := by decide +kernel
theorem dJ13_bitCount_95d88_7 : decode cJ13_bitCount_95d88 7 = .ok (.land, 1) := by decide +kernel
theorem dJ13_bitCount_95d88_8 : decode cJ13_bitCount_95d88 8 = .ok (.lsub, 1) := by decide +kernel
theorem dJ13_bitCount_95d88_9 : decode cJ13_bitCount_95d88 9 = .ok (.lstore_n 0, 1) := by decide +kernel
theorem dJ13_bitCount_95d88_10 : decode cJ13_bitCount_95d88 10 = .ok (.lload_n 0, 1) := by decide +kernel
theorem dJ13_bitCount_95d88_11 : decode cJ13_bitCount_95d88 11 = .ok (.ldc2_w 316, 3) := by decide +kernel
theorem dJ13_bitCount_95d88_14 : decode cJ13_bitCount_95d88 14 = .ok (.land, 1) := by decide +kernel
theorem dJ13_bitCount_95d88_15 : decode cJ13_bitCount_95d88 15 = .ok (.lload_n 0, 1) := by decide +kernel
theorem dJ13_bitCount_95d88_16 : decode cJ13_bitCount_95d88 16 = .ok (.iconst 2, 1) := by decide +kernel
theorem dJ13_bitCount_95d88_17 : decode cJ13_bitCount_95d88 17 = .ok (.lushr, 1) := by decide +kernel
theorem dJ13_bitCount_95d88_18 : decode cJ13_bitCount_95d88 18 = .ok (.ldc2_w 316, 3) := by decide +kernel
theorem dJ13_bitCount_95d88_21 : decode cJ13_bitCount_95d88 21 = .ok (.land, 1) := by decide +kernel
theorem dJ13_bitCount_95d88_22 : decode cJ13_bitCount_95d88 22 = .ok (.ladd, 1) := by decide +kernel
theorem dJ13_bitCount_95d88_23 : decode cJ13_bitCount_95d88 23 = .ok (.lstore_n 0, 1) := by decide +kernel
theorem dJ13_bitCount_95d88_24 : decode cJ13_bitCount_95d88 24 = .ok (.lload_n 0, 1) := by decide +kernel
theorem dJ13_bitCount_95d88_25 : decode cJ13_bitCount_95d88 25 = .ok (.lload_n 0, 1) := by decide +kernel
theorem dJ13_bitCount_95d88_26 : decode cJ13_bitCount_95d88 26 = .ok (.iconst 4, 1) := by decide +kernel
theorem dJ13_bitCount_95d88_27 : decode cJ13_bitCount_95d88 27 = .ok (.lushr, 1) := by decide +kernel
theorem dJ13_bitCount_95d88_28 : decode cJ13_bitCount_95d88 28 = .ok (.ladd, 1) := by decide +kernel
theorem dJ13_bitCount_95d88_29 : decode cJ13_bitCount_95d88 29 = .ok (.ldc2_w 318, 3) := by decide +kernel
theorem dJ13_bitCount_95d88_32 : decode cJ13_bitCount_95d88 32 = .ok (.land, 1) := by decide +kernel
theorem dJ13_bitCount_95d88_33 : decode cJ13_bitCount_95d88 33 = .ok (.lstore_n 0, 1) := by decide +kernel
theorem dJ13_bitCount_95d88_34 : decode cJ13_bitCount_95d88 34 = .ok (.lload_n 0, 1) := by decide +kernel
theorem dJ13_bitCount_95d88_35 : decode cJ13_bitCount_95d88 35 = .ok (.lload_n 0, 1) := by decide +kernel
theorem dJ13_bitCount_95d88_36 : decode cJ13_bitCount_95d88 36 = .ok (.bipush 8, 2) := by decide +kernel
theorem dJ13_bitCount_95d88_38 : decode cJ13_bitCount_95d88 38 = .ok (.lushr, 1) := by decide +kernel
theorem dJ13_bitCount_95d88_39 : decode cJ13_bitCount_95d88 39 = .ok (.ladd, 1) := by decide +kernel
theorem dJ13_bitCount_95d88_40 : decode cJ13_bitCount_95d88 40 = .ok (.lstore_n 0, 1) := by decide +kernel
theorem dJ13_bitCount_95d88_41 : decode cJ13_bitCount_95d88 41 = .ok (.lload_n 0, 1) := by decide +kernel
theorem dJ13_bitCount_95d88_42 : decode cJ13_bitCount_95d88 42 = .ok (.lload_n 0, 1) := by decide +kernel
theorem dJ13_bitCount_95d88_43 : decode cJ13_bitCount_95d88 43 = .ok (.bipush 16, 2) := by decide +kernel
theorem dJ13_bitCount_95d88_45 : decode cJ13_bitCount_95d88 45 = .ok (.lushr, 1) := by decide +kernel
theorem dJ13_bitCount_95d88_46 : decode cJ13_bitCount_95d88 46 = .ok (.ladd, 1) := by decide +kernel
theorem dJ13_bitCount_95d88_47 : decode cJ13_bitCount_95d88 47 = .ok (.lstore_n 0, 1) := by decide +kernel
theorem dJ13_bitCount_95d88_48 : decode cJ13_bitCount_95d88 48 = .ok (.lload_n 0, 1) := by decide +kernel
theorem dJ13_bitCount_95d88_49 : decode cJ13_bitCount_95d88 49 = .ok (.lload_n 0, 1) := by decide +kernel
theorem dJ13_bitCount_95d88_50 : decode cJ13_bitCount_95d88 50 = .ok (.bipush 32, 2) := by decide +kernel
theorem dJ13_bitCount_95d88_52 : decode cJ13_bitCount_95d88 52 = .ok (.lushr, 1) := by decide +kernel
theorem dJ13_bitCount_95d88_53 : decode cJ13_bitCount_95d88 53 = .ok (.ladd, 1) := by decide +kernel
theorem dJ13_bitCount_95d88_54 : decode cJ13_bitCount_95d88 54 = .ok (.lstore_n 0, 1) := by decide +kernel
theorem dJ13_bitCount_95d88_55 : decode cJ13_bitCount_95d88 55 = .ok (.lload_n 0, 1) := by decide +kernel
theorem dJ13_bitCount_95d88_56 : decode cJ13_bitCount_95d88 56 = .ok (.l2i, 1) := by decide +kernel
theorem dJ13_bitCount_95d88_57 : decode cJ13_bitCount_95d88 57 = .ok (.bipush 127, 2) := by decide +kernel
theorem dJ13_bitCount_95d88_59 : decode cJ13_bitCount_95d88 59 = .ok (.iand, 1) := by decide +kernel
theorem dJ13_bitCount_95d88_60 : decode cJ13_bitCount_95d88 60 = .ok (.ireturn, 1) := by decide +kernel
theorem dJ9_abs_0f7a4_0 : decode cJ9_abs_0f7a4 0 = .ok (.iload_n 0, 1) := by decide +kernel
theorem dJ9_abs_0f7a4_1 : decode cJ9_abs_0f7a4 1 = .ok (.ifCond .ge 8, 3) := by decide +kernel
theorem dJ9_abs_0f7a4_4 : decode cJ9_abs_0f7a4 4 = .ok (.iload_n 0, 1) := by decide +kernel
theorem dJ9_abs_0f7a4_5 : decode cJ9_abs_0f7a4 5 = .ok (.ineg, 1) := by decide +kernel
theorem dJ9_abs_0f7a4_6 : decode cJ9_abs_0f7a4 6 = .ok (.goto 4, 3) := by decide +kernel
theorem dJ9_abs_0f7a4_9 : decode cJ9_abs_0f7a4 9 = .ok (.iload_n 0, 1) := by decide +kernel
theorem dJ9_abs_0f7a4_10 : decode cJ9_abs_0f7a4 10 = .ok (.ireturn, 1) := by decide +kernel
theorem dJ9_max_7cf53_0 : decode cJ9_max_7cf53 0 = .ok (.iload_n 0, 1) := by decide +kernel
theorem dJ9_max_7cf53_1 : decode cJ9_max_7cf53 1 = .ok (.iload_n 1, 1) := by decide +kernel
theorem dJ9_max_7cf53_2 : decode cJ9_max_7cf53 2 = .ok (.if_icmp .lt 7, 3) := by decide +kernel
theorem dJ9_max_7cf53_5 : decode cJ9_max_7cf53 5 = .ok (.iload_n 0, 1) := by decide +kernel
theorem dJ9_max_7cf53_6 : decode cJ9_max_7cf53 6 = .ok (.goto 4, 3) := by decide +kernel
theorem dJ9_max_7cf53_9 : decode cJ9_max_7cf53 9 = .ok (.iload_n 1, 1) := by decide +kernel
theorem dJ9_max_7cf53_10 : decode cJ9_max_7cf53 10 = .ok (.ireturn, 1) := by decide +kernel
theorem dJ9_min_7cf53_0 : decode cJ9_min_7cf53 0 = .ok (.iload_n 0, 1) := by decide +kernel
theorem dJ9_min_7cf53_1 : decode cJ9_min_7cf53 1 = .ok (.iload_n 1, 1) := by decide +kernel
theorem dJ9_min_7cf53_2 : decode cJ9_min_7cf53 2 = .ok (.if_icmp .gt 7, 3) := by decide +kernel
theorem dJ9_min_7cf53_5 : decode cJ9_min_7cf53 5 = .ok (.iload_n 0, 1) := by decide +kernel
theorem dJ9_min_7cf53_6 : decode cJ9_min_7cf53 6 = .ok (.goto 4, 3) := by decide +kernel
theorem dJ9_min_7cf53_9 : decode cJ9_min_7cf53 9 = .ok (.iload_n 1, 1) := by decide +kernel
theorem dJ9_min_7cf53_10 : decode cJ9_min_7cf53 10 = .ok (.ireturn, 1) := by decide +kernel
theorem dJ0_length_8abf5_0 : decode cJ0_length_8abf5 0 = .ok (.aload_n 0, 1) := by decide +kernel
theorem dJ0_length_8abf5_1 : decode cJ0_length_8abf5 1 = .ok (.getfield 9, 3) := by decide +kernel
theorem dJ0_length_8abf5_4 : decode cJ0_length_8abf5 4 = .ok (.arraylength, 1) := by decide +kernel
theorem dJ0_length_8abf5_5 : decode cJ0_length_8abf5 5 = .ok (.aload_n 0, 1) := by decide +kernel
theorem dJ0_length_8abf5_6 : decode cJ0_length_8abf5 6 = .ok (.invokevirtual 335, 3) := by decide +kernel
theorem dJ0_length_8abf5_9 : decode cJ0_length_8abf5 9 = .ok (.ishr, 1) := by decide +kernel
theorem dJ0_length_8abf5_10 : decode cJ0_length_8abf5 10 = .ok (.ireturn, 1) := by decide +kernel
theorem dJ0_charAt_5068e_0 : decode cJ0_charAt_5068e 0 = .ok (.aload_n 0, 1) := by decide +kernel
theorem dJ0_charAt_5068e_1 : decode cJ0_charAt_5068e 1 = .ok (.invokevirtual 492, 3) := by decide +kernel
theorem dJ0_charAt_5068e_4 : decode cJ0_charAt_5068e 4 = .ok (.ifCond .eq 12, 3) := by decide +kernel
theorem dJ0_charAt_5068e_7 : decode cJ0_charAt_5068e 7 = .ok (.aload_n 0, 1) := by decide +kernel
theorem dJ0_charAt_5068e_8 : decode cJ0_charAt_5068e 8 = .ok (.getfield 9, 3) := by decide +kernel
theorem dJ0_charAt_5068e_11 : decode cJ0_charAt_5068e 11 = .ok (.iload_n 1, 1) := by decide +kernel
theorem dJ0_charAt_5068e_12 : decode cJ0_charAt_5068e 12 = .ok (.invokestatic 495, 3) := by decide +kernel
theorem dJ0_charAt_5068e_15 : decode cJ0_charAt_5068e 15 = .ok (.ireturn, 1) := by decide +kernel
theorem dJ0_charAt_5068e_16 : decode cJ0_charAt_5068e 16 = .ok (.aload_n 0, 1) := by decide +kernel
theorem dJ0_charAt_5068e_17 : decode cJ0_charAt_5068e 17 = .ok (.getfield 9, 3) := by decide +kernel
theorem dJ0_charAt_5068e_20 : decode cJ0_charAt_5068e 20 = .ok (.iload_n 1, 1) := by decide +kernel
theorem dJ0_charAt_5068e_21 : decode cJ0_charAt_5068e 21 = .ok (.invokestatic 498, 3) := by decide +kernel
theorem dJ0_charAt_5068e_24 : decode cJ0_charAt_5068e 24 = .ok (.ireturn, 1) := by decide +kernel
theorem dJ0_coder_7d493_0 : decode cJ0_coder_7d493 0 = .ok (.getstatic 38, 3) := by decide +kernel
theorem dJ0_coder_7d493_3 : decode cJ0_coder_7d493 3 = .ok (.ifCond .eq 10, 3) := by decide +kernel
theorem dJ0_coder_7d493_6 : decode cJ0_coder_7d493 6 = .ok (.aload_n 0, 1) := by decide +kernel
theorem dJ0_coder_7d493_7 : decode cJ0_coder_7d493 7 = .ok (.getfield 15, 3) := by decide +kernel
theorem dJ0_coder_7d493_10 : decode cJ0_coder_7d493 10 = .ok (.goto 4, 3) := by decide +kernel
theorem dJ0_coder_7d493_13 : decode cJ0_coder_7d493 13 = .ok (.iconst 1, 1) := by decide +kernel
theorem dJ0_coder_7d493_14 : decode cJ0_coder_7d493 14 = .ok (.ireturn, 1) := by decide +kernel
theorem dJ0_isLatin1_aae02_0 : decode cJ0_isLatin1_aae02 0 = .ok (.getstatic 38, 3) := by decide +kernel
theorem dJ0_isLatin1_aae02_3 : decode cJ0_isLatin1_aae02 3 = .ok (.ifCond .eq 14, 3) := by decide +kernel
theorem dJ0_isLatin1_aae02_6 : decode cJ0_isLatin1_aae02 6 = .ok (.aload_n 0, 1) := by decide +kernel
theorem dJ0_isLatin1_aae02_7 : decode cJ0_isLatin1_aae02 7 = .ok (.getfield 15, 3) := by decide +kernel
theorem dJ0_isLatin1_aae02_10 : decode cJ0_isLatin1_aae02 10 = .ok (.ifCond .ne 7, 3) := by decide +kernel
theorem dJ0_isLatin1_aae02_13 : decode cJ0_isLatin1_aae02 13 = .ok (.iconst 1, 1) := by decide +kernel
theorem dJ0_isLatin1_aae02_14 : decode cJ0_isLatin1_aae02 14 = .ok (.goto 4, 3) := by decide +kernel
theorem dJ0_isLatin1_aae02_17 : decode cJ0_isLatin1_aae02 17 = .ok (.iconst 0, 1) := by decide +kernel
theorem dJ0_isLatin1_aae02_18 : decode cJ0_isLatin1_aae02 18 = .ok (.ireturn, 1) := by decide +kernel
theorem dJ0_checkIndex_df160_0 : decode cJ0_checkIndex_df160 0 = .ok (.iload_n 0, 1) := by decide +kernel
theorem dJ0_checkIndex_df160_1 : decode cJ0_checkIndex_df160 1 = .ok (.iload_n 1, 1) := by decide +kernel
theorem dJ0_checkIndex_df160_2 : decode cJ0_checkIndex_df160 2 = .ok (.getstatic 1053, 3) := by decide +kernel
theorem dJ0_checkIndex_df160_5 : decode cJ0_checkIndex_df160 5 = .ok (.invokestatic 1059, 3) := by decide +kernel
theorem dJ0_checkIndex_df160_8 : decode cJ0_checkIndex_df160 8 = .ok (.pop, 1) := by decide +kernel
theorem dJ0_checkIndex_df160_9 : decode cJ0_checkIndex_df160 9 = .ok (.return_, 1) := by decide +kernel
theorem dJ1_charAt_3b067_0 : decode cJ1_charAt_3b067 0 = .ok (.iload_n 1, 1) := by decide +kernel
theorem dJ1_charAt_3b067_1 : decode cJ1_charAt_3b067 1 = .ok (.aload_n 0, 1) := by decide +kernel
theorem dJ1_charAt_3b067_2 : decode cJ1_charAt_3b067 2 = .ok (.arraylength, 1) := by decide +kernel
theorem dJ1_charAt_3b067_3 : decode cJ1_charAt_3b067 3 = .ok (.invokestatic 9, 3) := by decide +kernel
theorem dJ1_charAt_3b067_6 : decode cJ1_charAt_3b067 6 = .ok (.aload_n 0, 1) := by decide +kernel
theorem dJ1_charAt_3b067_7 : decode cJ1_charAt_3b067 7 = .ok (.iload_n 1, 1) := by decide +kernel
theorem dJ1_charAt_3b067_8 : decode cJ1_charAt_3b067 8 = .ok (.baload, 1) := by decide +kernel
theorem dJ1_charAt_3b067_9 : decode cJ1_charAt_3b067 9 = .ok (.sipush 255, 3) := by decide +kernel
theorem dJ1_charAt_3b067_12 : decode cJ1_charAt_3b067 12 = .ok (.iand, 1) := by decide +kernel
theorem dJ1_charAt_3b067_13 : decode cJ1_charAt_3b067 13 = .ok (.i2c, 1) := by decide +kernel
theorem dJ1_charAt_3b067_14 : decode cJ1_charAt_3b067 14 = .ok (.ireturn, 1) := by decide +kernel
theorem dJ2_getChar_3b067_0 : decode cJ2_getChar_3b067 0 = .ok (.getstatic 44, 3) := by decide +kernel
theorem dJ2_getChar_3b067_3 : decode cJ2_getChar_3b067 3 = .ok (.ifCond .ne 25, 3) := by decide +kernel
theorem dJ2_getChar_3b067_6 : decode cJ2_getChar_3b067 6 = .ok (.iload_n 1, 1) := by decide +kernel
theorem dJ2_getChar_3b067_7 : decode cJ2_getChar_3b067 7 = .ok (.ifCond .lt 11, 3) := by decide +kernel
theorem dJ2_getChar_3b067_10 : decode cJ2_getChar_3b067 10 = .ok (.iload_n 1, 1) := by decide +kernel
theorem dJ2_getChar_3b067_11 : decode cJ2_getChar_3b067 11 = .ok (.aload_n 0, 1) := by decide +kernel
theorem dJ2_getChar_3b067_12 : decode cJ2_getChar_3b067 12 = .ok (.invokestatic 48, 3) := by decide +kernel
theorem dJ2_getChar_3b067_15 : decode cJ2_getChar_3b067 15 = .ok (.if_icmp .lt 13, 3) := by decide +kernel
theorem dJ2_getChar_3b067_18 : decode cJ2_getChar_3b067 18 = .ok (.new 52, 3) := by decide +kernel
theorem dJ2_getChar_3b067_21 : decode cJ2_getChar_3b067 21 = .ok (.dup, 1) := by decide +kernel
theorem dJ2_getChar_3b067_22 : decode cJ2_getChar_3b067 22 = .ok (.ldc 54, 2) := by decide +kernel
theorem dJ2_getChar_3b067_24 : decode cJ2_getChar_3b067 24 = .ok (.invokespecial 56, 3) := by decide +kernel
theorem dJ2_getChar_3b067_27 : decode cJ2_getChar_3b067 27 = .ok (.athrow, 1) := by decide +kernel
theorem dJ2_getChar_3b067_28 : decode cJ2_getChar_3b067 28 = .ok (.iload_n 1, 1) := by decide +kernel
theorem dJ2_getChar_3b067_29 : decode cJ2_getChar_3b067 29 = .ok (.iconst 1, 1) := by decide +kernel
theorem dJ2_getChar_3b067_30 : decode cJ2_getChar_3b067 30 = .ok (.ishl, 1) := by decide +kernel
theorem dJ2_getChar_3b067_31 : decode cJ2_getChar_3b067 31 = .ok (.istore_n 1, 1) := by decide +kernel
theorem dJ2_getChar_3b067_32 : decode cJ2_getChar_3b067 32 = .ok (.aload_n 0, 1) := by decide +kernel
theorem dJ2_getChar_3b067_33 : decode cJ2_getChar_3b067 33 = .ok (.iload_n 1, 1) := by decide +kernel
theorem dJ2_getChar_3b067_34 : decode cJ2_getChar_3b067 34 = .ok (.iinc 1 1, 3) := by decide +kernel
theorem dJ2_getChar_3b067_37 : decode cJ2_getChar_3b067 37 = .ok (.baload, 1) := by decide +kernel
theorem dJ2_getChar_3b067_38 : decode cJ2_getChar_3b067 38 = .ok (.sipush 255, 3) := by decide +kernel
theorem dJ2_getChar_3b067_41 : decode cJ2_getChar_3b067 41 = .ok (.iand, 1) := by decide +kernel
theorem dJ2_getChar_3b067_42 : decode cJ2_getChar_3b067 42 = .ok (.getstatic 59, 3) := by decide +kernel
theorem dJ2_getChar_3b067_45 : decode cJ2_getChar_3b067 45 = .ok (.ishl, 1) := by decide +kernel
theorem dJ2_getChar_3b067_46 : decode cJ2_getChar_3b067 46 = .ok (.aload_n 0, 1) := by decide +kernel
theorem dJ2_getChar_3b067_47 : decode cJ2_getChar_3b067 47 = .ok (.iload_n 1, 1) := by decide +kernel
theorem dJ2_getChar_3b067_48 : decode cJ2_getChar_3b067 48 = .ok (.baload, 1) := by decide +kernel
theorem dJ2_getChar_3b067_49 : decode cJ2_getChar_3b067 49 = .ok (.sipush 255, 3) := by decide +kernel
theorem dJ2_getChar_3b067_52 : decode cJ2_getChar_3b067 52 = .ok (.iand, 1) := by decide +kernel
theorem dJ2_getChar_3b067_53 : decode cJ2_getChar_3b067 53 = .ok (.getstatic 63, 3) := by decide +kernel
theorem dJ2_getChar_3b067_56 : decode cJ2_getChar_3b067 56 = .ok (.ishl, 1) := by decide +kernel
theorem dJ2_getChar_3b067_57 : decode cJ2_getChar_3b067 57 = .ok (.ior, 1) := by decide +kernel
theorem dJ2_getChar_3b067_58 : decode cJ2_getChar_3b067 58 = .ok (.i2c, 1) := by decide +kernel
theorem dJ2_getChar_3b067_59 : decode cJ2_getChar_3b067 59 = .ok (.ireturn, 1) := by decide +kernel
theorem dJ2_length_9d52b_0 : decode cJ2_length_9d52b 0 = .ok (.aload_n 0, 1) := by decide +kernel
theorem dJ2_length_9d52b_1 : decode cJ2_length_9d52b 1 = .ok (.arraylength, 1) := by decide +kernel
theorem dJ2_length_9d52b_2 : decode cJ2_length_9d52b 2 = .ok (.iconst 1, 1) := by decide +kernel
theorem dJ2_length_9d52b_3 : decode cJ2_length_9d52b 3 = .ok (.ishr, 1) := by decide +kernel
theorem dJ2_length_9d52b_4 : decode cJ2_length_9d52b 4 = .ok (.ireturn, 1) := by decide +kernel
theorem dJ2_charAt_3b067_0 : decode cJ2_charAt_3b067 0 = .ok (.iload_n 1, 1) := by decide +kernel
theorem dJ2_charAt_3b067_1 : decode cJ2_charAt_3b067 1 = .ok (.aload_n 0, 1) := by decide +kernel
theorem dJ2_charAt_3b067_2 : decode cJ2_charAt_3b067 2 = .ok (.invokestatic 67, 3) := by decide +kernel
theorem dJ2_charAt_3b067_5 : decode cJ2_charAt_3b067 5 = .ok (.aload_n 0, 1) := by decide +kernel
theorem dJ2_charAt_3b067_6 : decode cJ2_charAt_3b067 6 = .ok (.iload_n 1, 1) := by decide +kernel
theorem dJ2_charAt_3b067_7 : decode cJ2_charAt_3b067 7 = .ok (.invokestatic 71, 3) := by decide +kernel
theorem dJ2_charAt_3b067_10 : decode cJ2_charAt_3b067 10 = .ok (.ireturn, 1) := by decide +kernel
theorem dJ2_checkIndex_2214a_0 : decode cJ2_checkIndex_2214a 0 = .ok (.iload_n 0, 1) := by decide +kernel
theorem dJ2_checkIndex_2214a_1 : decode cJ2_checkIndex_2214a 1 = .ok (.aload_n 1, 1) := by decide +kernel
theorem dJ2_checkIndex_2214a_2 : decode cJ2_checkIndex_2214a 2 = .ok (.invokestatic 48, 3) := by decide +kernel
theorem dJ2_checkIndex_2214a_5 : decode cJ2_checkIndex_2214a 5 = .ok (.invokestatic 414, 3) := by decide +kernel
theorem dJ2_checkIndex_2214a_8 : decode cJ2_checkIndex_2214a 8 = .ok (.return_, 1) := by decide +kernel
theorem dJ3_checkIndex_8e157_0 : decode cJ3_checkIndex_8e157 0 = .ok (.iload_n 0, 1) := by decide +kernel
theorem dJ3_checkIndex_8e157_1 : decode cJ3_checkIndex_8e157 1 = .ok (.ifCond .lt 8, 3) := by decide +kernel
theorem dJ3_checkIndex_8e157_4 : decode cJ3_checkIndex_8e157 4 = .ok (.iload_n 0, 1) := by decide +kernel
theorem dJ3_checkIndex_8e157_5 : decode cJ3_checkIndex_8e157 5 = .ok (.iload_n 1, 1) := by decide +kernel
theorem dJ3_checkIndex_8e157_6 : decode cJ3_checkIndex_8e157 6 = .ok (.if_icmp .lt 10, 3) := by decide +kernel
theorem dJ3_checkIndex_8e157_9 : decode cJ3_checkIndex_8e157 9 = .ok (.aload_n 2, 1) := by decide +kernel
theorem dJ3_checkIndex_8e157_10 : decode cJ3_checkIndex_8e157 10 = .ok (.iload_n 0, 1) := by decide +kernel
theorem dJ3_checkIndex_8e157_11 : decode cJ3_checkIndex_8e157 11 = .ok (.iload_n 1, 1) := by decide +kernel
theorem dJ3_checkIndex_8e157_12 : decode cJ3_checkIndex_8e157 12 = .ok (.invokestatic 95, 3) := by decide +kernel
theorem dJ3_checkIndex_8e157_15 : decode cJ3_checkIndex_8e157 15 = .ok (.athrow, 1) := by decide +kernel
theorem dJ3_checkIndex_8e157_16 : decode cJ3_checkIndex_8e157 16 = .ok (.iload_n 0, 1) := by decide +kernel
theorem dJ3_checkIndex_8e157_17 : decode cJ3_checkIndex_8e157 17 = .ok (.ireturn, 1) := by decide +kernel
theorem dL_law_0 : decode cL_law 0 = .ok (.new 7, 3) := by decide +kernel
theorem dL_law_3 : decode cL_law 3 = .ok (.dup, 1) := by decide +kernel
theorem dL_law_4 : decode cL_law 4 = .ok (.invokespecial 9, 3) := by decide +kernel
theorem dL_law_7 : decode cL_law 7 = .ok (.astore_n 1, 1) := by decide +kernel
theorem dL_law_8 : decode cL_law 8 = .ok (.new 10, 3) := by decide +kernel
theorem dL_law_11 : decode cL_law 11 = .ok (.dup, 1) := by decide +kernel
theorem dL_law_12 : decode cL_law 12 = .ok (.invokespecial 12, 3) := by decide +kernel
theorem dL_law_15 : decode cL_law 15 = .ok (.astore_n 2, 1) := by decide +kernel
theorem dL_law_16 : decode cL_law 16 = .ok (.iconst 0, 1) := by decide +kernel
theorem dL_law_17 : decode cL_law 17 = .ok (.istore_n 3, 1) := by decide +kernel
theorem dL_law_18 : decode cL_law 18 = .ok (.iload_n 3, 1) := by decide +kernel
theorem dL_law_19 : decode cL_law 19 = .ok (.aload_n 0, 1) := by decide +kernel
theorem dL_law_20 : decode cL_law 20 = .ok (.arraylength, 1) := by decide +kernel
theorem dL_law_21 : decode cL_law 21 = .ok (.iconst 5, 1) := by decide +kernel
theorem dL_law_22 : decode cL_law 22 = .ok (.isub, 1) := by decide +kernel
theorem dL_law_23 : decode cL_law 23 = .ok (.if_icmp .gt 1105, 3) := by decide +kernel
theorem dL_law_26 : decode cL_law 26 = .ok (.aload_n 0, 1) := by decide +kernel
theorem dL_law_27 : decode cL_law 27 = .ok (.iload_n 3, 1) := by decide +kernel
theorem dL_law_28 : decode cL_law 28 = .ok (.iaload, 1) := by decide +kernel
theorem dL_law_29 : decode cL_law 29 = .ok (.bipush 31, 2) := by decide +kernel
theorem dL_law_31 : decode cL_law 31 = .ok (.iand, 1) := by decide +kernel
theorem dL_law_32 : decode cL_law 32 = .ok (.tableswitch 1090 0 30 #[140, 203, 266, 279, 302, 325, 378, 411, 460, 503, 546, 579, 602, 645, 658, 681, 714, 737, 750, 783, 816, 850, 873, 906, 919, 942, 985, 1008, 1041, 1054, 1067], 140) := by decide +kernel
theorem dL_law_172 : decode cL_law 172 = .ok (.aload_n 1, 1) := by decide +kernel
theorem dL_law_173 : decode cL_law 173 = .ok (.aload_n 0, 1) := by decide +kernel
theorem dL_law_174 : decode cL_law 174 = .ok (.iload_n 3, 1) := by decide +kernel
theorem dL_law_175 : decode cL_law 175 = .ok (.iconst 1, 1) := by decide +kernel
theorem dL_law_176 : decode cL_law 176 = .ok (.iadd, 1) := by decide +kernel
theorem dL_law_177 : decode cL_law 177 = .ok (.iaload, 1) := by decide +kernel
theorem dL_law_178 : decode cL_law 178 = .ok (.aload_n 0, 1) := by decide +kernel
theorem dL_law_179 : decode cL_law 179 = .ok (.iload_n 3, 1) := by decide +kernel
theorem dL_law_180 : decode cL_law 180 = .ok (.iconst 2, 1) := by decide +kernel
theorem dL_law_181 : decode cL_law 181 = .ok (.iadd, 1) := by decide +kernel
theorem dL_law_182 : decode cL_law 182 = .ok (.iaload, 1) := by decide +kernel
theorem dL_law_183 : decode cL_law 183 = .ok (.i2l, 1) := by decide +kernel
theorem dL_law_184 : decode cL_law 184 = .ok (.bipush 32, 2) := by decide +kernel
theorem dL_law_186 : decode cL_law 186 = .ok (.lshl, 1) := by decide +kernel
theorem dL_law_187 : decode cL_law 187 = .ok (.aload_n 0, 1) := by decide +kernel
theorem dL_law_188 : decode cL_law 188 = .ok (.iload_n 3, 1) := by decide +kernel
theorem dL_law_189 : decode cL_law 189 = .ok (.iconst 3, 1) := by decide +kernel
theorem dL_law_190 : decode cL_law 190 = .ok (.iadd, 1) := by decide +kernel
theorem dL_law_191 : decode cL_law 191 = .ok (.iaload, 1) := by decide +kernel
theorem dL_law_192 : decode cL_law 192 = .ok (.i2l, 1) := by decide +kernel
theorem dL_law_193 : decode cL_law 193 = .ok (.ldc2_w 13, 3) := by decide +kernel
theorem dL_law_196 : decode cL_law 196 = .ok (.land, 1) := by decide +kernel
theorem dL_law_197 : decode cL_law 197 = .ok (.lor, 1) := by decide +kernel
theorem dL_law_198 : decode cL_law 198 = .ok (.invokevirtual 15, 3) := by decide +kernel
theorem dL_law_201 : decode cL_law 201 = .ok (.aload_n 2, 1) := by decide +kernel
theorem dL_law_202 : decode cL_law 202 = .ok (.aload_n 0, 1) := by decide +kernel
theorem dL_law_203 : decode cL_law 203 = .ok (.iload_n 3, 1) := by decide +kernel
theorem dL_law_204 : decode cL_law 204 = .ok (.iconst 1, 1) := by decide +kernel
theorem dL_law_205 : decode cL_law 205 = .ok (.iadd, 1) := by decide +kernel
theorem dL_law_206 : decode cL_law 206 = .ok (.iaload, 1) := by decide +kernel
theorem dL_law_207 : decode cL_law 207 = .ok (.aload_n 0, 1) := by decide +kernel
theorem dL_law_208 : decode cL_law 208 = .ok (.iload_n 3, 1) := by decide +kernel
theorem dL_law_209 : decode cL_law 209 = .ok (.iconst 2, 1) := by decide +kernel
theorem dL_law_210 : decode cL_law 210 = .ok (.iadd, 1) := by decide +kernel
theorem dL_law_211 : decode cL_law 211 = .ok (.iaload, 1) := by decide +kernel
theorem dL_law_212 : decode cL_law 212 = .ok (.i2l, 1) := by decide +kernel
theorem dL_law_213 : decode cL_law 213 = .ok (.bipush 32, 2) := by decide +kernel
theorem dL_law_215 : decode cL_law 215 = .ok (.lshl, 1) := by decide +kernel
theorem dL_law_216 : decode cL_law 216 = .ok (.aload_n 0, 1) := by decide +kernel
theorem dL_law_217 : decode cL_law 217 = .ok (.iload_n 3, 1) := by decide +kernel
theorem dL_law_218 : decode cL_law 218 = .ok (.iconst 3, 1) := by decide +kernel
theorem dL_law_219 : decode cL_law 219 = .ok (.iadd, 1) := by decide +kernel
theorem dL_law_220 : decode cL_law 220 = .ok (.iaload, 1) := by decide +kernel
theorem dL_law_221 : decode cL_law 221 = .ok (.i2l, 1) := by decide +kernel
theorem dL_law_222 : decode cL_law 222 = .ok (.ldc2_w 13, 3) := by decide +kernel
theorem dL_law_225 : decode cL_law 225 = .ok (.land, 1) := by decide +kernel
theorem dL_law_226 : decode cL_law 226 = .ok (.lor, 1) := by decide +kernel
theorem dL_law_227 : decode cL_law 227 = .ok (.invokevirtual 19, 3) := by decide +kernel
theorem dL_law_230 : decode cL_law 230 = .ok (.if_icmp .eq 892, 3) := by decide +kernel
theorem dL_law_233 : decode cL_law 233 = .ok (.iconst 0, 1) := by decide +kernel
theorem dL_law_234 : decode cL_law 234 = .ok (.ireturn, 1) := by decide +kernel
theorem dL_law_235 : decode cL_law 235 = .ok (.aload_n 1, 1) := by decide +kernel
theorem dL_law_236 : decode cL_law 236 = .ok (.aload_n 0, 1) := by decide +kernel
theorem dL_law_237 : decode cL_law 237 = .ok (.iload_n 3, 1) := by decide +kernel
theorem dL_law_238 : decode cL_law 238 = .ok (.iconst 1, 1) := by decide +kernel
theorem dL_law_239 : decode cL_law 239 = .ok (.iadd, 1) := by decide +kernel
theorem dL_law_240 : decode cL_law 240 = .ok (.iaload, 1) := by decide +kernel
theorem dL_law_241 : decode cL_law 241 = .ok (.i2l, 1) := by decide +kernel
theorem dL_law_242 : decode cL_law 242 = .ok (.bipush 32, 2) := by decide +kernel
theorem dL_law_244 : decode cL_law 244 = .ok (.lshl, 1) := by decide +kernel
theorem dL_law_245 : decode cL_law 245 = .ok (.aload_n 0, 1) := by decide +kernel
theorem dL_law_246 : decode cL_law 246 = .ok (.iload_n 3, 1) := by decide +kernel
theorem dL_law_247 : decode cL_law 247 = .ok (.iconst 2, 1) := by decide +kernel
theorem dL_law_248 : decode cL_law 248 = .ok (.iadd, 1) := by decide +kernel
theorem dL_law_249 : decode cL_law 249 = .ok (.iaload, 1) := by decide +kernel
theorem dL_law_250 : decode cL_law 250 = .ok (.i2l, 1) := by decide +kernel
theorem dL_law_251 : decode cL_law 251 = .ok (.ldc2_w 13, 3) := by decide +kernel
theorem dL_law_254 : decode cL_law 254 = .ok (.land, 1) := by decide +kernel
theorem dL_law_255 : decode cL_law 255 = .ok (.lor, 1) := by decide +kernel
theorem dL_law_256 : decode cL_law 256 = .ok (.aload_n 0, 1) := by decide +kernel
theorem dL_law_257 : decode cL_law 257 = .ok (.iload_n 3, 1) := by decide +kernel
theorem dL_law_258 : decode cL_law 258 = .ok (.iconst 3, 1) := by decide +kernel
theorem dL_law_259 : decode cL_law 259 = .ok (.iadd, 1) := by decide +kernel
theorem dL_law_260 : decode cL_law 260 = .ok (.iaload, 1) := by decide +kernel
theorem dL_law_261 : decode cL_law 261 = .ok (.invokevirtual 20, 3) := by decide +kernel
theorem dL_law_264 : decode cL_law 264 = .ok (.aload_n 2, 1) := by decide +kernel
theorem dL_law_265 : decode cL_law 265 = .ok (.aload_n 0, 1) := by decide +kernel
theorem dL_law_266 : decode cL_law 266 = .ok (.iload_n 3, 1) := by decide +kernel
theorem dL_law_267 : decode cL_law 267 = .ok (.iconst 1, 1) := by decide +kernel
theorem dL_law_268 : decode cL_law 268 = .ok (.iadd, 1) := by decide +kernel
theorem dL_law_269 : decode cL_law 269 = .ok (.iaload, 1) := by decide +kernel
theorem dL_law_270 : decode cL_law 270 = .ok (.i2l, 1) := by decide +kernel
theorem dL_law_271 : decode cL_law 271 = .ok (.bipush 32, 2) := by decide +kernel
theorem dL_law_273 : decode cL_law 273 = .ok (.lshl, 1) := by decide +kernel
theorem dL_law_274 : decode cL_law 274 = .ok (.aload_n 0, 1) := by decide +kernel
theorem dL_law_275 : decode cL_law 275 = .ok (.iload_n 3, 1) := by decide +kernel
theorem dL_law_276 : decode cL_law 276 = .ok (.iconst 2, 1) := by decide +kernel
theorem dL_law_277 : decode cL_law 277 = .ok (.iadd, 1) := by decide +kernel
theorem dL_law_278 : decode cL_law 278 = .ok (.iaload, 1) := by decide +kernel
theorem dL_law_279 : decode cL_law 279 = .ok (.i2l, 1) := by decide +kernel
theorem dL_law_280 : decode cL_law 280 = .ok (.ldc2_w 13, 3) := by decide +kernel
theorem dL_law_283 : decode cL_law 283 = .ok (.land, 1) := by decide +kernel
theorem dL_law_284 : decode cL_law 284 = .ok (.lor, 1) := by decide +kernel
theorem dL_law_285 : decode cL_law 285 = .ok (.aload_n 0, 1) := by decide +kernel
theorem dL_law_286 : decode cL_law 286 = .ok (.iload_n 3, 1) := by decide +kernel
theorem dL_law_287 : decode cL_law 287 = .ok (.iconst 3, 1) := by decide +kernel
theorem dL_law_288 : decode cL_law 288 = .ok (.iadd, 1) := by decide +kernel
theorem dL_law_289 : decode cL_law 289 = .ok (.iaload, 1) := by decide +kernel
theorem dL_law_290 : decode cL_law 290 = .ok (.invokevirtual 24, 3) := by decide +kernel
theorem dL_law_293 : decode cL_law 293 = .ok (.if_icmp .eq 829, 3) := by decide +kernel
theorem dL_law_296 : decode cL_law 296 = .ok (.iconst 0, 1) := by decide +kernel
theorem dL_law_297 : decode cL_law 297 = .ok (.ireturn, 1) := by decide +kernel
theorem dL_law_298 : decode cL_law 298 = .ok (.aload_n 1, 1) := by decide +kernel
theorem dL_law_299 : decode cL_law 299 = .ok (.invokevirtual 25, 3) := by decide +kernel
theorem dL_law_302 : decode cL_law 302 = .ok (.aload_n 2, 1) := by decide +kernel
theorem dL_law_303 : decode cL_law 303 = .ok (.invokevirtual 29, 3) := by decide +kernel
theorem dL_law_306 : decode cL_law 306 = .ok (.if_icmp .eq 816, 3) := by decide +kernel
theorem dL_law_309 : decode cL_law 309 = .ok (.iconst 0, 1) := by decide +kernel
theorem dL_law_310 : decode cL_law 310 = .ok (.ireturn, 1) := by decide +kernel
theorem dL_law_311 : decode cL_law 311 = .ok (.aload_n 1, 1) := by decide +kernel
theorem dL_law_312 : decode cL_law 312 = .ok (.aload_n 0, 1) := by decide +kernel
theorem dL_law_313 : decode cL_law 313 = .ok (.iload_n 3, 1) := by decide +kernel
theorem dL_law_314 : decode cL_law 314 = .ok (.iconst 1, 1) := by decide +kernel
theorem dL_law_315 : decode cL_law 315 = .ok (.iadd, 1) := by decide +kernel
theorem dL_law_316 : decode cL_law 316 = .ok (.iaload, 1) := by decide +kernel
theorem dL_law_317 : decode cL_law 317 = .ok (.invokevirtual 30, 3) := by decide +kernel
theorem dL_law_320 : decode cL_law 320 = .ok (.aload_n 2, 1) := by decide +kernel
theorem dL_law_321 : decode cL_law 321 = .ok (.aload_n 0, 1) := by decide +kernel
theorem dL_law_322 : decode cL_law 322 = .ok (.iload_n 3, 1) := by decide +kernel
theorem dL_law_323 : decode cL_law 323 = .ok (.iconst 1, 1) := by decide +kernel
theorem dL_law_324 : decode cL_law 324 = .ok (.iadd, 1) := by decide +kernel
theorem dL_law_325 : decode cL_law 325 = .ok (.iaload, 1) := by decide +kernel
theorem dL_law_326 : decode cL_law 326 = .ok (.invokevirtual 34, 3) := by decide +kernel
theorem dL_law_329 : decode cL_law 329 = .ok (.if_icmp .eq 793, 3) := by decide +kernel
theorem dL_law_332 : decode cL_law 332 = .ok (.iconst 0, 1) := by decide +kernel
theorem dL_law_333 : decode cL_law 333 = .ok (.ireturn, 1) := by decide +kernel
theorem dL_law_334 : decode cL_law 334 = .ok (.aload_n 1, 1) := by decide +kernel
theorem dL_law_335 : decode cL_law 335 = .ok (.aload_n 0, 1) := by decide +kernel
theorem dL_law_336 : decode cL_law 336 = .ok (.iload_n 3, 1) := by decide +kernel
theorem dL_law_337 : decode cL_law 337 = .ok (.iconst 1, 1) := by decide +kernel
theorem dL_law_338 : decode cL_law 338 = .ok (.iadd, 1) := by decide +kernel
theorem dL_law_339 : decode cL_law 339 = .ok (.iaload, 1) := by decide +kernel
theorem dL_law_340 : decode cL_law 340 = .ok (.invokevirtual 35, 3) := by decide +kernel
theorem dL_law_343 : decode cL_law 343 = .ok (.aload_n 2, 1) := by decide +kernel
theorem dL_law_344 : decode cL_law 344 = .ok (.aload_n 0, 1) := by decide +kernel
theorem dL_law_345 : decode cL_law 345 = .ok (.iload_n 3, 1) := by decide +kernel
theorem dL_law_346 : decode cL_law 346 = .ok (.iconst 1, 1) := by decide +kernel
theorem dL_law_347 : decode cL_law 347 = .ok (.iadd, 1) := by decide +kernel
theorem dL_law_348 : decode cL_law 348 = .ok (.iaload, 1) := by decide +kernel
theorem dL_law_349 : decode cL_law 349 = .ok (.invokevirtual 38, 3) := by decide +kernel
theorem dL_law_352 : decode cL_law 352 = .ok (.if_icmp .eq 770, 3) := by decide +kernel
theorem dL_law_355 : decode cL_law 355 = .ok (.iconst 0, 1) := by decide +kernel
theorem dL_law_356 : decode cL_law 356 = .ok (.ireturn, 1) := by decide +kernel
theorem dL_law_357 : decode cL_law 357 = .ok (.aload_n 1, 1) := by decide +kernel
theorem dL_law_358 : decode cL_law 358 = .ok (.aload_n 0, 1) := by decide +kernel
theorem dL_law_359 : decode cL_law 359 = .ok (.iload_n 3, 1) := by decide +kernel
theorem dL_law_360 : decode cL_law 360 = .ok (.iconst 1, 1) := by decide +kernel
theorem dL_law_361 : decode cL_law 361 = .ok (.iadd, 1) := by decide +kernel
theorem dL_law_362 : decode cL_law 362 = .ok (.iaload, 1) := by decide +kernel
theorem dL_law_363 : decode cL_law 363 = .ok (.aload_n 0, 1) := by decide +kernel
theorem dL_law_364 : decode cL_law 364 = .ok (.iload_n 3, 1) := by decide +kernel
theorem dL_law_365 : decode cL_law 365 = .ok (.iconst 2, 1) := by decide +kernel
theorem dL_law_366 : decode cL_law 366 = .ok (.iadd, 1) := by decide +kernel
theorem dL_law_367 : decode cL_law 367 = .ok (.iaload, 1) := by decide +kernel
theorem dL_law_368 : decode cL_law 368 = .ok (.aload_n 0, 1) := by decide +kernel
theorem dL_law_369 : decode cL_law 369 = .ok (.iload_n 3, 1) := by decide +kernel
theorem dL_law_370 : decode cL_law 370 = .ok (.iconst 3, 1) := by decide +kernel
theorem dL_law_371 : decode cL_law 371 = .ok (.iadd, 1) := by decide +kernel
theorem dL_law_372 : decode cL_law 372 = .ok (.iaload, 1) := by decide +kernel
theorem dL_law_373 : decode cL_law 373 = .ok (.aload_n 0, 1) := by decide +kernel
theorem dL_law_374 : decode cL_law 374 = .ok (.iload_n 3, 1) := by decide +kernel
theorem dL_law_375 : decode cL_law 375 = .ok (.iconst 4, 1) := by decide +kernel
theorem dL_law_376 : decode cL_law 376 = .ok (.iadd, 1) := by decide +kernel
theorem dL_law_377 : decode cL_law 377 = .ok (.iaload, 1) := by decide +kernel
theorem dL_law_378 : decode cL_law 378 = .ok (.invokevirtual 39, 3) := by decide +kernel
theorem dL_law_381 : decode cL_law 381 = .ok (.aload_n 2, 1) := by decide +kernel
theorem dL_law_382 : decode cL_law 382 = .ok (.aload_n 0, 1) := by decide +kernel
theorem dL_law_383 : decode cL_law 383 = .ok (.iload_n 3, 1) := by decide +kernel
theorem dL_law_384 : decode cL_law 384 = .ok (.iconst 1, 1) := by decide +kernel
theorem dL_law_385 : decode cL_law 385 = .ok (.iadd, 1) := by decide +kernel
theorem dL_law_386 : decode cL_law 386 = .ok (.iaload, 1) := by decide +kernel
theorem dL_law_387 : decode cL_law 387 = .ok (.aload_n 0, 1) := by decide +kernel
theorem dL_law_388 : decode cL_law 388 = .ok (.iload_n 3, 1) := by decide +kernel
theorem dL_law_389 : decode cL_law 389 = .ok (.iconst 2, 1) := by decide +kernel
theorem dL_law_390 : decode cL_law 390 = .ok (.iadd, 1) := by decide +kernel
theorem dL_law_391 : decode cL_law 391 = .ok (.iaload, 1) := by decide +kernel
theorem dL_law_392 : decode cL_law 392 = .ok (.aload_n 0, 1) := by decide +kernel
theorem dL_law_393 : decode cL_law 393 = .ok (.iload_n 3, 1) := by decide +kernel
theorem dL_law_394 : decode cL_law 394 = .ok (.iconst 3, 1) := by decide +kernel
theorem dL_law_395 : decode cL_law 395 = .ok (.iadd, 1) := by decide +kernel
theorem dL_law_396 : decode cL_law 396 = .ok (.iaload, 1) := by decide +kernel
theorem dL_law_397 : decode cL_law 397 = .ok (.aload_n 0, 1) := by decide +kernel
theorem dL_law_398 : decode cL_law 398 = .ok (.iload_n 3, 1) := by decide +kernel
theorem dL_law_399 : decode cL_law 399 = .ok (.iconst 4, 1) := by decide +kernel
theorem dL_law_400 : decode cL_law 400 = .ok (.iadd, 1) := by decide +kernel
theorem dL_law_401 : decode cL_law 401 = .ok (.iaload, 1) := by decide +kernel
theorem dL_law_402 : decode cL_law 402 = .ok (.invokevirtual 43, 3) := by decide +kernel
theorem dL_law_405 : decode cL_law 405 = .ok (.if_icmp .eq 717, 3) := by decide +kernel
theorem dL_law_408 : decode cL_law 408 = .ok (.iconst 0, 1) := by decide +kernel
theorem dL_law_409 : decode cL_law 409 = .ok (.ireturn, 1) := by decide +kernel
theorem dL_law_410 : decode cL_law 410 = .ok (.aload_n 1, 1) := by decide +kernel
theorem dL_law_411 : decode cL_law 411 = .ok (.aload_n 0, 1) := by decide +kernel
theorem dL_law_412 : decode cL_law 412 = .ok (.iload_n 3, 1) := by decide +kernel
theorem dL_law_413 : decode cL_law 413 = .ok (.iconst 1, 1) := by decide +kernel
theorem dL_law_414 : decode cL_law 414 = .ok (.iadd, 1) := by decide +kernel
theorem dL_law_415 : decode cL_law 415 = .ok (.iaload, 1) := by decide +kernel
theorem dL_law_416 : decode cL_law 416 = .ok (.aload_n 0, 1) := by decide +kernel
theorem dL_law_417 : decode cL_law 417 = .ok (.iload_n 3, 1) := by decide +kernel
theorem dL_law_418 : decode cL_law 418 = .ok (.iconst 2, 1) := by decide +kernel
theorem dL_law_419 : decode cL_law 419 = .ok (.iadd, 1) := by decide +kernel
theorem dL_law_420 : decode cL_law 420 = .ok (.iaload, 1) := by decide +kernel
theorem dL_law_421 : decode cL_law 421 = .ok (.invokevirtual 44, 3) := by decide +kernel
theorem dL_law_424 : decode cL_law 424 = .ok (.aload_n 2, 1) := by decide +kernel
theorem dL_law_425 : decode cL_law 425 = .ok (.aload_n 0, 1) := by decide +kernel
theorem dL_law_426 : decode cL_law 426 = .ok (.iload_n 3, 1) := by decide +kernel
theorem dL_law_427 : decode cL_law 427 = .ok (.iconst 1, 1) := by decide +kernel
theorem dL_law_428 : decode cL_law 428 = .ok (.iadd, 1) := by decide +kernel
theorem dL_law_429 : decode cL_law 429 = .ok (.iaload, 1) := by decide +kernel
theorem dL_law_430 : decode cL_law 430 = .ok (.aload_n 0, 1) := by decide +kernel
theorem dL_law_431 : decode cL_law 431 = .ok (.iload_n 3, 1) := by decide +kernel
theorem dL_law_432 : decode cL_law 432 = .ok (.iconst 2, 1) := by decide +kernel
theorem dL_law_433 : decode cL_law 433 = .ok (.iadd, 1) := by decide +kernel
theorem dL_law_434 : decode cL_law 434 = .ok (.iaload, 1) := by decide +kernel
theorem dL_law_435 : decode cL_law 435 = .ok (.invokevirtual 48, 3) := by decide +kernel
theorem dL_law_438 : decode cL_law 438 = .ok (.if_icmp .eq 684, 3) := by decide +kernel
theorem dL_law_441 : decode cL_law 441 = .ok (.iconst 0, 1) := by decide +kernel
theorem dL_law_442 : decode cL_law 442 = .ok (.ireturn, 1) := by decide +kernel
theorem dL_law_443 : decode cL_law 443 = .ok (.aload_n 1, 1) := by decide +kernel
theorem dL_law_444 : decode cL_law 444 = .ok (.aload_n 0, 1) := by decide +kernel
theorem dL_law_445 : decode cL_law 445 = .ok (.iload_n 3, 1) := by decide +kernel
theorem dL_law_446 : decode cL_law 446 = .ok (.iconst 1, 1) := by decide +kernel
theorem dL_law_447 : decode cL_law 447 = .ok (.iadd, 1) := by decide +kernel
theorem dL_law_448 : decode cL_law 448 = .ok (.iaload, 1) := by decide +kernel
theorem dL_law_449 : decode cL_law 449 = .ok (.aload_n 0, 1) := by decide +kernel
theorem dL_law_450 : decode cL_law 450 = .ok (.iload_n 3, 1) := by decide +kernel
theorem dL_law_451 : decode cL_law 451 = .ok (.iconst 2, 1) := by decide +kernel
theorem dL_law_452 : decode cL_law 452 = .ok (.iadd, 1) := by decide +kernel
theorem dL_law_453 : decode cL_law 453 = .ok (.iaload, 1) := by decide +kernel
theorem dL_law_454 : decode cL_law 454 = .ok (.ifCond .eq 7, 3) := by decide +kernel
theorem dL_law_457 : decode cL_law 457 = .ok (.iconst 1, 1) := by decide +kernel
theorem dL_law_458 : decode cL_law 458 = .ok (.goto 4, 3) := by decide +kernel
theorem dL_law_461 : decode cL_law 461 = .ok (.iconst 0, 1) := by decide +kernel
theorem dL_law_462 : decode cL_law 462 = .ok (.invokevirtual 49, 3) := by decide +kernel
theorem dL_law_465 : decode cL_law 465 = .ok (.aload_n 2, 1) := by decide +kernel
theorem dL_law_466 : decode cL_law 466 = .ok (.aload_n 0, 1) := by decide +kernel
theorem dL_law_467 : decode cL_law 467 = .ok (.iload_n 3, 1) := by decide +kernel
theorem dL_law_468 : decode cL_law 468 = .ok (.iconst 1, 1) := by decide +kernel
theorem dL_law_469 : decode cL_law 469 = .ok (.iadd, 1) := by decide +kernel
theorem dL_law_470 : decode cL_law 470 = .ok (.iaload, 1) := by decide +kernel
theorem dL_law_471 : decode cL_law 471 = .ok (.aload_n 0, 1) := by decide +kernel
theorem dL_law_472 : decode cL_law 472 = .ok (.iload_n 3, 1) := by decide +kernel
theorem dL_law_473 : decode cL_law 473 = .ok (.iconst 2, 1) := by decide +kernel
theorem dL_law_474 : decode cL_law 474 = .ok (.iadd, 1) := by decide +kernel
theorem dL_law_475 : decode cL_law 475 = .ok (.iaload, 1) := by decide +kernel
theorem dL_law_476 : decode cL_law 476 = .ok (.ifCond .eq 7, 3) := by decide +kernel
theorem dL_law_479 : decode cL_law 479 = .ok (.iconst 1, 1) := by decide +kernel
theorem dL_law_480 : decode cL_law 480 = .ok (.goto 4, 3) := by decide +kernel
theorem dL_law_483 : decode cL_law 483 = .ok (.iconst 0, 1) := by decide +kernel
theorem dL_law_484 : decode cL_law 484 = .ok (.invokevirtual 53, 3) := by decide +kernel
theorem dL_law_487 : decode cL_law 487 = .ok (.if_icmp .eq 635, 3) := by decide +kernel
theorem dL_law_490 : decode cL_law 490 = .ok (.iconst 0, 1) := by decide +kernel
theorem dL_law_491 : decode cL_law 491 = .ok (.ireturn, 1) := by decide +kernel
theorem dL_law_492 : decode cL_law 492 = .ok (.aload_n 1, 1) := by decide +kernel
theorem dL_law_493 : decode cL_law 493 = .ok (.aload_n 0, 1) := by decide +kernel
theorem dL_law_494 : decode cL_law 494 = .ok (.iload_n 3, 1) := by decide +kernel
theorem dL_law_495 : decode cL_law 495 = .ok (.iconst 1, 1) := by decide +kernel
theorem dL_law_496 : decode cL_law 496 = .ok (.iadd, 1) := by decide +kernel
theorem dL_law_497 : decode cL_law 497 = .ok (.iaload, 1) := by decide +kernel
theorem dL_law_498 : decode cL_law 498 = .ok (.aload_n 0, 1) := by decide +kernel
theorem dL_law_499 : decode cL_law 499 = .ok (.iload_n 3, 1) := by decide +kernel
theorem dL_law_500 : decode cL_law 500 = .ok (.iconst 2, 1) := by decide +kernel
theorem dL_law_501 : decode cL_law 501 = .ok (.iadd, 1) := by decide +kernel
theorem dL_law_502 : decode cL_law 502 = .ok (.iaload, 1) := by decide +kernel
theorem dL_law_503 : decode cL_law 503 = .ok (.aload_n 0, 1) := by decide +kernel
theorem dL_law_504 : decode cL_law 504 = .ok (.iload_n 3, 1) := by decide +kernel
theorem dL_law_505 : decode cL_law 505 = .ok (.iconst 3, 1) := by decide +kernel
theorem dL_law_506 : decode cL_law 506 = .ok (.iadd, 1) := by decide +kernel
theorem dL_law_507 : decode cL_law 507 = .ok (.iaload, 1) := by decide +kernel
theorem dL_law_508 : decode cL_law 508 = .ok (.invokevirtual 54, 3) := by decide +kernel
theorem dL_law_511 : decode cL_law 511 = .ok (.aload_n 2, 1) := by decide +kernel
theorem dL_law_512 : decode cL_law 512 = .ok (.aload_n 0, 1) := by decide +kernel
theorem dL_law_513 : decode cL_law 513 = .ok (.iload_n 3, 1) := by decide +kernel
theorem dL_law_514 : decode cL_law 514 = .ok (.iconst 1, 1) := by decide +kernel
theorem dL_law_515 : decode cL_law 515 = .ok (.iadd, 1) := by decide +kernel
theorem dL_law_516 : decode cL_law 516 = .ok (.iaload, 1) := by decide +kernel
theorem dL_law_517 : decode cL_law 517 = .ok (.aload_n 0, 1) := by decide +kernel
theorem dL_law_518 : decode cL_law 518 = .ok (.iload_n 3, 1) := by decide +kernel
theorem dL_law_519 : decode cL_law 519 = .ok (.iconst 2, 1) := by decide +kernel
theorem dL_law_520 : decode cL_law 520 = .ok (.iadd, 1) := by decide +kernel
theorem dL_law_521 : decode cL_law 521 = .ok (.iaload, 1) := by decide +kernel
theorem dL_law_522 : decode cL_law 522 = .ok (.aload_n 0, 1) := by decide +kernel
theorem dL_law_523 : decode cL_law 523 = .ok (.iload_n 3, 1) := by decide +kernel
theorem dL_law_524 : decode cL_law 524 = .ok (.iconst 3, 1) := by decide +kernel
theorem dL_law_525 : decode cL_law 525 = .ok (.iadd, 1) := by decide +kernel
theorem dL_law_526 : decode cL_law 526 = .ok (.iaload, 1) := by decide +kernel
theorem dL_law_527 : decode cL_law 527 = .ok (.invokevirtual 58, 3) := by decide +kernel
theorem dL_law_530 : decode cL_law 530 = .ok (.if_icmp .eq 592, 3) := by decide +kernel
theorem dL_law_533 : decode cL_law 533 = .ok (.iconst 0, 1) := by decide +kernel
theorem dL_law_534 : decode cL_law 534 = .ok (.ireturn, 1) := by decide +kernel
theorem dL_law_535 : decode cL_law 535 = .ok (.aload_n 1, 1) := by decide +kernel
theorem dL_law_536 : decode cL_law 536 = .ok (.aload_n 0, 1) := by decide +kernel
theorem dL_law_537 : decode cL_law 537 = .ok (.iload_n 3, 1) := by decide +kernel
theorem dL_law_538 : decode cL_law 538 = .ok (.iconst 1, 1) := by decide +kernel
theorem dL_law_539 : decode cL_law 539 = .ok (.iadd, 1) := by decide +kernel
theorem dL_law_540 : decode cL_law 540 = .ok (.iaload, 1) := by decide +kernel
theorem dL_law_541 : decode cL_law 541 = .ok (.aload_n 0, 1) := by decide +kernel
theorem dL_law_542 : decode cL_law 542 = .ok (.iload_n 3, 1) := by decide +kernel
theorem dL_law_543 : decode cL_law 543 = .ok (.iconst 2, 1) := by decide +kernel
theorem dL_law_544 : decode cL_law 544 = .ok (.iadd, 1) := by decide +kernel
theorem dL_law_545 : decode cL_law 545 = .ok (.iaload, 1) := by decide +kernel
theorem dL_law_546 : decode cL_law 546 = .ok (.aload_n 0, 1) := by decide +kernel
theorem dL_law_547 : decode cL_law 547 = .ok (.iload_n 3, 1) := by decide +kernel
theorem dL_law_548 : decode cL_law 548 = .ok (.iconst 3, 1) := by decide +kernel
theorem dL_law_549 : decode cL_law 549 = .ok (.iadd, 1) := by decide +kernel
theorem dL_law_550 : decode cL_law 550 = .ok (.iaload, 1) := by decide +kernel
theorem dL_law_551 : decode cL_law 551 = .ok (.invokevirtual 59, 3) := by decide +kernel
theorem dL_law_554 : decode cL_law 554 = .ok (.aload_n 2, 1) := by decide +kernel
theorem dL_law_555 : decode cL_law 555 = .ok (.aload_n 0, 1) := by decide +kernel
theorem dL_law_556 : decode cL_law 556 = .ok (.iload_n 3, 1) := by decide +kernel
theorem dL_law_557 : decode cL_law 557 = .ok (.iconst 1, 1) := by decide +kernel
theorem dL_law_558 : decode cL_law 558 = .ok (.iadd, 1) := by decide +kernel
theorem dL_law_559 : decode cL_law 559 = .ok (.iaload, 1) := by decide +kernel
theorem dL_law_560 : decode cL_law 560 = .ok (.aload_n 0, 1) := by decide +kernel
theorem dL_law_561 : decode cL_law 561 = .ok (.iload_n 3, 1) := by decide +kernel
theorem dL_law_562 : decode cL_law 562 = .ok (.iconst 2, 1) := by decide +kernel
theorem dL_law_563 : decode cL_law 563 = .ok (.iadd, 1) := by decide +kernel
theorem dL_law_564 : decode cL_law 564 = .ok (.iaload, 1) := by decide +kernel
theorem dL_law_565 : decode cL_law 565 = .ok (.aload_n 0, 1) := by decide +kernel
theorem dL_law_566 : decode cL_law 566 = .ok (.iload_n 3, 1) := by decide +kernel
theorem dL_law_567 : decode cL_law 567 = .ok (.iconst 3, 1) := by decide +kernel
theorem dL_law_568 : decode cL_law 568 = .ok (.iadd, 1) := by decide +kernel
theorem dL_law_569 : decode cL_law 569 = .ok (.iaload, 1) := by decide +kernel
theorem dL_law_570 : decode cL_law 570 = .ok (.invokevirtual 62, 3) := by decide +kernel
theorem dL_law_573 : decode cL_law 573 = .ok (.if_icmp .eq 549, 3) := by decide +kernel
theorem dL_law_576 : decode cL_law 576 = .ok (.iconst 0, 1) := by decide +kernel
theorem dL_law_577 : decode cL_law 577 = .ok (.ireturn, 1) := by decide +kernel
theorem dL_law_578 : decode cL_law 578 = .ok (.aload_n 1, 1) := by decide +kernel
theorem dL_law_579 : decode cL_law 579 = .ok (.aload_n 0, 1) := by decide +kernel
theorem dL_law_580 : decode cL_law 580 = .ok (.iload_n 3, 1) := by decide +kernel
theorem dL_law_581 : decode cL_law 581 = .ok (.iconst 1, 1) := by decide +kernel
theorem dL_law_582 : decode cL_law 582 = .ok (.iadd, 1) := by decide +kernel
theorem dL_law_583 : decode cL_law 583 = .ok (.iaload, 1) := by decide +kernel
theorem dL_law_584 : decode cL_law 584 = .ok (.aload_n 0, 1) := by decide +kernel
theorem dL_law_585 : decode cL_law 585 = .ok (.iload_n 3, 1) := by decide +kernel
theorem dL_law_586 : decode cL_law 586 = .ok (.iconst 2, 1) := by decide +kernel
theorem dL_law_587 : decode cL_law 587 = .ok (.iadd, 1) := by decide +kernel
theorem dL_law_588 : decode cL_law 588 = .ok (.iaload, 1) := by decide +kernel
theorem dL_law_589 : decode cL_law 589 = .ok (.invokevirtual 63, 3) := by decide +kernel
theorem dL_law_592 : decode cL_law 592 = .ok (.aload_n 2, 1) := by decide +kernel
theorem dL_law_593 : decode cL_law 593 = .ok (.aload_n 0, 1) := by decide +kernel
theorem dL_law_594 : decode cL_law 594 = .ok (.iload_n 3, 1) := by decide +kernel
theorem dL_law_595 : decode cL_law 595 = .ok (.iconst 1, 1) := by decide +kernel
theorem dL_law_596 : decode cL_law 596 = .ok (.iadd, 1) := by decide +kernel
theorem dL_law_597 : decode cL_law 597 = .ok (.iaload, 1) := by decide +kernel
theorem dL_law_598 : decode cL_law 598 = .ok (.aload_n 0, 1) := by decide +kernel
theorem dL_law_599 : decode cL_law 599 = .ok (.iload_n 3, 1) := by decide +kernel
theorem dL_law_600 : decode cL_law 600 = .ok (.iconst 2, 1) := by decide +kernel
theorem dL_law_601 : decode cL_law 601 = .ok (.iadd, 1) := by decide +kernel
theorem dL_law_602 : decode cL_law 602 = .ok (.iaload, 1) := by decide +kernel
theorem dL_law_603 : decode cL_law 603 = .ok (.invokevirtual 66, 3) := by decide +kernel
theorem dL_law_606 : decode cL_law 606 = .ok (.if_icmp .eq 516, 3) := by decide +kernel
theorem dL_law_609 : decode cL_law 609 = .ok (.iconst 0, 1) := by decide +kernel
theorem dL_law_610 : decode cL_law 610 = .ok (.ireturn, 1) := by decide +kernel
theorem dL_law_611 : decode cL_law 611 = .ok (.aload_n 1, 1) := by decide +kernel
theorem dL_law_612 : decode cL_law 612 = .ok (.aload_n 0, 1) := by decide +kernel
theorem dL_law_613 : decode cL_law 613 = .ok (.iload_n 3, 1) := by decide +kernel
theorem dL_law_614 : decode cL_law 614 = .ok (.iconst 1, 1) := by decide +kernel
theorem dL_law_615 : decode cL_law 615 = .ok (.iadd, 1) := by decide +kernel
theorem dL_law_616 : decode cL_law 616 = .ok (.iaload, 1) := by decide +kernel
theorem dL_law_617 : decode cL_law 617 = .ok (.invokevirtual 67, 3) := by decide +kernel
theorem dL_law_620 : decode cL_law 620 = .ok (.aload_n 2, 1) := by decide +kernel
theorem dL_law_621 : decode cL_law 621 = .ok (.aload_n 0, 1) := by decide +kernel
theorem dL_law_622 : decode cL_law 622 = .ok (.iload_n 3, 1) := by decide +kernel
theorem dL_law_623 : decode cL_law 623 = .ok (.iconst 1, 1) := by decide +kernel
theorem dL_law_624 : decode cL_law 624 = .ok (.iadd, 1) := by decide +kernel
theorem dL_law_625 : decode cL_law 625 = .ok (.iaload, 1) := by decide +kernel
theorem dL_law_626 : decode cL_law 626 = .ok (.invokevirtual 70, 3) := by decide +kernel
theorem dL_law_629 : decode cL_law 629 = .ok (.if_icmp .eq 493, 3) := by decide +kernel
theorem dL_law_632 : decode cL_law 632 = .ok (.iconst 0, 1) := by decide +kernel
theorem dL_law_633 : decode cL_law 633 = .ok (.ireturn, 1) := by decide +kernel
theorem dL_law_634 : decode cL_law 634 = .ok (.aload_n 1, 1) := by decide +kernel
theorem dL_law_635 : decode cL_law 635 = .ok (.aload_n 0, 1) := by decide +kernel
theorem dL_law_636 : decode cL_law 636 = .ok (.iload_n 3, 1) := by decide +kernel
theorem dL_law_637 : decode cL_law 637 = .ok (.iconst 1, 1) := by decide +kernel
theorem dL_law_638 : decode cL_law 638 = .ok (.iadd, 1) := by decide +kernel
theorem dL_law_639 : decode cL_law 639 = .ok (.iaload, 1) := by decide +kernel
theorem dL_law_640 : decode cL_law 640 = .ok (.aload_n 0, 1) := by decide +kernel
theorem dL_law_641 : decode cL_law 641 = .ok (.iload_n 3, 1) := by decide +kernel
theorem dL_law_642 : decode cL_law 642 = .ok (.iconst 2, 1) := by decide +kernel
theorem dL_law_643 : decode cL_law 643 = .ok (.iadd, 1) := by decide +kernel
theorem dL_law_644 : decode cL_law 644 = .ok (.iaload, 1) := by decide +kernel
theorem dL_law_645 : decode cL_law 645 = .ok (.aload_n 0, 1) := by decide +kernel
theorem dL_law_646 : decode cL_law 646 = .ok (.iload_n 3, 1) := by decide +kernel
theorem dL_law_647 : decode cL_law 647 = .ok (.iconst 3, 1) := by decide +kernel
theorem dL_law_648 : decode cL_law 648 = .ok (.iadd, 1) := by decide +kernel
theorem dL_law_649 : decode cL_law 649 = .ok (.iaload, 1) := by decide +kernel
theorem dL_law_650 : decode cL_law 650 = .ok (.invokevirtual 71, 3) := by decide +kernel
theorem dL_law_653 : decode cL_law 653 = .ok (.aload_n 2, 1) := by decide +kernel
theorem dL_law_654 : decode cL_law 654 = .ok (.aload_n 0, 1) := by decide +kernel
theorem dL_law_655 : decode cL_law 655 = .ok (.iload_n 3, 1) := by decide +kernel
theorem dL_law_656 : decode cL_law 656 = .ok (.iconst 1, 1) := by decide +kernel
theorem dL_law_657 : decode cL_law 657 = .ok (.iadd, 1) := by decide +kernel
theorem dL_law_658 : decode cL_law 658 = .ok (.iaload, 1) := by decide +kernel
theorem dL_law_659 : decode cL_law 659 = .ok (.aload_n 0, 1) := by decide +kernel
theorem dL_law_660 : decode cL_law 660 = .ok (.iload_n 3, 1) := by decide +kernel
theorem dL_law_661 : decode cL_law 661 = .ok (.iconst 2, 1) := by decide +kernel
theorem dL_law_662 : decode cL_law 662 = .ok (.iadd, 1) := by decide +kernel
theorem dL_law_663 : decode cL_law 663 = .ok (.iaload, 1) := by decide +kernel
theorem dL_law_664 : decode cL_law 664 = .ok (.aload_n 0, 1) := by decide +kernel
theorem dL_law_665 : decode cL_law 665 = .ok (.iload_n 3, 1) := by decide +kernel
theorem dL_law_666 : decode cL_law 666 = .ok (.iconst 3, 1) := by decide +kernel
theorem dL_law_667 : decode cL_law 667 = .ok (.iadd, 1) := by decide +kernel
theorem dL_law_668 : decode cL_law 668 = .ok (.iaload, 1) := by decide +kernel
theorem dL_law_669 : decode cL_law 669 = .ok (.invokevirtual 74, 3) := by decide +kernel
theorem dL_law_672 : decode cL_law 672 = .ok (.if_icmp .eq 450, 3) := by decide +kernel
theorem dL_law_675 : decode cL_law 675 = .ok (.iconst 0, 1) := by decide +kernel
theorem dL_law_676 : decode cL_law 676 = .ok (.ireturn, 1) := by decide +kernel
theorem dL_law_677 : decode cL_law 677 = .ok (.aload_n 1, 1) := by decide +kernel
theorem dL_law_678 : decode cL_law 678 = .ok (.invokevirtual 75, 3) := by decide +kernel
theorem dL_law_681 : decode cL_law 681 = .ok (.aload_n 2, 1) := by decide +kernel
theorem dL_law_682 : decode cL_law 682 = .ok (.invokevirtual 78, 3) := by decide +kernel
theorem dL_law_685 : decode cL_law 685 = .ok (.if_icmp .eq 437, 3) := by decide +kernel
theorem dL_law_688 : decode cL_law 688 = .ok (.iconst 0, 1) := by decide +kernel
theorem dL_law_689 : decode cL_law 689 = .ok (.ireturn, 1) := by decide +kernel
theorem dL_law_690 : decode cL_law 690 = .ok (.aload_n 1, 1) := by decide +kernel
theorem dL_law_691 : decode cL_law 691 = .ok (.aload_n 0, 1) := by decide +kernel
theorem dL_law_692 : decode cL_law 692 = .ok (.iload_n 3, 1) := by decide +kernel
theorem dL_law_693 : decode cL_law 693 = .ok (.iconst 1, 1) := by decide +kernel
theorem dL_law_694 : decode cL_law 694 = .ok (.iadd, 1) := by decide +kernel
theorem dL_law_695 : decode cL_law 695 = .ok (.iaload, 1) := by decide +kernel
theorem dL_law_696 : decode cL_law 696 = .ok (.invokevirtual 79, 3) := by decide +kernel
theorem dL_law_699 : decode cL_law 699 = .ok (.aload_n 2, 1) := by decide +kernel
theorem dL_law_700 : decode cL_law 700 = .ok (.aload_n 0, 1) := by decide +kernel
theorem dL_law_701 : decode cL_law 701 = .ok (.iload_n 3, 1) := by decide +kernel
theorem dL_law_702 : decode cL_law 702 = .ok (.iconst 1, 1) := by decide +kernel
theorem dL_law_703 : decode cL_law 703 = .ok (.iadd, 1) := by decide +kernel
theorem dL_law_704 : decode cL_law 704 = .ok (.iaload, 1) := by decide +kernel
theorem dL_law_705 : decode cL_law 705 = .ok (.invokevirtual 82, 3) := by decide +kernel
theorem dL_law_708 : decode cL_law 708 = .ok (.if_icmp .eq 414, 3) := by decide +kernel
theorem dL_law_711 : decode cL_law 711 = .ok (.iconst 0, 1) := by decide +kernel
theorem dL_law_712 : decode cL_law 712 = .ok (.ireturn, 1) := by decide +kernel
theorem dL_law_713 : decode cL_law 713 = .ok (.aload_n 1, 1) := by decide +kernel
theorem dL_law_714 : decode cL_law 714 = .ok (.aload_n 0, 1) := by decide +kernel
theorem dL_law_715 : decode cL_law 715 = .ok (.iload_n 3, 1) := by decide +kernel
theorem dL_law_716 : decode cL_law 716 = .ok (.iconst 1, 1) := by decide +kernel
theorem dL_law_717 : decode cL_law 717 = .ok (.iadd, 1) := by decide +kernel
theorem dL_law_718 : decode cL_law 718 = .ok (.iaload, 1) := by decide +kernel
theorem dL_law_719 : decode cL_law 719 = .ok (.aload_n 0, 1) := by decide +kernel
theorem dL_law_720 : decode cL_law 720 = .ok (.iload_n 3, 1) := by decide +kernel
theorem dL_law_721 : decode cL_law 721 = .ok (.iconst 2, 1) := by decide +kernel
theorem dL_law_722 : decode cL_law 722 = .ok (.iadd, 1) := by decide +kernel
theorem dL_law_723 : decode cL_law 723 = .ok (.iaload, 1) := by decide +kernel
theorem dL_law_724 : decode cL_law 724 = .ok (.invokevirtual 83, 3) := by decide +kernel
theorem dL_law_727 : decode cL_law 727 = .ok (.aload_n 2, 1) := by decide +kernel
theorem dL_law_728 : decode cL_law 728 = .ok (.aload_n 0, 1) := by decide +kernel
theorem dL_law_729 : decode cL_law 729 = .ok (.iload_n 3, 1) := by decide +kernel
theorem dL_law_730 : decode cL_law 730 = .ok (.iconst 1, 1) := by decide +kernel
theorem dL_law_731 : decode cL_law 731 = .ok (.iadd, 1) := by decide +kernel
theorem dL_law_732 : decode cL_law 732 = .ok (.iaload, 1) := by decide +kernel
theorem dL_law_733 : decode cL_law 733 = .ok (.aload_n 0, 1) := by decide +kernel
theorem dL_law_734 : decode cL_law 734 = .ok (.iload_n 3, 1) := by decide +kernel
theorem dL_law_735 : decode cL_law 735 = .ok (.iconst 2, 1) := by decide +kernel
theorem dL_law_736 : decode cL_law 736 = .ok (.iadd, 1) := by decide +kernel
theorem dL_law_737 : decode cL_law 737 = .ok (.iaload, 1) := by decide +kernel
theorem dL_law_738 : decode cL_law 738 = .ok (.invokevirtual 86, 3) := by decide +kernel
theorem dL_law_741 : decode cL_law 741 = .ok (.if_icmp .eq 381, 3) := by decide +kernel
theorem dL_law_744 : decode cL_law 744 = .ok (.iconst 0, 1) := by decide +kernel
theorem dL_law_745 : decode cL_law 745 = .ok (.ireturn, 1) := by decide +kernel
theorem dL_law_746 : decode cL_law 746 = .ok (.aload_n 1, 1) := by decide +kernel
theorem dL_law_747 : decode cL_law 747 = .ok (.aload_n 0, 1) := by decide +kernel
theorem dL_law_748 : decode cL_law 748 = .ok (.iload_n 3, 1) := by decide +kernel
theorem dL_law_749 : decode cL_law 749 = .ok (.iconst 1, 1) := by decide +kernel
theorem dL_law_750 : decode cL_law 750 = .ok (.iadd, 1) := by decide +kernel
theorem dL_law_751 : decode cL_law 751 = .ok (.iaload, 1) := by decide +kernel
theorem dL_law_752 : decode cL_law 752 = .ok (.invokevirtual 87, 3) := by decide +kernel
theorem dL_law_755 : decode cL_law 755 = .ok (.aload_n 2, 1) := by decide +kernel
theorem dL_law_756 : decode cL_law 756 = .ok (.aload_n 0, 1) := by decide +kernel
theorem dL_law_757 : decode cL_law 757 = .ok (.iload_n 3, 1) := by decide +kernel
theorem dL_law_758 : decode cL_law 758 = .ok (.iconst 1, 1) := by decide +kernel
theorem dL_law_759 : decode cL_law 759 = .ok (.iadd, 1) := by decide +kernel
theorem dL_law_760 : decode cL_law 760 = .ok (.iaload, 1) := by decide +kernel
theorem dL_law_761 : decode cL_law 761 = .ok (.invokevirtual 90, 3) := by decide +kernel
theorem dL_law_764 : decode cL_law 764 = .ok (.if_icmp .eq 358, 3) := by decide +kernel
theorem dL_law_767 : decode cL_law 767 = .ok (.iconst 0, 1) := by decide +kernel
theorem dL_law_768 : decode cL_law 768 = .ok (.ireturn, 1) := by decide +kernel
theorem dL_law_769 : decode cL_law 769 = .ok (.aload_n 1, 1) := by decide +kernel
theorem dL_law_770 : decode cL_law 770 = .ok (.invokevirtual 91, 3) := by decide +kernel
theorem dL_law_773 : decode cL_law 773 = .ok (.aload_n 2, 1) := by decide +kernel
theorem dL_law_774 : decode cL_law 774 = .ok (.invokevirtual 94, 3) := by decide +kernel
theorem dL_law_777 : decode cL_law 777 = .ok (.if_icmp .eq 345, 3) := by decide +kernel
theorem dL_law_780 : decode cL_law 780 = .ok (.iconst 0, 1) := by decide +kernel
theorem dL_law_781 : decode cL_law 781 = .ok (.ireturn, 1) := by decide +kernel
theorem dL_law_782 : decode cL_law 782 = .ok (.aload_n 1, 1) := by decide +kernel
theorem dL_law_783 : decode cL_law 783 = .ok (.aload_n 0, 1) := by decide +kernel
theorem dL_law_784 : decode cL_law 784 = .ok (.iload_n 3, 1) := by decide +kernel
theorem dL_law_785 : decode cL_law 785 = .ok (.iconst 1, 1) := by decide +kernel
theorem dL_law_786 : decode cL_law 786 = .ok (.iadd, 1) := by decide +kernel
theorem dL_law_787 : decode cL_law 787 = .ok (.iaload, 1) := by decide +kernel
theorem dL_law_788 : decode cL_law 788 = .ok (.aload_n 0, 1) := by decide +kernel
theorem dL_law_789 : decode cL_law 789 = .ok (.iload_n 3, 1) := by decide +kernel
theorem dL_law_790 : decode cL_law 790 = .ok (.iconst 2, 1) := by decide +kernel
theorem dL_law_791 : decode cL_law 791 = .ok (.iadd, 1) := by decide +kernel
theorem dL_law_792 : decode cL_law 792 = .ok (.iaload, 1) := by decide +kernel
theorem dL_law_793 : decode cL_law 793 = .ok (.invokevirtual 95, 3) := by decide +kernel
theorem dL_law_796 : decode cL_law 796 = .ok (.aload_n 2, 1) := by decide +kernel
theorem dL_law_797 : decode cL_law 797 = .ok (.aload_n 0, 1) := by decide +kernel
theorem dL_law_798 : decode cL_law 798 = .ok (.iload_n 3, 1) := by decide +kernel
theorem dL_law_799 : decode cL_law 799 = .ok (.iconst 1, 1) := by decide +kernel
theorem dL_law_800 : decode cL_law 800 = .ok (.iadd, 1) := by decide +kernel
theorem dL_law_801 : decode cL_law 801 = .ok (.iaload, 1) := by decide +kernel
theorem dL_law_802 : decode cL_law 802 = .ok (.aload_n 0, 1) := by decide +kernel
theorem dL_law_803 : decode cL_law 803 = .ok (.iload_n 3, 1) := by decide +kernel
theorem dL_law_804 : decode cL_law 804 = .ok (.iconst 2, 1) := by decide +kernel
theorem dL_law_805 : decode cL_law 805 = .ok (.iadd, 1) := by decide +kernel
theorem dL_law_806 : decode cL_law 806 = .ok (.iaload, 1) := by decide +kernel
theorem dL_law_807 : decode cL_law 807 = .ok (.invokevirtual 98, 3) := by decide +kernel
theorem dL_law_810 : decode cL_law 810 = .ok (.if_icmp .eq 312, 3) := by decide +kernel
theorem dL_law_813 : decode cL_law 813 = .ok (.iconst 0, 1) := by decide +kernel
theorem dL_law_814 : decode cL_law 814 = .ok (.ireturn, 1) := by decide +kernel
theorem dL_law_815 : decode cL_law 815 = .ok (.aload_n 1, 1) := by decide +kernel
theorem dL_law_816 : decode cL_law 816 = .ok (.aload_n 0, 1) := by decide +kernel
theorem dL_law_817 : decode cL_law 817 = .ok (.iload_n 3, 1) := by decide +kernel
theorem dL_law_818 : decode cL_law 818 = .ok (.iconst 1, 1) := by decide +kernel
theorem dL_law_819 : decode cL_law 819 = .ok (.iadd, 1) := by decide +kernel
theorem dL_law_820 : decode cL_law 820 = .ok (.iaload, 1) := by decide +kernel
theorem dL_law_821 : decode cL_law 821 = .ok (.aload_n 0, 1) := by decide +kernel
theorem dL_law_822 : decode cL_law 822 = .ok (.iload_n 3, 1) := by decide +kernel
theorem dL_law_823 : decode cL_law 823 = .ok (.iconst 2, 1) := by decide +kernel
theorem dL_law_824 : decode cL_law 824 = .ok (.iadd, 1) := by decide +kernel
theorem dL_law_825 : decode cL_law 825 = .ok (.iaload, 1) := by decide +kernel
theorem dL_law_826 : decode cL_law 826 = .ok (.invokevirtual 99, 3) := by decide +kernel
theorem dL_law_829 : decode cL_law 829 = .ok (.aload_n 2, 1) := by decide +kernel
theorem dL_law_830 : decode cL_law 830 = .ok (.aload_n 0, 1) := by decide +kernel
theorem dL_law_831 : decode cL_law 831 = .ok (.iload_n 3, 1) := by decide +kernel
theorem dL_law_832 : decode cL_law 832 = .ok (.iconst 1, 1) := by decide +kernel
theorem dL_law_833 : decode cL_law 833 = .ok (.iadd, 1) := by decide +kernel
theorem dL_law_834 : decode cL_law 834 = .ok (.iaload, 1) := by decide +kernel
theorem dL_law_835 : decode cL_law 835 = .ok (.aload_n 0, 1) := by decide +kernel
theorem dL_law_836 : decode cL_law 836 = .ok (.iload_n 3, 1) := by decide +kernel
theorem dL_law_837 : decode cL_law 837 = .ok (.iconst 2, 1) := by decide +kernel
theorem dL_law_838 : decode cL_law 838 = .ok (.iadd, 1) := by decide +kernel
theorem dL_law_839 : decode cL_law 839 = .ok (.iaload, 1) := by decide +kernel
theorem dL_law_840 : decode cL_law 840 = .ok (.invokevirtual 102, 3) := by decide +kernel
theorem dL_law_843 : decode cL_law 843 = .ok (.if_icmp .eq 279, 3) := by decide +kernel
theorem dL_law_846 : decode cL_law 846 = .ok (.iconst 0, 1) := by decide +kernel
theorem dL_law_847 : decode cL_law 847 = .ok (.ireturn, 1) := by decide +kernel
theorem dL_law_848 : decode cL_law 848 = .ok (.aload_n 1, 1) := by decide +kernel
theorem dL_law_849 : decode cL_law 849 = .ok (.aload_n 0, 1) := by decide +kernel
theorem dL_law_850 : decode cL_law 850 = .ok (.iload_n 3, 1) := by decide +kernel
theorem dL_law_851 : decode cL_law 851 = .ok (.iconst 1, 1) := by decide +kernel
theorem dL_law_852 : decode cL_law 852 = .ok (.iadd, 1) := by decide +kernel
theorem dL_law_853 : decode cL_law 853 = .ok (.iaload, 1) := by decide +kernel
theorem dL_law_854 : decode cL_law 854 = .ok (.aload_n 0, 1) := by decide +kernel
theorem dL_law_855 : decode cL_law 855 = .ok (.iload_n 3, 1) := by decide +kernel
theorem dL_law_856 : decode cL_law 856 = .ok (.iconst 2, 1) := by decide +kernel
theorem dL_law_857 : decode cL_law 857 = .ok (.iadd, 1) := by decide +kernel
theorem dL_law_858 : decode cL_law 858 = .ok (.iaload, 1) := by decide +kernel
theorem dL_law_859 : decode cL_law 859 = .ok (.invokevirtual 103, 3) := by decide +kernel
theorem dL_law_862 : decode cL_law 862 = .ok (.aload_n 2, 1) := by decide +kernel
theorem dL_law_863 : decode cL_law 863 = .ok (.aload_n 0, 1) := by decide +kernel
theorem dL_law_864 : decode cL_law 864 = .ok (.iload_n 3, 1) := by decide +kernel
theorem dL_law_865 : decode cL_law 865 = .ok (.iconst 1, 1) := by decide +kernel
theorem dL_law_866 : decode cL_law 866 = .ok (.iadd, 1) := by decide +kernel
theorem dL_law_867 : decode cL_law 867 = .ok (.iaload, 1) := by decide +kernel
theorem dL_law_868 : decode cL_law 868 = .ok (.aload_n 0, 1) := by decide +kernel
theorem dL_law_869 : decode cL_law 869 = .ok (.iload_n 3, 1) := by decide +kernel
theorem dL_law_870 : decode cL_law 870 = .ok (.iconst 2, 1) := by decide +kernel
theorem dL_law_871 : decode cL_law 871 = .ok (.iadd, 1) := by decide +kernel
theorem dL_law_872 : decode cL_law 872 = .ok (.iaload, 1) := by decide +kernel
theorem dL_law_873 : decode cL_law 873 = .ok (.invokevirtual 107, 3) := by decide +kernel
theorem dL_law_876 : decode cL_law 876 = .ok (.lcmp, 1) := by decide +kernel
theorem dL_law_877 : decode cL_law 877 = .ok (.ifCond .eq 245, 3) := by decide +kernel
theorem dL_law_880 : decode cL_law 880 = .ok (.iconst 0, 1) := by decide +kernel
theorem dL_law_881 : decode cL_law 881 = .ok (.ireturn, 1) := by decide +kernel
theorem dL_law_882 : decode cL_law 882 = .ok (.aload_n 1, 1) := by decide +kernel
theorem dL_law_883 : decode cL_law 883 = .ok (.aload_n 0, 1) := by decide +kernel
theorem dL_law_884 : decode cL_law 884 = .ok (.iload_n 3, 1) := by decide +kernel
theorem dL_law_885 : decode cL_law 885 = .ok (.iconst 1, 1) := by decide +kernel
theorem dL_law_886 : decode cL_law 886 = .ok (.iadd, 1) := by decide +kernel
theorem dL_law_887 : decode cL_law 887 = .ok (.iaload, 1) := by decide +kernel
theorem dL_law_888 : decode cL_law 888 = .ok (.invokevirtual 108, 3) := by decide +kernel
theorem dL_law_891 : decode cL_law 891 = .ok (.aload_n 2, 1) := by decide +kernel
theorem dL_law_892 : decode cL_law 892 = .ok (.aload_n 0, 1) := by decide +kernel
theorem dL_law_893 : decode cL_law 893 = .ok (.iload_n 3, 1) := by decide +kernel
theorem dL_law_894 : decode cL_law 894 = .ok (.iconst 1, 1) := by decide +kernel
theorem dL_law_895 : decode cL_law 895 = .ok (.iadd, 1) := by decide +kernel
theorem dL_law_896 : decode cL_law 896 = .ok (.iaload, 1) := by decide +kernel
theorem dL_law_897 : decode cL_law 897 = .ok (.invokevirtual 111, 3) := by decide +kernel
theorem dL_law_900 : decode cL_law 900 = .ok (.if_icmp .eq 222, 3) := by decide +kernel
theorem dL_law_903 : decode cL_law 903 = .ok (.iconst 0, 1) := by decide +kernel
theorem dL_law_904 : decode cL_law 904 = .ok (.ireturn, 1) := by decide +kernel
theorem dL_law_905 : decode cL_law 905 = .ok (.aload_n 1, 1) := by decide +kernel
theorem dL_law_906 : decode cL_law 906 = .ok (.aload_n 0, 1) := by decide +kernel
theorem dL_law_907 : decode cL_law 907 = .ok (.iload_n 3, 1) := by decide +kernel
theorem dL_law_908 : decode cL_law 908 = .ok (.iconst 1, 1) := by decide +kernel
theorem dL_law_909 : decode cL_law 909 = .ok (.iadd, 1) := by decide +kernel
theorem dL_law_910 : decode cL_law 910 = .ok (.iaload, 1) := by decide +kernel
theorem dL_law_911 : decode cL_law 911 = .ok (.aload_n 0, 1) := by decide +kernel
theorem dL_law_912 : decode cL_law 912 = .ok (.iload_n 3, 1) := by decide +kernel
theorem dL_law_913 : decode cL_law 913 = .ok (.iconst 2, 1) := by decide +kernel
theorem dL_law_914 : decode cL_law 914 = .ok (.iadd, 1) := by decide +kernel
theorem dL_law_915 : decode cL_law 915 = .ok (.iaload, 1) := by decide +kernel
theorem dL_law_916 : decode cL_law 916 = .ok (.invokevirtual 112, 3) := by decide +kernel
theorem dL_law_919 : decode cL_law 919 = .ok (.aload_n 2, 1) := by decide +kernel
theorem dL_law_920 : decode cL_law 920 = .ok (.aload_n 0, 1) := by decide +kernel
theorem dL_law_921 : decode cL_law 921 = .ok (.iload_n 3, 1) := by decide +kernel
theorem dL_law_922 : decode cL_law 922 = .ok (.iconst 1, 1) := by decide +kernel
theorem dL_law_923 : decode cL_law 923 = .ok (.iadd, 1) := by decide +kernel
theorem dL_law_924 : decode cL_law 924 = .ok (.iaload, 1) := by decide +kernel
theorem dL_law_925 : decode cL_law 925 = .ok (.aload_n 0, 1) := by decide +kernel
theorem dL_law_926 : decode cL_law 926 = .ok (.iload_n 3, 1) := by decide +kernel
theorem dL_law_927 : decode cL_law 927 = .ok (.iconst 2, 1) := by decide +kernel
theorem dL_law_928 : decode cL_law 928 = .ok (.iadd, 1) := by decide +kernel
theorem dL_law_929 : decode cL_law 929 = .ok (.iaload, 1) := by decide +kernel
theorem dL_law_930 : decode cL_law 930 = .ok (.invokevirtual 115, 3) := by decide +kernel
theorem dL_law_933 : decode cL_law 933 = .ok (.if_icmp .eq 189, 3) := by decide +kernel
theorem dL_law_936 : decode cL_law 936 = .ok (.iconst 0, 1) := by decide +kernel
theorem dL_law_937 : decode cL_law 937 = .ok (.ireturn, 1) := by decide +kernel
theorem dL_law_938 : decode cL_law 938 = .ok (.aload_n 1, 1) := by decide +kernel
theorem dL_law_939 : decode cL_law 939 = .ok (.invokevirtual 116, 3) := by decide +kernel
theorem dL_law_942 : decode cL_law 942 = .ok (.aload_n 2, 1) := by decide +kernel
theorem dL_law_943 : decode cL_law 943 = .ok (.invokevirtual 119, 3) := by decide +kernel
theorem dL_law_946 : decode cL_law 946 = .ok (.if_icmp .eq 176, 3) := by decide +kernel
theorem dL_law_949 : decode cL_law 949 = .ok (.iconst 0, 1) := by decide +kernel
theorem dL_law_950 : decode cL_law 950 = .ok (.ireturn, 1) := by decide +kernel
theorem dL_law_951 : decode cL_law 951 = .ok (.aload_n 1, 1) := by decide +kernel
theorem dL_law_952 : decode cL_law 952 = .ok (.aload_n 0, 1) := by decide +kernel
theorem dL_law_953 : decode cL_law 953 = .ok (.iload_n 3, 1) := by decide +kernel
theorem dL_law_954 : decode cL_law 954 = .ok (.iconst 1, 1) := by decide +kernel
theorem dL_law_955 : decode cL_law 955 = .ok (.iadd, 1) := by decide +kernel
theorem dL_law_956 : decode cL_law 956 = .ok (.iaload, 1) := by decide +kernel
theorem dL_law_957 : decode cL_law 957 = .ok (.invokevirtual 120, 3) := by decide +kernel
theorem dL_law_960 : decode cL_law 960 = .ok (.aload_n 2, 1) := by decide +kernel
theorem dL_law_961 : decode cL_law 961 = .ok (.aload_n 0, 1) := by decide +kernel
theorem dL_law_962 : decode cL_law 962 = .ok (.iload_n 3, 1) := by decide +kernel
theorem dL_law_963 : decode cL_law 963 = .ok (.iconst 1, 1) := by decide +kernel
theorem dL_law_964 : decode cL_law 964 = .ok (.iadd, 1) := by decide +kernel
theorem dL_law_965 : decode cL_law 965 = .ok (.iaload, 1) := by decide +kernel
theorem dL_law_966 : decode cL_law 966 = .ok (.invokevirtual 123, 3) := by decide +kernel
theorem dL_law_969 : decode cL_law 969 = .ok (.if_icmp .eq 153, 3) := by decide +kernel
theorem dL_law_972 : decode cL_law 972 = .ok (.iconst 0, 1) := by decide +kernel
theorem dL_law_973 : decode cL_law 973 = .ok (.ireturn, 1) := by decide +kernel
theorem dL_law_974 : decode cL_law 974 = .ok (.aload_n 1, 1) := by decide +kernel
theorem dL_law_975 : decode cL_law 975 = .ok (.aload_n 0, 1) := by decide +kernel
theorem dL_law_976 : decode cL_law 976 = .ok (.iload_n 3, 1) := by decide +kernel
theorem dL_law_977 : decode cL_law 977 = .ok (.iconst 1, 1) := by decide +kernel
theorem dL_law_978 : decode cL_law 978 = .ok (.iadd, 1) := by decide +kernel
theorem dL_law_979 : decode cL_law 979 = .ok (.iaload, 1) := by decide +kernel
theorem dL_law_980 : decode cL_law 980 = .ok (.aload_n 0, 1) := by decide +kernel
theorem dL_law_981 : decode cL_law 981 = .ok (.iload_n 3, 1) := by decide +kernel
theorem dL_law_982 : decode cL_law 982 = .ok (.iconst 2, 1) := by decide +kernel
theorem dL_law_983 : decode cL_law 983 = .ok (.iadd, 1) := by decide +kernel
theorem dL_law_984 : decode cL_law 984 = .ok (.iaload, 1) := by decide +kernel
theorem dL_law_985 : decode cL_law 985 = .ok (.aload_n 0, 1) := by decide +kernel
theorem dL_law_986 : decode cL_law 986 = .ok (.iload_n 3, 1) := by decide +kernel
theorem dL_law_987 : decode cL_law 987 = .ok (.iconst 3, 1) := by decide +kernel
theorem dL_law_988 : decode cL_law 988 = .ok (.iadd, 1) := by decide +kernel
theorem dL_law_989 : decode cL_law 989 = .ok (.iaload, 1) := by decide +kernel
theorem dL_law_990 : decode cL_law 990 = .ok (.invokevirtual 124, 3) := by decide +kernel
theorem dL_law_993 : decode cL_law 993 = .ok (.aload_n 2, 1) := by decide +kernel
theorem dL_law_994 : decode cL_law 994 = .ok (.aload_n 0, 1) := by decide +kernel
theorem dL_law_995 : decode cL_law 995 = .ok (.iload_n 3, 1) := by decide +kernel
theorem dL_law_996 : decode cL_law 996 = .ok (.iconst 1, 1) := by decide +kernel
theorem dL_law_997 : decode cL_law 997 = .ok (.iadd, 1) := by decide +kernel
theorem dL_law_998 : decode cL_law 998 = .ok (.iaload, 1) := by decide +kernel
theorem dL_law_999 : decode cL_law 999 = .ok (.aload_n 0, 1) := by decide +kernel
theorem dL_law_1000 : decode cL_law 1000 = .ok (.iload_n 3, 1) := by decide +kernel
theorem dL_law_1001 : decode cL_law 1001 = .ok (.iconst 2, 1) := by decide +kernel
theorem dL_law_1002 : decode cL_law 1002 = .ok (.iadd, 1) := by decide +kernel
theorem dL_law_1003 : decode cL_law 1003 = .ok (.iaload, 1) := by decide +kernel
theorem dL_law_1004 : decode cL_law 1004 = .ok (.aload_n 0, 1) := by decide +kernel
theorem dL_law_1005 : decode cL_law 1005 = .ok (.iload_n 3, 1) := by decide +kernel
theorem dL_law_1006 : decode cL_law 1006 = .ok (.iconst 3, 1) := by decide +kernel
theorem dL_law_1007 : decode cL_law 1007 = .ok (.iadd, 1) := by decide +kernel
theorem dL_law_1008 : decode cL_law 1008 = .ok (.iaload, 1) := by decide +kernel
theorem dL_law_1009 : decode cL_law 1009 = .ok (.invokevirtual 127, 3) := by decide +kernel
theorem dL_law_1012 : decode cL_law 1012 = .ok (.if_icmp .eq 110, 3) := by decide +kernel
theorem dL_law_1015 : decode cL_law 1015 = .ok (.iconst 0, 1) := by decide +kernel
theorem dL_law_1016 : decode cL_law 1016 = .ok (.ireturn, 1) := by decide +kernel
theorem dL_law_1017 : decode cL_law 1017 = .ok (.aload_n 1, 1) := by decide +kernel
theorem dL_law_1018 : decode cL_law 1018 = .ok (.aload_n 0, 1) := by decide +kernel
theorem dL_law_1019 : decode cL_law 1019 = .ok (.iload_n 3, 1) := by decide +kernel
theorem dL_law_1020 : decode cL_law 1020 = .ok (.iconst 1, 1) := by decide +kernel
theorem dL_law_1021 : decode cL_law 1021 = .ok (.iadd, 1) := by decide +kernel
theorem dL_law_1022 : decode cL_law 1022 = .ok (.iaload, 1) := by decide +kernel
theorem dL_law_1023 : decode cL_law 1023 = .ok (.invokevirtual 128, 3) := by decide +kernel
theorem dL_law_1026 : decode cL_law 1026 = .ok (.aload_n 2, 1) := by decide +kernel
theorem dL_law_1027 : decode cL_law 1027 = .ok (.aload_n 0, 1) := by decide +kernel
theorem dL_law_1028 : decode cL_law 1028 = .ok (.iload_n 3, 1) := by decide +kernel
theorem dL_law_1029 : decode cL_law 1029 = .ok (.iconst 1, 1) := by decide +kernel
theorem dL_law_1030 : decode cL_law 1030 = .ok (.iadd, 1) := by decide +kernel
theorem dL_law_1031 : decode cL_law 1031 = .ok (.iaload, 1) := by decide +kernel
theorem dL_law_1032 : decode cL_law 1032 = .ok (.invokevirtual 131, 3) := by decide +kernel
theorem dL_law_1035 : decode cL_law 1035 = .ok (.if_icmp .eq 87, 3) := by decide +kernel
theorem dL_law_1038 : decode cL_law 1038 = .ok (.iconst 0, 1) := by decide +kernel
theorem dL_law_1039 : decode cL_law 1039 = .ok (.ireturn, 1) := by decide +kernel
theorem dL_law_1040 : decode cL_law 1040 = .ok (.aload_n 1, 1) := by decide +kernel
theorem dL_law_1041 : decode cL_law 1041 = .ok (.aload_n 0, 1) := by decide +kernel
theorem dL_law_1042 : decode cL_law 1042 = .ok (.iload_n 3, 1) := by decide +kernel
theorem dL_law_1043 : decode cL_law 1043 = .ok (.iconst 1, 1) := by decide +kernel
theorem dL_law_1044 : decode cL_law 1044 = .ok (.iadd, 1) := by decide +kernel
theorem dL_law_1045 : decode cL_law 1045 = .ok (.iaload, 1) := by decide +kernel
theorem dL_law_1046 : decode cL_law 1046 = .ok (.aload_n 0, 1) := by decide +kernel
theorem dL_law_1047 : decode cL_law 1047 = .ok (.iload_n 3, 1) := by decide +kernel
theorem dL_law_1048 : decode cL_law 1048 = .ok (.iconst 2, 1) := by decide +kernel
theorem dL_law_1049 : decode cL_law 1049 = .ok (.iadd, 1) := by decide +kernel
theorem dL_law_1050 : decode cL_law 1050 = .ok (.iaload, 1) := by decide +kernel
theorem dL_law_1051 : decode cL_law 1051 = .ok (.invokevirtual 132, 3) := by decide +kernel
theorem dL_law_1054 : decode cL_law 1054 = .ok (.aload_n 2, 1) := by decide +kernel
theorem dL_law_1055 : decode cL_law 1055 = .ok (.aload_n 0, 1) := by decide +kernel
theorem dL_law_1056 : decode cL_law 1056 = .ok (.iload_n 3, 1) := by decide +kernel
theorem dL_law_1057 : decode cL_law 1057 = .ok (.iconst 1, 1) := by decide +kernel
theorem dL_law_1058 : decode cL_law 1058 = .ok (.iadd, 1) := by decide +kernel
theorem dL_law_1059 : decode cL_law 1059 = .ok (.iaload, 1) := by decide +kernel
theorem dL_law_1060 : decode cL_law 1060 = .ok (.aload_n 0, 1) := by decide +kernel
theorem dL_law_1061 : decode cL_law 1061 = .ok (.iload_n 3, 1) := by decide +kernel
theorem dL_law_1062 : decode cL_law 1062 = .ok (.iconst 2, 1) := by decide +kernel
theorem dL_law_1063 : decode cL_law 1063 = .ok (.iadd, 1) := by decide +kernel
theorem dL_law_1064 : decode cL_law 1064 = .ok (.iaload, 1) := by decide +kernel
theorem dL_law_1065 : decode cL_law 1065 = .ok (.invokevirtual 135, 3) := by decide +kernel
theorem dL_law_1068 : decode cL_law 1068 = .ok (.if_icmp .eq 54, 3) := by decide +kernel
theorem dL_law_1071 : decode cL_law 1071 = .ok (.iconst 0, 1) := by decide +kernel
theorem dL_law_1072 : decode cL_law 1072 = .ok (.ireturn, 1) := by decide +kernel
theorem dL_law_1073 : decode cL_law 1073 = .ok (.aload_n 1, 1) := by decide +kernel
theorem dL_law_1074 : decode cL_law 1074 = .ok (.invokevirtual 136, 3) := by decide +kernel
theorem dL_law_1077 : decode cL_law 1077 = .ok (.aload_n 2, 1) := by decide +kernel
theorem dL_law_1078 : decode cL_law 1078 = .ok (.invokevirtual 139, 3) := by decide +kernel
theorem dL_law_1081 : decode cL_law 1081 = .ok (.if_icmp .eq 41, 3) := by decide +kernel
theorem dL_law_1084 : decode cL_law 1084 = .ok (.iconst 0, 1) := by decide +kernel
theorem dL_law_1085 : decode cL_law 1085 = .ok (.ireturn, 1) := by decide +kernel
theorem dL_law_1086 : decode cL_law 1086 = .ok (.aload_n 1, 1) := by decide +kernel
theorem dL_law_1087 : decode cL_law 1087 = .ok (.invokevirtual 140, 3) := by decide +kernel
theorem dL_law_1090 : decode cL_law 1090 = .ok (.aload_n 2, 1) := by decide +kernel
theorem dL_law_1091 : decode cL_law 1091 = .ok (.invokevirtual 143, 3) := by decide +kernel
theorem dL_law_1094 : decode cL_law 1094 = .ok (.if_icmp .eq 28, 3) := by decide +kernel
theorem dL_law_1097 : decode cL_law 1097 = .ok (.iconst 0, 1) := by decide +kernel
theorem dL_law_1098 : decode cL_law 1098 = .ok (.ireturn, 1) := by decide +kernel
theorem dL_law_1099 : decode cL_law 1099 = .ok (.aload_n 1, 1) := by decide +kernel
theorem dL_law_1100 : decode cL_law 1100 = .ok (.aload_n 0, 1) := by decide +kernel
theorem dL_law_1101 : decode cL_law 1101 = .ok (.iload_n 3, 1) := by decide +kernel
theorem dL_law_1102 : decode cL_law 1102 = .ok (.iconst 1, 1) := by decide +kernel
theorem dL_law_1103 : decode cL_law 1103 = .ok (.iadd, 1) := by decide +kernel
theorem dL_law_1104 : decode cL_law 1104 = .ok (.iaload, 1) := by decide +kernel
theorem dL_law_1105 : decode cL_law 1105 = .ok (.invokevirtual 144, 3) := by decide +kernel
theorem dL_law_1108 : decode cL_law 1108 = .ok (.aload_n 2, 1) := by decide +kernel
theorem dL_law_1109 : decode cL_law 1109 = .ok (.aload_n 0, 1) := by decide +kernel
theorem dL_law_1110 : decode cL_law 1110 = .ok (.iload_n 3, 1) := by decide +kernel
theorem dL_law_1111 : decode cL_law 1111 = .ok (.iconst 1, 1) := by decide +kernel
theorem dL_law_1112 : decode cL_law 1112 = .ok (.iadd, 1) := by decide +kernel
theorem dL_law_1113 : decode cL_law 1113 = .ok (.iaload, 1) := by decide +kernel
theorem dL_law_1114 : decode cL_law 1114 = .ok (.invokevirtual 147, 3) := by decide +kernel
theorem dL_law_1117 : decode cL_law 1117 = .ok (.if_icmp .eq 5, 3) := by decide +kernel
theorem dL_law_1120 : decode cL_law 1120 = .ok (.iconst 0, 1) := by decide +kernel
theorem dL_law_1121 : decode cL_law 1121 = .ok (.ireturn, 1) := by decide +kernel
theorem dL_law_1122 : decode cL_law 1122 = .ok (.iinc 3 5, 3) := by decide +kernel
theorem dL_law_1125 : decode cL_law 1125 = .ok (.goto (-1107), 3) := by decide +kernel
theorem dL_law_1128 : decode cL_law 1128 = .ok (.iconst 1, 1) := by decide +kernel
theorem dL_law_1129 : decode cL_law 1129 = .ok (.ireturn, 1) := by decide +kernel
