-- decode rows, as printed (NAMES.whole)
theorem dX10_among_29 : decode cX10_among 29 = .ok (.putfield 52, 3) := by decide +kernel
theorem dX10_among_32 : decode cX10_among 32 = .ok (.iload_n 2, 1) := by decide +kernel
theorem dX10_among_33 : decode cX10_among 33 = .ok (.ireturn, 1) := by decide +kernel
theorem dX10_among_34 : decode cX10_among 34 = .ok (.iinc 2 1, 3) := by decide +kernel
theorem dX10_among_37 : decode cX10_among 37 = .ok (.goto (-35), 3) := by decide +kernel
theorem dX10_among_40 : decode cX10_among 40 = .ok (.iconst (-1), 1) := by decide +kernel
theorem dX10_among_41 : decode cX10_among 41 = .ok (.ireturn, 1) := by decide +kernel
theorem dX10_emits_0 : decode cX10_emits 0 = .ok (.aload_n 0, 1) := by decide +kernel
theorem dX10_emits_1 : decode cX10_emits 1 = .ok (.getfield 58, 3) := by decide +kernel
theorem dX10_emits_4 : decode cX10_emits 4 = .ok (.ifCond .ne 52, 3) := by decide +kernel
theorem dX10_emits_7 : decode cX10_emits 7 = .ok (.aload_n 0, 1) := by decide +kernel
theorem dX10_emits_8 : decode cX10_emits 8 = .ok (.getfield 9, 3) := by decide +kernel
theorem dX10_emits_11 : decode cX10_emits 11 = .ok (.sipush 366, 3) := by decide +kernel
theorem dX10_emits_14 : decode cX10_emits 14 = .ok (.sipush 140, 3) := by decide +kernel
theorem dX10_emits_17 : decode cX10_emits 17 = .ok (.aload_n 0, 1) := by decide +kernel
theorem dX10_emits_18 : decode cX10_emits 18 = .ok (.getfield 79, 3) := by decide +kernel
theorem dX10_emits_21 : decode cX10_emits 21 = .ok (.imul, 1) := by decide +kernel
theorem dX10_emits_22 : decode cX10_emits 22 = .ok (.iadd, 1) := by decide +kernel
theorem dX10_emits_23 : decode cX10_emits 23 = .ok (.aload_n 0, 1) := by decide +kernel
theorem dX10_emits_24 : decode cX10_emits 24 = .ok (.getfield 9, 3) := by decide +kernel
theorem dX10_emits_27 : decode cX10_emits 27 = .ok (.sipush 361, 3) := by decide +kernel
theorem dX10_emits_30 : decode cX10_emits 30 = .ok (.aload_n 0, 1) := by decide +kernel
theorem dX10_emits_31 : decode cX10_emits 31 = .ok (.getfield 79, 3) := by decide +kernel
theorem dX10_emits_34 : decode cX10_emits 34 = .ok (.iadd, 1) := by decide +kernel
theorem dX10_emits_35 : decode cX10_emits 35 = .ok (.iaload, 1) := by decide +kernel
theorem dX10_emits_36 : decode cX10_emits 36 = .ok (.iadd, 1) := by decide +kernel
theorem dX10_emits_37 : decode cX10_emits 37 = .ok (.iload_n 1, 1) := by decide +kernel
theorem dX10_emits_38 : decode cX10_emits 38 = .ok (.iastore, 1) := by decide +kernel
theorem dX10_emits_39 : decode cX10_emits 39 = .ok (.aload_n 0, 1) := by decide +kernel
theorem dX10_emits_40 : decode cX10_emits 40 = .ok (.getfield 9, 3) := by decide +kernel
theorem dX10_emits_43 : decode cX10_emits 43 = .ok (.sipush 361, 3) := by decide +kernel
theorem dX10_emits_46 : decode cX10_emits 46 = .ok (.aload_n 0, 1) := by decide +kernel
theorem dX10_emits_47 : decode cX10_emits 47 = .ok (.getfield 79, 3) := by decide +kernel
theorem dX10_emits_50 : decode cX10_emits 50 = .ok (.iadd, 1) := by decide +kernel
theorem dX10_emits_51 : decode cX10_emits 51 = .ok (.dup2, 1) := by decide +kernel
theorem dX10_emits_52 : decode cX10_emits 52 = .ok (.iaload, 1) := by decide +kernel
theorem dX10_emits_53 : decode cX10_emits 53 = .ok (.iconst 1, 1) := by decide +kernel
theorem dX10_emits_54 : decode cX10_emits 54 = .ok (.iadd, 1) := by decide +kernel
theorem dX10_emits_55 : decode cX10_emits 55 = .ok (.iastore, 1) := by decide +kernel
theorem dX10_emits_56 : decode cX10_emits 56 = .ok (.return_, 1) := by decide +kernel
theorem dX10_factor_0 : decode cX10_factor 0 = .ok (.aload_n 0, 1) := by decide +kernel
theorem dX10_factor_1 : decode cX10_factor 1 = .ok (.getfield 58, 3) := by decide +kernel
theorem dX10_factor_4 : decode cX10_factor 4 = .ok (.ifCond .eq 4, 3) := by decide +kernel
theorem dX10_factor_7 : decode cX10_factor 7 = .ok (.return_, 1) := by decide +kernel
theorem dX10_factor_8 : decode cX10_factor 8 = .ok (.aload_n 0, 1) := by decide +kernel
theorem dX10_factor_9 : decode cX10_factor 9 = .ok (.invokevirtual 62, 3) := by decide +kernel
theorem dX10_factor_12 : decode cX10_factor 12 = .ok (.istore_n 1, 1) := by decide +kernel
theorem dX10_factor_13 : decode cX10_factor 13 = .ok (.iload_n 1, 1) := by decide +kernel
theorem dX10_factor_14 : decode cX10_factor 14 = .ok (.bipush 33, 2) := by decide +kernel
theorem dX10_factor_16 : decode cX10_factor 16 = .ok (.if_icmp .eq 9, 3) := by decide +kernel
theorem dX10_factor_19 : decode cX10_factor 19 = .ok (.iload_n 1, 1) := by decide +kernel
theorem dX10_factor_20 : decode cX10_factor 20 = .ok (.bipush 40, 2) := by decide +kernel
theorem dX10_factor_22 : decode cX10_factor 22 = .ok (.if_icmp .ne 90, 3) := by decide +kernel
theorem dX10_factor_25 : decode cX10_factor 25 = .ok (.aload_n 0, 1) := by decide +kernel
theorem dX10_factor_26 : decode cX10_factor 26 = .ok (.aload_n 0, 1) := by decide +kernel
theorem dX10_factor_27 : decode cX10_factor 27 = .ok (.getfield 82, 3) := by decide +kernel
theorem dX10_factor_30 : decode cX10_factor 30 = .ok (.iconst 5, 1) := by decide +kernel
theorem dX10_factor_31 : decode cX10_factor 31 = .ok (.if_icmp .ne 7, 3) := by decide +kernel
theorem dX10_factor_34 : decode cX10_factor 34 = .ok (.iconst 1, 1) := by decide +kernel
theorem dX10_factor_35 : decode cX10_factor 35 = .ok (.goto 4, 3) := by decide +kernel
theorem dX10_factor_38 : decode cX10_factor 38 = .ok (.iconst 0, 1) := by decide +kernel
theorem dX10_factor_39 : decode cX10_factor 39 = .ok (.putfield 58, 3) := by decide +kernel
theorem dX10_factor_42 : decode cX10_factor 42 = .ok (.aload_n 0, 1) := by decide +kernel
theorem dX10_factor_43 : decode cX10_factor 43 = .ok (.dup, 1) := by decide +kernel
theorem dX10_factor_44 : decode cX10_factor 44 = .ok (.getfield 82, 3) := by decide +kernel
theorem dX10_factor_47 : decode cX10_factor 47 = .ok (.iconst 1, 1) := by decide +kernel
theorem dX10_factor_48 : decode cX10_factor 48 = .ok (.iadd, 1) := by decide +kernel
theorem dX10_factor_49 : decode cX10_factor 49 = .ok (.putfield 82, 3) := by decide +kernel
theorem dX10_factor_52 : decode cX10_factor 52 = .ok (.aload_n 0, 1) := by decide +kernel
theorem dX10_factor_53 : decode cX10_factor 53 = .ok (.dup, 1) := by decide +kernel
theorem dX10_factor_54 : decode cX10_factor 54 = .ok (.getfield 52, 3) := by decide +kernel
theorem dX10_factor_57 : decode cX10_factor 57 = .ok (.aload_n 0, 1) := by decide +kernel
theorem dX10_factor_58 : decode cX10_factor 58 = .ok (.getfield 58, 3) := by decide +kernel
theorem dX10_factor_61 : decode cX10_factor 61 = .ok (.ifCond .eq 7, 3) := by decide +kernel
theorem dX10_factor_64 : decode cX10_factor 64 = .ok (.iconst 0, 1) := by decide +kernel
theorem dX10_factor_65 : decode cX10_factor 65 = .ok (.goto 4, 3) := by decide +kernel
theorem dX10_factor_68 : decode cX10_factor 68 = .ok (.iconst 1, 1) := by decide +kernel
theorem dX10_factor_69 : decode cX10_factor 69 = .ok (.iadd, 1) := by decide +kernel
theorem dX10_factor_70 : decode cX10_factor 70 = .ok (.putfield 52, 3) := by decide +kernel
theorem dX10_factor_73 : decode cX10_factor 73 = .ok (.iload_n 1, 1) := by decide +kernel
theorem dX10_factor_74 : decode cX10_factor 74 = .ok (.bipush 33, 2) := by decide +kernel
theorem dX10_factor_76 : decode cX10_factor 76 = .ok (.if_icmp .ne 15, 3) := by decide +kernel
theorem dX10_factor_79 : decode cX10_factor 79 = .ok (.aload_n 0, 1) := by decide +kernel
theorem dX10_factor_80 : decode cX10_factor 80 = .ok (.invokevirtual 85, 3) := by decide +kernel
theorem dX10_factor_83 : decode cX10_factor 83 = .ok (.aload_n 0, 1) := by decide +kernel
theorem dX10_factor_84 : decode cX10_factor 84 = .ok (.iconst (-1), 1) := by decide +kernel
theorem dX10_factor_85 : decode cX10_factor 85 = .ok (.invokevirtual 88, 3) := by decide +kernel
theorem dX10_factor_88 : decode cX10_factor 88 = .ok (.goto 13, 3) := by decide +kernel
theorem dX10_factor_91 : decode cX10_factor 91 = .ok (.aload_n 0, 1) := by decide +kernel
theorem dX10_factor_92 : decode cX10_factor 92 = .ok (.invokevirtual 91, 3) := by decide +kernel
theorem dX10_factor_95 : decode cX10_factor 95 = .ok (.aload_n 0, 1) := by decide +kernel
theorem dX10_factor_96 : decode cX10_factor 96 = .ok (.bipush 41, 2) := by decide +kernel
theorem dX10_factor_98 : decode cX10_factor 98 = .ok (.invokevirtual 75, 3) := by decide +kernel
theorem dX10_factor_101 : decode cX10_factor 101 = .ok (.aload_n 0, 1) := by decide +kernel
theorem dX10_factor_102 : decode cX10_factor 102 = .ok (.dup, 1) := by decide +kernel
theorem dX10_factor_103 : decode cX10_factor 103 = .ok (.getfield 82, 3) := by decide +kernel
theorem dX10_factor_106 : decode cX10_factor 106 = .ok (.iconst 1, 1) := by decide +kernel
theorem dX10_factor_107 : decode cX10_factor 107 = .ok (.isub, 1) := by decide +kernel
theorem dX10_factor_108 : decode cX10_factor 108 = .ok (.putfield 82, 3) := by decide +kernel
theorem dX10_factor_111 : decode cX10_factor 111 = .ok (.return_, 1) := by decide +kernel
theorem dX10_factor_112 : decode cX10_factor 112 = .ok (.aload_n 0, 1) := by decide +kernel
theorem dX10_factor_113 : decode cX10_factor 113 = .ok (.ldc 94, 2) := by decide +kernel
theorem dX10_factor_115 : decode cX10_factor 115 = .ok (.invokevirtual 96, 3) := by decide +kernel
theorem dX10_factor_118 : decode cX10_factor 118 = .ok (.istore_n 2, 1) := by decide +kernel
theorem dX10_factor_119 : decode cX10_factor 119 = .ok (.aload_n 0, 1) := by decide +kernel
theorem dX10_factor_120 : decode cX10_factor 120 = .ok (.iload_n 2, 1) := by decide +kernel
theorem dX10_factor_121 : decode cX10_factor 121 = .ok (.iconst (-1), 1) := by decide +kernel
theorem dX10_factor_122 : decode cX10_factor 122 = .ok (.if_icmp .ne 7, 3) := by decide +kernel
theorem dX10_factor_125 : decode cX10_factor 125 = .ok (.iconst 1, 1) := by decide +kernel
theorem dX10_factor_126 : decode cX10_factor 126 = .ok (.goto 4, 3) := by decide +kernel
theorem dX10_factor_129 : decode cX10_factor 129 = .ok (.iconst 0, 1) := by decide +kernel
theorem dX10_factor_130 : decode cX10_factor 130 = .ok (.putfield 58, 3) := by decide +kernel
theorem dX10_factor_133 : decode cX10_factor 133 = .ok (.aload_n 0, 1) := by decide +kernel
theorem dX10_factor_134 : decode cX10_factor 134 = .ok (.getfield 58, 3) := by decide +kernel
theorem dX10_factor_137 : decode cX10_factor 137 = .ok (.ifCond .eq 7, 3) := by decide +kernel
theorem dX10_factor_140 : decode cX10_factor 140 = .ok (.iconst 0, 1) := by decide +kernel
theorem dX10_factor_141 : decode cX10_factor 141 = .ok (.goto 9, 3) := by decide +kernel
theorem dX10_factor_144 : decode cX10_factor 144 = .ok (.aload_n 0, 1) := by decide +kernel
theorem dX10_factor_145 : decode cX10_factor 145 = .ok (.ldc 100, 2) := by decide +kernel
theorem dX10_factor_147 : decode cX10_factor 147 = .ok (.invokevirtual 96, 3) := by decide +kernel
theorem dX10_factor_150 : decode cX10_factor 150 = .ok (.istore_n 3, 1) := by decide +kernel
theorem dX10_factor_151 : decode cX10_factor 151 = .ok (.aload_n 0, 1) := by decide +kernel
theorem dX10_factor_152 : decode cX10_factor 152 = .ok (.aload_n 0, 1) := by decide +kernel
theorem dX10_factor_153 : decode cX10_factor 153 = .ok (.getfield 58, 3) := by decide +kernel
theorem dX10_factor_156 : decode cX10_factor 156 = .ok (.ifCond .ne 8, 3) := by decide +kernel
theorem dX10_factor_159 : decode cX10_factor 159 = .ok (.iload_n 3, 1) := by decide +kernel
theorem dX10_factor_160 : decode cX10_factor 160 = .ok (.iconst (-1), 1) := by decide +kernel
theorem dX10_factor_161 : decode cX10_factor 161 = .ok (.if_icmp .ne 7, 3) := by decide +kernel
theorem dX10_factor_164 : decode cX10_factor 164 = .ok (.iconst 1, 1) := by decide +kernel
theorem dX10_factor_165 : decode cX10_factor 165 = .ok (.goto 4, 3) := by decide +kernel
theorem dX10_factor_168 : decode cX10_factor 168 = .ok (.iconst 0, 1) := by decide +kernel
theorem dX10_factor_169 : decode cX10_factor 169 = .ok (.putfield 58, 3) := by decide +kernel
theorem dX10_factor_172 : decode cX10_factor 172 = .ok (.aload_n 0, 1) := by decide +kernel
theorem dX10_factor_173 : decode cX10_factor 173 = .ok (.invokevirtual 102, 3) := by decide +kernel
theorem dX10_factor_176 : decode cX10_factor 176 = .ok (.istore 4, 2) := by decide +kernel
theorem dX10_factor_178 : decode cX10_factor 178 = .ok (.aload_n 0, 1) := by decide +kernel
theorem dX10_factor_179 : decode cX10_factor 179 = .ok (.iload_n 2, 1) := by decide +kernel
theorem dX10_factor_180 : decode cX10_factor 180 = .ok (.bipush 8, 2) := by decide +kernel
theorem dX10_factor_182 : decode cX10_factor 182 = .ok (.iload_n 3, 1) := by decide +kernel
theorem dX10_factor_183 : decode cX10_factor 183 = .ok (.imul, 1) := by decide +kernel
theorem dX10_factor_184 : decode cX10_factor 184 = .ok (.iadd, 1) := by decide +kernel
theorem dX10_factor_185 : decode cX10_factor 185 = .ok (.bipush 32, 2) := by decide +kernel
theorem dX10_factor_187 : decode cX10_factor 187 = .ok (.iload 4, 2) := by decide +kernel
theorem dX10_factor_189 : decode cX10_factor 189 = .ok (.imul, 1) := by decide +kernel
theorem dX10_factor_190 : decode cX10_factor 190 = .ok (.iadd, 1) := by decide +kernel
theorem dX10_factor_191 : decode cX10_factor 191 = .ok (.invokevirtual 88, 3) := by decide +kernel
theorem dX10_factor_194 : decode cX10_factor 194 = .ok (.return_, 1) := by decide +kernel
theorem dX10_every_0 : decode cX10_every 0 = .ok (.aload_n 0, 1) := by decide +kernel
theorem dX10_every_1 : decode cX10_every 1 = .ok (.invokevirtual 85, 3) := by decide +kernel
theorem dX10_every_4 : decode cX10_every 4 = .ok (.aload_n 0, 1) := by decide +kernel
theorem dX10_every_5 : decode cX10_every 5 = .ok (.getfield 58, 3) := by decide +kernel
theorem dX10_every_8 : decode cX10_every 8 = .ok (.ifCond .ne 35, 3) := by decide +kernel
theorem dX10_every_11 : decode cX10_every 11 = .ok (.aload_n 0, 1) := by decide +kernel
theorem dX10_every_12 : decode cX10_every 12 = .ok (.invokevirtual 62, 3) := by decide +kernel
theorem dX10_every_15 : decode cX10_every 15 = .ok (.bipush 38, 2) := by decide +kernel
theorem dX10_every_17 : decode cX10_every 17 = .ok (.if_icmp .ne 26, 3) := by decide +kernel
theorem dX10_every_20 : decode cX10_every 20 = .ok (.aload_n 0, 1) := by decide +kernel
theorem dX10_every_21 : decode cX10_every 21 = .ok (.dup, 1) := by decide +kernel
theorem dX10_every_22 : decode cX10_every 22 = .ok (.getfield 52, 3) := by decide +kernel
theorem dX10_every_25 : decode cX10_every 25 = .ok (.iconst 1, 1) := by decide +kernel
theorem dX10_every_26 : decode cX10_every 26 = .ok (.iadd, 1) := by decide +kernel
theorem dX10_every_27 : decode cX10_every 27 = .ok (.putfield 52, 3) := by decide +kernel
theorem dX10_every_30 : decode cX10_every 30 = .ok (.aload_n 0, 1) := by decide +kernel
theorem dX10_every_31 : decode cX10_every 31 = .ok (.invokevirtual 85, 3) := by decide +kernel
theorem dX10_every_34 : decode cX10_every 34 = .ok (.aload_n 0, 1) := by decide +kernel
theorem dX10_every_35 : decode cX10_every 35 = .ok (.bipush (-2), 2) := by decide +kernel
theorem dX10_every_37 : decode cX10_every 37 = .ok (.invokevirtual 88, 3) := by decide +kernel
theorem dX10_every_40 : decode cX10_every 40 = .ok (.goto (-36), 3) := by decide +kernel
theorem dX10_every_43 : decode cX10_every 43 = .ok (.return_, 1) := by decide +kernel
theorem dX10_some_0 : decode cX10_some 0 = .ok (.aload_n 0, 1) := by decide +kernel
theorem dX10_some_1 : decode cX10_some 1 = .ok (.invokevirtual 105, 3) := by decide +kernel
theorem dX10_some_4 : decode cX10_some 4 = .ok (.aload_n 0, 1) := by decide +kernel
theorem dX10_some_5 : decode cX10_some 5 = .ok (.getfield 58, 3) := by decide +kernel
theorem dX10_some_8 : decode cX10_some 8 = .ok (.ifCond .ne 35, 3) := by decide +kernel
theorem dX10_some_11 : decode cX10_some 11 = .ok (.aload_n 0, 1) := by decide +kernel
theorem dX10_some_12 : decode cX10_some 12 = .ok (.invokevirtual 62, 3) := by decide +kernel
theorem dX10_some_15 : decode cX10_some 15 = .ok (.bipush 124, 2) := by decide +kernel
theorem dX10_some_17 : decode cX10_some 17 = .ok (.if_icmp .ne 26, 3) := by decide +kernel
theorem dX10_some_20 : decode cX10_some 20 = .ok (.aload_n 0, 1) := by decide +kernel
theorem dX10_some_21 : decode cX10_some 21 = .ok (.dup, 1) := by decide +kernel
theorem dX10_some_22 : decode cX10_some 22 = .ok (.getfield 52, 3) := by decide +kernel
theorem dX10_some_25 : decode cX10_some 25 = .ok (.iconst 1, 1) := by decide +kernel
theorem dX10_some_26 : decode cX10_some 26 = .ok (.iadd, 1) := by decide +kernel
theorem dX10_some_27 : decode cX10_some 27 = .ok (.putfield 52, 3) := by decide +kernel
theorem dX10_some_30 : decode cX10_some 30 = .ok (.aload_n 0, 1) := by decide +kernel
theorem dX10_some_31 : decode cX10_some 31 = .ok (.invokevirtual 105, 3) := by decide +kernel
theorem dX10_some_34 : decode cX10_some 34 = .ok (.aload_n 0, 1) := by decide +kernel
theorem dX10_some_35 : decode cX10_some 35 = .ok (.bipush (-3), 2) := by decide +kernel
theorem dX10_some_37 : decode cX10_some 37 = .ok (.invokevirtual 88, 3) := by decide +kernel
theorem dX10_some_40 : decode cX10_some 40 = .ok (.goto (-36), 3) := by decide +kernel
theorem dX10_some_43 : decode cX10_some 43 = .ok (.return_, 1) := by decide +kernel
theorem dX10_much_0 : decode cX10_much 0 = .ok (.aload_n 0, 1) := by decide +kernel
theorem dX10_much_1 : decode cX10_much 1 = .ok (.aload_n 2, 1) := by decide +kernel
theorem dX10_much_2 : decode cX10_much 2 = .ok (.invokevirtual 108, 3) := by decide +kernel
theorem dX10_much_5 : decode cX10_much 5 = .ok (.aload_n 0, 1) := by decide +kernel
theorem dX10_much_6 : decode cX10_much 6 = .ok (.invokevirtual 102, 3) := by decide +kernel
theorem dX10_much_9 : decode cX10_much 9 = .ok (.istore_n 3, 1) := by decide +kernel
theorem dX10_much_10 : decode cX10_much 10 = .ok (.aload_n 0, 1) := by decide +kernel
theorem dX10_much_11 : decode cX10_much 11 = .ok (.bipush 32, 2) := by decide +kernel
theorem dX10_much_13 : decode cX10_much 13 = .ok (.invokevirtual 75, 3) := by decide +kernel
theorem dX10_much_16 : decode cX10_much 16 = .ok (.aload_n 0, 1) := by decide +kernel
theorem dX10_much_17 : decode cX10_much 17 = .ok (.invokevirtual 91, 3) := by decide +kernel
theorem dX10_much_20 : decode cX10_much 20 = .ok (.aload_n 0, 1) := by decide +kernel
theorem dX10_much_21 : decode cX10_much 21 = .ok (.iload_n 1, 1) := by decide +kernel
theorem dX10_much_22 : decode cX10_much 22 = .ok (.iload_n 3, 1) := by decide +kernel
theorem dX10_much_23 : decode cX10_much 23 = .ok (.isub, 1) := by decide +kernel
theorem dX10_much_24 : decode cX10_much 24 = .ok (.invokevirtual 88, 3) := by decide +kernel
theorem dX10_much_27 : decode cX10_much 27 = .ok (.return_, 1) := by decide +kernel
theorem dX10_tellsHere_0 : decode cX10_tellsHere 0 = .ok (.aload_n 0, 1) := by decide +kernel
theorem dX10_tellsHere_1 : decode cX10_tellsHere 1 = .ok (.aload_n 2, 1) := by decide +kernel
theorem dX10_tellsHere_2 : decode cX10_tellsHere 2 = .ok (.invokevirtual 108, 3) := by decide +kernel
theorem dX10_tellsHere_5 : decode cX10_tellsHere 5 = .ok (.aload_n 0, 1) := by decide +kernel
theorem dX10_tellsHere_6 : decode cX10_tellsHere 6 = .ok (.invokevirtual 102, 3) := by decide +kernel
theorem dX10_tellsHere_9 : decode cX10_tellsHere 9 = .ok (.istore_n 3, 1) := by decide +kernel
theorem dX10_tellsHere_10 : decode cX10_tellsHere 10 = .ok (.aload_n 0, 1) := by decide +kernel
theorem dX10_tellsHere_11 : decode cX10_tellsHere 11 = .ok (.getfield 58, 3) := by decide +kernel
theorem dX10_tellsHere_14 : decode cX10_tellsHere 14 = .ok (.ifCond .ne 15, 3) := by decide +kernel
theorem dX10_tellsHere_17 : decode cX10_tellsHere 17 = .ok (.aload_n 0, 1) := by decide +kernel
theorem dX10_tellsHere_18 : decode cX10_tellsHere 18 = .ok (.getfield 9, 3) := by decide +kernel
theorem dX10_tellsHere_21 : decode cX10_tellsHere 21 = .ok (.iload_n 1, 1) := by decide +kernel
theorem dX10_tellsHere_22 : decode cX10_tellsHere 22 = .ok (.aload_n 0, 1) := by decide +kernel
theorem dX10_tellsHere_23 : decode cX10_tellsHere 23 = .ok (.getfield 79, 3) := by decide +kernel
theorem dX10_tellsHere_26 : decode cX10_tellsHere 26 = .ok (.iadd, 1) := by decide +kernel
theorem dX10_tellsHere_27 : decode cX10_tellsHere 27 = .ok (.iload_n 3, 1) := by decide +kernel
theorem dX10_tellsHere_28 : decode cX10_tellsHere 28 = .ok (.iastore, 1) := by decide +kernel
theorem dX10_tellsHere_29 : decode cX10_tellsHere 29 = .ok (.return_, 1) := by decide +kernel
theorem dX10_clauseOfH_0 : decode cX10_clauseOfH 0 = .ok (.aload_n 0, 1) := by decide +kernel
theorem dX10_clauseOfH_1 : decode cX10_clauseOfH 1 = .ok (.bipush 104, 2) := by decide +kernel
theorem dX10_clauseOfH_3 : decode cX10_clauseOfH 3 = .ok (.invokevirtual 75, 3) := by decide +kernel
theorem dX10_clauseOfH_6 : decode cX10_clauseOfH 6 = .ok (.aload_n 0, 1) := by decide +kernel
theorem dX10_clauseOfH_7 : decode cX10_clauseOfH 7 = .ok (.invokevirtual 62, 3) := by decide +kernel
theorem dX10_clauseOfH_10 : decode cX10_clauseOfH 10 = .ok (.bipush 111, 2) := by decide +kernel
theorem dX10_clauseOfH_12 : decode cX10_clauseOfH 12 = .ok (.if_icmp .ne 15, 3) := by decide +kernel
theorem dX10_clauseOfH_15 : decode cX10_clauseOfH 15 = .ok (.aload_n 0, 1) := by decide +kernel
theorem dX10_clauseOfH_16 : decode cX10_clauseOfH 16 = .ok (.sipush (-200), 3) := by decide +kernel
theorem dX10_clauseOfH_19 : decode cX10_clauseOfH 19 = .ok (.ldc 112, 2) := by decide +kernel
theorem dX10_clauseOfH_21 : decode cX10_clauseOfH 21 = .ok (.invokevirtual 114, 3) := by decide +kernel
theorem dX10_clauseOfH_24 : decode cX10_clauseOfH 24 = .ok (.goto 12, 3) := by decide +kernel
theorem dX10_clauseOfH_27 : decode cX10_clauseOfH 27 = .ok (.aload_n 0, 1) := by decide +kernel
theorem dX10_clauseOfH_28 : decode cX10_clauseOfH 28 = .ok (.sipush 356, 3) := by decide +kernel
theorem dX10_clauseOfH_31 : decode cX10_clauseOfH 31 = .ok (.ldc 118, 2) := by decide +kernel
theorem dX10_clauseOfH_33 : decode cX10_clauseOfH 33 = .ok (.invokevirtual 120, 3) := by decide +kernel
theorem dX10_clauseOfH_36 : decode cX10_clauseOfH 36 = .ok (.return_, 1) := by decide +kernel
theorem dX10_clauseHere_0 : decode cX10_clauseHere 0 = .ok (.aload_n 0, 1) := by decide +kernel
theorem dX10_clauseHere_1 : decode cX10_clauseHere 1 = .ok (.invokevirtual 62, 3) := by decide +kernel
theorem dX10_clauseHere_4 : decode cX10_clauseHere 4 = .ok (.lookupswitch 126 #[(97, 114), (99, 90), (103, 60), (104, 71), (105, 102), (119, 78)], 60) := by decide +kernel
theorem dX10_clauseHere_64 : decode cX10_clauseHere 64 = .ok (.aload_n 0, 1) := by decide +kernel
theorem dX10_clauseHere_65 : decode cX10_clauseHere 65 = .ok (.bipush (-10), 2) := by decide +kernel
theorem dX10_clauseHere_67 : decode cX10_clauseHere 67 = .ok (.ldc 123, 2) := by decide +kernel
theorem dX10_clauseHere_69 : decode cX10_clauseHere 69 = .ok (.invokevirtual 114, 3) := by decide +kernel
theorem dX10_clauseHere_72 : decode cX10_clauseHere 72 = .ok (.goto 63, 3) := by decide +kernel
theorem dX10_clauseHere_75 : decode cX10_clauseHere 75 = .ok (.aload_n 0, 1) := by decide +kernel
theorem dX10_clauseHere_76 : decode cX10_clauseHere 76 = .ok (.invokevirtual 125, 3) := by decide +kernel
theorem dX10_clauseHere_79 : decode cX10_clauseHere 79 = .ok (.goto 56, 3) := by decide +kernel
theorem dX10_clauseHere_82 : decode cX10_clauseHere 82 = .ok (.aload_n 0, 1) := by decide +kernel
theorem dX10_clauseHere_83 : decode cX10_clauseHere 83 = .ok (.sipush 336, 3) := by decide +kernel
theorem dX10_clauseHere_86 : decode cX10_clauseHere 86 = .ok (.ldc 128, 2) := by decide +kernel
theorem dX10_clauseHere_88 : decode cX10_clauseHere 88 = .ok (.invokevirtual 120, 3) := by decide +kernel
theorem dX10_clauseHere_91 : decode cX10_clauseHere 91 = .ok (.goto 44, 3) := by decide +kernel
theorem dX10_clauseHere_94 : decode cX10_clauseHere 94 = .ok (.aload_n 0, 1) := by decide +kernel
theorem dX10_clauseHere_95 : decode cX10_clauseHere 95 = .ok (.sipush 341, 3) := by decide +kernel
theorem dX10_clauseHere_98 : decode cX10_clauseHere 98 = .ok (.ldc 130, 2) := by decide +kernel
theorem dX10_clauseHere_100 : decode cX10_clauseHere 100 = .ok (.invokevirtual 120, 3) := by decide +kernel
theorem dX10_clauseHere_103 : decode cX10_clauseHere 103 = .ok (.goto 32, 3) := by decide +kernel
theorem dX10_clauseHere_106 : decode cX10_clauseHere 106 = .ok (.aload_n 0, 1) := by decide +kernel
theorem dX10_clauseHere_107 : decode cX10_clauseHere 107 = .ok (.sipush 346, 3) := by decide +kernel
theorem dX10_clauseHere_110 : decode cX10_clauseHere 110 = .ok (.ldc 132, 2) := by decide +kernel
theorem dX10_clauseHere_112 : decode cX10_clauseHere 112 = .ok (.invokevirtual 120, 3) := by decide +kernel
theorem dX10_clauseHere_115 : decode cX10_clauseHere 115 = .ok (.goto 20, 3) := by decide +kernel
theorem dX10_clauseHere_118 : decode cX10_clauseHere 118 = .ok (.aload_n 0, 1) := by decide +kernel
theorem dX10_clauseHere_119 : decode cX10_clauseHere 119 = .ok (.sipush 351, 3) := by decide +kernel
theorem dX10_clauseHere_122 : decode cX10_clauseHere 122 = .ok (.ldc 134, 2) := by decide +kernel
theorem dX10_clauseHere_124 : decode cX10_clauseHere 124 = .ok (.invokevirtual 120, 3) := by decide +kernel
theorem dX10_clauseHere_127 : decode cX10_clauseHere 127 = .ok (.goto 8, 3) := by decide +kernel
theorem dX10_clauseHere_130 : decode cX10_clauseHere 130 = .ok (.aload_n 0, 1) := by decide +kernel
theorem dX10_clauseHere_131 : decode cX10_clauseHere 131 = .ok (.iconst 1, 1) := by decide +kernel
theorem dX10_clauseHere_132 : decode cX10_clauseHere 132 = .ok (.putfield 58, 3) := by decide +kernel
theorem dX10_clauseHere_135 : decode cX10_clauseHere 135 = .ok (.return_, 1) := by decide +kernel
theorem dX10_house_0 : decode cX10_house 0 = .ok (.aload_n 0, 1) := by decide +kernel
theorem dX10_house_1 : decode cX10_house 1 = .ok (.getfield 9, 3) := by decide +kernel
theorem dX10_house_4 : decode cX10_house 4 = .ok (.iconst 1, 1) := by decide +kernel
theorem dX10_house_5 : decode cX10_house 5 = .ok (.iaload, 1) := by decide +kernel
theorem dX10_house_6 : decode cX10_house 6 = .ok (.iconst 5, 1) := by decide +kernel
theorem dX10_house_7 : decode cX10_house 7 = .ok (.if_icmp .ne 6, 3) := by decide +kernel
theorem dX10_house_10 : decode cX10_house 10 = .ok (.bipush (-4), 2) := by decide +kernel
theorem dX10_house_12 : decode cX10_house 12 = .ok (.ireturn, 1) := by decide +kernel
theorem dX10_house_13 : decode cX10_house 13 = .ok (.aload_n 0, 1) := by decide +kernel
theorem dX10_house_14 : decode cX10_house 14 = .ok (.aload_n 0, 1) := by decide +kernel
theorem dX10_house_15 : decode cX10_house 15 = .ok (.getfield 9, 3) := by decide +kernel
theorem dX10_house_18 : decode cX10_house 18 = .ok (.iconst 1, 1) := by decide +kernel
theorem dX10_house_19 : decode cX10_house 19 = .ok (.iaload, 1) := by decide +kernel
theorem dX10_house_20 : decode cX10_house 20 = .ok (.putfield 79, 3) := by decide +kernel
theorem dX10_house_23 : decode cX10_house 23 = .ok (.aload_n 0, 1) := by decide +kernel
theorem dX10_house_24 : decode cX10_house 24 = .ok (.aload_n 0, 1) := by decide +kernel
theorem dX10_house_25 : decode cX10_house 25 = .ok (.getfield 9, 3) := by decide +kernel
theorem dX10_house_28 : decode cX10_house 28 = .ok (.iconst 3, 1) := by decide +kernel
theorem dX10_house_29 : decode cX10_house 29 = .ok (.iaload, 1) := by decide +kernel
theorem dX10_house_30 : decode cX10_house 30 = .ok (.putfield 55, 3) := by decide +kernel
theorem dX10_house_33 : decode cX10_house 33 = .ok (.aload_n 0, 1) := by decide +kernel
theorem dX10_house_34 : decode cX10_house 34 = .ok (.getfield 9, 3) := by decide +kernel
theorem dX10_house_37 : decode cX10_house 37 = .ok (.iconst 3, 1) := by decide +kernel
theorem dX10_house_38 : decode cX10_house 38 = .ok (.iconst 0, 1) := by decide +kernel
theorem dX10_house_39 : decode cX10_house 39 = .ok (.iastore, 1) := by decide +kernel
theorem dX10_house_40 : decode cX10_house 40 = .ok (.aload_n 0, 1) := by decide +kernel
theorem dX10_house_41 : decode cX10_house 41 = .ok (.getfield 9, 3) := by decide +kernel
theorem dX10_house_44 : decode cX10_house 44 = .ok (.sipush 336, 3) := by decide +kernel
theorem dX10_house_47 : decode cX10_house 47 = .ok (.aload_n 0, 1) := by decide +kernel
theorem dX10_house_48 : decode cX10_house 48 = .ok (.getfield 79, 3) := by decide +kernel
theorem dX10_house_51 : decode cX10_house 51 = .ok (.iadd, 1) := by decide +kernel
theorem dX10_house_52 : decode cX10_house 52 = .ok (.iconst 3, 1) := by decide +kernel
theorem dX10_house_53 : decode cX10_house 53 = .ok (.iastore, 1) := by decide +kernel
theorem dX10_house_54 : decode cX10_house 54 = .ok (.aload_n 0, 1) := by decide +kernel
theorem dX10_house_55 : decode cX10_house 55 = .ok (.getfield 9, 3) := by decide +kernel
theorem dX10_house_58 : decode cX10_house 58 = .ok (.sipush 341, 3) := by decide +kernel
theorem dX10_house_61 : decode cX10_house 61 = .ok (.aload_n 0, 1) := by decide +kernel
theorem dX10_house_62 : decode cX10_house 62 = .ok (.getfield 79, 3) := by decide +kernel
theorem dX10_house_65 : decode cX10_house 65 = .ok (.iadd, 1) := by decide +kernel
theorem dX10_house_66 : decode cX10_house 66 = .ok (.iconst 1, 1) := by decide +kernel
theorem dX10_house_67 : decode cX10_house 67 = .ok (.iastore, 1) := by decide +kernel
theorem dX10_house_68 : decode cX10_house 68 = .ok (.aload_n 0, 1) := by decide +kernel
theorem dX10_house_69 : decode cX10_house 69 = .ok (.getfield 9, 3) := by decide +kernel
theorem dX10_house_72 : decode cX10_house 72 = .ok (.sipush 346, 3) := by decide +kernel
theorem dX10_house_75 : decode cX10_house 75 = .ok (.aload_n 0, 1) := by decide +kernel
theorem dX10_house_76 : decode cX10_house 76 = .ok (.getfield 79, 3) := by decide +kernel
theorem dX10_house_79 : decode cX10_house 79 = .ok (.iadd, 1) := by decide +kernel
theorem dX10_house_80 : decode cX10_house 80 = .ok (.iconst 1, 1) := by decide +kernel
theorem dX10_house_81 : decode cX10_house 81 = .ok (.iastore, 1) := by decide +kernel
theorem dX10_house_82 : decode cX10_house 82 = .ok (.aload_n 0, 1) := by decide +kernel
theorem dX10_house_83 : decode cX10_house 83 = .ok (.getfield 9, 3) := by decide +kernel
theorem dX10_house_86 : decode cX10_house 86 = .ok (.sipush 351, 3) := by decide +kernel
theorem dX10_house_89 : decode cX10_house 89 = .ok (.aload_n 0, 1) := by decide +kernel
theorem dX10_house_90 : decode cX10_house 90 = .ok (.getfield 79, 3) := by decide +kernel
theorem dX10_house_93 : decode cX10_house 93 = .ok (.iadd, 1) := by decide +kernel
theorem dX10_house_94 : decode cX10_house 94 = .ok (.iconst 4, 1) := by decide +kernel
theorem dX10_house_95 : decode cX10_house 95 = .ok (.iastore, 1) := by decide +kernel
theorem dX10_house_96 : decode cX10_house 96 = .ok (.aload_n 0, 1) := by decide +kernel
theorem dX10_house_97 : decode cX10_house 97 = .ok (.getfield 9, 3) := by decide +kernel
theorem dX10_house_100 : decode cX10_house 100 = .ok (.sipush 356, 3) := by decide +kernel
theorem dX10_house_103 : decode cX10_house 103 = .ok (.aload_n 0, 1) := by decide +kernel
theorem dX10_house_104 : decode cX10_house 104 = .ok (.getfield 79, 3) := by decide +kernel
theorem dX10_house_107 : decode cX10_house 107 = .ok (.iadd, 1) := by decide +kernel
theorem dX10_house_108 : decode cX10_house 108 = .ok (.iconst 1, 1) := by decide +kernel
theorem dX10_house_109 : decode cX10_house 109 = .ok (.iastore, 1) := by decide +kernel
theorem dX10_house_110 : decode cX10_house 110 = .ok (.aload_n 0, 1) := by decide +kernel
theorem dX10_house_111 : decode cX10_house 111 = .ok (.getfield 9, 3) := by decide +kernel
theorem dX10_house_114 : decode cX10_house 114 = .ok (.sipush 361, 3) := by decide +kernel
theorem dX10_house_117 : decode cX10_house 117 = .ok (.aload_n 0, 1) := by decide +kernel
theorem dX10_house_118 : decode cX10_house 118 = .ok (.getfield 79, 3) := by decide +kernel
theorem dX10_house_121 : decode cX10_house 121 = .ok (.iadd, 1) := by decide +kernel
theorem dX10_house_122 : decode cX10_house 122 = .ok (.iconst 0, 1) := by decide +kernel
theorem dX10_house_123 : decode cX10_house 123 = .ok (.iastore, 1) := by decide +kernel
theorem dX10_house_124 : decode cX10_house 124 = .ok (.aload_n 0, 1) := by decide +kernel
theorem dX10_house_125 : decode cX10_house 125 = .ok (.iconst 0, 1) := by decide +kernel
theorem dX10_house_126 : decode cX10_house 126 = .ok (.putfield 52, 3) := by decide +kernel
theorem dX10_house_129 : decode cX10_house 129 = .ok (.aload_n 0, 1) := by decide +kernel
theorem dX10_house_130 : decode cX10_house 130 = .ok (.iconst 0, 1) := by decide +kernel
theorem dX10_house_131 : decode cX10_house 131 = .ok (.putfield 58, 3) := by decide +kernel
theorem dX10_house_134 : decode cX10_house 134 = .ok (.aload_n 0, 1) := by decide +kernel
theorem dX10_house_135 : decode cX10_house 135 = .ok (.iconst 0, 1) := by decide +kernel
theorem dX10_house_136 : decode cX10_house 136 = .ok (.putfield 82, 3) := by decide +kernel
theorem dX10_house_139 : decode cX10_house 139 = .ok (.iconst 1, 1) := by decide +kernel
theorem dX10_house_140 : decode cX10_house 140 = .ok (.istore_n 1, 1) := by decide +kernel
theorem dX10_house_141 : decode cX10_house 141 = .ok (.aload_n 0, 1) := by decide +kernel
theorem dX10_house_142 : decode cX10_house 142 = .ok (.invokevirtual 136, 3) := by decide +kernel
theorem dX10_house_145 : decode cX10_house 145 = .ok (.aload_n 0, 1) := by decide +kernel
theorem dX10_house_146 : decode cX10_house 146 = .ok (.getfield 58, 3) := by decide +kernel
theorem dX10_house_149 : decode cX10_house 149 = .ok (.ifCond .ne 38, 3) := by decide +kernel
theorem dX10_house_152 : decode cX10_house 152 = .ok (.iload_n 1, 1) := by decide +kernel
theorem dX10_house_153 : decode cX10_house 153 = .ok (.bipush 10, 2) := by decide +kernel
theorem dX10_house_155 : decode cX10_house 155 = .ok (.if_icmp .ge 32, 3) := by decide +kernel
theorem dX10_house_158 : decode cX10_house 158 = .ok (.aload_n 0, 1) := by decide +kernel
theorem dX10_house_159 : decode cX10_house 159 = .ok (.invokevirtual 62, 3) := by decide +kernel
theorem dX10_house_162 : decode cX10_house 162 = .ok (.bipush 59, 2) := by decide +kernel
theorem dX10_house_164 : decode cX10_house 164 = .ok (.if_icmp .ne 23, 3) := by decide +kernel
theorem dX10_house_167 : decode cX10_house 167 = .ok (.aload_n 0, 1) := by decide +kernel
theorem dX10_house_168 : decode cX10_house 168 = .ok (.dup, 1) := by decide +kernel
theorem dX10_house_169 : decode cX10_house 169 = .ok (.getfield 52, 3) := by decide +kernel
theorem dX10_house_172 : decode cX10_house 172 = .ok (.iconst 1, 1) := by decide +kernel
theorem dX10_house_173 : decode cX10_house 173 = .ok (.iadd, 1) := by decide +kernel
theorem dX10_house_174 : decode cX10_house 174 = .ok (.putfield 52, 3) := by decide +kernel
theorem dX10_house_177 : decode cX10_house 177 = .ok (.aload_n 0, 1) := by decide +kernel
theorem dX10_house_178 : decode cX10_house 178 = .ok (.invokevirtual 136, 3) := by decide +kernel
theorem dX10_house_181 : decode cX10_house 181 = .ok (.iinc 1 1, 3) := by decide +kernel
theorem dX10_house_184 : decode cX10_house 184 = .ok (.goto (-39), 3) := by decide +kernel
theorem dX10_house_187 : decode cX10_house 187 = .ok (.aload_n 0, 1) := by decide +kernel
theorem dX10_house_188 : decode cX10_house 188 = .ok (.getfield 58, 3) := by decide +kernel
theorem dX10_house_191 : decode cX10_house 191 = .ok (.ifCond .ne 14, 3) := by decide +kernel
theorem dX10_house_194 : decode cX10_house 194 = .ok (.aload_n 0, 1) := by decide +kernel
theorem dX10_house_195 : decode cX10_house 195 = .ok (.getfield 52, 3) := by decide +kernel
theorem dX10_house_198 : decode cX10_house 198 = .ok (.aload_n 0, 1) := by decide +kernel
theorem dX10_house_199 : decode cX10_house 199 = .ok (.getfield 55, 3) := by decide +kernel
theorem dX10_house_202 : decode cX10_house 202 = .ok (.if_icmp .eq 11, 3) := by decide +kernel
theorem dX10_house_205 : decode cX10_house 205 = .ok (.bipush (-10), 2) := by decide +kernel
theorem dX10_house_207 : decode cX10_house 207 = .ok (.aload_n 0, 1) := by decide +kernel
theorem dX10_house_208 : decode cX10_house 208 = .ok (.getfield 52, 3) := by decide +kernel
theorem dX10_house_211 : decode cX10_house 211 = .ok (.isub, 1) := by decide +kernel
theorem dX10_house_212 : decode cX10_house 212 = .ok (.ireturn, 1) := by decide +kernel
theorem dX10_house_213 : decode cX10_house 213 = .ok (.aload_n 0, 1) := by decide +kernel
theorem dX10_house_214 : decode cX10_house 214 = .ok (.getfield 9, 3) := by decide +kernel
theorem dX10_house_217 : decode cX10_house 217 = .ok (.iconst 1, 1) := by decide +kernel
theorem dX10_house_218 : decode cX10_house 218 = .ok (.dup2, 1) := by decide +kernel
theorem dX10_house_219 : decode cX10_house 219 = .ok (.iaload, 1) := by decide +kernel
theorem dX10_house_220 : decode cX10_house 220 = .ok (.iconst 1, 1) := by decide +kernel
theorem dX10_house_221 : decode cX10_house 221 = .ok (.iadd, 1) := by decide +kernel
theorem dX10_house_222 : decode cX10_house 222 = .ok (.iastore, 1) := by decide +kernel
theorem dX10_house_223 : decode cX10_house 223 = .ok (.aload_n 0, 1) := by decide +kernel
theorem dX10_house_224 : decode cX10_house 224 = .ok (.getfield 9, 3) := by decide +kernel
theorem dX10_house_227 : decode cX10_house 227 = .ok (.iconst 4, 1) := by decide +kernel
theorem dX10_house_228 : decode cX10_house 228 = .ok (.aload_n 0, 1) := by decide +kernel
theorem dX10_house_229 : decode cX10_house 229 = .ok (.getfield 79, 3) := by decide +kernel
theorem dX10_house_232 : decode cX10_house 232 = .ok (.iastore, 1) := by decide +kernel
theorem dX10_house_233 : decode cX10_house 233 = .ok (.aload_n 0, 1) := by decide +kernel
theorem dX10_house_234 : decode cX10_house 234 = .ok (.getfield 79, 3) := by decide +kernel
theorem dX10_house_237 : decode cX10_house 237 = .ok (.ireturn, 1) := by decide +kernel
theorem dX10_tellsOf_0 : decode cX10_tellsOf 0 = .ok (.aload_n 0, 1) := by decide +kernel
theorem dX10_tellsOf_1 : decode cX10_tellsOf 1 = .ok (.getfield 9, 3) := by decide +kernel
theorem dX10_tellsOf_4 : decode cX10_tellsOf 4 = .ok (.iconst 4, 1) := by decide +kernel
theorem dX10_tellsOf_5 : decode cX10_tellsOf 5 = .ok (.iaload, 1) := by decide +kernel
theorem dX10_tellsOf_6 : decode cX10_tellsOf 6 = .ok (.iconst (-1), 1) := by decide +kernel
theorem dX10_tellsOf_7 : decode cX10_tellsOf 7 = .ok (.if_icmp .ne 7, 3) := by decide +kernel
theorem dX10_tellsOf_10 : decode cX10_tellsOf 10 = .ok (.iload_n 2, 1) := by decide +kernel
theorem dX10_tellsOf_11 : decode cX10_tellsOf 11 = .ok (.goto 16, 3) := by decide +kernel
theorem dX10_tellsOf_14 : decode cX10_tellsOf 14 = .ok (.aload_n 0, 1) := by decide +kernel
theorem dX10_tellsOf_15 : decode cX10_tellsOf 15 = .ok (.getfield 9, 3) := by decide +kernel
theorem dX10_tellsOf_18 : decode cX10_tellsOf 18 = .ok (.iload_n 1, 1) := by decide +kernel
theorem dX10_tellsOf_19 : decode cX10_tellsOf 19 = .ok (.aload_n 0, 1) := by decide +kernel
theorem dX10_tellsOf_20 : decode cX10_tellsOf 20 = .ok (.getfield 9, 3) := by decide +kernel
theorem dX10_tellsOf_23 : decode cX10_tellsOf 23 = .ok (.iconst 4, 1) := by decide +kernel
theorem dX10_tellsOf_24 : decode cX10_tellsOf 24 = .ok (.iaload, 1) := by decide +kernel
theorem dX10_tellsOf_25 : decode cX10_tellsOf 25 = .ok (.iadd, 1) := by decide +kernel
theorem dX10_tellsOf_26 : decode cX10_tellsOf 26 = .ok (.iaload, 1) := by decide +kernel
theorem dX10_tellsOf_27 : decode cX10_tellsOf 27 = .ok (.ireturn, 1) := by decide +kernel
theorem dX10_told_0 : decode cX10_told 0 = .ok (.iload_n 1, 1) := by decide +kernel
theorem dX10_told_1 : decode cX10_told 1 = .ok (.tableswitch 80 0 4 #[35, 44, 53, 62, 71], 35) := by decide +kernel
theorem dX10_told_36 : decode cX10_told 36 = .ok (.aload_n 0, 1) := by decide +kernel
theorem dX10_told_37 : decode cX10_told 37 = .ok (.sipush 336, 3) := by decide +kernel
theorem dX10_told_40 : decode cX10_told 40 = .ok (.iconst 3, 1) := by decide +kernel
theorem dX10_told_41 : decode cX10_told 41 = .ok (.invokevirtual 139, 3) := by decide +kernel
theorem dX10_told_44 : decode cX10_told 44 = .ok (.ireturn, 1) := by decide +kernel
theorem dX10_told_45 : decode cX10_told 45 = .ok (.aload_n 0, 1) := by decide +kernel
theorem dX10_told_46 : decode cX10_told 46 = .ok (.sipush 341, 3) := by decide +kernel
theorem dX10_told_49 : decode cX10_told 49 = .ok (.iconst 1, 1) := by decide +kernel
theorem dX10_told_50 : decode cX10_told 50 = .ok (.invokevirtual 139, 3) := by decide +kernel
theorem dX10_told_53 : decode cX10_told 53 = .ok (.ireturn, 1) := by decide +kernel
theorem dX10_told_54 : decode cX10_told 54 = .ok (.aload_n 0, 1) := by decide +kernel
theorem dX10_told_55 : decode cX10_told 55 = .ok (.sipush 346, 3) := by decide +kernel
theorem dX10_told_58 : decode cX10_told 58 = .ok (.iconst 1, 1) := by decide +kernel
theorem dX10_told_59 : decode cX10_told 59 = .ok (.invokevirtual 139, 3) := by decide +kernel
theorem dX10_told_62 : decode cX10_told 62 = .ok (.ireturn, 1) := by decide +kernel
theorem dX10_told_63 : decode cX10_told 63 = .ok (.aload_n 0, 1) := by decide +kernel
theorem dX10_told_64 : decode cX10_told 64 = .ok (.sipush 351, 3) := by decide +kernel
theorem dX10_told_67 : decode cX10_told 67 = .ok (.iconst 4, 1) := by decide +kernel
theorem dX10_told_68 : decode cX10_told 68 = .ok (.invokevirtual 139, 3) := by decide +kernel
theorem dX10_told_71 : decode cX10_told 71 = .ok (.ireturn, 1) := by decide +kernel
theorem dX10_told_72 : decode cX10_told 72 = .ok (.aload_n 0, 1) := by decide +kernel
theorem dX10_told_73 : decode cX10_told 73 = .ok (.sipush 356, 3) := by decide +kernel
theorem dX10_told_76 : decode cX10_told 76 = .ok (.iconst 1, 1) := by decide +kernel
theorem dX10_told_77 : decode cX10_told 77 = .ok (.invokevirtual 139, 3) := by decide +kernel
theorem dX10_told_80 : decode cX10_told 80 = .ok (.ireturn, 1) := by decide +kernel
theorem dX10_told_81 : decode cX10_told 81 = .ok (.iconst (-1), 1) := by decide +kernel
theorem dX10_told_82 : decode cX10_told 82 = .ok (.ireturn, 1) := by decide +kernel
theorem dX10_looksAt_0 : decode cX10_looksAt 0 = .ok (.aload_n 0, 1) := by decide +kernel
theorem dX10_looksAt_1 : decode cX10_looksAt 1 = .ok (.getfield 18, 3) := by decide +kernel
theorem dX10_looksAt_4 : decode cX10_looksAt 4 = .ok (.iconst 0, 1) := by decide +kernel
theorem dX10_looksAt_5 : decode cX10_looksAt 5 = .ok (.iload_n 1, 1) := by decide +kernel
theorem dX10_looksAt_6 : decode cX10_looksAt 6 = .ok (.iastore, 1) := by decide +kernel
theorem dX10_looksAt_7 : decode cX10_looksAt 7 = .ok (.aload_n 0, 1) := by decide +kernel
theorem dX10_looksAt_8 : decode cX10_looksAt 8 = .ok (.getfield 18, 3) := by decide +kernel
theorem dX10_looksAt_11 : decode cX10_looksAt 11 = .ok (.iconst 1, 1) := by decide +kernel
theorem dX10_looksAt_12 : decode cX10_looksAt 12 = .ok (.aload_n 0, 1) := by decide +kernel
theorem dX10_looksAt_13 : decode cX10_looksAt 13 = .ok (.getfield 9, 3) := by decide +kernel
theorem dX10_looksAt_16 : decode cX10_looksAt 16 = .ok (.sipush 260, 3) := by decide +kernel
theorem dX10_looksAt_19 : decode cX10_looksAt 19 = .ok (.iload_n 1, 1) := by decide +kernel
theorem dX10_looksAt_20 : decode cX10_looksAt 20 = .ok (.iadd, 1) := by decide +kernel
theorem dX10_looksAt_21 : decode cX10_looksAt 21 = .ok (.iaload, 1) := by decide +kernel
theorem dX10_looksAt_22 : decode cX10_looksAt 22 = .ok (.iastore, 1) := by decide +kernel
theorem dX10_looksAt_23 : decode cX10_looksAt 23 = .ok (.aload_n 0, 1) := by decide +kernel
theorem dX10_looksAt_24 : decode cX10_looksAt 24 = .ok (.getfield 18, 3) := by decide +kernel
theorem dX10_looksAt_27 : decode cX10_looksAt 27 = .ok (.iconst 2, 1) := by decide +kernel
theorem dX10_looksAt_28 : decode cX10_looksAt 28 = .ok (.aload_n 0, 1) := by decide +kernel
theorem dX10_looksAt_29 : decode cX10_looksAt 29 = .ok (.getfield 9, 3) := by decide +kernel
theorem dX10_looksAt_32 : decode cX10_looksAt 32 = .ok (.sipush 250, 3) := by decide +kernel
theorem dX10_looksAt_35 : decode cX10_looksAt 35 = .ok (.iload_n 1, 1) := by decide +kernel
theorem dX10_looksAt_36 : decode cX10_looksAt 36 = .ok (.iadd, 1) := by decide +kernel
theorem dX10_looksAt_37 : decode cX10_looksAt 37 = .ok (.iaload, 1) := by decide +kernel
theorem dX10_looksAt_38 : decode cX10_looksAt 38 = .ok (.iastore, 1) := by decide +kernel
theorem dX10_looksAt_39 : decode cX10_looksAt 39 = .ok (.aload_n 0, 1) := by decide +kernel
theorem dX10_looksAt_40 : decode cX10_looksAt 40 = .ok (.getfield 18, 3) := by decide +kernel
theorem dX10_looksAt_43 : decode cX10_looksAt 43 = .ok (.iconst 3, 1) := by decide +kernel
theorem dX10_looksAt_44 : decode cX10_looksAt 44 = .ok (.aload_n 0, 1) := by decide +kernel
theorem dX10_looksAt_45 : decode cX10_looksAt 45 = .ok (.getfield 9, 3) := by decide +kernel
theorem dX10_looksAt_48 : decode cX10_looksAt 48 = .ok (.sipush 270, 3) := by decide +kernel
theorem dX10_looksAt_51 : decode cX10_looksAt 51 = .ok (.iload_n 1, 1) := by decide +kernel
theorem dX10_looksAt_52 : decode cX10_looksAt 52 = .ok (.iadd, 1) := by decide +kernel
theorem dX10_looksAt_53 : decode cX10_looksAt 53 = .ok (.iaload, 1) := by decide +kernel
theorem dX10_looksAt_54 : decode cX10_looksAt 54 = .ok (.iastore, 1) := by decide +kernel
theorem dX10_looksAt_55 : decode cX10_looksAt 55 = .ok (.aload_n 0, 1) := by decide +kernel
theorem dX10_looksAt_56 : decode cX10_looksAt 56 = .ok (.getfield 18, 3) := by decide +kernel
theorem dX10_looksAt_59 : decode cX10_looksAt 59 = .ok (.iconst 4, 1) := by decide +kernel
theorem dX10_looksAt_60 : decode cX10_looksAt 60 = .ok (.iload_n 2, 1) := by decide +kernel
theorem dX10_looksAt_61 : decode cX10_looksAt 61 = .ok (.iastore, 1) := by decide +kernel
theorem dX10_looksAt_62 : decode cX10_looksAt 62 = .ok (.aload_n 0, 1) := by decide +kernel
theorem dX10_looksAt_63 : decode cX10_looksAt 63 = .ok (.iconst 0, 1) := by decide +kernel
theorem dX10_looksAt_64 : decode cX10_looksAt 64 = .ok (.putfield 143, 3) := by decide +kernel
theorem dX10_looksAt_67 : decode cX10_looksAt 67 = .ok (.aload_n 0, 1) := by decide +kernel
theorem dX10_looksAt_68 : decode cX10_looksAt 68 = .ok (.iconst 0, 1) := by decide +kernel
theorem dX10_looksAt_69 : decode cX10_looksAt 69 = .ok (.putfield 146, 3) := by decide +kernel
theorem dX10_looksAt_72 : decode cX10_looksAt 72 = .ok (.aload_n 0, 1) := by decide +kernel
theorem dX10_looksAt_73 : decode cX10_looksAt 73 = .ok (.iconst 0, 1) := by decide +kernel
theorem dX10_looksAt_74 : decode cX10_looksAt 74 = .ok (.putfield 149, 3) := by decide +kernel
theorem dX10_looksAt_77 : decode cX10_looksAt 77 = .ok (.aload_n 0, 1) := by decide +kernel
theorem dX10_looksAt_78 : decode cX10_looksAt 78 = .ok (.sipush 361, 3) := by decide +kernel
theorem dX10_looksAt_81 : decode cX10_looksAt 81 = .ok (.iconst 0, 1) := by decide +kernel
theorem dX10_looksAt_82 : decode cX10_looksAt 82 = .ok (.invokevirtual 139, 3) := by decide +kernel
theorem dX10_looksAt_85 : decode cX10_looksAt 85 = .ok (.istore_n 3, 1) := by decide +kernel
theorem dX10_looksAt_86 : decode cX10_looksAt 86 = .ok (.sipush 366, 3) := by decide +kernel
theorem dX10_looksAt_89 : decode cX10_looksAt 89 = .ok (.sipush 140, 3) := by decide +kernel
theorem dX10_looksAt_92 : decode cX10_looksAt 92 = .ok (.aload_n 0, 1) := by decide +kernel
theorem dX10_looksAt_93 : decode cX10_looksAt 93 = .ok (.getfield 9, 3) := by decide +kernel
theorem dX10_looksAt_96 : decode cX10_looksAt 96 = .ok (.iconst 4, 1) := by decide +kernel
theorem dX10_looksAt_97 : decode cX10_looksAt 97 = .ok (.iaload, 1) := by decide +kernel
theorem dX10_looksAt_98 : decode cX10_looksAt 98 = .ok (.imul, 1) := by decide +kernel
theorem dX10_looksAt_99 : decode cX10_looksAt 99 = .ok (.iadd, 1) := by decide +kernel
theorem dX10_looksAt_100 : decode cX10_looksAt 100 = .ok (.istore 4, 2) := by decide +kernel
theorem dX10_looksAt_102 : decode cX10_looksAt 102 = .ok (.iconst 0, 1) := by decide +kernel
theorem dX10_looksAt_103 : decode cX10_looksAt 103 = .ok (.istore 5, 2) := by decide +kernel
theorem dX10_looksAt_105 : decode cX10_looksAt 105 = .ok (.iload 4, 2) := by decide +kernel
theorem dX10_looksAt_107 : decode cX10_looksAt 107 = .ok (.istore 6, 2) := by decide +kernel
theorem dX10_looksAt_109 : decode cX10_looksAt 109 = .ok (.iload 6, 2) := by decide +kernel
theorem dX10_looksAt_111 : decode cX10_looksAt 111 = .ok (.iload 4, 2) := by decide +kernel
theorem dX10_looksAt_113 : decode cX10_looksAt 113 = .ok (.iload_n 3, 1) := by decide +kernel
theorem dX10_looksAt_114 : decode cX10_looksAt 114 = .ok (.iadd, 1) := by decide +kernel
theorem dX10_looksAt_115 : decode cX10_looksAt 115 = .ok (.if_icmp .ge 337, 3) := by decide +kernel
theorem dX10_looksAt_118 : decode cX10_looksAt 118 = .ok (.aload_n 0, 1) := by decide +kernel
theorem dX10_looksAt_119 : decode cX10_looksAt 119 = .ok (.getfield 9, 3) := by decide +kernel
theorem dX10_looksAt_122 : decode cX10_looksAt 122 = .ok (.iload 6, 2) := by decide +kernel
theorem dX10_looksAt_124 : decode cX10_looksAt 124 = .ok (.iaload, 1) := by decide +kernel
theorem dX10_looksAt_125 : decode cX10_looksAt 125 = .ok (.istore 7, 2) := by decide +kernel
theorem dX10_looksAt_127 : decode cX10_looksAt 127 = .ok (.iload 7, 2) := by decide +kernel
theorem dX10_looksAt_129 : decode cX10_looksAt 129 = .ok (.ifCond .lt 97, 3) := by decide +kernel
theorem dX10_looksAt_132 : decode cX10_looksAt 132 = .ok (.aload_n 0, 1) := by decide +kernel
theorem dX10_looksAt_133 : decode cX10_looksAt 133 = .ok (.getfield 18, 3) := by decide +kernel
theorem dX10_looksAt_136 : decode cX10_looksAt 136 = .ok (.iload 7, 2) := by decide +kernel
theorem dX10_looksAt_138 : decode cX10_looksAt 138 = .ok (.bipush 8, 2) := by decide +kernel
theorem dX10_looksAt_140 : decode cX10_looksAt 140 = .ok (.irem, 1) := by decide +kernel
theorem dX10_looksAt_141 : decode cX10_looksAt 141 = .ok (.iaload, 1) := by decide +kernel
theorem dX10_looksAt_142 : decode cX10_looksAt 142 = .ok (.istore 8, 2) := by decide +kernel
theorem dX10_looksAt_144 : decode cX10_looksAt 144 = .ok (.iload 7, 2) := by decide +kernel
theorem dX10_looksAt_146 : decode cX10_looksAt 146 = .ok (.bipush 8, 2) := by decide +kernel
theorem dX10_looksAt_148 : decode cX10_looksAt 148 = .ok (.idiv, 1) := by decide +kernel
theorem dX10_looksAt_149 : decode cX10_looksAt 149 = .ok (.iconst 4, 1) := by decide +kernel
theorem dX10_looksAt_150 : decode cX10_looksAt 150 = .ok (.irem, 1) := by decide +kernel
theorem dX10_looksAt_151 : decode cX10_looksAt 151 = .ok (.istore 9, 2) := by decide +kernel
theorem dX10_looksAt_153 : decode cX10_looksAt 153 = .ok (.iload 7, 2) := by decide +kernel
theorem dX10_looksAt_155 : decode cX10_looksAt 155 = .ok (.bipush 32, 2) := by decide +kernel
theorem dX10_looksAt_157 : decode cX10_looksAt 157 = .ok (.idiv, 1) := by decide +kernel
theorem dX10_looksAt_158 : decode cX10_looksAt 158 = .ok (.istore 10, 2) := by decide +kernel
theorem dX10_looksAt_160 : decode cX10_looksAt 160 = .ok (.aload_n 0, 1) := by decide +kernel
theorem dX10_looksAt_161 : decode cX10_looksAt 161 = .ok (.getfield 21, 3) := by decide +kernel
theorem dX10_looksAt_164 : decode cX10_looksAt 164 = .ok (.iload 5, 2) := by decide +kernel
theorem dX10_looksAt_166 : decode cX10_looksAt 166 = .ok (.iload 9, 2) := by decide +kernel
theorem dX10_looksAt_168 : decode cX10_looksAt 168 = .ok (.ifCond .ne 18, 3) := by decide +kernel
theorem dX10_looksAt_171 : decode cX10_looksAt 171 = .ok (.iload 8, 2) := by decide +kernel
theorem dX10_looksAt_173 : decode cX10_looksAt 173 = .ok (.iload 10, 2) := by decide +kernel
theorem dX10_looksAt_175 : decode cX10_looksAt 175 = .ok (.if_icmp .ge 7, 3) := by decide +kernel
theorem dX10_looksAt_178 : decode cX10_looksAt 178 = .ok (.iconst 1, 1) := by decide +kernel
theorem dX10_looksAt_179 : decode cX10_looksAt 179 = .ok (.goto 40, 3) := by decide +kernel
theorem dX10_looksAt_182 : decode cX10_looksAt 182 = .ok (.iconst 0, 1) := by decide +kernel
theorem dX10_looksAt_183 : decode cX10_looksAt 183 = .ok (.goto 36, 3) := by decide +kernel
theorem dX10_looksAt_186 : decode cX10_looksAt 186 = .ok (.iload 9, 2) := by decide +kernel
theorem dX10_looksAt_188 : decode cX10_looksAt 188 = .ok (.iconst 1, 1) := by decide +kernel
theorem dX10_looksAt_189 : decode cX10_looksAt 189 = .ok (.if_icmp .ne 18, 3) := by decide +kernel
theorem dX10_looksAt_192 : decode cX10_looksAt 192 = .ok (.iload 8, 2) := by decide +kernel
theorem dX10_looksAt_194 : decode cX10_looksAt 194 = .ok (.iload 10, 2) := by decide +kernel
theorem dX10_looksAt_196 : decode cX10_looksAt 196 = .ok (.if_icmp .ne 7, 3) := by decide +kernel
theorem dX10_looksAt_199 : decode cX10_looksAt 199 = .ok (.iconst 1, 1) := by decide +kernel
theorem dX10_looksAt_200 : decode cX10_looksAt 200 = .ok (.goto 19, 3) := by decide +kernel
theorem dX10_looksAt_203 : decode cX10_looksAt 203 = .ok (.iconst 0, 1) := by decide +kernel
theorem dX10_looksAt_204 : decode cX10_looksAt 204 = .ok (.goto 15, 3) := by decide +kernel
theorem dX10_looksAt_207 : decode cX10_looksAt 207 = .ok (.iload 8, 2) := by decide +kernel
theorem dX10_looksAt_209 : decode cX10_looksAt 209 = .ok (.iload 10, 2) := by decide +kernel
theorem dX10_looksAt_211 : decode cX10_looksAt 211 = .ok (.if_icmp .le 7, 3) := by decide +kernel
theorem dX10_looksAt_214 : decode cX10_looksAt 214 = .ok (.iconst 1, 1) := by decide +kernel
theorem dX10_looksAt_215 : decode cX10_looksAt 215 = .ok (.goto 4, 3) := by decide +kernel
theorem dX10_looksAt_218 : decode cX10_looksAt 218 = .ok (.iconst 0, 1) := by decide +kernel
theorem dX10_looksAt_219 : decode cX10_looksAt 219 = .ok (.bastore, 1) := by decide +kernel
theorem dX10_looksAt_220 : decode cX10_looksAt 220 = .ok (.iinc 5 1, 3) := by decide +kernel
theorem dX10_looksAt_223 : decode cX10_looksAt 223 = .ok (.goto 223, 3) := by decide +kernel
theorem dX10_looksAt_226 : decode cX10_looksAt 226 = .ok (.iload 7, 2) := by decide +kernel
theorem dX10_looksAt_228 : decode cX10_looksAt 228 = .ok (.iconst (-1), 1) := by decide +kernel
theorem dX10_looksAt_229 : decode cX10_looksAt 229 = .ok (.if_icmp .ne 32, 3) := by decide +kernel
theorem dX10_looksAt_232 : decode cX10_looksAt 232 = .ok (.aload_n 0, 1) := by decide +kernel
theorem dX10_looksAt_233 : decode cX10_looksAt 233 = .ok (.getfield 21, 3) := by decide +kernel
theorem dX10_looksAt_236 : decode cX10_looksAt 236 = .ok (.iload 5, 2) := by decide +kernel
theorem dX10_looksAt_238 : decode cX10_looksAt 238 = .ok (.iconst 1, 1) := by decide +kernel
theorem dX10_looksAt_239 : decode cX10_looksAt 239 = .ok (.isub, 1) := by decide +kernel
theorem dX10_looksAt_240 : decode cX10_looksAt 240 = .ok (.aload_n 0, 1) := by decide +kernel
theorem dX10_looksAt_241 : decode cX10_looksAt 241 = .ok (.getfield 21, 3) := by decide +kernel
theorem dX10_looksAt_244 : decode cX10_looksAt 244 = .ok (.iload 5, 2) := by decide +kernel
theorem dX10_looksAt_246 : decode cX10_looksAt 246 = .ok (.iconst 1, 1) := by decide +kernel
theorem dX10_looksAt_247 : decode cX10_looksAt 247 = .ok (.isub, 1) := by decide +kernel
theorem dX10_looksAt_248 : decode cX10_looksAt 248 = .ok (.baload, 1) := by decide +kernel
theorem dX10_looksAt_249 : decode cX10_looksAt 249 = .ok (.ifCond .ne 7, 3) := by decide +kernel
theorem dX10_looksAt_252 : decode cX10_looksAt 252 = .ok (.iconst 1, 1) := by decide +kernel
theorem dX10_looksAt_253 : decode cX10_looksAt 253 = .ok (.goto 4, 3) := by decide +kernel
theorem dX10_looksAt_256 : decode cX10_looksAt 256 = .ok (.iconst 0, 1) := by decide +kernel
theorem dX10_looksAt_257 : decode cX10_looksAt 257 = .ok (.bastore, 1) := by decide +kernel
theorem dX10_looksAt_258 : decode cX10_looksAt 258 = .ok (.goto 188, 3) := by decide +kernel
theorem dX10_looksAt_261 : decode cX10_looksAt 261 = .ok (.iload 7, 2) := by decide +kernel
theorem dX10_looksAt_263 : decode cX10_looksAt 263 = .ok (.bipush (-10), 2) := by decide +kernel
theorem dX10_looksAt_265 : decode cX10_looksAt 265 = .ok (.if_icmp .le 82, 3) := by decide +kernel
theorem dX10_looksAt_268 : decode cX10_looksAt 268 = .ok (.iinc 5 (-1), 3) := by decide +kernel
theorem dX10_looksAt_271 : decode cX10_looksAt 271 = .ok (.aload_n 0, 1) := by decide +kernel
theorem dX10_looksAt_272 : decode cX10_looksAt 272 = .ok (.getfield 21, 3) := by decide +kernel
theorem dX10_looksAt_275 : decode cX10_looksAt 275 = .ok (.iload 5, 2) := by decide +kernel
theorem dX10_looksAt_277 : decode cX10_looksAt 277 = .ok (.iconst 1, 1) := by decide +kernel
theorem dX10_looksAt_278 : decode cX10_looksAt 278 = .ok (.isub, 1) := by decide +kernel
theorem dX10_looksAt_279 : decode cX10_looksAt 279 = .ok (.iload 7, 2) := by decide +kernel
theorem dX10_looksAt_281 : decode cX10_looksAt 281 = .ok (.bipush (-2), 2) := by decide +kernel
theorem dX10_looksAt_283 : decode cX10_looksAt 283 = .ok (.if_icmp .ne 33, 3) := by decide +kernel
theorem dX10_looksAt_286 : decode cX10_looksAt 286 = .ok (.aload_n 0, 1) := by decide +kernel
theorem dX10_looksAt_287 : decode cX10_looksAt 287 = .ok (.getfield 21, 3) := by decide +kernel
theorem dX10_looksAt_290 : decode cX10_looksAt 290 = .ok (.iload 5, 2) := by decide +kernel
theorem dX10_looksAt_292 : decode cX10_looksAt 292 = .ok (.iconst 1, 1) := by decide +kernel
theorem dX10_looksAt_293 : decode cX10_looksAt 293 = .ok (.isub, 1) := by decide +kernel
theorem dX10_looksAt_294 : decode cX10_looksAt 294 = .ok (.baload, 1) := by decide +kernel
theorem dX10_looksAt_295 : decode cX10_looksAt 295 = .ok (.ifCond .eq 17, 3) := by decide +kernel
theorem dX10_looksAt_298 : decode cX10_looksAt 298 = .ok (.aload_n 0, 1) := by decide +kernel
theorem dX10_looksAt_299 : decode cX10_looksAt 299 = .ok (.getfield 21, 3) := by decide +kernel
theorem dX10_looksAt_302 : decode cX10_looksAt 302 = .ok (.iload 5, 2) := by decide +kernel
theorem dX10_looksAt_304 : decode cX10_looksAt 304 = .ok (.baload, 1) := by decide +kernel
theorem dX10_looksAt_305 : decode cX10_looksAt 305 = .ok (.ifCond .eq 7, 3) := by decide +kernel
theorem dX10_looksAt_308 : decode cX10_looksAt 308 = .ok (.iconst 1, 1) := by decide +kernel
theorem dX10_looksAt_309 : decode cX10_looksAt 309 = .ok (.goto 34, 3) := by decide +kernel
theorem dX10_looksAt_312 : decode cX10_looksAt 312 = .ok (.iconst 0, 1) := by decide +kernel
theorem dX10_looksAt_313 : decode cX10_looksAt 313 = .ok (.goto 30, 3) := by decide +kernel
theorem dX10_looksAt_316 : decode cX10_looksAt 316 = .ok (.aload_n 0, 1) := by decide +kernel
theorem dX10_looksAt_317 : decode cX10_looksAt 317 = .ok (.getfield 21, 3) := by decide +kernel
theorem dX10_looksAt_320 : decode cX10_looksAt 320 = .ok (.iload 5, 2) := by decide +kernel
theorem dX10_looksAt_322 : decode cX10_looksAt 322 = .ok (.iconst 1, 1) := by decide +kernel
theorem dX10_looksAt_323 : decode cX10_looksAt 323 = .ok (.isub, 1) := by decide +kernel
theorem dX10_looksAt_324 : decode cX10_looksAt 324 = .ok (.baload, 1) := by decide +kernel
theorem dX10_looksAt_325 : decode cX10_looksAt 325 = .ok (.ifCond .ne 13, 3) := by decide +kernel
theorem dX10_looksAt_328 : decode cX10_looksAt 328 = .ok (.aload_n 0, 1) := by decide +kernel
theorem dX10_looksAt_329 : decode cX10_looksAt 329 = .ok (.getfield 21, 3) := by decide +kernel
theorem dX10_looksAt_332 : decode cX10_looksAt 332 = .ok (.iload 5, 2) := by decide +kernel
theorem dX10_looksAt_334 : decode cX10_looksAt 334 = .ok (.baload, 1) := by decide +kernel
theorem dX10_looksAt_335 : decode cX10_looksAt 335 = .ok (.ifCond .eq 7, 3) := by decide +kernel
theorem dX10_looksAt_338 : decode cX10_looksAt 338 = .ok (.iconst 1, 1) := by decide +kernel
theorem dX10_looksAt_339 : decode cX10_looksAt 339 = .ok (.goto 4, 3) := by decide +kernel
theorem dX10_looksAt_342 : decode cX10_looksAt 342 = .ok (.iconst 0, 1) := by decide +kernel
theorem dX10_looksAt_343 : decode cX10_looksAt 343 = .ok (.bastore, 1) := by decide +kernel
theorem dX10_looksAt_344 : decode cX10_looksAt 344 = .ok (.goto 102, 3) := by decide +kernel
theorem dX10_looksAt_347 : decode cX10_looksAt 347 = .ok (.iconst 0, 1) := by decide +kernel
theorem dX10_looksAt_348 : decode cX10_looksAt 348 = .ok (.istore 5, 2) := by decide +kernel
theorem dX10_looksAt_350 : decode cX10_looksAt 350 = .ok (.aload_n 0, 1) := by decide +kernel
theorem dX10_looksAt_351 : decode cX10_looksAt 351 = .ok (.aload_n 0, 1) := by decide +kernel
theorem dX10_looksAt_352 : decode cX10_looksAt 352 = .ok (.getfield 149, 3) := by decide +kernel
theorem dX10_looksAt_355 : decode cX10_looksAt 355 = .ok (.ifCond .ne 12, 3) := by decide +kernel
theorem dX10_looksAt_358 : decode cX10_looksAt 358 = .ok (.aload_n 0, 1) := by decide +kernel
theorem dX10_looksAt_359 : decode cX10_looksAt 359 = .ok (.getfield 21, 3) := by decide +kernel
theorem dX10_looksAt_362 : decode cX10_looksAt 362 = .ok (.iconst 0, 1) := by decide +kernel
theorem dX10_looksAt_363 : decode cX10_looksAt 363 = .ok (.baload, 1) := by decide +kernel
theorem dX10_looksAt_364 : decode cX10_looksAt 364 = .ok (.ifCond .eq 7, 3) := by decide +kernel
theorem dX10_looksAt_367 : decode cX10_looksAt 367 = .ok (.iconst 1, 1) := by decide +kernel
theorem dX10_looksAt_368 : decode cX10_looksAt 368 = .ok (.goto 4, 3) := by decide +kernel
theorem dX10_looksAt_371 : decode cX10_looksAt 371 = .ok (.iconst 0, 1) := by decide +kernel
theorem dX10_looksAt_372 : decode cX10_looksAt 372 = .ok (.putfield 149, 3) := by decide +kernel
theorem dX10_looksAt_375 : decode cX10_looksAt 375 = .ok (.aload_n 0, 1) := by decide +kernel
theorem dX10_looksAt_376 : decode cX10_looksAt 376 = .ok (.dup, 1) := by decide +kernel
theorem dX10_looksAt_377 : decode cX10_looksAt 377 = .ok (.getfield 143, 3) := by decide +kernel
theorem dX10_looksAt_380 : decode cX10_looksAt 380 = .ok (.aload_n 0, 1) := by decide +kernel
theorem dX10_looksAt_381 : decode cX10_looksAt 381 = .ok (.getfield 21, 3) := by decide +kernel
theorem dX10_looksAt_384 : decode cX10_looksAt 384 = .ok (.iconst 0, 1) := by decide +kernel
theorem dX10_looksAt_385 : decode cX10_looksAt 385 = .ok (.baload, 1) := by decide +kernel
theorem dX10_looksAt_386 : decode cX10_looksAt 386 = .ok (.ifCond .eq 19, 3) := by decide +kernel
theorem dX10_looksAt_389 : decode cX10_looksAt 389 = .ok (.iload 7, 2) := by decide +kernel
theorem dX10_looksAt_391 : decode cX10_looksAt 391 = .ok (.sipush (-200), 3) := by decide +kernel
theorem dX10_looksAt_394 : decode cX10_looksAt 394 = .ok (.if_icmp .le 11, 3) := by decide +kernel
theorem dX10_looksAt_397 : decode cX10_looksAt 397 = .ok (.bipush (-10), 2) := by decide +kernel
theorem dX10_looksAt_399 : decode cX10_looksAt 399 = .ok (.iload 7, 2) := by decide +kernel
theorem dX10_looksAt_401 : decode cX10_looksAt 401 = .ok (.isub, 1) := by decide +kernel
theorem dX10_looksAt_402 : decode cX10_looksAt 402 = .ok (.goto 4, 3) := by decide +kernel
theorem dX10_looksAt_405 : decode cX10_looksAt 405 = .ok (.iconst 0, 1) := by decide +kernel
theorem dX10_looksAt_406 : decode cX10_looksAt 406 = .ok (.iadd, 1) := by decide +kernel
theorem dX10_looksAt_407 : decode cX10_looksAt 407 = .ok (.putfield 143, 3) := by decide +kernel
theorem dX10_looksAt_410 : decode cX10_looksAt 410 = .ok (.aload_n 0, 1) := by decide +kernel
theorem dX10_looksAt_411 : decode cX10_looksAt 411 = .ok (.dup, 1) := by decide +kernel
theorem dX10_looksAt_412 : decode cX10_looksAt 412 = .ok (.getfield 146, 3) := by decide +kernel
theorem dX10_looksAt_415 : decode cX10_looksAt 415 = .ok (.aload_n 0, 1) := by decide +kernel
theorem dX10_looksAt_416 : decode cX10_looksAt 416 = .ok (.getfield 21, 3) := by decide +kernel
theorem dX10_looksAt_419 : decode cX10_looksAt 419 = .ok (.iconst 0, 1) := by decide +kernel
theorem dX10_looksAt_420 : decode cX10_looksAt 420 = .ok (.baload, 1) := by decide +kernel
theorem dX10_looksAt_421 : decode cX10_looksAt 421 = .ok (.ifCond .eq 20, 3) := by decide +kernel
theorem dX10_looksAt_424 : decode cX10_looksAt 424 = .ok (.iload 7, 2) := by decide +kernel
theorem dX10_looksAt_426 : decode cX10_looksAt 426 = .ok (.sipush (-200), 3) := by decide +kernel
theorem dX10_looksAt_429 : decode cX10_looksAt 429 = .ok (.if_icmp .gt 12, 3) := by decide +kernel
theorem dX10_looksAt_432 : decode cX10_looksAt 432 = .ok (.sipush (-200), 3) := by decide +kernel
theorem dX10_looksAt_435 : decode cX10_looksAt 435 = .ok (.iload 7, 2) := by decide +kernel
theorem dX10_looksAt_437 : decode cX10_looksAt 437 = .ok (.isub, 1) := by decide +kernel
theorem dX10_looksAt_438 : decode cX10_looksAt 438 = .ok (.goto 4, 3) := by decide +kernel
theorem dX10_looksAt_441 : decode cX10_looksAt 441 = .ok (.iconst 0, 1) := by decide +kernel
theorem dX10_looksAt_442 : decode cX10_looksAt 442 = .ok (.iadd, 1) := by decide +kernel
theorem dX10_looksAt_443 : decode cX10_looksAt 443 = .ok (.putfield 146, 3) := by decide +kernel
theorem dX10_looksAt_446 : decode cX10_looksAt 446 = .ok (.iinc 6 1, 3) := by decide +kernel
theorem dX10_looksAt_449 : decode cX10_looksAt 449 = .ok (.goto (-340), 3) := by decide +kernel
theorem dX10_looksAt_452 : decode cX10_looksAt 452 = .ok (.aload_n 0, 1) := by decide +kernel
theorem dX10_looksAt_453 : decode cX10_looksAt 453 = .ok (.aload_n 0, 1) := by decide +kernel
theorem dX10_looksAt_454 : decode cX10_looksAt 454 = .ok (.getfield 146, 3) := by decide +kernel
theorem dX10_looksAt_457 : decode cX10_looksAt 457 = .ok (.iconst 1, 1) := by decide +kernel
theorem dX10_looksAt_458 : decode cX10_looksAt 458 = .ok (.if_icmp .ge 7, 3) := by decide +kernel
theorem dX10_looksAt_461 : decode cX10_looksAt 461 = .ok (.iconst 1, 1) := by decide +kernel
theorem dX10_looksAt_462 : decode cX10_looksAt 462 = .ok (.goto 7, 3) := by decide +kernel
theorem dX10_looksAt_465 : decode cX10_looksAt 465 = .ok (.aload_n 0, 1) := by decide +kernel
theorem dX10_looksAt_466 : decode cX10_looksAt 466 = .ok (.getfield 146, 3) := by decide +kernel
theorem dX10_looksAt_469 : decode cX10_looksAt 469 = .ok (.putfield 146, 3) := by decide +kernel
theorem dX10_looksAt_472 : decode cX10_looksAt 472 = .ok (.return_, 1) := by decide +kernel
theorem dX10_isOn_0 : decode cX10_isOn 0 = .ok (.iload_n 1, 1) := by decide +kernel
theorem dX10_isOn_1 : decode cX10_isOn 1 = .ok (.ifCond .ne 12, 3) := by decide +kernel
theorem dX10_isOn_4 : decode cX10_isOn 4 = .ok (.iload_n 2, 1) := by decide +kernel
theorem dX10_isOn_5 : decode cX10_isOn 5 = .ok (.aload_n 0, 1) := by decide +kernel
theorem dX10_isOn_6 : decode cX10_isOn 6 = .ok (.getfield 152, 3) := by decide +kernel
theorem dX10_isOn_9 : decode cX10_isOn 9 = .ok (.isub, 1) := by decide +kernel
theorem dX10_isOn_10 : decode cX10_isOn 10 = .ok (.goto 4, 3) := by decide +kernel
theorem dX10_isOn_13 : decode cX10_isOn 13 = .ok (.iload_n 2, 1) := by decide +kernel
theorem dX10_isOn_14 : decode cX10_isOn 14 = .ok (.istore_n 3, 1) := by decide +kernel
theorem dX10_isOn_15 : decode cX10_isOn 15 = .ok (.aload_n 0, 1) := by decide +kernel
theorem dX10_isOn_16 : decode cX10_isOn 16 = .ok (.getfield 155, 3) := by decide +kernel
theorem dX10_isOn_19 : decode cX10_isOn 19 = .ok (.ifCond .ne 30, 3) := by decide +kernel
theorem dX10_isOn_22 : decode cX10_isOn 22 = .ok (.iload_n 3, 1) := by decide +kernel
theorem dX10_isOn_23 : decode cX10_isOn 23 = .ok (.ifCond .lt 26, 3) := by decide +kernel
theorem dX10_isOn_26 : decode cX10_isOn 26 = .ok (.aload_n 0, 1) := by decide +kernel
theorem dX10_isOn_27 : decode cX10_isOn 27 = .ok (.getfield 9, 3) := by decide +kernel
theorem dX10_isOn_30 : decode cX10_isOn 30 = .ok (.sipush 130, 3) := by decide +kernel
theorem dX10_isOn_33 : decode cX10_isOn 33 = .ok (.bipush 40, 2) := by decide +kernel
theorem dX10_isOn_35 : decode cX10_isOn 35 = .ok (.iload_n 1, 1) := by decide +kernel
theorem dX10_isOn_36 : decode cX10_isOn 36 = .ok (.imul, 1) := by decide +kernel
theorem dX10_isOn_37 : decode cX10_isOn 37 = .ok (.iadd, 1) := by decide +kernel
theorem dX10_isOn_38 : decode cX10_isOn 38 = .ok (.iload_n 3, 1) := by decide +kernel
theorem dX10_isOn_39 : decode cX10_isOn 39 = .ok (.iadd, 1) := by decide +kernel
theorem dX10_isOn_40 : decode cX10_isOn 40 = .ok (.iaload, 1) := by decide +kernel
theorem dX10_isOn_41 : decode cX10_isOn 41 = .ok (.iconst 1, 1) := by decide +kernel
theorem dX10_isOn_42 : decode cX10_isOn 42 = .ok (.if_icmp .ne 7, 3) := by decide +kernel
theorem dX10_isOn_45 : decode cX10_isOn 45 = .ok (.iconst 1, 1) := by decide +kernel
theorem dX10_isOn_46 : decode cX10_isOn 46 = .ok (.goto 4, 3) := by decide +kernel
theorem dX10_isOn_49 : decode cX10_isOn 49 = .ok (.iconst 0, 1) := by decide +kernel
theorem dX10_isOn_50 : decode cX10_isOn 50 = .ok (.ireturn, 1) := by decide +kernel
theorem dX10_warms_0 : decode cX10_warms 0 = .ok (.iconst 0, 1) := by decide +kernel
theorem dX10_warms_1 : decode cX10_warms 1 = .ok (.istore_n 1, 1) := by decide +kernel
theorem dX10_warms_2 : decode cX10_warms 2 = .ok (.iconst 0, 1) := by decide +kernel
theorem dX10_warms_3 : decode cX10_warms 3 = .ok (.istore_n 2, 1) := by decide +kernel
theorem dX10_warms_4 : decode cX10_warms 4 = .ok (.iload_n 2, 1) := by decide +kernel
theorem dX10_warms_5 : decode cX10_warms 5 = .ok (.bipush 40, 2) := by decide +kernel
theorem dX10_warms_7 : decode cX10_warms 7 = .ok (.if_icmp .ge 63, 3) := by decide +kernel
theorem dX10_warms_10 : decode cX10_warms 10 = .ok (.iload_n 1, 1) := by decide +kernel
theorem dX10_warms_11 : decode cX10_warms 11 = .ok (.aload_n 0, 1) := by decide +kernel
theorem dX10_warms_12 : decode cX10_warms 12 = .ok (.iconst 0, 1) := by decide +kernel
theorem dX10_warms_13 : decode cX10_warms 13 = .ok (.iload_n 2, 1) := by decide +kernel
theorem dX10_warms_14 : decode cX10_warms 14 = .ok (.invokevirtual 158, 3) := by decide +kernel
theorem dX10_warms_17 : decode cX10_warms 17 = .ok (.ifCond .eq 11, 3) := by decide +kernel
theorem dX10_warms_20 : decode cX10_warms 20 = .ok (.aload_n 0, 1) := by decide +kernel
theorem dX10_warms_21 : decode cX10_warms 21 = .ok (.iconst 0, 1) := by decide +kernel
theorem dX10_warms_22 : decode cX10_warms 22 = .ok (.invokevirtual 162, 3) := by decide +kernel
theorem dX10_warms_25 : decode cX10_warms 25 = .ok (.goto 9, 3) := by decide +kernel
theorem dX10_warms_28 : decode cX10_warms 28 = .ok (.aload_n 0, 1) := by decide +kernel
theorem dX10_warms_29 : decode cX10_warms 29 = .ok (.iconst 1, 1) := by decide +kernel
theorem dX10_warms_30 : decode cX10_warms 30 = .ok (.invokevirtual 162, 3) := by decide +kernel
theorem dX10_warms_33 : decode cX10_warms 33 = .ok (.ineg, 1) := by decide +kernel
theorem dX10_warms_34 : decode cX10_warms 34 = .ok (.iadd, 1) := by decide +kernel
theorem dX10_warms_35 : decode cX10_warms 35 = .ok (.istore_n 1, 1) := by decide +kernel
theorem dX10_warms_36 : decode cX10_warms 36 = .ok (.iload_n 1, 1) := by decide +kernel
theorem dX10_warms_37 : decode cX10_warms 37 = .ok (.ifCond .ge 7, 3) := by decide +kernel
theorem dX10_warms_40 : decode cX10_warms 40 = .ok (.iconst 0, 1) := by decide +kernel
theorem dX10_warms_41 : decode cX10_warms 41 = .ok (.goto 15, 3) := by decide +kernel
theorem dX10_warms_44 : decode cX10_warms 44 = .ok (.iload_n 1, 1) := by decide +kernel
theorem dX10_warms_45 : decode cX10_warms 45 = .ok (.bipush 99, 2) := by decide +kernel
theorem dX10_warms_47 : decode cX10_warms 47 = .ok (.if_icmp .le 8, 3) := by decide +kernel
theorem dX10_warms_50 : decode cX10_warms 50 = .ok (.bipush 99, 2) := by decide +kernel
theorem dX10_warms_52 : decode cX10_warms 52 = .ok (.goto 4, 3) := by decide +kernel
theorem dX10_warms_55 : decode cX10_warms 55 = .ok (.iload_n 1, 1) := by decide +kernel
theorem dX10_warms_56 : decode cX10_warms 56 = .ok (.istore_n 1, 1) := by decide +kernel
theorem dX10_warms_57 : decode cX10_warms 57 = .ok (.aload_n 0, 1) := by decide +kernel
theorem dX10_warms_58 : decode cX10_warms 58 = .ok (.getfield 25, 3) := by decide +kernel
theorem dX10_warms_61 : decode cX10_warms 61 = .ok (.iload_n 2, 1) := by decide +kernel
theorem dX10_warms_62 : decode cX10_warms 62 = .ok (.iload_n 1, 1) := by decide +kernel
theorem dX10_warms_63 : decode cX10_warms 63 = .ok (.iastore, 1) := by decide +kernel
theorem dX10_warms_64 : decode cX10_warms 64 = .ok (.iinc 2 1, 3) := by decide +kernel
theorem dX10_warms_67 : decode cX10_warms 67 = .ok (.goto (-63), 3) := by decide +kernel
theorem dX10_warms_70 : decode cX10_warms 70 = .ok (.return_, 1) := by decide +kernel
theorem dX10_lengthOf_0 : decode cX10_lengthOf 0 = .ok (.aload_n 0, 1) := by decide +kernel
theorem dX10_lengthOf_1 : decode cX10_lengthOf 1 = .ok (.iload_n 1, 1) := by decide +kernel
theorem dX10_lengthOf_2 : decode cX10_lengthOf 2 = .ok (.iload_n 2, 1) := by decide +kernel
theorem dX10_lengthOf_3 : decode cX10_lengthOf 3 = .ok (.invokevirtual 166, 3) := by decide +kernel
theorem dX10_lengthOf_6 : decode cX10_lengthOf 6 = .ok (.aload_n 0, 1) := by decide +kernel
theorem dX10_lengthOf_7 : decode cX10_lengthOf 7 = .ok (.getfield 25, 3) := by decide +kernel
theorem dX10_lengthOf_10 : decode cX10_lengthOf 10 = .ok (.iload_n 2, 1) := by decide +kernel
theorem dX10_lengthOf_11 : decode cX10_lengthOf 11 = .ok (.iaload, 1) := by decide +kernel
theorem dX10_lengthOf_12 : decode cX10_lengthOf 12 = .ok (.aload_n 0, 1) := by decide +kernel
theorem dX10_lengthOf_13 : decode cX10_lengthOf 13 = .ok (.getfield 143, 3) := by decide +kernel
theorem dX10_lengthOf_16 : decode cX10_lengthOf 16 = .ok (.imul, 1) := by decide +kernel
theorem dX10_lengthOf_17 : decode cX10_lengthOf 17 = .ok (.bipush 10, 2) := by decide +kernel
theorem dX10_lengthOf_19 : decode cX10_lengthOf 19 = .ok (.idiv, 1) := by decide +kernel
theorem dX10_lengthOf_20 : decode cX10_lengthOf 20 = .ok (.ireturn, 1) := by decide +kernel
theorem dX10_ticks_0 : decode cX10_ticks 0 = .ok (.iconst 0, 1) := by decide +kernel
theorem dX10_ticks_1 : decode cX10_ticks 1 = .ok (.istore_n 2, 1) := by decide +kernel
theorem dX10_ticks_2 : decode cX10_ticks 2 = .ok (.iconst 0, 1) := by decide +kernel
theorem dX10_ticks_3 : decode cX10_ticks 3 = .ok (.istore_n 3, 1) := by decide +kernel
theorem dX10_ticks_4 : decode cX10_ticks 4 = .ok (.iload_n 3, 1) := by decide +kernel
theorem dX10_ticks_5 : decode cX10_ticks 5 = .ok (.bipush 40, 2) := by decide +kernel
theorem dX10_ticks_7 : decode cX10_ticks 7 = .ok (.if_icmp .ge 119, 3) := by decide +kernel
theorem dX10_ticks_10 : decode cX10_ticks 10 = .ok (.aload_n 0, 1) := by decide +kernel
theorem dX10_ticks_11 : decode cX10_ticks 11 = .ok (.iload_n 1, 1) := by decide +kernel
theorem dX10_ticks_12 : decode cX10_ticks 12 = .ok (.iload_n 3, 1) := by decide +kernel
theorem dX10_ticks_13 : decode cX10_ticks 13 = .ok (.invokevirtual 170, 3) := by decide +kernel
theorem dX10_ticks_16 : decode cX10_ticks 16 = .ok (.istore 4, 2) := by decide +kernel
theorem dX10_ticks_18 : decode cX10_ticks 18 = .ok (.iload 4, 2) := by decide +kernel
theorem dX10_ticks_20 : decode cX10_ticks 20 = .ok (.iload_n 2, 1) := by decide +kernel
theorem dX10_ticks_21 : decode cX10_ticks 21 = .ok (.isub, 1) := by decide +kernel
theorem dX10_ticks_22 : decode cX10_ticks 22 = .ok (.invokestatic 173, 3) := by decide +kernel
theorem dX10_ticks_25 : decode cX10_ticks 25 = .ok (.aload_n 0, 1) := by decide +kernel
theorem dX10_ticks_26 : decode cX10_ticks 26 = .ok (.getfield 146, 3) := by decide +kernel
theorem dX10_ticks_29 : decode cX10_ticks 29 = .ok (.idiv, 1) := by decide +kernel
theorem dX10_ticks_30 : decode cX10_ticks 30 = .ok (.istore 5, 2) := by decide +kernel
theorem dX10_ticks_32 : decode cX10_ticks 32 = .ok (.iload 5, 2) := by decide +kernel
theorem dX10_ticks_34 : decode cX10_ticks 34 = .ok (.ifCond .le 8, 3) := by decide +kernel
theorem dX10_ticks_37 : decode cX10_ticks 37 = .ok (.iload 4, 2) := by decide +kernel
theorem dX10_ticks_39 : decode cX10_ticks 39 = .ok (.goto 4, 3) := by decide +kernel
theorem dX10_ticks_42 : decode cX10_ticks 42 = .ok (.iload_n 2, 1) := by decide +kernel
theorem dX10_ticks_43 : decode cX10_ticks 43 = .ok (.istore_n 2, 1) := by decide +kernel
theorem dX10_ticks_44 : decode cX10_ticks 44 = .ok (.iload 5, 2) := by decide +kernel
theorem dX10_ticks_46 : decode cX10_ticks 46 = .ok (.bipush 9, 2) := by decide +kernel
theorem dX10_ticks_48 : decode cX10_ticks 48 = .ok (.if_icmp .le 8, 3) := by decide +kernel
theorem dX10_ticks_51 : decode cX10_ticks 51 = .ok (.bipush 9, 2) := by decide +kernel
theorem dX10_ticks_53 : decode cX10_ticks 53 = .ok (.goto 5, 3) := by decide +kernel
theorem dX10_ticks_56 : decode cX10_ticks 56 = .ok (.iload 5, 2) := by decide +kernel
theorem dX10_ticks_58 : decode cX10_ticks 58 = .ok (.istore 5, 2) := by decide +kernel
theorem dX10_ticks_60 : decode cX10_ticks 60 = .ok (.iload_n 3, 1) := by decide +kernel
theorem dX10_ticks_61 : decode cX10_ticks 61 = .ok (.ifCond .ne 7, 3) := by decide +kernel
theorem dX10_ticks_64 : decode cX10_ticks 64 = .ok (.iconst 0, 1) := by decide +kernel
theorem dX10_ticks_65 : decode cX10_ticks 65 = .ok (.goto 11, 3) := by decide +kernel
theorem dX10_ticks_68 : decode cX10_ticks 68 = .ok (.aload_n 0, 1) := by decide +kernel
theorem dX10_ticks_69 : decode cX10_ticks 69 = .ok (.getfield 25, 3) := by decide +kernel
theorem dX10_ticks_72 : decode cX10_ticks 72 = .ok (.iload_n 3, 1) := by decide +kernel
theorem dX10_ticks_73 : decode cX10_ticks 73 = .ok (.iconst 1, 1) := by decide +kernel
theorem dX10_ticks_74 : decode cX10_ticks 74 = .ok (.isub, 1) := by decide +kernel
theorem dX10_ticks_75 : decode cX10_ticks 75 = .ok (.iaload, 1) := by decide +kernel
theorem dX10_ticks_76 : decode cX10_ticks 76 = .ok (.istore 6, 2) := by decide +kernel
theorem dX10_ticks_78 : decode cX10_ticks 78 = .ok (.aload_n 0, 1) := by decide +kernel
theorem dX10_ticks_79 : decode cX10_ticks 79 = .ok (.getfield 28, 3) := by decide +kernel
theorem dX10_ticks_82 : decode cX10_ticks 82 = .ok (.bipush 40, 2) := by decide +kernel
theorem dX10_ticks_84 : decode cX10_ticks 84 = .ok (.iload_n 1, 1) := by decide +kernel
theorem dX10_ticks_85 : decode cX10_ticks 85 = .ok (.imul, 1) := by decide +kernel
theorem dX10_ticks_86 : decode cX10_ticks 86 = .ok (.iload_n 3, 1) := by decide +kernel
theorem dX10_ticks_87 : decode cX10_ticks 87 = .ok (.iadd, 1) := by decide +kernel
theorem dX10_ticks_88 : decode cX10_ticks 88 = .ok (.aload_n 0, 1) := by decide +kernel
theorem dX10_ticks_89 : decode cX10_ticks 89 = .ok (.getfield 9, 3) := by decide +kernel
theorem dX10_ticks_92 : decode cX10_ticks 92 = .ok (.sipush 250, 3) := by decide +kernel
theorem dX10_ticks_95 : decode cX10_ticks 95 = .ok (.iload_n 1, 1) := by decide +kernel
theorem dX10_ticks_96 : decode cX10_ticks 96 = .ok (.iadd, 1) := by decide +kernel
theorem dX10_ticks_97 : decode cX10_ticks 97 = .ok (.iaload, 1) := by decide +kernel
theorem dX10_ticks_98 : decode cX10_ticks 98 = .ok (.iconst 4, 1) := by decide +kernel
theorem dX10_ticks_99 : decode cX10_ticks 99 = .ok (.if_icmp .ne 18, 3) := by decide +kernel
theorem dX10_ticks_102 : decode cX10_ticks 102 = .ok (.aload_n 0, 1) := by decide +kernel
theorem dX10_ticks_103 : decode cX10_ticks 103 = .ok (.getfield 25, 3) := by decide +kernel
theorem dX10_ticks_106 : decode cX10_ticks 106 = .ok (.iload_n 3, 1) := by decide +kernel
theorem dX10_ticks_107 : decode cX10_ticks 107 = .ok (.iaload, 1) := by decide +kernel
theorem dX10_ticks_108 : decode cX10_ticks 108 = .ok (.iload 6, 2) := by decide +kernel
theorem dX10_ticks_110 : decode cX10_ticks 110 = .ok (.if_icmp .gt 7, 3) := by decide +kernel
theorem dX10_ticks_113 : decode cX10_ticks 113 = .ok (.iconst 0, 1) := by decide +kernel
theorem dX10_ticks_114 : decode cX10_ticks 114 = .ok (.goto 5, 3) := by decide +kernel
theorem dX10_ticks_117 : decode cX10_ticks 117 = .ok (.iload 5, 2) := by decide +kernel
theorem dX10_ticks_119 : decode cX10_ticks 119 = .ok (.iastore, 1) := by decide +kernel
theorem dX10_ticks_120 : decode cX10_ticks 120 = .ok (.iinc 3 1, 3) := by decide +kernel
theorem dX10_ticks_123 : decode cX10_ticks 123 = .ok (.goto (-119), 3) := by decide +kernel
theorem dX10_ticks_126 : decode cX10_ticks 126 = .ok (.return_, 1) := by decide +kernel
theorem dX10_strikesBy_0 : decode cX10_strikesBy 0 = .ok (.iconst 0, 1) := by decide +kernel
theorem dX10_strikesBy_1 : decode cX10_strikesBy 1 = .ok (.istore_n 2, 1) := by decide +kernel
theorem dX10_strikesBy_2 : decode cX10_strikesBy 2 = .ok (.iload_n 2, 1) := by decide +kernel
theorem dX10_strikesBy_3 : decode cX10_strikesBy 3 = .ok (.bipush 40, 2) := by decide +kernel
theorem dX10_strikesBy_5 : decode cX10_strikesBy 5 = .ok (.if_icmp .ge 99, 3) := by decide +kernel
theorem dX10_strikesBy_8 : decode cX10_strikesBy 8 = .ok (.iload_n 2, 1) := by decide +kernel
theorem dX10_strikesBy_9 : decode cX10_strikesBy 9 = .ok (.ifCond .le 18, 3) := by decide +kernel
theorem dX10_strikesBy_12 : decode cX10_strikesBy 12 = .ok (.aload_n 0, 1) := by decide +kernel
theorem dX10_strikesBy_13 : decode cX10_strikesBy 13 = .ok (.iconst 1, 1) := by decide +kernel
theorem dX10_strikesBy_14 : decode cX10_strikesBy 14 = .ok (.iload_n 2, 1) := by decide +kernel
theorem dX10_strikesBy_15 : decode cX10_strikesBy 15 = .ok (.iconst 1, 1) := by decide +kernel
theorem dX10_strikesBy_16 : decode cX10_strikesBy 16 = .ok (.isub, 1) := by decide +kernel
theorem dX10_strikesBy_17 : decode cX10_strikesBy 17 = .ok (.invokevirtual 158, 3) := by decide +kernel
theorem dX10_strikesBy_20 : decode cX10_strikesBy 20 = .ok (.ifCond .eq 7, 3) := by decide +kernel
theorem dX10_strikesBy_23 : decode cX10_strikesBy 23 = .ok (.iconst 1, 1) := by decide +kernel
theorem dX10_strikesBy_24 : decode cX10_strikesBy 24 = .ok (.goto 4, 3) := by decide +kernel
theorem dX10_strikesBy_27 : decode cX10_strikesBy 27 = .ok (.iconst 0, 1) := by decide +kernel
theorem dX10_strikesBy_28 : decode cX10_strikesBy 28 = .ok (.istore_n 3, 1) := by decide +kernel
theorem dX10_strikesBy_29 : decode cX10_strikesBy 29 = .ok (.aload_n 0, 1) := by decide +kernel
theorem dX10_strikesBy_30 : decode cX10_strikesBy 30 = .ok (.iconst 1, 1) := by decide +kernel
theorem dX10_strikesBy_31 : decode cX10_strikesBy 31 = .ok (.iload_n 2, 1) := by decide +kernel
theorem dX10_strikesBy_32 : decode cX10_strikesBy 32 = .ok (.invokevirtual 158, 3) := by decide +kernel
theorem dX10_strikesBy_35 : decode cX10_strikesBy 35 = .ok (.istore 4, 2) := by decide +kernel
theorem dX10_strikesBy_37 : decode cX10_strikesBy 37 = .ok (.aload_n 0, 1) := by decide +kernel
theorem dX10_strikesBy_38 : decode cX10_strikesBy 38 = .ok (.getfield 28, 3) := by decide +kernel
theorem dX10_strikesBy_41 : decode cX10_strikesBy 41 = .ok (.bipush 40, 2) := by decide +kernel
theorem dX10_strikesBy_43 : decode cX10_strikesBy 43 = .ok (.iload_n 1, 1) := by decide +kernel
theorem dX10_strikesBy_44 : decode cX10_strikesBy 44 = .ok (.imul, 1) := by decide +kernel
theorem dX10_strikesBy_45 : decode cX10_strikesBy 45 = .ok (.iload_n 2, 1) := by decide +kernel
theorem dX10_strikesBy_46 : decode cX10_strikesBy 46 = .ok (.iadd, 1) := by decide +kernel
theorem dX10_strikesBy_47 : decode cX10_strikesBy 47 = .ok (.iload 4, 2) := by decide +kernel
theorem dX10_strikesBy_49 : decode cX10_strikesBy 49 = .ok (.ifCond .ne 20, 3) := by decide +kernel
theorem dX10_strikesBy_52 : decode cX10_strikesBy 52 = .ok (.iload_n 3, 1) := by decide +kernel
theorem dX10_strikesBy_53 : decode cX10_strikesBy 53 = .ok (.ifCond .eq 16, 3) := by decide +kernel
theorem dX10_strikesBy_56 : decode cX10_strikesBy 56 = .ok (.aload_n 0, 1) := by decide +kernel
theorem dX10_strikesBy_57 : decode cX10_strikesBy 57 = .ok (.getfield 9, 3) := by decide +kernel
theorem dX10_strikesBy_60 : decode cX10_strikesBy 60 = .ok (.sipush 270, 3) := by decide +kernel
theorem dX10_strikesBy_63 : decode cX10_strikesBy 63 = .ok (.iload_n 1, 1) := by decide +kernel
theorem dX10_strikesBy_64 : decode cX10_strikesBy 64 = .ok (.iadd, 1) := by decide +kernel
theorem dX10_strikesBy_65 : decode cX10_strikesBy 65 = .ok (.iaload, 1) := by decide +kernel
theorem dX10_strikesBy_66 : decode cX10_strikesBy 66 = .ok (.goto 31, 3) := by decide +kernel
theorem dX10_strikesBy_69 : decode cX10_strikesBy 69 = .ok (.iload 4, 2) := by decide +kernel
theorem dX10_strikesBy_71 : decode cX10_strikesBy 71 = .ok (.ifCond .eq 25, 3) := by decide +kernel
theorem dX10_strikesBy_74 : decode cX10_strikesBy 74 = .ok (.iload_n 3, 1) := by decide +kernel
theorem dX10_strikesBy_75 : decode cX10_strikesBy 75 = .ok (.ifCond .ne 21, 3) := by decide +kernel
theorem dX10_strikesBy_78 : decode cX10_strikesBy 78 = .ok (.aload_n 0, 1) := by decide +kernel
theorem dX10_strikesBy_79 : decode cX10_strikesBy 79 = .ok (.getfield 9, 3) := by decide +kernel
theorem dX10_strikesBy_82 : decode cX10_strikesBy 82 = .ok (.sipush 250, 3) := by decide +kernel
theorem dX10_strikesBy_85 : decode cX10_strikesBy 85 = .ok (.iload_n 1, 1) := by decide +kernel
theorem dX10_strikesBy_86 : decode cX10_strikesBy 86 = .ok (.iadd, 1) := by decide +kernel
theorem dX10_strikesBy_87 : decode cX10_strikesBy 87 = .ok (.iaload, 1) := by decide +kernel
theorem dX10_strikesBy_88 : decode cX10_strikesBy 88 = .ok (.iconst 5, 1) := by decide +kernel
theorem dX10_strikesBy_89 : decode cX10_strikesBy 89 = .ok (.if_icmp .ne 7, 3) := by decide +kernel
theorem dX10_strikesBy_92 : decode cX10_strikesBy 92 = .ok (.iconst 1, 1) := by decide +kernel
theorem dX10_strikesBy_93 : decode cX10_strikesBy 93 = .ok (.goto 4, 3) := by decide +kernel
theorem dX10_strikesBy_96 : decode cX10_strikesBy 96 = .ok (.iconst 0, 1) := by decide +kernel
theorem dX10_strikesBy_97 : decode cX10_strikesBy 97 = .ok (.iastore, 1) := by decide +kernel
theorem dX10_strikesBy_98 : decode cX10_strikesBy 98 = .ok (.iinc 2 1, 3) := by decide +kernel
theorem dX10_strikesBy_101 : decode cX10_strikesBy 101 = .ok (.goto (-99), 3) := by decide +kernel
theorem dX10_strikesBy_104 : decode cX10_strikesBy 104 = .ok (.return_, 1) := by decide +kernel
theorem dX10_hums_0 : decode cX10_hums 0 = .ok (.iconst 0, 1) := by decide +kernel
theorem dX10_hums_1 : decode cX10_hums 1 = .ok (.istore_n 3, 1) := by decide +kernel
theorem dX10_hums_2 : decode cX10_hums 2 = .ok (.aload_n 0, 1) := by decide +kernel
theorem dX10_hums_3 : decode cX10_hums 3 = .ok (.getfield 9, 3) := by decide +kernel
theorem dX10_hums_6 : decode cX10_hums 6 = .ok (.sipush 270, 3) := by decide +kernel
theorem dX10_hums_9 : decode cX10_hums 9 = .ok (.iload_n 1, 1) := by decide +kernel
theorem dX10_hums_10 : decode cX10_hums 10 = .ok (.iadd, 1) := by decide +kernel
theorem dX10_hums_11 : decode cX10_hums 11 = .ok (.iaload, 1) := by decide +kernel
theorem dX10_hums_12 : decode cX10_hums 12 = .ok (.ifCond .ne 7, 3) := by decide +kernel
theorem dX10_hums_15 : decode cX10_hums 15 = .ok (.iconst 1, 1) := by decide +kernel
theorem dX10_hums_16 : decode cX10_hums 16 = .ok (.goto 13, 3) := by decide +kernel
theorem dX10_hums_19 : decode cX10_hums 19 = .ok (.aload_n 0, 1) := by decide +kernel
theorem dX10_hums_20 : decode cX10_hums 20 = .ok (.getfield 9, 3) := by decide +kernel
theorem dX10_hums_23 : decode cX10_hums 23 = .ok (.sipush 270, 3) := by decide +kernel
theorem dX10_hums_26 : decode cX10_hums 26 = .ok (.iload_n 1, 1) := by decide +kernel
theorem dX10_hums_27 : decode cX10_hums 27 = .ok (.iadd, 1) := by decide +kernel
theorem dX10_hums_28 : decode cX10_hums 28 = .ok (.iaload, 1) := by decide +kernel
theorem dX10_hums_29 : decode cX10_hums 29 = .ok (.istore 4, 2) := by decide +kernel
theorem dX10_hums_31 : decode cX10_hums 31 = .ok (.iconst 0, 1) := by decide +kernel
theorem dX10_hums_32 : decode cX10_hums 32 = .ok (.istore 5, 2) := by decide +kernel
theorem dX10_hums_34 : decode cX10_hums 34 = .ok (.iload 5, 2) := by decide +kernel
theorem dX10_hums_36 : decode cX10_hums 36 = .ok (.bipush 40, 2) := by decide +kernel
theorem dX10_hums_38 : decode cX10_hums 38 = .ok (.if_icmp .ge 51, 3) := by decide +kernel
theorem dX10_hums_41 : decode cX10_hums 41 = .ok (.aload_n 0, 1) := by decide +kernel
theorem dX10_hums_42 : decode cX10_hums 42 = .ok (.iconst 2, 1) := by decide +kernel
theorem dX10_hums_43 : decode cX10_hums 43 = .ok (.iload 5, 2) := by decide +kernel
theorem dX10_hums_45 : decode cX10_hums 45 = .ok (.invokevirtual 158, 3) := by decide +kernel
theorem dX10_hums_48 : decode cX10_hums 48 = .ok (.iload_n 2, 1) := by decide +kernel
theorem dX10_hums_49 : decode cX10_hums 49 = .ok (.if_icmp .ne 9, 3) := by decide +kernel
theorem dX10_hums_52 : decode cX10_hums 52 = .ok (.iload_n 3, 1) := by decide +kernel
theorem dX10_hums_53 : decode cX10_hums 53 = .ok (.iconst 1, 1) := by decide +kernel
theorem dX10_hums_54 : decode cX10_hums 54 = .ok (.iadd, 1) := by decide +kernel
theorem dX10_hums_55 : decode cX10_hums 55 = .ok (.goto 4, 3) := by decide +kernel
theorem dX10_hums_58 : decode cX10_hums 58 = .ok (.iconst 0, 1) := by decide +kernel
theorem dX10_hums_59 : decode cX10_hums 59 = .ok (.istore_n 3, 1) := by decide +kernel
theorem dX10_hums_60 : decode cX10_hums 60 = .ok (.aload_n 0, 1) := by decide +kernel
theorem dX10_hums_61 : decode cX10_hums 61 = .ok (.getfield 28, 3) := by decide +kernel
theorem dX10_hums_64 : decode cX10_hums 64 = .ok (.bipush 40, 2) := by decide +kernel
theorem dX10_hums_66 : decode cX10_hums 66 = .ok (.iload_n 1, 1) := by decide +kernel
theorem dX10_hums_67 : decode cX10_hums 67 = .ok (.imul, 1) := by decide +kernel
theorem dX10_hums_68 : decode cX10_hums 68 = .ok (.iload 5, 2) := by decide +kernel
theorem dX10_hums_70 : decode cX10_hums 70 = .ok (.iadd, 1) := by decide +kernel
theorem dX10_hums_71 : decode cX10_hums 71 = .ok (.iload_n 3, 1) := by decide +kernel
theorem dX10_hums_72 : decode cX10_hums 72 = .ok (.iload 4, 2) := by decide +kernel
theorem dX10_hums_74 : decode cX10_hums 74 = .ok (.if_icmp .lt 7, 3) := by decide +kernel
theorem dX10_hums_77 : decode cX10_hums 77 = .ok (.iconst 1, 1) := by decide +kernel
theorem dX10_hums_78 : decode cX10_hums 78 = .ok (.goto 4, 3) := by decide +kernel
theorem dX10_hums_81 : decode cX10_hums 81 = .ok (.iconst 0, 1) := by decide +kernel
theorem dX10_hums_82 : decode cX10_hums 82 = .ok (.iastore, 1) := by decide +kernel
theorem dX10_hums_83 : decode cX10_hums 83 = .ok (.iinc 5 1, 3) := by decide +kernel
theorem dX10_hums_86 : decode cX10_hums 86 = .ok (.goto (-52), 3) := by decide +kernel
theorem dX10_hums_89 : decode cX10_hums 89 = .ok (.return_, 1) := by decide +kernel
theorem dX10_plainly_0 : decode cX10_plainly 0 = .ok (.iconst 0, 1) := by decide +kernel
theorem dX10_plainly_1 : decode cX10_plainly 1 = .ok (.istore_n 2, 1) := by decide +kernel
theorem dX10_plainly_2 : decode cX10_plainly 2 = .ok (.iload_n 2, 1) := by decide +kernel
theorem dX10_plainly_3 : decode cX10_plainly 3 = .ok (.bipush 40, 2) := by decide +kernel
theorem dX10_plainly_5 : decode cX10_plainly 5 = .ok (.if_icmp .ge 55, 3) := by decide +kernel
theorem dX10_plainly_8 : decode cX10_plainly 8 = .ok (.aload_n 0, 1) := by decide +kernel
theorem dX10_plainly_9 : decode cX10_plainly 9 = .ok (.iload_n 1, 1) := by decide +kernel
theorem dX10_plainly_10 : decode cX10_plainly 10 = .ok (.iload_n 2, 1) := by decide +kernel
theorem dX10_plainly_11 : decode cX10_plainly 11 = .ok (.invokevirtual 166, 3) := by decide +kernel
theorem dX10_plainly_14 : decode cX10_plainly 14 = .ok (.aload_n 0, 1) := by decide +kernel
theorem dX10_plainly_15 : decode cX10_plainly 15 = .ok (.getfield 28, 3) := by decide +kernel
theorem dX10_plainly_18 : decode cX10_plainly 18 = .ok (.bipush 40, 2) := by decide +kernel
theorem dX10_plainly_20 : decode cX10_plainly 20 = .ok (.iload_n 1, 1) := by decide +kernel
theorem dX10_plainly_21 : decode cX10_plainly 21 = .ok (.imul, 1) := by decide +kernel
theorem dX10_plainly_22 : decode cX10_plainly 22 = .ok (.iload_n 2, 1) := by decide +kernel
theorem dX10_plainly_23 : decode cX10_plainly 23 = .ok (.iadd, 1) := by decide +kernel
theorem dX10_plainly_24 : decode cX10_plainly 24 = .ok (.aload_n 0, 1) := by decide +kernel
theorem dX10_plainly_25 : decode cX10_plainly 25 = .ok (.getfield 149, 3) := by decide +kernel
theorem dX10_plainly_28 : decode cX10_plainly 28 = .ok (.ifCond .ne 24, 3) := by decide +kernel
theorem dX10_plainly_31 : decode cX10_plainly 31 = .ok (.iload_n 2, 1) := by decide +kernel
theorem dX10_plainly_32 : decode cX10_plainly 32 = .ok (.bipush 10, 2) := by decide +kernel
theorem dX10_plainly_34 : decode cX10_plainly 34 = .ok (.irem, 1) := by decide +kernel
theorem dX10_plainly_35 : decode cX10_plainly 35 = .ok (.aload_n 0, 1) := by decide +kernel
theorem dX10_plainly_36 : decode cX10_plainly 36 = .ok (.getfield 9, 3) := by decide +kernel
theorem dX10_plainly_39 : decode cX10_plainly 39 = .ok (.sipush 270, 3) := by decide +kernel
theorem dX10_plainly_42 : decode cX10_plainly 42 = .ok (.iload_n 1, 1) := by decide +kernel
theorem dX10_plainly_43 : decode cX10_plainly 43 = .ok (.iadd, 1) := by decide +kernel
theorem dX10_plainly_44 : decode cX10_plainly 44 = .ok (.iaload, 1) := by decide +kernel
theorem dX10_plainly_45 : decode cX10_plainly 45 = .ok (.if_icmp .ne 7, 3) := by decide +kernel
theorem dX10_plainly_48 : decode cX10_plainly 48 = .ok (.iconst 1, 1) := by decide +kernel
theorem dX10_plainly_49 : decode cX10_plainly 49 = .ok (.goto 4, 3) := by decide +kernel
theorem dX10_plainly_52 : decode cX10_plainly 52 = .ok (.iconst 0, 1) := by decide +kernel
theorem dX10_plainly_53 : decode cX10_plainly 53 = .ok (.iastore, 1) := by decide +kernel
theorem dX10_plainly_54 : decode cX10_plainly 54 = .ok (.iinc 2 1, 3) := by decide +kernel
theorem dX10_plainly_57 : decode cX10_plainly 57 = .ok (.goto (-55), 3) := by decide +kernel
theorem dX10_plainly_60 : decode cX10_plainly 60 = .ok (.return_, 1) := by decide +kernel
theorem dX10_goesOf_0 : decode cX10_goesOf 0 = .ok (.aload_n 0, 1) := by decide +kernel
theorem dX10_goesOf_1 : decode cX10_goesOf 1 = .ok (.getfield 9, 3) := by decide +kernel
theorem dX10_goesOf_4 : decode cX10_goesOf 4 = .ok (.sipush 250, 3) := by decide +kernel
theorem dX10_goesOf_7 : decode cX10_goesOf 7 = .ok (.iload_n 1, 1) := by decide +kernel
theorem dX10_goesOf_8 : decode cX10_goesOf 8 = .ok (.iadd, 1) := by decide +kernel
theorem dX10_goesOf_9 : decode cX10_goesOf 9 = .ok (.iaload, 1) := by decide +kernel
theorem dX10_goesOf_10 : decode cX10_goesOf 10 = .ok (.tableswitch 72 1 6 #[38, 46, 54, 38, 46, 63], 38) := by decide +kernel
theorem dX10_goesOf_48 : decode cX10_goesOf 48 = .ok (.aload_n 0, 1) := by decide +kernel
theorem dX10_goesOf_49 : decode cX10_goesOf 49 = .ok (.iload_n 1, 1) := by decide +kernel
theorem dX10_goesOf_50 : decode cX10_goesOf 50 = .ok (.invokevirtual 176, 3) := by decide +kernel
theorem dX10_goesOf_53 : decode cX10_goesOf 53 = .ok (.goto 34, 3) := by decide +kernel
theorem dX10_goesOf_56 : decode cX10_goesOf 56 = .ok (.aload_n 0, 1) := by decide +kernel
theorem dX10_goesOf_57 : decode cX10_goesOf 57 = .ok (.iload_n 1, 1) := by decide +kernel
theorem dX10_goesOf_58 : decode cX10_goesOf 58 = .ok (.invokevirtual 179, 3) := by decide +kernel
theorem dX10_goesOf_61 : decode cX10_goesOf 61 = .ok (.goto 26, 3) := by decide +kernel
theorem dX10_goesOf_64 : decode cX10_goesOf 64 = .ok (.aload_n 0, 1) := by decide +kernel
theorem dX10_goesOf_65 : decode cX10_goesOf 65 = .ok (.iload_n 1, 1) := by decide +kernel
theorem dX10_goesOf_66 : decode cX10_goesOf 66 = .ok (.iconst 1, 1) := by decide +kernel
theorem dX10_goesOf_67 : decode cX10_goesOf 67 = .ok (.invokevirtual 182, 3) := by decide +kernel
theorem dX10_goesOf_70 : decode cX10_goesOf 70 = .ok (.goto 17, 3) := by decide +kernel
theorem dX10_goesOf_73 : decode cX10_goesOf 73 = .ok (.aload_n 0, 1) := by decide +kernel
theorem dX10_goesOf_74 : decode cX10_goesOf 74 = .ok (.iload_n 1, 1) := by decide +kernel
theorem dX10_goesOf_75 : decode cX10_goesOf 75 = .ok (.iconst 0, 1) := by decide +kernel
theorem dX10_goesOf_76 : decode cX10_goesOf 76 = .ok (.invokevirtual 182, 3) := by decide +kernel
theorem dX10_goesOf_79 : decode cX10_goesOf 79 = .ok (.goto 8, 3) := by decide +kernel
theorem dX10_goesOf_82 : decode cX10_goesOf 82 = .ok (.aload_n 0, 1) := by decide +kernel
theorem dX10_goesOf_83 : decode cX10_goesOf 83 = .ok (.iload_n 1, 1) := by decide +kernel
theorem dX10_goesOf_84 : decode cX10_goesOf 84 = .ok (.invokevirtual 186, 3) := by decide +kernel
theorem dX10_goesOf_87 : decode cX10_goesOf 87 = .ok (.return_, 1) := by decide +kernel
theorem dX10_goes_0 : decode cX10_goes 0 = .ok (.aload_n 0, 1) := by decide +kernel
theorem dX10_goes_1 : decode cX10_goes 1 = .ok (.invokevirtual 189, 3) := by decide +kernel
theorem dX10_goes_4 : decode cX10_goes 4 = .ok (.iconst 0, 1) := by decide +kernel
theorem dX10_goes_5 : decode cX10_goes 5 = .ok (.istore_n 1, 1) := by decide +kernel
theorem dX10_goes_6 : decode cX10_goes 6 = .ok (.iload_n 1, 1) := by decide +kernel
theorem dX10_goes_7 : decode cX10_goes 7 = .ok (.aload_n 0, 1) := by decide +kernel
theorem dX10_goes_8 : decode cX10_goes 8 = .ok (.getfield 9, 3) := by decide +kernel
theorem dX10_goes_11 : decode cX10_goes 11 = .ok (.iconst 0, 1) := by decide +kernel
theorem dX10_goes_12 : decode cX10_goes 12 = .ok (.iaload, 1) := by decide +kernel
theorem dX10_goes_13 : decode cX10_goes 13 = .ok (.if_icmp .ge 14, 3) := by decide +kernel
theorem dX10_goes_16 : decode cX10_goes 16 = .ok (.aload_n 0, 1) := by decide +kernel
theorem dX10_goes_17 : decode cX10_goes 17 = .ok (.iload_n 1, 1) := by decide +kernel
theorem dX10_goes_18 : decode cX10_goes 18 = .ok (.invokevirtual 192, 3) := by decide +kernel
theorem dX10_goes_21 : decode cX10_goes 21 = .ok (.iinc 1 1, 3) := by decide +kernel
theorem dX10_goes_24 : decode cX10_goes 24 = .ok (.goto (-18), 3) := by decide +kernel
theorem dX10_goes_27 : decode cX10_goes 27 = .ok (.return_, 1) := by decide +kernel
theorem dX10_warmth_0 : decode cX10_warmth 0 = .ok (.iload_n 1, 1) := by decide +kernel
theorem dX10_warmth_1 : decode cX10_warmth 1 = .ok (.invokestatic 195, 3) := by decide +kernel
theorem dX10_warmth_4 : decode cX10_warmth 4 = .ok (.ifCond .ne 5, 3) := by decide +kernel
theorem dX10_warmth_7 : decode cX10_warmth 7 = .ok (.iconst (-1), 1) := by decide +kernel
theorem dX10_warmth_8 : decode cX10_warmth 8 = .ok (.ireturn, 1) := by decide +kernel
theorem dX10_warmth_9 : decode cX10_warmth 9 = .ok (.aload_n 0, 1) := by decide +kernel
theorem dX10_warmth_10 : decode cX10_warmth 10 = .ok (.invokevirtual 189, 3) := by decide +kernel
theorem dX10_warmth_13 : decode cX10_warmth 13 = .ok (.aload_n 0, 1) := by decide +kernel
theorem dX10_warmth_14 : decode cX10_warmth 14 = .ok (.getfield 25, 3) := by decide +kernel
theorem dX10_warmth_17 : decode cX10_warmth 17 = .ok (.iload_n 1, 1) := by decide +kernel
theorem dX10_warmth_18 : decode cX10_warmth 18 = .ok (.iaload, 1) := by decide +kernel
theorem dX10_warmth_19 : decode cX10_warmth 19 = .ok (.ireturn, 1) := by decide +kernel
theorem dX10_noise_0 : decode cX10_noise 0 = .ok (.iload_n 1, 1) := by decide +kernel
theorem dX10_noise_1 : decode cX10_noise 1 = .ok (.iconst 0, 1) := by decide +kernel
theorem dX10_noise_2 : decode cX10_noise 2 = .ok (.bipush 6, 2) := by decide +kernel
theorem dX10_noise_4 : decode cX10_noise 4 = .ok (.invokestatic 44, 3) := by decide +kernel
theorem dX10_noise_7 : decode cX10_noise 7 = .ok (.ifCond .eq 10, 3) := by decide +kernel
theorem dX10_noise_10 : decode cX10_noise 10 = .ok (.iload_n 2, 1) := by decide +kernel
theorem dX10_noise_11 : decode cX10_noise 11 = .ok (.invokestatic 199, 3) := by decide +kernel
theorem dX10_noise_14 : decode cX10_noise 14 = .ok (.ifCond .ne 5, 3) := by decide +kernel
theorem dX10_noise_17 : decode cX10_noise 17 = .ok (.iconst (-1), 1) := by decide +kernel
theorem dX10_noise_18 : decode cX10_noise 18 = .ok (.ireturn, 1) := by decide +kernel
theorem dX10_noise_19 : decode cX10_noise 19 = .ok (.iload_n 3, 1) := by decide +kernel
theorem dX10_noise_20 : decode cX10_noise 20 = .ok (.iconst 0, 1) := by decide +kernel
theorem dX10_noise_21 : decode cX10_noise 21 = .ok (.bipush 9, 2) := by decide +kernel
theorem dX10_noise_23 : decode cX10_noise 23 = .ok (.invokestatic 44, 3) := by decide +kernel
theorem dX10_noise_26 : decode cX10_noise 26 = .ok (.ifCond .eq 14, 3) := by decide +kernel
theorem dX10_noise_29 : decode cX10_noise 29 = .ok (.iload 4, 2) := by decide +kernel
theorem dX10_noise_31 : decode cX10_noise 31 = .ok (.iconst 1, 1) := by decide +kernel
theorem dX10_noise_32 : decode cX10_noise 32 = .ok (.bipush 40, 2) := by decide +kernel
theorem dX10_noise_34 : decode cX10_noise 34 = .ok (.invokestatic 44, 3) := by decide +kernel
theorem dX10_noise_37 : decode cX10_noise 37 = .ok (.ifCond .ne 6, 3) := by decide +kernel
theorem dX10_noise_40 : decode cX10_noise 40 = .ok (.bipush (-2), 2) := by decide +kernel
theorem dX10_noise_42 : decode cX10_noise 42 = .ok (.ireturn, 1) := by decide +kernel
theorem dX10_noise_43 : decode cX10_noise 43 = .ok (.aload_n 0, 1) := by decide +kernel
theorem dX10_noise_44 : decode cX10_noise 44 = .ok (.getfield 9, 3) := by decide +kernel
theorem dX10_noise_47 : decode cX10_noise 47 = .ok (.iconst 0, 1) := by decide +kernel
theorem dX10_noise_48 : decode cX10_noise 48 = .ok (.iaload, 1) := by decide +kernel
theorem dX10_noise_49 : decode cX10_noise 49 = .ok (.bipush 10, 2) := by decide +kernel
theorem dX10_noise_51 : decode cX10_noise 51 = .ok (.if_icmp .ne 6, 3) := by decide +kernel
theorem dX10_noise_54 : decode cX10_noise 54 = .ok (.bipush (-4), 2) := by decide +kernel
theorem dX10_noise_56 : decode cX10_noise 56 = .ok (.ireturn, 1) := by decide +kernel
theorem dX10_noise_57 : decode cX10_noise 57 = .ok (.aload_n 0, 1) := by decide +kernel
theorem dX10_noise_58 : decode cX10_noise 58 = .ok (.getfield 9, 3) := by decide +kernel
theorem dX10_noise_61 : decode cX10_noise 61 = .ok (.iconst 0, 1) := by decide +kernel
theorem dX10_noise_62 : decode cX10_noise 62 = .ok (.iaload, 1) := by decide +kernel
theorem dX10_noise_63 : decode cX10_noise 63 = .ok (.istore 5, 2) := by decide +kernel
theorem dX10_noise_65 : decode cX10_noise 65 = .ok (.aload_n 0, 1) := by decide +kernel
theorem dX10_noise_66 : decode cX10_noise 66 = .ok (.getfield 9, 3) := by decide +kernel
theorem dX10_noise_69 : decode cX10_noise 69 = .ok (.sipush 250, 3) := by decide +kernel
theorem dX10_noise_72 : decode cX10_noise 72 = .ok (.iload 5, 2) := by decide +kernel
theorem dX10_noise_74 : decode cX10_noise 74 = .ok (.iadd, 1) := by decide +kernel
theorem dX10_noise_75 : decode cX10_noise 75 = .ok (.iload_n 1, 1) := by decide +kernel
theorem dX10_noise_76 : decode cX10_noise 76 = .ok (.iastore, 1) := by decide +kernel
theorem dX10_noise_77 : decode cX10_noise 77 = .ok (.aload_n 0, 1) := by decide +kernel
theorem dX10_noise_78 : decode cX10_noise 78 = .ok (.getfield 9, 3) := by decide +kernel
theorem dX10_noise_81 : decode cX10_noise 81 = .ok (.sipush 260, 3) := by decide +kernel
theorem dX10_noise_84 : decode cX10_noise 84 = .ok (.iload 5, 2) := by decide +kernel
theorem dX10_noise_86 : decode cX10_noise 86 = .ok (.iadd, 1) := by decide +kernel
theorem dX10_noise_87 : decode cX10_noise 87 = .ok (.iload_n 2, 1) := by decide +kernel
theorem dX10_noise_88 : decode cX10_noise 88 = .ok (.iastore, 1) := by decide +kernel
theorem dX10_noise_89 : decode cX10_noise 89 = .ok (.aload_n 0, 1) := by decide +kernel
theorem dX10_noise_90 : decode cX10_noise 90 = .ok (.getfield 9, 3) := by decide +kernel
theorem dX10_noise_93 : decode cX10_noise 93 = .ok (.sipush 270, 3) := by decide +kernel
theorem dX10_noise_96 : decode cX10_noise 96 = .ok (.iload 5, 2) := by decide +kernel
theorem dX10_noise_98 : decode cX10_noise 98 = .ok (.iadd, 1) := by decide +kernel
theorem dX10_noise_99 : decode cX10_noise 99 = .ok (.iload_n 3, 1) := by decide +kernel
theorem dX10_noise_100 : decode cX10_noise 100 = .ok (.iastore, 1) := by decide +kernel
theorem dX10_noise_101 : decode cX10_noise 101 = .ok (.aload_n 0, 1) := by decide +kernel
theorem dX10_noise_102 : decode cX10_noise 102 = .ok (.getfield 9, 3) := by decide +kernel
theorem dX10_noise_105 : decode cX10_noise 105 = .ok (.sipush 280, 3) := by decide +kernel
theorem dX10_noise_108 : decode cX10_noise 108 = .ok (.iload 5, 2) := by decide +kernel
theorem dX10_noise_110 : decode cX10_noise 110 = .ok (.iadd, 1) := by decide +kernel
theorem dX10_noise_111 : decode cX10_noise 111 = .ok (.iload 4, 2) := by decide +kernel
theorem dX10_noise_113 : decode cX10_noise 113 = .ok (.iastore, 1) := by decide +kernel
theorem dX10_noise_114 : decode cX10_noise 114 = .ok (.aload_n 0, 1) := by decide +kernel
theorem dX10_noise_115 : decode cX10_noise 115 = .ok (.getfield 9, 3) := by decide +kernel
theorem dX10_noise_118 : decode cX10_noise 118 = .ok (.sipush 290, 3) := by decide +kernel
theorem dX10_noise_121 : decode cX10_noise 121 = .ok (.iload 5, 2) := by decide +kernel
theorem dX10_noise_123 : decode cX10_noise 123 = .ok (.iadd, 1) := by decide +kernel
theorem dX10_noise_124 : decode cX10_noise 124 = .ok (.iconst 0, 1) := by decide +kernel
theorem dX10_noise_125 : decode cX10_noise 125 = .ok (.iastore, 1) := by decide +kernel
theorem dX10_noise_126 : decode cX10_noise 126 = .ok (.aload_n 0, 1) := by decide +kernel
theorem dX10_noise_127 : decode cX10_noise 127 = .ok (.getfield 9, 3) := by decide +kernel
theorem dX10_noise_130 : decode cX10_noise 130 = .ok (.iconst 0, 1) := by decide +kernel
theorem dX10_noise_131 : decode cX10_noise 131 = .ok (.dup2, 1) := by decide +kernel
theorem dX10_noise_132 : decode cX10_noise 132 = .ok (.iaload, 1) := by decide +kernel
theorem dX10_noise_133 : decode cX10_noise 133 = .ok (.iconst 1, 1) := by decide +kernel
theorem dX10_noise_134 : decode cX10_noise 134 = .ok (.iadd, 1) := by decide +kernel
theorem dX10_noise_135 : decode cX10_noise 135 = .ok (.iastore, 1) := by decide +kernel
theorem dX10_noise_136 : decode cX10_noise 136 = .ok (.iload 5, 2) := by decide +kernel
theorem dX10_noise_138 : decode cX10_noise 138 = .ok (.ireturn, 1) := by decide +kernel
theorem dX10_of_0 : decode cX10_of 0 = .ok (.aload_n 0, 1) := by decide +kernel
theorem dX10_of_1 : decode cX10_of 1 = .ok (.iload_n 1, 1) := by decide +kernel
theorem dX10_of_2 : decode cX10_of 2 = .ok (.invokevirtual 202, 3) := by decide +kernel
theorem dX10_of_5 : decode cX10_of 5 = .ok (.ifCond .eq 30, 3) := by decide +kernel
theorem dX10_of_8 : decode cX10_of 8 = .ok (.iload_n 2, 1) := by decide +kernel
theorem dX10_of_9 : decode cX10_of 9 = .ok (.iconst 0, 1) := by decide +kernel
theorem dX10_of_10 : decode cX10_of 10 = .ok (.iconst 4, 1) := by decide +kernel
theorem dX10_of_11 : decode cX10_of 11 = .ok (.invokestatic 44, 3) := by decide +kernel
theorem dX10_of_14 : decode cX10_of 14 = .ok (.ifCond .eq 21, 3) := by decide +kernel
theorem dX10_of_17 : decode cX10_of 17 = .ok (.aload_n 0, 1) := by decide +kernel
theorem dX10_of_18 : decode cX10_of 18 = .ok (.getfield 9, 3) := by decide +kernel
theorem dX10_of_21 : decode cX10_of 21 = .ok (.sipush 250, 3) := by decide +kernel
theorem dX10_of_24 : decode cX10_of 24 = .ok (.bipush 10, 2) := by decide +kernel
theorem dX10_of_26 : decode cX10_of 26 = .ok (.iload_n 2, 1) := by decide +kernel
theorem dX10_of_27 : decode cX10_of 27 = .ok (.imul, 1) := by decide +kernel
theorem dX10_of_28 : decode cX10_of 28 = .ok (.iadd, 1) := by decide +kernel
theorem dX10_of_29 : decode cX10_of 29 = .ok (.iload_n 1, 1) := by decide +kernel
theorem dX10_of_30 : decode cX10_of 30 = .ok (.iadd, 1) := by decide +kernel
theorem dX10_of_31 : decode cX10_of 31 = .ok (.iaload, 1) := by decide +kernel
theorem dX10_of_32 : decode cX10_of 32 = .ok (.goto 4, 3) := by decide +kernel
theorem dX10_of_35 : decode cX10_of 35 = .ok (.iconst (-1), 1) := by decide +kernel
theorem dX10_of_36 : decode cX10_of 36 = .ok (.ireturn, 1) := by decide +kernel
theorem dX10_still_0 : decode cX10_still 0 = .ok (.aload_n 0, 1) := by decide +kernel
theorem dX10_still_1 : decode cX10_still 1 = .ok (.iload_n 1, 1) := by decide +kernel
theorem dX10_still_2 : decode cX10_still 2 = .ok (.invokevirtual 202, 3) := by decide +kernel
theorem dX10_still_5 : decode cX10_still 5 = .ok (.ifCond .ne 5, 3) := by decide +kernel
theorem dX10_still_8 : decode cX10_still 8 = .ok (.iconst (-1), 1) := by decide +kernel
theorem dX10_still_9 : decode cX10_still 9 = .ok (.ireturn, 1) := by decide +kernel
theorem dX10_still_10 : decode cX10_still 10 = .ok (.aload_n 0, 1) := by decide +kernel
theorem dX10_still_11 : decode cX10_still 11 = .ok (.getfield 9, 3) := by decide +kernel
theorem dX10_still_14 : decode cX10_still 14 = .ok (.sipush 290, 3) := by decide +kernel
theorem dX10_still_17 : decode cX10_still 17 = .ok (.iload_n 1, 1) := by decide +kernel
theorem dX10_still_18 : decode cX10_still 18 = .ok (.iadd, 1) := by decide +kernel
theorem dX10_still_19 : decode cX10_still 19 = .ok (.iaload, 1) := by decide +kernel
theorem dX10_still_20 : decode cX10_still 20 = .ok (.istore_n 3, 1) := by decide +kernel
theorem dX10_still_21 : decode cX10_still 21 = .ok (.aload_n 0, 1) := by decide +kernel
theorem dX10_still_22 : decode cX10_still 22 = .ok (.getfield 9, 3) := by decide +kernel
theorem dX10_still_25 : decode cX10_still 25 = .ok (.sipush 290, 3) := by decide +kernel
theorem dX10_still_28 : decode cX10_still 28 = .ok (.iload_n 1, 1) := by decide +kernel
theorem dX10_still_29 : decode cX10_still 29 = .ok (.iadd, 1) := by decide +kernel
theorem dX10_still_30 : decode cX10_still 30 = .ok (.iload_n 2, 1) := by decide +kernel
theorem dX10_still_31 : decode cX10_still 31 = .ok (.ifCond .eq 7, 3) := by decide +kernel
theorem dX10_still_34 : decode cX10_still 34 = .ok (.iconst 1, 1) := by decide +kernel
theorem dX10_still_35 : decode cX10_still 35 = .ok (.goto 4, 3) := by decide +kernel
theorem dX10_still_38 : decode cX10_still 38 = .ok (.iconst 0, 1) := by decide +kernel
theorem dX10_still_39 : decode cX10_still 39 = .ok (.iastore, 1) := by decide +kernel
theorem dX10_still_40 : decode cX10_still 40 = .ok (.iload_n 3, 1) := by decide +kernel
theorem dX10_still_41 : decode cX10_still 41 = .ok (.ireturn, 1) := by decide +kernel
theorem dX10_isStill_0 : decode cX10_isStill 0 = .ok (.aload_n 0, 1) := by decide +kernel
theorem dX10_isStill_1 : decode cX10_isStill 1 = .ok (.getfield 9, 3) := by decide +kernel
theorem dX10_isStill_4 : decode cX10_isStill 4 = .ok (.sipush 290, 3) := by decide +kernel
theorem dX10_isStill_7 : decode cX10_isStill 7 = .ok (.iload_n 1, 1) := by decide +kernel
theorem dX10_isStill_8 : decode cX10_isStill 8 = .ok (.iadd, 1) := by decide +kernel
theorem dX10_isStill_9 : decode cX10_isStill 9 = .ok (.iaload, 1) := by decide +kernel
theorem dX10_isStill_10 : decode cX10_isStill 10 = .ok (.iconst 1, 1) := by decide +kernel
theorem dX10_isStill_11 : decode cX10_isStill 11 = .ok (.if_icmp .ne 7, 3) := by decide +kernel
theorem dX10_isStill_14 : decode cX10_isStill 14 = .ok (.iconst 1, 1) := by decide +kernel
theorem dX10_isStill_15 : decode cX10_isStill 15 = .ok (.goto 4, 3) := by decide +kernel
theorem dX10_isStill_18 : decode cX10_isStill 18 = .ok (.iconst 0, 1) := by decide +kernel
theorem dX10_isStill_19 : decode cX10_isStill 19 = .ok (.ireturn, 1) := by decide +kernel
theorem dX10_knocks_0 : decode cX10_knocks 0 = .ok (.aload_n 0, 1) := by decide +kernel
theorem dX10_knocks_1 : decode cX10_knocks 1 = .ok (.iload_n 1, 1) := by decide +kernel
theorem dX10_knocks_2 : decode cX10_knocks 2 = .ok (.invokevirtual 202, 3) := by decide +kernel
theorem dX10_knocks_5 : decode cX10_knocks 5 = .ok (.ifCond .eq 19, 3) := by decide +kernel
theorem dX10_knocks_8 : decode cX10_knocks 8 = .ok (.iload_n 2, 1) := by decide +kernel
theorem dX10_knocks_9 : decode cX10_knocks 9 = .ok (.invokestatic 195, 3) := by decide +kernel
theorem dX10_knocks_12 : decode cX10_knocks 12 = .ok (.ifCond .eq 12, 3) := by decide +kernel
theorem dX10_knocks_15 : decode cX10_knocks 15 = .ok (.iload_n 3, 1) := by decide +kernel
theorem dX10_knocks_16 : decode cX10_knocks 16 = .ok (.iconst 0, 1) := by decide +kernel
theorem dX10_knocks_17 : decode cX10_knocks 17 = .ok (.iconst 2, 1) := by decide +kernel
theorem dX10_knocks_18 : decode cX10_knocks 18 = .ok (.invokestatic 44, 3) := by decide +kernel
theorem dX10_knocks_21 : decode cX10_knocks 21 = .ok (.ifCond .ne 5, 3) := by decide +kernel
theorem dX10_knocks_24 : decode cX10_knocks 24 = .ok (.iconst (-1), 1) := by decide +kernel
theorem dX10_knocks_25 : decode cX10_knocks 25 = .ok (.ireturn, 1) := by decide +kernel
theorem dX10_knocks_26 : decode cX10_knocks 26 = .ok (.aload_n 0, 1) := by decide +kernel
theorem dX10_knocks_27 : decode cX10_knocks 27 = .ok (.invokevirtual 205, 3) := by decide +kernel
theorem dX10_knocks_30 : decode cX10_knocks 30 = .ok (.aload_n 0, 1) := by decide +kernel
theorem dX10_knocks_31 : decode cX10_knocks 31 = .ok (.iload_n 1, 1) := by decide +kernel
theorem dX10_knocks_32 : decode cX10_knocks 32 = .ok (.iload_n 2, 1) := by decide +kernel
theorem dX10_knocks_33 : decode cX10_knocks 33 = .ok (.invokevirtual 170, 3) := by decide +kernel
theorem dX10_knocks_36 : decode cX10_knocks 36 = .ok (.istore 4, 2) := by decide +kernel
theorem dX10_knocks_38 : decode cX10_knocks 38 = .ok (.iload_n 3, 1) := by decide +kernel
theorem dX10_knocks_39 : decode cX10_knocks 39 = .ok (.ifCond .ne 8, 3) := by decide +kernel
theorem dX10_knocks_42 : decode cX10_knocks 42 = .ok (.iload 4, 2) := by decide +kernel
theorem dX10_knocks_44 : decode cX10_knocks 44 = .ok (.goto 38, 3) := by decide +kernel
theorem dX10_knocks_47 : decode cX10_knocks 47 = .ok (.iload_n 3, 1) := by decide +kernel
theorem dX10_knocks_48 : decode cX10_knocks 48 = .ok (.iconst 1, 1) := by decide +kernel
theorem dX10_knocks_49 : decode cX10_knocks 49 = .ok (.if_icmp .ne 10, 3) := by decide +kernel
theorem dX10_knocks_52 : decode cX10_knocks 52 = .ok (.aload_n 0, 1) := by decide +kernel
theorem dX10_knocks_53 : decode cX10_knocks 53 = .ok (.getfield 146, 3) := by decide +kernel
theorem dX10_knocks_56 : decode cX10_knocks 56 = .ok (.goto 26, 3) := by decide +kernel
theorem dX10_knocks_59 : decode cX10_knocks 59 = .ok (.aload_n 0, 1) := by decide +kernel
theorem dX10_knocks_60 : decode cX10_knocks 60 = .ok (.iload_n 1, 1) := by decide +kernel
theorem dX10_knocks_61 : decode cX10_knocks 61 = .ok (.invokevirtual 208, 3) := by decide +kernel
theorem dX10_knocks_64 : decode cX10_knocks 64 = .ok (.ifCond .eq 7, 3) := by decide +kernel
theorem dX10_knocks_67 : decode cX10_knocks 67 = .ok (.iconst 0, 1) := by decide +kernel
theorem dX10_knocks_68 : decode cX10_knocks 68 = .ok (.goto 14, 3) := by decide +kernel
theorem dX10_knocks_71 : decode cX10_knocks 71 = .ok (.aload_n 0, 1) := by decide +kernel
theorem dX10_knocks_72 : decode cX10_knocks 72 = .ok (.getfield 28, 3) := by decide +kernel
theorem dX10_knocks_75 : decode cX10_knocks 75 = .ok (.bipush 40, 2) := by decide +kernel
theorem dX10_knocks_77 : decode cX10_knocks 77 = .ok (.iload_n 1, 1) := by decide +kernel
theorem dX10_knocks_78 : decode cX10_knocks 78 = .ok (.imul, 1) := by decide +kernel
theorem dX10_knocks_79 : decode cX10_knocks 79 = .ok (.iload_n 2, 1) := by decide +kernel
theorem dX10_knocks_80 : decode cX10_knocks 80 = .ok (.iadd, 1) := by decide +kernel
theorem dX10_knocks_81 : decode cX10_knocks 81 = .ok (.iaload, 1) := by decide +kernel
theorem dX10_knocks_82 : decode cX10_knocks 82 = .ok (.ireturn, 1) := by decide +kernel
theorem dX10_isStruck_0 : decode cX10_isStruck 0 = .ok (.aload_n 0, 1) := by decide +kernel
theorem dX10_isStruck_1 : decode cX10_isStruck 1 = .ok (.getfield 9, 3) := by decide +kernel
theorem dX10_isStruck_4 : decode cX10_isStruck 4 = .ok (.sipush 250, 3) := by decide +kernel
theorem dX10_isStruck_7 : decode cX10_isStruck 7 = .ok (.iload_n 1, 1) := by decide +kernel
theorem dX10_isStruck_8 : decode cX10_isStruck 8 = .ok (.iadd, 1) := by decide +kernel
theorem dX10_isStruck_9 : decode cX10_isStruck 9 = .ok (.iaload, 1) := by decide +kernel
theorem dX10_isStruck_10 : decode cX10_isStruck 10 = .ok (.iconst 2, 1) := by decide +kernel
theorem dX10_isStruck_11 : decode cX10_isStruck 11 = .ok (.if_icmp .eq 17, 3) := by decide +kernel
theorem dX10_isStruck_14 : decode cX10_isStruck 14 = .ok (.aload_n 0, 1) := by decide +kernel
theorem dX10_isStruck_15 : decode cX10_isStruck 15 = .ok (.getfield 9, 3) := by decide +kernel
theorem dX10_isStruck_18 : decode cX10_isStruck 18 = .ok (.sipush 250, 3) := by decide +kernel
theorem dX10_isStruck_21 : decode cX10_isStruck 21 = .ok (.iload_n 1, 1) := by decide +kernel
theorem dX10_isStruck_22 : decode cX10_isStruck 22 = .ok (.iadd, 1) := by decide +kernel
theorem dX10_isStruck_23 : decode cX10_isStruck 23 = .ok (.iaload, 1) := by decide +kernel
theorem dX10_isStruck_24 : decode cX10_isStruck 24 = .ok (.iconst 5, 1) := by decide +kernel
theorem dX10_isStruck_25 : decode cX10_isStruck 25 = .ok (.if_icmp .ne 7, 3) := by decide +kernel
theorem dX10_isStruck_28 : decode cX10_isStruck 28 = .ok (.iconst 1, 1) := by decide +kernel
theorem dX10_isStruck_29 : decode cX10_isStruck 29 = .ok (.goto 4, 3) := by decide +kernel
theorem dX10_isStruck_32 : decode cX10_isStruck 32 = .ok (.iconst 0, 1) := by decide +kernel
theorem dX10_isStruck_33 : decode cX10_isStruck 33 = .ok (.ireturn, 1) := by decide +kernel
theorem dX10_loudOf_0 : decode cX10_loudOf 0 = .ok (.aload_n 0, 1) := by decide +kernel
theorem dX10_loudOf_1 : decode cX10_loudOf 1 = .ok (.getfield 9, 3) := by decide +kernel
theorem dX10_loudOf_4 : decode cX10_loudOf 4 = .ok (.sipush 280, 3) := by decide +kernel
theorem dX10_loudOf_7 : decode cX10_loudOf 7 = .ok (.iload_n 1, 1) := by decide +kernel
theorem dX10_loudOf_8 : decode cX10_loudOf 8 = .ok (.iadd, 1) := by decide +kernel
theorem dX10_loudOf_9 : decode cX10_loudOf 9 = .ok (.iaload, 1) := by decide +kernel
theorem dX10_loudOf_10 : decode cX10_loudOf 10 = .ok (.istore 4, 2) := by decide +kernel
theorem dX10_loudOf_12 : decode cX10_loudOf 12 = .ok (.aload_n 0, 1) := by decide +kernel
theorem dX10_loudOf_13 : decode cX10_loudOf 13 = .ok (.iload_n 1, 1) := by decide +kernel
theorem dX10_loudOf_14 : decode cX10_loudOf 14 = .ok (.invokevirtual 211, 3) := by decide +kernel
theorem dX10_loudOf_17 : decode cX10_loudOf 17 = .ok (.ifCond .eq 34, 3) := by decide +kernel
theorem dX10_loudOf_20 : decode cX10_loudOf 20 = .ok (.aload_n 0, 1) := by decide +kernel
theorem dX10_loudOf_21 : decode cX10_loudOf 21 = .ok (.getfield 214, 3) := by decide +kernel
theorem dX10_loudOf_24 : decode cX10_loudOf 24 = .ok (.ifCond .le 27, 3) := by decide +kernel
theorem dX10_loudOf_27 : decode cX10_loudOf 27 = .ok (.iload 4, 2) := by decide +kernel
theorem dX10_loudOf_29 : decode cX10_loudOf 29 = .ok (.aload_n 0, 1) := by decide +kernel
theorem dX10_loudOf_30 : decode cX10_loudOf 30 = .ok (.getfield 214, 3) := by decide +kernel
theorem dX10_loudOf_33 : decode cX10_loudOf 33 = .ok (.isub, 1) := by decide +kernel
theorem dX10_loudOf_34 : decode cX10_loudOf 34 = .ok (.iconst 1, 1) := by decide +kernel
theorem dX10_loudOf_35 : decode cX10_loudOf 35 = .ok (.if_icmp .ge 7, 3) := by decide +kernel
theorem dX10_loudOf_38 : decode cX10_loudOf 38 = .ok (.iconst 1, 1) := by decide +kernel
theorem dX10_loudOf_39 : decode cX10_loudOf 39 = .ok (.goto 10, 3) := by decide +kernel
theorem dX10_loudOf_42 : decode cX10_loudOf 42 = .ok (.iload 4, 2) := by decide +kernel
theorem dX10_loudOf_44 : decode cX10_loudOf 44 = .ok (.aload_n 0, 1) := by decide +kernel
theorem dX10_loudOf_45 : decode cX10_loudOf 45 = .ok (.getfield 214, 3) := by decide +kernel
theorem dX10_loudOf_48 : decode cX10_loudOf 48 = .ok (.isub, 1) := by decide +kernel
theorem dX10_loudOf_49 : decode cX10_loudOf 49 = .ok (.istore 4, 2) := by decide +kernel
theorem dX10_loudOf_51 : decode cX10_loudOf 51 = .ok (.iload_n 2, 1) := by decide +kernel
theorem dX10_loudOf_52 : decode cX10_loudOf 52 = .ok (.aload_n 0, 1) := by decide +kernel
theorem dX10_loudOf_53 : decode cX10_loudOf 53 = .ok (.getfield 9, 3) := by decide +kernel
theorem dX10_loudOf_56 : decode cX10_loudOf 56 = .ok (.sipush 260, 3) := by decide +kernel
theorem dX10_loudOf_59 : decode cX10_loudOf 59 = .ok (.iload_n 1, 1) := by decide +kernel
theorem dX10_loudOf_60 : decode cX10_loudOf 60 = .ok (.iadd, 1) := by decide +kernel
theorem dX10_loudOf_61 : decode cX10_loudOf 61 = .ok (.iaload, 1) := by decide +kernel
theorem dX10_loudOf_62 : decode cX10_loudOf 62 = .ok (.isub, 1) := by decide +kernel
theorem dX10_loudOf_63 : decode cX10_loudOf 63 = .ok (.invokestatic 173, 3) := by decide +kernel
theorem dX10_loudOf_66 : decode cX10_loudOf 66 = .ok (.istore 5, 2) := by decide +kernel
theorem dX10_loudOf_68 : decode cX10_loudOf 68 = .ok (.iload 4, 2) := by decide +kernel
theorem dX10_loudOf_70 : decode cX10_loudOf 70 = .ok (.aload_n 0, 1) := by decide +kernel
theorem dX10_loudOf_71 : decode cX10_loudOf 71 = .ok (.iconst 3, 1) := by decide +kernel
theorem dX10_loudOf_72 : decode cX10_loudOf 72 = .ok (.invokevirtual 162, 3) := by decide +kernel
theorem dX10_loudOf_75 : decode cX10_loudOf 75 = .ok (.iload 5, 2) := by decide +kernel
theorem dX10_loudOf_77 : decode cX10_loudOf 77 = .ok (.imul, 1) := by decide +kernel
theorem dX10_loudOf_78 : decode cX10_loudOf 78 = .ok (.isub, 1) := by decide +kernel
theorem dX10_loudOf_79 : decode cX10_loudOf 79 = .ok (.istore 6, 2) := by decide +kernel
theorem dX10_loudOf_81 : decode cX10_loudOf 81 = .ok (.aload_n 0, 1) := by decide +kernel
theorem dX10_loudOf_82 : decode cX10_loudOf 82 = .ok (.getfield 25, 3) := by decide +kernel
theorem dX10_loudOf_85 : decode cX10_loudOf 85 = .ok (.iload_n 3, 1) := by decide +kernel
theorem dX10_loudOf_86 : decode cX10_loudOf 86 = .ok (.iaload, 1) := by decide +kernel
theorem dX10_loudOf_87 : decode cX10_loudOf 87 = .ok (.ifCond .gt 11, 3) := by decide +kernel
theorem dX10_loudOf_90 : decode cX10_loudOf 90 = .ok (.aload_n 0, 1) := by decide +kernel
theorem dX10_loudOf_91 : decode cX10_loudOf 91 = .ok (.iload_n 1, 1) := by decide +kernel
theorem dX10_loudOf_92 : decode cX10_loudOf 92 = .ok (.invokevirtual 211, 3) := by decide +kernel
theorem dX10_loudOf_95 : decode cX10_loudOf 95 = .ok (.ifCond .eq 19, 3) := by decide +kernel
theorem dX10_loudOf_98 : decode cX10_loudOf 98 = .ok (.iload 4, 2) := by decide +kernel
theorem dX10_loudOf_100 : decode cX10_loudOf 100 = .ok (.iconst 5, 1) := by decide +kernel
theorem dX10_loudOf_101 : decode cX10_loudOf 101 = .ok (.isub, 1) := by decide +kernel
theorem dX10_loudOf_102 : decode cX10_loudOf 102 = .ok (.aload_n 0, 1) := by decide +kernel
theorem dX10_loudOf_103 : decode cX10_loudOf 103 = .ok (.iconst 2, 1) := by decide +kernel
theorem dX10_loudOf_104 : decode cX10_loudOf 104 = .ok (.invokevirtual 162, 3) := by decide +kernel
theorem dX10_loudOf_107 : decode cX10_loudOf 107 = .ok (.iload 5, 2) := by decide +kernel
theorem dX10_loudOf_109 : decode cX10_loudOf 109 = .ok (.imul, 1) := by decide +kernel
theorem dX10_loudOf_110 : decode cX10_loudOf 110 = .ok (.isub, 1) := by decide +kernel
theorem dX10_loudOf_111 : decode cX10_loudOf 111 = .ok (.goto 4, 3) := by decide +kernel
theorem dX10_loudOf_114 : decode cX10_loudOf 114 = .ok (.iconst 0, 1) := by decide +kernel
theorem dX10_loudOf_115 : decode cX10_loudOf 115 = .ok (.istore 7, 2) := by decide +kernel
theorem dX10_loudOf_117 : decode cX10_loudOf 117 = .ok (.iload 6, 2) := by decide +kernel
theorem dX10_loudOf_119 : decode cX10_loudOf 119 = .ok (.iload 7, 2) := by decide +kernel
theorem dX10_loudOf_121 : decode cX10_loudOf 121 = .ok (.if_icmp .le 8, 3) := by decide +kernel
theorem dX10_loudOf_124 : decode cX10_loudOf 124 = .ok (.iload 6, 2) := by decide +kernel
theorem dX10_loudOf_126 : decode cX10_loudOf 126 = .ok (.goto 5, 3) := by decide +kernel
theorem dX10_loudOf_129 : decode cX10_loudOf 129 = .ok (.iload 7, 2) := by decide +kernel
theorem dX10_loudOf_131 : decode cX10_loudOf 131 = .ok (.istore 8, 2) := by decide +kernel
theorem dX10_loudOf_133 : decode cX10_loudOf 133 = .ok (.iload 8, 2) := by decide +kernel
theorem dX10_loudOf_135 : decode cX10_loudOf 135 = .ok (.ifCond .ge 7, 3) := by decide +kernel
theorem dX10_loudOf_138 : decode cX10_loudOf 138 = .ok (.iconst 0, 1) := by decide +kernel
theorem dX10_loudOf_139 : decode cX10_loudOf 139 = .ok (.goto 5, 3) := by decide +kernel
theorem dX10_loudOf_142 : decode cX10_loudOf 142 = .ok (.iload 8, 2) := by decide +kernel
theorem dX10_loudOf_144 : decode cX10_loudOf 144 = .ok (.ireturn, 1) := by decide +kernel
theorem dX10_loud_0 : decode cX10_loud 0 = .ok (.aload_n 0, 1) := by decide +kernel
theorem dX10_loud_1 : decode cX10_loud 1 = .ok (.iload_n 1, 1) := by decide +kernel
theorem dX10_loud_2 : decode cX10_loud 2 = .ok (.invokevirtual 202, 3) := by decide +kernel
theorem dX10_loud_5 : decode cX10_loud 5 = .ok (.ifCond .eq 17, 3) := by decide +kernel
theorem dX10_loud_8 : decode cX10_loud 8 = .ok (.iload_n 2, 1) := by decide +kernel
theorem dX10_loud_9 : decode cX10_loud 9 = .ok (.invokestatic 199, 3) := by decide +kernel
theorem dX10_loud_12 : decode cX10_loud 12 = .ok (.ifCond .eq 10, 3) := by decide +kernel
theorem dX10_loud_15 : decode cX10_loud 15 = .ok (.iload_n 3, 1) := by decide +kernel
theorem dX10_loud_16 : decode cX10_loud 16 = .ok (.invokestatic 195, 3) := by decide +kernel
theorem dX10_loud_19 : decode cX10_loud 19 = .ok (.ifCond .ne 5, 3) := by decide +kernel
theorem dX10_loud_22 : decode cX10_loud 22 = .ok (.iconst (-1), 1) := by decide +kernel
theorem dX10_loud_23 : decode cX10_loud 23 = .ok (.ireturn, 1) := by decide +kernel
theorem dX10_loud_24 : decode cX10_loud 24 = .ok (.aload_n 0, 1) := by decide +kernel
theorem dX10_loud_25 : decode cX10_loud 25 = .ok (.invokevirtual 189, 3) := by decide +kernel
theorem dX10_loud_28 : decode cX10_loud 28 = .ok (.aload_n 0, 1) := by decide +kernel
theorem dX10_loud_29 : decode cX10_loud 29 = .ok (.iload_n 1, 1) := by decide +kernel
theorem dX10_loud_30 : decode cX10_loud 30 = .ok (.iload_n 2, 1) := by decide +kernel
theorem dX10_loud_31 : decode cX10_loud 31 = .ok (.iload_n 3, 1) := by decide +kernel
theorem dX10_loud_32 : decode cX10_loud 32 = .ok (.invokevirtual 217, 3) := by decide +kernel
theorem dX10_loud_35 : decode cX10_loud 35 = .ok (.ireturn, 1) := by decide +kernel
theorem dX10_moving_0 : decode cX10_moving 0 = .ok (.iconst 0, 1) := by decide +kernel
theorem dX10_moving_1 : decode cX10_moving 1 = .ok (.istore_n 1, 1) := by decide +kernel
theorem dX10_moving_2 : decode cX10_moving 2 = .ok (.iconst 0, 1) := by decide +kernel
theorem dX10_moving_3 : decode cX10_moving 3 = .ok (.istore_n 2, 1) := by decide +kernel
theorem dX10_moving_4 : decode cX10_moving 4 = .ok (.iload_n 2, 1) := by decide +kernel
theorem dX10_moving_5 : decode cX10_moving 5 = .ok (.aload_n 0, 1) := by decide +kernel
theorem dX10_moving_6 : decode cX10_moving 6 = .ok (.getfield 9, 3) := by decide +kernel
theorem dX10_moving_9 : decode cX10_moving 9 = .ok (.iconst 0, 1) := by decide +kernel
theorem dX10_moving_10 : decode cX10_moving 10 = .ok (.iaload, 1) := by decide +kernel
theorem dX10_moving_11 : decode cX10_moving 11 = .ok (.if_icmp .ge 27, 3) := by decide +kernel
theorem dX10_moving_14 : decode cX10_moving 14 = .ok (.iload_n 1, 1) := by decide +kernel
theorem dX10_moving_15 : decode cX10_moving 15 = .ok (.aload_n 0, 1) := by decide +kernel
theorem dX10_moving_16 : decode cX10_moving 16 = .ok (.iload_n 2, 1) := by decide +kernel
theorem dX10_moving_17 : decode cX10_moving 17 = .ok (.invokevirtual 208, 3) := by decide +kernel
theorem dX10_moving_20 : decode cX10_moving 20 = .ok (.ifCond .eq 7, 3) := by decide +kernel
theorem dX10_moving_23 : decode cX10_moving 23 = .ok (.iconst 0, 1) := by decide +kernel
theorem dX10_moving_24 : decode cX10_moving 24 = .ok (.goto 6, 3) := by decide +kernel
theorem dX10_moving_27 : decode cX10_moving 27 = .ok (.iconst 1, 1) := by decide +kernel
theorem dX10_moving_28 : decode cX10_moving 28 = .ok (.iload_n 2, 1) := by decide +kernel
theorem dX10_moving_29 : decode cX10_moving 29 = .ok (.ishl, 1) := by decide +kernel
theorem dX10_moving_30 : decode cX10_moving 30 = .ok (.ior, 1) := by decide +kernel
theorem dX10_moving_31 : decode cX10_moving 31 = .ok (.istore_n 1, 1) := by decide +kernel
theorem dX10_moving_32 : decode cX10_moving 32 = .ok (.iinc 2 1, 3) := by decide +kernel
theorem dX10_moving_35 : decode cX10_moving 35 = .ok (.goto (-31), 3) := by decide +kernel
theorem dX10_moving_38 : decode cX10_moving 38 = .ok (.iload_n 1, 1) := by decide +kernel
theorem dX10_moving_39 : decode cX10_moving 39 = .ok (.ireturn, 1) := by decide +kernel
theorem dX10_heardOf_0 : decode cX10_heardOf 0 = .ok (.iconst 0, 1) := by decide +kernel
theorem dX10_heardOf_1 : decode cX10_heardOf 1 = .ok (.istore 4, 2) := by decide +kernel
theorem dX10_heardOf_3 : decode cX10_heardOf 3 = .ok (.iconst 0, 1) := by decide +kernel
theorem dX10_heardOf_4 : decode cX10_heardOf 4 = .ok (.istore 5, 2) := by decide +kernel
theorem dX10_heardOf_6 : decode cX10_heardOf 6 = .ok (.iload 5, 2) := by decide +kernel
theorem dX10_heardOf_8 : decode cX10_heardOf 8 = .ok (.aload_n 0, 1) := by decide +kernel
theorem dX10_heardOf_9 : decode cX10_heardOf 9 = .ok (.getfield 9, 3) := by decide +kernel
theorem dX10_heardOf_12 : decode cX10_heardOf 12 = .ok (.iconst 0, 1) := by decide +kernel
theorem dX10_heardOf_13 : decode cX10_heardOf 13 = .ok (.iaload, 1) := by decide +kernel
theorem dX10_heardOf_14 : decode cX10_heardOf 14 = .ok (.if_icmp .ge 83, 3) := by decide +kernel
theorem dX10_heardOf_17 : decode cX10_heardOf 17 = .ok (.iload_n 1, 1) := by decide +kernel
theorem dX10_heardOf_18 : decode cX10_heardOf 18 = .ok (.iload 5, 2) := by decide +kernel
theorem dX10_heardOf_20 : decode cX10_heardOf 20 = .ok (.ishr, 1) := by decide +kernel
theorem dX10_heardOf_21 : decode cX10_heardOf 21 = .ok (.iconst 1, 1) := by decide +kernel
theorem dX10_heardOf_22 : decode cX10_heardOf 22 = .ok (.iand, 1) := by decide +kernel
theorem dX10_heardOf_23 : decode cX10_heardOf 23 = .ok (.iconst 1, 1) := by decide +kernel
theorem dX10_heardOf_24 : decode cX10_heardOf 24 = .ok (.if_icmp .ne 38, 3) := by decide +kernel
theorem dX10_heardOf_27 : decode cX10_heardOf 27 = .ok (.aload_n 0, 1) := by decide +kernel
theorem dX10_heardOf_28 : decode cX10_heardOf 28 = .ok (.getfield 28, 3) := by decide +kernel
theorem dX10_heardOf_31 : decode cX10_heardOf 31 = .ok (.bipush 40, 2) := by decide +kernel
theorem dX10_heardOf_33 : decode cX10_heardOf 33 = .ok (.iload 5, 2) := by decide +kernel
theorem dX10_heardOf_35 : decode cX10_heardOf 35 = .ok (.imul, 1) := by decide +kernel
theorem dX10_heardOf_36 : decode cX10_heardOf 36 = .ok (.iload_n 3, 1) := by decide +kernel
theorem dX10_heardOf_37 : decode cX10_heardOf 37 = .ok (.iadd, 1) := by decide +kernel
theorem dX10_heardOf_38 : decode cX10_heardOf 38 = .ok (.iaload, 1) := by decide +kernel
theorem dX10_heardOf_39 : decode cX10_heardOf 39 = .ok (.ifCond .le 23, 3) := by decide +kernel
theorem dX10_heardOf_42 : decode cX10_heardOf 42 = .ok (.aload_n 0, 1) := by decide +kernel
theorem dX10_heardOf_43 : decode cX10_heardOf 43 = .ok (.iload 5, 2) := by decide +kernel
theorem dX10_heardOf_45 : decode cX10_heardOf 45 = .ok (.iload_n 2, 1) := by decide +kernel
theorem dX10_heardOf_46 : decode cX10_heardOf 46 = .ok (.iload_n 3, 1) := by decide +kernel
theorem dX10_heardOf_47 : decode cX10_heardOf 47 = .ok (.invokevirtual 217, 3) := by decide +kernel
theorem dX10_heardOf_50 : decode cX10_heardOf 50 = .ok (.aload_n 0, 1) := by decide +kernel
theorem dX10_heardOf_51 : decode cX10_heardOf 51 = .ok (.iconst 4, 1) := by decide +kernel
theorem dX10_heardOf_52 : decode cX10_heardOf 52 = .ok (.invokevirtual 162, 3) := by decide +kernel
theorem dX10_heardOf_55 : decode cX10_heardOf 55 = .ok (.if_icmp .lt 7, 3) := by decide +kernel
theorem dX10_heardOf_58 : decode cX10_heardOf 58 = .ok (.iconst 1, 1) := by decide +kernel
theorem dX10_heardOf_59 : decode cX10_heardOf 59 = .ok (.goto 4, 3) := by decide +kernel
theorem dX10_heardOf_62 : decode cX10_heardOf 62 = .ok (.iconst 0, 1) := by decide +kernel
theorem dX10_heardOf_63 : decode cX10_heardOf 63 = .ok (.istore 6, 2) := by decide +kernel
theorem dX10_heardOf_65 : decode cX10_heardOf 65 = .ok (.iload 4, 2) := by decide +kernel
theorem dX10_heardOf_67 : decode cX10_heardOf 67 = .ok (.iload 6, 2) := by decide +kernel
theorem dX10_heardOf_69 : decode cX10_heardOf 69 = .ok (.ifCond .eq 18, 3) := by decide +kernel
theorem dX10_heardOf_72 : decode cX10_heardOf 72 = .ok (.aload_n 0, 1) := by decide +kernel
theorem dX10_heardOf_73 : decode cX10_heardOf 73 = .ok (.getfield 28, 3) := by decide +kernel
theorem dX10_heardOf_76 : decode cX10_heardOf 76 = .ok (.bipush 40, 2) := by decide +kernel
theorem dX10_heardOf_78 : decode cX10_heardOf 78 = .ok (.iload 5, 2) := by decide +kernel
theorem dX10_heardOf_80 : decode cX10_heardOf 80 = .ok (.imul, 1) := by decide +kernel
theorem dX10_heardOf_81 : decode cX10_heardOf 81 = .ok (.iload_n 3, 1) := by decide +kernel
theorem dX10_heardOf_82 : decode cX10_heardOf 82 = .ok (.iadd, 1) := by decide +kernel
theorem dX10_heardOf_83 : decode cX10_heardOf 83 = .ok (.iaload, 1) := by decide +kernel
theorem dX10_heardOf_84 : decode cX10_heardOf 84 = .ok (.goto 4, 3) := by decide +kernel
theorem dX10_heardOf_87 : decode cX10_heardOf 87 = .ok (.iconst 0, 1) := by decide +kernel
theorem dX10_heardOf_88 : decode cX10_heardOf 88 = .ok (.iadd, 1) := by decide +kernel
theorem dX10_heardOf_89 : decode cX10_heardOf 89 = .ok (.istore 4, 2) := by decide +kernel
theorem dX10_heardOf_91 : decode cX10_heardOf 91 = .ok (.iinc 5 1, 3) := by decide +kernel
theorem dX10_heardOf_94 : decode cX10_heardOf 94 = .ok (.goto (-88), 3) := by decide +kernel
theorem dX10_heardOf_97 : decode cX10_heardOf 97 = .ok (.iload 4, 2) := by decide +kernel
theorem dX10_heardOf_99 : decode cX10_heardOf 99 = .ok (.ireturn, 1) := by decide +kernel
theorem dX10_heardAll_0 : decode cX10_heardAll 0 = .ok (.iconst 0, 1) := by decide +kernel
theorem dX10_heardAll_1 : decode cX10_heardAll 1 = .ok (.istore_n 3, 1) := by decide +kernel
theorem dX10_heardAll_2 : decode cX10_heardAll 2 = .ok (.iconst 0, 1) := by decide +kernel
theorem dX10_heardAll_3 : decode cX10_heardAll 3 = .ok (.istore 4, 2) := by decide +kernel
theorem dX10_heardAll_5 : decode cX10_heardAll 5 = .ok (.iload 4, 2) := by decide +kernel
theorem dX10_heardAll_7 : decode cX10_heardAll 7 = .ok (.bipush 40, 2) := by decide +kernel
theorem dX10_heardAll_9 : decode cX10_heardAll 9 = .ok (.if_icmp .ge 20, 3) := by decide +kernel
theorem dX10_heardAll_12 : decode cX10_heardAll 12 = .ok (.iload_n 3, 1) := by decide +kernel
theorem dX10_heardAll_13 : decode cX10_heardAll 13 = .ok (.aload_n 0, 1) := by decide +kernel
theorem dX10_heardAll_14 : decode cX10_heardAll 14 = .ok (.iload_n 1, 1) := by decide +kernel
theorem dX10_heardAll_15 : decode cX10_heardAll 15 = .ok (.iload_n 2, 1) := by decide +kernel
theorem dX10_heardAll_16 : decode cX10_heardAll 16 = .ok (.iload 4, 2) := by decide +kernel
theorem dX10_heardAll_18 : decode cX10_heardAll 18 = .ok (.invokevirtual 221, 3) := by decide +kernel
theorem dX10_heardAll_21 : decode cX10_heardAll 21 = .ok (.iadd, 1) := by decide +kernel
theorem dX10_heardAll_22 : decode cX10_heardAll 22 = .ok (.istore_n 3, 1) := by decide +kernel
theorem dX10_heardAll_23 : decode cX10_heardAll 23 = .ok (.iinc 4 1, 3) := by decide +kernel
theorem dX10_heardAll_26 : decode cX10_heardAll 26 = .ok (.goto (-21), 3) := by decide +kernel
theorem dX10_heardAll_29 : decode cX10_heardAll 29 = .ok (.iload_n 3, 1) := by decide +kernel
theorem dX10_heardAll_30 : decode cX10_heardAll 30 = .ok (.ireturn, 1) := by decide +kernel
theorem dX10_heard_0 : decode cX10_heard 0 = .ok (.iload_n 1, 1) := by decide +kernel
theorem dX10_heard_1 : decode cX10_heard 1 = .ok (.invokestatic 199, 3) := by decide +kernel
theorem dX10_heard_4 : decode cX10_heard 4 = .ok (.ifCond .eq 15, 3) := by decide +kernel
theorem dX10_heard_7 : decode cX10_heard 7 = .ok (.iload_n 2, 1) := by decide +kernel
theorem dX10_heard_8 : decode cX10_heard 8 = .ok (.iconst (-1), 1) := by decide +kernel
theorem dX10_heard_9 : decode cX10_heard 9 = .ok (.if_icmp .eq 12, 3) := by decide +kernel
theorem dX10_heard_12 : decode cX10_heard 12 = .ok (.iload_n 2, 1) := by decide +kernel
theorem dX10_heard_13 : decode cX10_heard 13 = .ok (.invokestatic 195, 3) := by decide +kernel
theorem dX10_heard_16 : decode cX10_heard 16 = .ok (.ifCond .ne 5, 3) := by decide +kernel
theorem dX10_heard_19 : decode cX10_heard 19 = .ok (.iconst (-1), 1) := by decide +kernel
theorem dX10_heard_20 : decode cX10_heard 20 = .ok (.ireturn, 1) := by decide +kernel
theorem dX10_heard_21 : decode cX10_heard 21 = .ok (.aload_n 0, 1) := by decide +kernel
theorem dX10_heard_22 : decode cX10_heard 22 = .ok (.invokevirtual 205, 3) := by decide +kernel
theorem dX10_heard_25 : decode cX10_heard 25 = .ok (.iload_n 2, 1) := by decide +kernel
theorem dX10_heard_26 : decode cX10_heard 26 = .ok (.iconst (-1), 1) := by decide +kernel
theorem dX10_heard_27 : decode cX10_heard 27 = .ok (.if_icmp .ne 15, 3) := by decide +kernel
theorem dX10_heard_30 : decode cX10_heard 30 = .ok (.aload_n 0, 1) := by decide +kernel
theorem dX10_heard_31 : decode cX10_heard 31 = .ok (.aload_n 0, 1) := by decide +kernel
theorem dX10_heard_32 : decode cX10_heard 32 = .ok (.invokevirtual 224, 3) := by decide +kernel
theorem dX10_heard_35 : decode cX10_heard 35 = .ok (.iload_n 1, 1) := by decide +kernel
theorem dX10_heard_36 : decode cX10_heard 36 = .ok (.invokevirtual 227, 3) := by decide +kernel
theorem dX10_heard_39 : decode cX10_heard 39 = .ok (.goto 13, 3) := by decide +kernel
theorem dX10_heard_42 : decode cX10_heard 42 = .ok (.aload_n 0, 1) := by decide +kernel
theorem dX10_heard_43 : decode cX10_heard 43 = .ok (.aload_n 0, 1) := by decide +kernel
theorem dX10_heard_44 : decode cX10_heard 44 = .ok (.invokevirtual 224, 3) := by decide +kernel
theorem dX10_heard_47 : decode cX10_heard 47 = .ok (.iload_n 1, 1) := by decide +kernel
theorem dX10_heard_48 : decode cX10_heard 48 = .ok (.iload_n 2, 1) := by decide +kernel
theorem dX10_heard_49 : decode cX10_heard 49 = .ok (.invokevirtual 221, 3) := by decide +kernel
theorem dX10_heard_52 : decode cX10_heard 52 = .ok (.ireturn, 1) := by decide +kernel
theorem dX10_seems_0 : decode cX10_seems 0 = .ok (.iload_n 1, 1) := by decide +kernel
theorem dX10_seems_1 : decode cX10_seems 1 = .ok (.invokestatic 195, 3) := by decide +kernel
theorem dX10_seems_4 : decode cX10_seems 4 = .ok (.ifCond .ne 5, 3) := by decide +kernel
theorem dX10_seems_7 : decode cX10_seems 7 = .ok (.iconst (-1), 1) := by decide +kernel
theorem dX10_seems_8 : decode cX10_seems 8 = .ok (.ireturn, 1) := by decide +kernel
theorem dX10_seems_9 : decode cX10_seems 9 = .ok (.aload_n 0, 1) := by decide +kernel
theorem dX10_seems_10 : decode cX10_seems 10 = .ok (.invokevirtual 205, 3) := by decide +kernel
theorem dX10_seems_13 : decode cX10_seems 13 = .ok (.iconst 0, 1) := by decide +kernel
theorem dX10_seems_14 : decode cX10_seems 14 = .ok (.istore_n 2, 1) := by decide +kernel
theorem dX10_seems_15 : decode cX10_seems 15 = .ok (.iconst 0, 1) := by decide +kernel
theorem dX10_seems_16 : decode cX10_seems 16 = .ok (.istore_n 3, 1) := by decide +kernel
theorem dX10_seems_17 : decode cX10_seems 17 = .ok (.iload_n 3, 1) := by decide +kernel
theorem dX10_seems_18 : decode cX10_seems 18 = .ok (.aload_n 0, 1) := by decide +kernel
theorem dX10_seems_19 : decode cX10_seems 19 = .ok (.getfield 9, 3) := by decide +kernel
theorem dX10_seems_22 : decode cX10_seems 22 = .ok (.iconst 0, 1) := by decide +kernel
theorem dX10_seems_23 : decode cX10_seems 23 = .ok (.iaload, 1) := by decide +kernel
theorem dX10_seems_24 : decode cX10_seems 24 = .ok (.if_icmp .ge 41, 3) := by decide +kernel
theorem dX10_seems_27 : decode cX10_seems 27 = .ok (.iload_n 2, 1) := by decide +kernel
theorem dX10_seems_28 : decode cX10_seems 28 = .ok (.aload_n 0, 1) := by decide +kernel
theorem dX10_seems_29 : decode cX10_seems 29 = .ok (.iload_n 3, 1) := by decide +kernel
theorem dX10_seems_30 : decode cX10_seems 30 = .ok (.invokevirtual 208, 3) := by decide +kernel
theorem dX10_seems_33 : decode cX10_seems 33 = .ok (.ifCond .ne 23, 3) := by decide +kernel
theorem dX10_seems_36 : decode cX10_seems 36 = .ok (.aload_n 0, 1) := by decide +kernel
theorem dX10_seems_37 : decode cX10_seems 37 = .ok (.getfield 28, 3) := by decide +kernel
theorem dX10_seems_40 : decode cX10_seems 40 = .ok (.bipush 40, 2) := by decide +kernel
theorem dX10_seems_42 : decode cX10_seems 42 = .ok (.iload_n 3, 1) := by decide +kernel
theorem dX10_seems_43 : decode cX10_seems 43 = .ok (.imul, 1) := by decide +kernel
theorem dX10_seems_44 : decode cX10_seems 44 = .ok (.iload_n 1, 1) := by decide +kernel
theorem dX10_seems_45 : decode cX10_seems 45 = .ok (.iadd, 1) := by decide +kernel
theorem dX10_seems_46 : decode cX10_seems 46 = .ok (.iaload, 1) := by decide +kernel
theorem dX10_seems_47 : decode cX10_seems 47 = .ok (.ifCond .le 9, 3) := by decide +kernel
theorem dX10_seems_50 : decode cX10_seems 50 = .ok (.iconst 1, 1) := by decide +kernel
theorem dX10_seems_51 : decode cX10_seems 51 = .ok (.iload_n 3, 1) := by decide +kernel
theorem dX10_seems_52 : decode cX10_seems 52 = .ok (.ishl, 1) := by decide +kernel
theorem dX10_seems_53 : decode cX10_seems 53 = .ok (.goto 4, 3) := by decide +kernel
theorem dX10_seems_56 : decode cX10_seems 56 = .ok (.iconst 0, 1) := by decide +kernel
theorem dX10_seems_57 : decode cX10_seems 57 = .ok (.ior, 1) := by decide +kernel
theorem dX10_seems_58 : decode cX10_seems 58 = .ok (.istore_n 2, 1) := by decide +kernel
theorem dX10_seems_59 : decode cX10_seems 59 = .ok (.iinc 3 1, 3) := by decide +kernel
theorem dX10_seems_62 : decode cX10_seems 62 = .ok (.goto (-45), 3) := by decide +kernel
theorem dX10_seems_65 : decode cX10_seems 65 = .ok (.bipush (-5), 2) := by decide +kernel
theorem dX10_seems_67 : decode cX10_seems 67 = .ok (.istore_n 3, 1) := by decide +kernel
theorem dX10_seems_68 : decode cX10_seems 68 = .ok (.iconst (-1), 1) := by decide +kernel
theorem dX10_seems_69 : decode cX10_seems 69 = .ok (.istore 4, 2) := by decide +kernel
theorem dX10_seems_71 : decode cX10_seems 71 = .ok (.iconst 0, 1) := by decide +kernel
theorem dX10_seems_72 : decode cX10_seems 72 = .ok (.istore 5, 2) := by decide +kernel
theorem dX10_seems_74 : decode cX10_seems 74 = .ok (.iload 5, 2) := by decide +kernel
theorem dX10_seems_76 : decode cX10_seems 76 = .ok (.bipush 10, 2) := by decide +kernel
theorem dX10_seems_78 : decode cX10_seems 78 = .ok (.if_icmp .ge 94, 3) := by decide +kernel
theorem dX10_seems_81 : decode cX10_seems 81 = .ok (.iload_n 2, 1) := by decide +kernel
theorem dX10_seems_82 : decode cX10_seems 82 = .ok (.ifCond .eq 90, 3) := by decide +kernel
theorem dX10_seems_85 : decode cX10_seems 85 = .ok (.iconst 0, 1) := by decide +kernel
theorem dX10_seems_86 : decode cX10_seems 86 = .ok (.istore 6, 2) := by decide +kernel
theorem dX10_seems_88 : decode cX10_seems 88 = .ok (.iconst 0, 1) := by decide +kernel
theorem dX10_seems_89 : decode cX10_seems 89 = .ok (.istore 7, 2) := by decide +kernel
theorem dX10_seems_91 : decode cX10_seems 91 = .ok (.iload 7, 2) := by decide +kernel
theorem dX10_seems_93 : decode cX10_seems 93 = .ok (.aload_n 0, 1) := by decide +kernel
theorem dX10_seems_94 : decode cX10_seems 94 = .ok (.getfield 9, 3) := by decide +kernel
theorem dX10_seems_97 : decode cX10_seems 97 = .ok (.iconst 0, 1) := by decide +kernel
theorem dX10_seems_98 : decode cX10_seems 98 = .ok (.iaload, 1) := by decide +kernel
theorem dX10_seems_99 : decode cX10_seems 99 = .ok (.if_icmp .ge 37, 3) := by decide +kernel
theorem dX10_seems_102 : decode cX10_seems 102 = .ok (.iload 6, 2) := by decide +kernel
theorem dX10_seems_104 : decode cX10_seems 104 = .ok (.iload_n 2, 1) := by decide +kernel
theorem dX10_seems_105 : decode cX10_seems 105 = .ok (.iload 7, 2) := by decide +kernel
theorem dX10_seems_107 : decode cX10_seems 107 = .ok (.ishr, 1) := by decide +kernel
theorem dX10_seems_108 : decode cX10_seems 108 = .ok (.iconst 1, 1) := by decide +kernel
theorem dX10_seems_109 : decode cX10_seems 109 = .ok (.iand, 1) := by decide +kernel
theorem dX10_seems_110 : decode cX10_seems 110 = .ok (.iconst 1, 1) := by decide +kernel
theorem dX10_seems_111 : decode cX10_seems 111 = .ok (.if_icmp .ne 15, 3) := by decide +kernel
theorem dX10_seems_114 : decode cX10_seems 114 = .ok (.aload_n 0, 1) := by decide +kernel
theorem dX10_seems_115 : decode cX10_seems 115 = .ok (.iload 7, 2) := by decide +kernel
theorem dX10_seems_117 : decode cX10_seems 117 = .ok (.iload 5, 2) := by decide +kernel
theorem dX10_seems_119 : decode cX10_seems 119 = .ok (.iload_n 1, 1) := by decide +kernel
theorem dX10_seems_120 : decode cX10_seems 120 = .ok (.invokevirtual 217, 3) := by decide +kernel
theorem dX10_seems_123 : decode cX10_seems 123 = .ok (.goto 4, 3) := by decide +kernel
theorem dX10_seems_126 : decode cX10_seems 126 = .ok (.iconst 0, 1) := by decide +kernel
theorem dX10_seems_127 : decode cX10_seems 127 = .ok (.iadd, 1) := by decide +kernel
theorem dX10_seems_128 : decode cX10_seems 128 = .ok (.istore 6, 2) := by decide +kernel
theorem dX10_seems_130 : decode cX10_seems 130 = .ok (.iinc 7 1, 3) := by decide +kernel
theorem dX10_seems_133 : decode cX10_seems 133 = .ok (.goto (-42), 3) := by decide +kernel
theorem dX10_seems_136 : decode cX10_seems 136 = .ok (.iload 6, 2) := by decide +kernel
theorem dX10_seems_138 : decode cX10_seems 138 = .ok (.iload 4, 2) := by decide +kernel
theorem dX10_seems_140 : decode cX10_seems 140 = .ok (.if_icmp .le 8, 3) := by decide +kernel
theorem dX10_seems_143 : decode cX10_seems 143 = .ok (.iload 5, 2) := by decide +kernel
theorem dX10_seems_145 : decode cX10_seems 145 = .ok (.goto 4, 3) := by decide +kernel
theorem dX10_seems_148 : decode cX10_seems 148 = .ok (.iload_n 3, 1) := by decide +kernel
theorem dX10_seems_149 : decode cX10_seems 149 = .ok (.istore_n 3, 1) := by decide +kernel
theorem dX10_seems_150 : decode cX10_seems 150 = .ok (.iload 6, 2) := by decide +kernel
theorem dX10_seems_152 : decode cX10_seems 152 = .ok (.iload 4, 2) := by decide +kernel
theorem dX10_seems_154 : decode cX10_seems 154 = .ok (.if_icmp .le 8, 3) := by decide +kernel
theorem dX10_seems_157 : decode cX10_seems 157 = .ok (.iload 6, 2) := by decide +kernel
theorem dX10_seems_159 : decode cX10_seems 159 = .ok (.goto 5, 3) := by decide +kernel
theorem dX10_seems_162 : decode cX10_seems 162 = .ok (.iload 4, 2) := by decide +kernel
theorem dX10_seems_164 : decode cX10_seems 164 = .ok (.istore 4, 2) := by decide +kernel
theorem dX10_seems_166 : decode cX10_seems 166 = .ok (.iinc 5 1, 3) := by decide +kernel
theorem dX10_seems_169 : decode cX10_seems 169 = .ok (.goto (-95), 3) := by decide +kernel
theorem dX10_seems_172 : decode cX10_seems 172 = .ok (.iload_n 3, 1) := by decide +kernel
theorem dX10_seems_173 : decode cX10_seems 173 = .ok (.ireturn, 1) := by decide +kernel
theorem dX10_note_0 : decode cX10_note 0 = .ok (.iload_n 1, 1) := by decide +kernel
theorem dX10_note_1 : decode cX10_note 1 = .ok (.invokestatic 199, 3) := by decide +kernel
theorem dX10_note_4 : decode cX10_note 4 = .ok (.ifCond .eq 10, 3) := by decide +kernel
theorem dX10_note_7 : decode cX10_note 7 = .ok (.iload_n 2, 1) := by decide +kernel
theorem dX10_note_8 : decode cX10_note 8 = .ok (.invokestatic 195, 3) := by decide +kernel
theorem dX10_note_11 : decode cX10_note 11 = .ok (.ifCond .ne 5, 3) := by decide +kernel
theorem dX10_note_14 : decode cX10_note 14 = .ok (.iconst (-1), 1) := by decide +kernel
theorem dX10_note_15 : decode cX10_note 15 = .ok (.ireturn, 1) := by decide +kernel
theorem dX10_note_16 : decode cX10_note 16 = .ok (.iload_n 3, 1) := by decide +kernel
theorem dX10_note_17 : decode cX10_note 17 = .ok (.iconst 0, 1) := by decide +kernel
theorem dX10_note_18 : decode cX10_note 18 = .ok (.bipush 99, 2) := by decide +kernel
theorem dX10_note_20 : decode cX10_note 20 = .ok (.invokestatic 44, 3) := by decide +kernel
theorem dX10_note_23 : decode cX10_note 23 = .ok (.ifCond .ne 6, 3) := by decide +kernel
theorem dX10_note_26 : decode cX10_note 26 = .ok (.bipush (-2), 2) := by decide +kernel
theorem dX10_note_28 : decode cX10_note 28 = .ok (.ireturn, 1) := by decide +kernel
theorem dX10_note_29 : decode cX10_note 29 = .ok (.aload_n 0, 1) := by decide +kernel
theorem dX10_note_30 : decode cX10_note 30 = .ok (.getfield 9, 3) := by decide +kernel
theorem dX10_note_33 : decode cX10_note 33 = .ok (.iconst 2, 1) := by decide +kernel
theorem dX10_note_34 : decode cX10_note 34 = .ok (.iaload, 1) := by decide +kernel
theorem dX10_note_35 : decode cX10_note 35 = .ok (.bipush 12, 2) := by decide +kernel
theorem dX10_note_37 : decode cX10_note 37 = .ok (.if_icmp .ne 6, 3) := by decide +kernel
theorem dX10_note_40 : decode cX10_note 40 = .ok (.bipush (-4), 2) := by decide +kernel
theorem dX10_note_42 : decode cX10_note 42 = .ok (.ireturn, 1) := by decide +kernel
theorem dX10_note_43 : decode cX10_note 43 = .ok (.aload_n 0, 1) := by decide +kernel
theorem dX10_note_44 : decode cX10_note 44 = .ok (.getfield 9, 3) := by decide +kernel
theorem dX10_note_47 : decode cX10_note 47 = .ok (.sipush 300, 3) := by decide +kernel
theorem dX10_note_50 : decode cX10_note 50 = .ok (.aload_n 0, 1) := by decide +kernel
theorem dX10_note_51 : decode cX10_note 51 = .ok (.getfield 9, 3) := by decide +kernel
theorem dX10_note_54 : decode cX10_note 54 = .ok (.iconst 2, 1) := by decide +kernel
theorem dX10_note_55 : decode cX10_note 55 = .ok (.iaload, 1) := by decide +kernel
theorem dX10_note_56 : decode cX10_note 56 = .ok (.iadd, 1) := by decide +kernel
theorem dX10_note_57 : decode cX10_note 57 = .ok (.iload_n 1, 1) := by decide +kernel
theorem dX10_note_58 : decode cX10_note 58 = .ok (.iastore, 1) := by decide +kernel
theorem dX10_note_59 : decode cX10_note 59 = .ok (.aload_n 0, 1) := by decide +kernel
theorem dX10_note_60 : decode cX10_note 60 = .ok (.getfield 9, 3) := by decide +kernel
theorem dX10_note_63 : decode cX10_note 63 = .ok (.sipush 312, 3) := by decide +kernel
theorem dX10_note_66 : decode cX10_note 66 = .ok (.aload_n 0, 1) := by decide +kernel
theorem dX10_note_67 : decode cX10_note 67 = .ok (.getfield 9, 3) := by decide +kernel
theorem dX10_note_70 : decode cX10_note 70 = .ok (.iconst 2, 1) := by decide +kernel
theorem dX10_note_71 : decode cX10_note 71 = .ok (.iaload, 1) := by decide +kernel
theorem dX10_note_72 : decode cX10_note 72 = .ok (.iadd, 1) := by decide +kernel
theorem dX10_note_73 : decode cX10_note 73 = .ok (.iload_n 2, 1) := by decide +kernel
theorem dX10_note_74 : decode cX10_note 74 = .ok (.iastore, 1) := by decide +kernel
theorem dX10_note_75 : decode cX10_note 75 = .ok (.aload_n 0, 1) := by decide +kernel
theorem dX10_note_76 : decode cX10_note 76 = .ok (.getfield 9, 3) := by decide +kernel
theorem dX10_note_79 : decode cX10_note 79 = .ok (.sipush 324, 3) := by decide +kernel
theorem dX10_note_82 : decode cX10_note 82 = .ok (.aload_n 0, 1) := by decide +kernel
theorem dX10_note_83 : decode cX10_note 83 = .ok (.getfield 9, 3) := by decide +kernel
theorem dX10_note_86 : decode cX10_note 86 = .ok (.iconst 2, 1) := by decide +kernel
theorem dX10_note_87 : decode cX10_note 87 = .ok (.iaload, 1) := by decide +kernel
theorem dX10_note_88 : decode cX10_note 88 = .ok (.iadd, 1) := by decide +kernel
theorem dX10_note_89 : decode cX10_note 89 = .ok (.iload_n 3, 1) := by decide +kernel
theorem dX10_note_90 : decode cX10_note 90 = .ok (.iastore, 1) := by decide +kernel
theorem dX10_note_91 : decode cX10_note 91 = .ok (.aload_n 0, 1) := by decide +kernel
theorem dX10_note_92 : decode cX10_note 92 = .ok (.getfield 9, 3) := by decide +kernel
theorem dX10_note_95 : decode cX10_note 95 = .ok (.iconst 2, 1) := by decide +kernel
theorem dX10_note_96 : decode cX10_note 96 = .ok (.dup2, 1) := by decide +kernel
theorem dX10_note_97 : decode cX10_note 97 = .ok (.iaload, 1) := by decide +kernel
theorem dX10_note_98 : decode cX10_note 98 = .ok (.iconst 1, 1) := by decide +kernel
theorem dX10_note_99 : decode cX10_note 99 = .ok (.iadd, 1) := by decide +kernel
theorem dX10_note_100 : decode cX10_note 100 = .ok (.iastore, 1) := by decide +kernel
theorem dX10_note_101 : decode cX10_note 101 = .ok (.aload_n 0, 1) := by decide +kernel
theorem dX10_note_102 : decode cX10_note 102 = .ok (.getfield 9, 3) := by decide +kernel
theorem dX10_note_105 : decode cX10_note 105 = .ok (.iconst 2, 1) := by decide +kernel
theorem dX10_note_106 : decode cX10_note 106 = .ok (.iaload, 1) := by decide +kernel
theorem dX10_note_107 : decode cX10_note 107 = .ok (.ireturn, 1) := by decide +kernel
theorem dX10_clear_0 : decode cX10_clear 0 = .ok (.aload_n 0, 1) := by decide +kernel
theorem dX10_clear_1 : decode cX10_clear 1 = .ok (.getfield 9, 3) := by decide +kernel
theorem dX10_clear_4 : decode cX10_clear 4 = .ok (.iconst 2, 1) := by decide +kernel
theorem dX10_clear_5 : decode cX10_clear 5 = .ok (.iaload, 1) := by decide +kernel
theorem dX10_clear_6 : decode cX10_clear 6 = .ok (.istore_n 1, 1) := by decide +kernel
theorem dX10_clear_7 : decode cX10_clear 7 = .ok (.aload_n 0, 1) := by decide +kernel
theorem dX10_clear_8 : decode cX10_clear 8 = .ok (.getfield 9, 3) := by decide +kernel
theorem dX10_clear_11 : decode cX10_clear 11 = .ok (.iconst 2, 1) := by decide +kernel
theorem dX10_clear_12 : decode cX10_clear 12 = .ok (.iconst 0, 1) := by decide +kernel
theorem dX10_clear_13 : decode cX10_clear 13 = .ok (.iastore, 1) := by decide +kernel
theorem dX10_clear_14 : decode cX10_clear 14 = .ok (.iload_n 1, 1) := by decide +kernel
theorem dX10_clear_15 : decode cX10_clear 15 = .ok (.ireturn, 1) := by decide +kernel
theorem dX10_fitsOf_0 : decode cX10_fitsOf 0 = .ok (.iconst 0, 1) := by decide +kernel
theorem dX10_fitsOf_1 : decode cX10_fitsOf 1 = .ok (.istore_n 2, 1) := by decide +kernel
theorem dX10_fitsOf_2 : decode cX10_fitsOf 2 = .ok (.iconst 0, 1) := by decide +kernel
theorem dX10_fitsOf_3 : decode cX10_fitsOf 3 = .ok (.istore_n 3, 1) := by decide +kernel
theorem dX10_fitsOf_4 : decode cX10_fitsOf 4 = .ok (.iload_n 3, 1) := by decide +kernel
theorem dX10_fitsOf_5 : decode cX10_fitsOf 5 = .ok (.aload_n 0, 1) := by decide +kernel
theorem dX10_fitsOf_6 : decode cX10_fitsOf 6 = .ok (.getfield 9, 3) := by decide +kernel
theorem dX10_fitsOf_9 : decode cX10_fitsOf 9 = .ok (.iconst 2, 1) := by decide +kernel
theorem dX10_fitsOf_10 : decode cX10_fitsOf 10 = .ok (.iaload, 1) := by decide +kernel
theorem dX10_fitsOf_11 : decode cX10_fitsOf 11 = .ok (.if_icmp .ge 57, 3) := by decide +kernel
theorem dX10_fitsOf_14 : decode cX10_fitsOf 14 = .ok (.iload_n 2, 1) := by decide +kernel
theorem dX10_fitsOf_15 : decode cX10_fitsOf 15 = .ok (.aload_n 0, 1) := by decide +kernel
theorem dX10_fitsOf_16 : decode cX10_fitsOf 16 = .ok (.iload_n 1, 1) := by decide +kernel
theorem dX10_fitsOf_17 : decode cX10_fitsOf 17 = .ok (.aload_n 0, 1) := by decide +kernel
theorem dX10_fitsOf_18 : decode cX10_fitsOf 18 = .ok (.getfield 9, 3) := by decide +kernel
theorem dX10_fitsOf_21 : decode cX10_fitsOf 21 = .ok (.sipush 300, 3) := by decide +kernel
theorem dX10_fitsOf_24 : decode cX10_fitsOf 24 = .ok (.iload_n 3, 1) := by decide +kernel
theorem dX10_fitsOf_25 : decode cX10_fitsOf 25 = .ok (.iadd, 1) := by decide +kernel
theorem dX10_fitsOf_26 : decode cX10_fitsOf 26 = .ok (.iaload, 1) := by decide +kernel
theorem dX10_fitsOf_27 : decode cX10_fitsOf 27 = .ok (.aload_n 0, 1) := by decide +kernel
theorem dX10_fitsOf_28 : decode cX10_fitsOf 28 = .ok (.getfield 9, 3) := by decide +kernel
theorem dX10_fitsOf_31 : decode cX10_fitsOf 31 = .ok (.sipush 312, 3) := by decide +kernel
theorem dX10_fitsOf_34 : decode cX10_fitsOf 34 = .ok (.iload_n 3, 1) := by decide +kernel
theorem dX10_fitsOf_35 : decode cX10_fitsOf 35 = .ok (.iadd, 1) := by decide +kernel
theorem dX10_fitsOf_36 : decode cX10_fitsOf 36 = .ok (.iaload, 1) := by decide +kernel
theorem dX10_fitsOf_37 : decode cX10_fitsOf 37 = .ok (.invokevirtual 221, 3) := by decide +kernel
theorem dX10_fitsOf_40 : decode cX10_fitsOf 40 = .ok (.aload_n 0, 1) := by decide +kernel
theorem dX10_fitsOf_41 : decode cX10_fitsOf 41 = .ok (.getfield 9, 3) := by decide +kernel
theorem dX10_fitsOf_44 : decode cX10_fitsOf 44 = .ok (.sipush 324, 3) := by decide +kernel
theorem dX10_fitsOf_47 : decode cX10_fitsOf 47 = .ok (.iload_n 3, 1) := by decide +kernel
theorem dX10_fitsOf_48 : decode cX10_fitsOf 48 = .ok (.iadd, 1) := by decide +kernel
theorem dX10_fitsOf_49 : decode cX10_fitsOf 49 = .ok (.iaload, 1) := by decide +kernel
theorem dX10_fitsOf_50 : decode cX10_fitsOf 50 = .ok (.if_icmp .ne 9, 3) := by decide +kernel
theorem dX10_fitsOf_53 : decode cX10_fitsOf 53 = .ok (.iconst 1, 1) := by decide +kernel
theorem dX10_fitsOf_54 : decode cX10_fitsOf 54 = .ok (.iload_n 3, 1) := by decide +kernel
theorem dX10_fitsOf_55 : decode cX10_fitsOf 55 = .ok (.ishl, 1) := by decide +kernel
theorem dX10_fitsOf_56 : decode cX10_fitsOf 56 = .ok (.goto 4, 3) := by decide +kernel
theorem dX10_fitsOf_59 : decode cX10_fitsOf 59 = .ok (.iconst 0, 1) := by decide +kernel
theorem dX10_fitsOf_60 : decode cX10_fitsOf 60 = .ok (.ior, 1) := by decide +kernel
theorem dX10_fitsOf_61 : decode cX10_fitsOf 61 = .ok (.istore_n 2, 1) := by decide +kernel
theorem dX10_fitsOf_62 : decode cX10_fitsOf 62 = .ok (.iinc 3 1, 3) := by decide +kernel
theorem dX10_fitsOf_65 : decode cX10_fitsOf 65 = .ok (.goto (-61), 3) := by decide +kernel
theorem dX10_fitsOf_68 : decode cX10_fitsOf 68 = .ok (.iload_n 2, 1) := by decide +kernel
theorem dX10_fitsOf_69 : decode cX10_fitsOf 69 = .ok (.ireturn, 1) := by decide +kernel
theorem dX10_count1_0 : decode cX10_count1 0 = .ok (.iconst 0, 1) := by decide +kernel
theorem dX10_count1_1 : decode cX10_count1 1 = .ok (.istore_n 1, 1) := by decide +kernel
theorem dX10_count1_2 : decode cX10_count1 2 = .ok (.iconst 0, 1) := by decide +kernel
theorem dX10_count1_3 : decode cX10_count1 3 = .ok (.istore_n 2, 1) := by decide +kernel
theorem dX10_count1_4 : decode cX10_count1 4 = .ok (.iload_n 2, 1) := by decide +kernel
theorem dX10_count1_5 : decode cX10_count1 5 = .ok (.bipush 12, 2) := by decide +kernel
theorem dX10_count1_7 : decode cX10_count1 7 = .ok (.if_icmp .ge 17, 3) := by decide +kernel
theorem dX10_count1_10 : decode cX10_count1 10 = .ok (.iload_n 1, 1) := by decide +kernel
theorem dX10_count1_11 : decode cX10_count1 11 = .ok (.iload_n 0, 1) := by decide +kernel
theorem dX10_count1_12 : decode cX10_count1 12 = .ok (.iload_n 2, 1) := by decide +kernel
theorem dX10_count1_13 : decode cX10_count1 13 = .ok (.ishr, 1) := by decide +kernel
theorem dX10_count1_14 : decode cX10_count1 14 = .ok (.iconst 1, 1) := by decide +kernel
theorem dX10_count1_15 : decode cX10_count1 15 = .ok (.iand, 1) := by decide +kernel
theorem dX10_count1_16 : decode cX10_count1 16 = .ok (.iadd, 1) := by decide +kernel
theorem dX10_count1_17 : decode cX10_count1 17 = .ok (.istore_n 1, 1) := by decide +kernel
theorem dX10_count1_18 : decode cX10_count1 18 = .ok (.iinc 2 1, 3) := by decide +kernel
theorem dX10_count1_21 : decode cX10_count1 21 = .ok (.goto (-17), 3) := by decide +kernel
theorem dX10_count1_24 : decode cX10_count1 24 = .ok (.iload_n 1, 1) := by decide +kernel
theorem dX10_count1_25 : decode cX10_count1 25 = .ok (.ireturn, 1) := by decide +kernel
theorem dX10_fits_0 : decode cX10_fits 0 = .ok (.aload_n 0, 1) := by decide +kernel
theorem dX10_fits_1 : decode cX10_fits 1 = .ok (.iload_n 1, 1) := by decide +kernel
theorem dX10_fits_2 : decode cX10_fits 2 = .ok (.invokevirtual 202, 3) := by decide +kernel
theorem dX10_fits_5 : decode cX10_fits 5 = .ok (.ifCond .ne 5, 3) := by decide +kernel
theorem dX10_fits_8 : decode cX10_fits 8 = .ok (.iconst (-1), 1) := by decide +kernel
theorem dX10_fits_9 : decode cX10_fits 9 = .ok (.ireturn, 1) := by decide +kernel
theorem dX10_fits_10 : decode cX10_fits 10 = .ok (.aload_n 0, 1) := by decide +kernel
theorem dX10_fits_11 : decode cX10_fits 11 = .ok (.invokevirtual 205, 3) := by decide +kernel
theorem dX10_fits_14 : decode cX10_fits 14 = .ok (.aload_n 0, 1) := by decide +kernel
theorem dX10_fits_15 : decode cX10_fits 15 = .ok (.iconst 1, 1) := by decide +kernel
theorem dX10_fits_16 : decode cX10_fits 16 = .ok (.iload_n 1, 1) := by decide +kernel
theorem dX10_fits_17 : decode cX10_fits 17 = .ok (.ishl, 1) := by decide +kernel
theorem dX10_fits_18 : decode cX10_fits 18 = .ok (.invokevirtual 230, 3) := by decide +kernel
theorem dX10_fits_21 : decode cX10_fits 21 = .ok (.ireturn, 1) := by decide +kernel
theorem dX10_divisor_0 : decode cX10_divisor 0 = .ok (.iload_n 0, 1) := by decide +kernel
theorem dX10_divisor_1 : decode cX10_divisor 1 = .ok (.istore_n 2, 1) := by decide +kernel
theorem dX10_divisor_2 : decode cX10_divisor 2 = .ok (.iload_n 1, 1) := by decide +kernel
theorem dX10_divisor_3 : decode cX10_divisor 3 = .ok (.istore_n 3, 1) := by decide +kernel
theorem dX10_divisor_4 : decode cX10_divisor 4 = .ok (.iload_n 3, 1) := by decide +kernel
theorem dX10_divisor_5 : decode cX10_divisor 5 = .ok (.ifCond .eq 16, 3) := by decide +kernel
theorem dX10_divisor_8 : decode cX10_divisor 8 = .ok (.iload_n 2, 1) := by decide +kernel
theorem dX10_divisor_9 : decode cX10_divisor 9 = .ok (.iload_n 3, 1) := by decide +kernel
theorem dX10_divisor_10 : decode cX10_divisor 10 = .ok (.irem, 1) := by decide +kernel
theorem dX10_divisor_11 : decode cX10_divisor 11 = .ok (.istore 4, 2) := by decide +kernel
theorem dX10_divisor_13 : decode cX10_divisor 13 = .ok (.iload_n 3, 1) := by decide +kernel
theorem dX10_divisor_14 : decode cX10_divisor 14 = .ok (.istore_n 2, 1) := by decide +kernel
theorem dX10_divisor_15 : decode cX10_divisor 15 = .ok (.iload 4, 2) := by decide +kernel
theorem dX10_divisor_17 : decode cX10_divisor 17 = .ok (.istore_n 3, 1) := by decide +kernel
theorem dX10_divisor_18 : decode cX10_divisor 18 = .ok (.goto (-14), 3) := by decide +kernel
theorem dX10_divisor_21 : decode cX10_divisor 21 = .ok (.iload_n 2, 1) := by decide +kernel
theorem dX10_divisor_22 : decode cX10_divisor 22 = .ok (.ireturn, 1) := by decide +kernel
theorem dX10_odds_0 : decode cX10_odds 0 = .ok (.aload_n 0, 1) := by decide +kernel
theorem dX10_odds_1 : decode cX10_odds 1 = .ok (.iload_n 1, 1) := by decide +kernel
theorem dX10_odds_2 : decode cX10_odds 2 = .ok (.invokevirtual 202, 3) := by decide +kernel
theorem dX10_odds_5 : decode cX10_odds 5 = .ok (.ifCond .eq 12, 3) := by decide +kernel
theorem dX10_odds_8 : decode cX10_odds 8 = .ok (.iload_n 2, 1) := by decide +kernel
theorem dX10_odds_9 : decode cX10_odds 9 = .ok (.iconst 0, 1) := by decide +kernel
theorem dX10_odds_10 : decode cX10_odds 10 = .ok (.iconst 1, 1) := by decide +kernel
theorem dX10_odds_11 : decode cX10_odds 11 = .ok (.invokestatic 44, 3) := by decide +kernel
theorem dX10_odds_14 : decode cX10_odds 14 = .ok (.ifCond .ne 5, 3) := by decide +kernel
theorem dX10_odds_17 : decode cX10_odds 17 = .ok (.iconst (-1), 1) := by decide +kernel
theorem dX10_odds_18 : decode cX10_odds 18 = .ok (.ireturn, 1) := by decide +kernel
theorem dX10_odds_19 : decode cX10_odds 19 = .ok (.aload_n 0, 1) := by decide +kernel
theorem dX10_odds_20 : decode cX10_odds 20 = .ok (.invokevirtual 205, 3) := by decide +kernel
theorem dX10_odds_23 : decode cX10_odds 23 = .ok (.iconst 0, 1) := by decide +kernel
theorem dX10_odds_24 : decode cX10_odds 24 = .ok (.istore_n 3, 1) := by decide +kernel
theorem dX10_odds_25 : decode cX10_odds 25 = .ok (.iconst 0, 1) := by decide +kernel
theorem dX10_odds_26 : decode cX10_odds 26 = .ok (.istore 4, 2) := by decide +kernel
theorem dX10_odds_28 : decode cX10_odds 28 = .ok (.iload 4, 2) := by decide +kernel
theorem dX10_odds_30 : decode cX10_odds 30 = .ok (.aload_n 0, 1) := by decide +kernel
theorem dX10_odds_31 : decode cX10_odds 31 = .ok (.getfield 9, 3) := by decide +kernel
theorem dX10_odds_34 : decode cX10_odds 34 = .ok (.iconst 0, 1) := by decide +kernel
theorem dX10_odds_35 : decode cX10_odds 35 = .ok (.iaload, 1) := by decide +kernel
theorem dX10_odds_36 : decode cX10_odds 36 = .ok (.if_icmp .ge 23, 3) := by decide +kernel
theorem dX10_odds_39 : decode cX10_odds 39 = .ok (.iload_n 3, 1) := by decide +kernel
theorem dX10_odds_40 : decode cX10_odds 40 = .ok (.aload_n 0, 1) := by decide +kernel
theorem dX10_odds_41 : decode cX10_odds 41 = .ok (.iconst 1, 1) := by decide +kernel
theorem dX10_odds_42 : decode cX10_odds 42 = .ok (.iload 4, 2) := by decide +kernel
theorem dX10_odds_44 : decode cX10_odds 44 = .ok (.ishl, 1) := by decide +kernel
theorem dX10_odds_45 : decode cX10_odds 45 = .ok (.invokevirtual 230, 3) := by decide +kernel
theorem dX10_odds_48 : decode cX10_odds 48 = .ok (.invokestatic 233, 3) := by decide +kernel
theorem dX10_odds_51 : decode cX10_odds 51 = .ok (.iadd, 1) := by decide +kernel
theorem dX10_odds_52 : decode cX10_odds 52 = .ok (.istore_n 3, 1) := by decide +kernel
theorem dX10_odds_53 : decode cX10_odds 53 = .ok (.iinc 4 1, 3) := by decide +kernel
theorem dX10_odds_56 : decode cX10_odds 56 = .ok (.goto (-28), 3) := by decide +kernel
theorem dX10_odds_59 : decode cX10_odds 59 = .ok (.iload_n 3, 1) := by decide +kernel
theorem dX10_odds_60 : decode cX10_odds 60 = .ok (.ifCond .ne 5, 3) := by decide +kernel
theorem dX10_odds_63 : decode cX10_odds 63 = .ok (.iload_n 2, 1) := by decide +kernel
theorem dX10_odds_64 : decode cX10_odds 64 = .ok (.ireturn, 1) := by decide +kernel
theorem dX10_odds_65 : decode cX10_odds 65 = .ok (.aload_n 0, 1) := by decide +kernel
theorem dX10_odds_66 : decode cX10_odds 66 = .ok (.iconst 1, 1) := by decide +kernel
theorem dX10_odds_67 : decode cX10_odds 67 = .ok (.iload_n 1, 1) := by decide +kernel
theorem dX10_odds_68 : decode cX10_odds 68 = .ok (.ishl, 1) := by decide +kernel
theorem dX10_odds_69 : decode cX10_odds 69 = .ok (.invokevirtual 230, 3) := by decide +kernel
theorem dX10_odds_72 : decode cX10_odds 72 = .ok (.invokestatic 233, 3) := by decide +kernel
theorem dX10_odds_75 : decode cX10_odds 75 = .ok (.istore 4, 2) := by decide +kernel
theorem dX10_odds_77 : decode cX10_odds 77 = .ok (.iload_n 2, 1) := by decide +kernel
theorem dX10_odds_78 : decode cX10_odds 78 = .ok (.ifCond .ne 8, 3) := by decide +kernel
theorem dX10_odds_81 : decode cX10_odds 81 = .ok (.iload 4, 2) := by decide +kernel
theorem dX10_odds_83 : decode cX10_odds 83 = .ok (.goto 4, 3) := by decide +kernel
theorem dX10_odds_86 : decode cX10_odds 86 = .ok (.iload_n 3, 1) := by decide +kernel
theorem dX10_odds_87 : decode cX10_odds 87 = .ok (.iload 4, 2) := by decide +kernel
theorem dX10_odds_89 : decode cX10_odds 89 = .ok (.iload_n 3, 1) := by decide +kernel
theorem dX10_odds_90 : decode cX10_odds 90 = .ok (.invokestatic 236, 3) := by decide +kernel
theorem dX10_odds_93 : decode cX10_odds 93 = .ok (.idiv, 1) := by decide +kernel
theorem dX10_odds_94 : decode cX10_odds 94 = .ok (.ireturn, 1) := by decide +kernel
theorem dX10_mostFitting_0 : decode cX10_mostFitting 0 = .ok (.bipush (-5), 2) := by decide +kernel
theorem dX10_mostFitting_2 : decode cX10_mostFitting 2 = .ok (.istore_n 1, 1) := by decide +kernel
theorem dX10_mostFitting_3 : decode cX10_mostFitting 3 = .ok (.iconst (-1), 1) := by decide +kernel
theorem dX10_mostFitting_4 : decode cX10_mostFitting 4 = .ok (.istore_n 2, 1) := by decide +kernel
theorem dX10_mostFitting_5 : decode cX10_mostFitting 5 = .ok (.iconst 0, 1) := by decide +kernel
theorem dX10_mostFitting_6 : decode cX10_mostFitting 6 = .ok (.istore_n 3, 1) := by decide +kernel
theorem dX10_mostFitting_7 : decode cX10_mostFitting 7 = .ok (.iload_n 3, 1) := by decide +kernel
theorem dX10_mostFitting_8 : decode cX10_mostFitting 8 = .ok (.aload_n 0, 1) := by decide +kernel
theorem dX10_mostFitting_9 : decode cX10_mostFitting 9 = .ok (.getfield 9, 3) := by decide +kernel
theorem dX10_mostFitting_12 : decode cX10_mostFitting 12 = .ok (.iconst 0, 1) := by decide +kernel
theorem dX10_mostFitting_13 : decode cX10_mostFitting 13 = .ok (.iaload, 1) := by decide +kernel
theorem dX10_mostFitting_14 : decode cX10_mostFitting 14 = .ok (.if_icmp .ge 46, 3) := by decide +kernel
theorem dX10_mostFitting_17 : decode cX10_mostFitting 17 = .ok (.aload_n 0, 1) := by decide +kernel
theorem dX10_mostFitting_18 : decode cX10_mostFitting 18 = .ok (.iconst 1, 1) := by decide +kernel
theorem dX10_mostFitting_19 : decode cX10_mostFitting 19 = .ok (.iload_n 3, 1) := by decide +kernel
theorem dX10_mostFitting_20 : decode cX10_mostFitting 20 = .ok (.ishl, 1) := by decide +kernel
theorem dX10_mostFitting_21 : decode cX10_mostFitting 21 = .ok (.invokevirtual 230, 3) := by decide +kernel
theorem dX10_mostFitting_24 : decode cX10_mostFitting 24 = .ok (.invokestatic 233, 3) := by decide +kernel
theorem dX10_mostFitting_27 : decode cX10_mostFitting 27 = .ok (.istore 4, 2) := by decide +kernel
theorem dX10_mostFitting_29 : decode cX10_mostFitting 29 = .ok (.iload 4, 2) := by decide +kernel
theorem dX10_mostFitting_31 : decode cX10_mostFitting 31 = .ok (.iload_n 2, 1) := by decide +kernel
theorem dX10_mostFitting_32 : decode cX10_mostFitting 32 = .ok (.if_icmp .le 7, 3) := by decide +kernel
theorem dX10_mostFitting_35 : decode cX10_mostFitting 35 = .ok (.iload_n 3, 1) := by decide +kernel
theorem dX10_mostFitting_36 : decode cX10_mostFitting 36 = .ok (.goto 4, 3) := by decide +kernel
theorem dX10_mostFitting_39 : decode cX10_mostFitting 39 = .ok (.iload_n 1, 1) := by decide +kernel
theorem dX10_mostFitting_40 : decode cX10_mostFitting 40 = .ok (.istore_n 1, 1) := by decide +kernel
theorem dX10_mostFitting_41 : decode cX10_mostFitting 41 = .ok (.iload 4, 2) := by decide +kernel
theorem dX10_mostFitting_43 : decode cX10_mostFitting 43 = .ok (.iload_n 2, 1) := by decide +kernel
theorem dX10_mostFitting_44 : decode cX10_mostFitting 44 = .ok (.if_icmp .le 8, 3) := by decide +kernel
theorem dX10_mostFitting_47 : decode cX10_mostFitting 47 = .ok (.iload 4, 2) := by decide +kernel
theorem dX10_mostFitting_49 : decode cX10_mostFitting 49 = .ok (.goto 4, 3) := by decide +kernel
theorem dX10_mostFitting_52 : decode cX10_mostFitting 52 = .ok (.iload_n 2, 1) := by decide +kernel
theorem dX10_mostFitting_53 : decode cX10_mostFitting 53 = .ok (.istore_n 2, 1) := by decide +kernel
theorem dX10_mostFitting_54 : decode cX10_mostFitting 54 = .ok (.iinc 3 1, 3) := by decide +kernel
theorem dX10_mostFitting_57 : decode cX10_mostFitting 57 = .ok (.goto (-50), 3) := by decide +kernel
theorem dX10_mostFitting_60 : decode cX10_mostFitting 60 = .ok (.iload_n 1, 1) := by decide +kernel
theorem dX10_mostFitting_61 : decode cX10_mostFitting 61 = .ok (.ireturn, 1) := by decide +kernel
theorem dX10_allFitting_0 : decode cX10_allFitting 0 = .ok (.bipush (-5), 2) := by decide +kernel
theorem dX10_allFitting_2 : decode cX10_allFitting 2 = .ok (.istore_n 1, 1) := by decide +kernel
theorem dX10_allFitting_3 : decode cX10_allFitting 3 = .ok (.iconst 0, 1) := by decide +kernel
theorem dX10_allFitting_4 : decode cX10_allFitting 4 = .ok (.istore_n 2, 1) := by decide +kernel
theorem dX10_allFitting_5 : decode cX10_allFitting 5 = .ok (.iload_n 2, 1) := by decide +kernel
theorem dX10_allFitting_6 : decode cX10_allFitting 6 = .ok (.iconst 1, 1) := by decide +kernel
theorem dX10_allFitting_7 : decode cX10_allFitting 7 = .ok (.aload_n 0, 1) := by decide +kernel
theorem dX10_allFitting_8 : decode cX10_allFitting 8 = .ok (.getfield 9, 3) := by decide +kernel
theorem dX10_allFitting_11 : decode cX10_allFitting 11 = .ok (.iconst 0, 1) := by decide +kernel
theorem dX10_allFitting_12 : decode cX10_allFitting 12 = .ok (.iaload, 1) := by decide +kernel
theorem dX10_allFitting_13 : decode cX10_allFitting 13 = .ok (.ishl, 1) := by decide +kernel
theorem dX10_allFitting_14 : decode cX10_allFitting 14 = .ok (.if_icmp .ge 46, 3) := by decide +kernel
theorem dX10_allFitting_17 : decode cX10_allFitting 17 = .ok (.iload_n 1, 1) := by decide +kernel
theorem dX10_allFitting_18 : decode cX10_allFitting 18 = .ok (.bipush (-5), 2) := by decide +kernel
theorem dX10_allFitting_20 : decode cX10_allFitting 20 = .ok (.if_icmp .eq 14, 3) := by decide +kernel
theorem dX10_allFitting_23 : decode cX10_allFitting 23 = .ok (.iload_n 2, 1) := by decide +kernel
theorem dX10_allFitting_24 : decode cX10_allFitting 24 = .ok (.invokestatic 233, 3) := by decide +kernel
theorem dX10_allFitting_27 : decode cX10_allFitting 27 = .ok (.iload_n 1, 1) := by decide +kernel
theorem dX10_allFitting_28 : decode cX10_allFitting 28 = .ok (.invokestatic 233, 3) := by decide +kernel
theorem dX10_allFitting_31 : decode cX10_allFitting 31 = .ok (.if_icmp .ge 23, 3) := by decide +kernel
theorem dX10_allFitting_34 : decode cX10_allFitting 34 = .ok (.aload_n 0, 1) := by decide +kernel
theorem dX10_allFitting_35 : decode cX10_allFitting 35 = .ok (.iload_n 2, 1) := by decide +kernel
theorem dX10_allFitting_36 : decode cX10_allFitting 36 = .ok (.invokevirtual 230, 3) := by decide +kernel
theorem dX10_allFitting_39 : decode cX10_allFitting 39 = .ok (.iconst 1, 1) := by decide +kernel
theorem dX10_allFitting_40 : decode cX10_allFitting 40 = .ok (.aload_n 0, 1) := by decide +kernel
theorem dX10_allFitting_41 : decode cX10_allFitting 41 = .ok (.getfield 9, 3) := by decide +kernel
theorem dX10_allFitting_44 : decode cX10_allFitting 44 = .ok (.iconst 2, 1) := by decide +kernel
theorem dX10_allFitting_45 : decode cX10_allFitting 45 = .ok (.iaload, 1) := by decide +kernel
theorem dX10_allFitting_46 : decode cX10_allFitting 46 = .ok (.ishl, 1) := by decide +kernel
theorem dX10_allFitting_47 : decode cX10_allFitting 47 = .ok (.iconst 1, 1) := by decide +kernel
theorem dX10_allFitting_48 : decode cX10_allFitting 48 = .ok (.isub, 1) := by decide +kernel
theorem dX10_allFitting_49 : decode cX10_allFitting 49 = .ok (.if_icmp .ne 5, 3) := by decide +kernel
theorem dX10_allFitting_52 : decode cX10_allFitting 52 = .ok (.iload_n 2, 1) := by decide +kernel
theorem dX10_allFitting_53 : decode cX10_allFitting 53 = .ok (.istore_n 1, 1) := by decide +kernel
theorem dX10_allFitting_54 : decode cX10_allFitting 54 = .ok (.iinc 2 1, 3) := by decide +kernel
theorem dX10_allFitting_57 : decode cX10_allFitting 57 = .ok (.goto (-52), 3) := by decide +kernel
theorem dX10_allFitting_60 : decode cX10_allFitting 60 = .ok (.iload_n 1, 1) := by decide +kernel
theorem dX10_allFitting_61 : decode cX10_allFitting 61 = .ok (.ireturn, 1) := by decide +kernel
theorem dX10_harmOf_0 : decode cX10_harmOf 0 = .ok (.iconst 0, 1) := by decide +kernel
theorem dX10_harmOf_1 : decode cX10_harmOf 1 = .ok (.istore_n 2, 1) := by decide +kernel
theorem dX10_harmOf_2 : decode cX10_harmOf 2 = .ok (.iconst 0, 1) := by decide +kernel
theorem dX10_harmOf_3 : decode cX10_harmOf 3 = .ok (.istore_n 3, 1) := by decide +kernel
theorem dX10_harmOf_4 : decode cX10_harmOf 4 = .ok (.iload_n 3, 1) := by decide +kernel
theorem dX10_harmOf_5 : decode cX10_harmOf 5 = .ok (.bipush 40, 2) := by decide +kernel
theorem dX10_harmOf_7 : decode cX10_harmOf 7 = .ok (.if_icmp .ge 31, 3) := by decide +kernel
theorem dX10_harmOf_10 : decode cX10_harmOf 10 = .ok (.aload_n 0, 1) := by decide +kernel
theorem dX10_harmOf_11 : decode cX10_harmOf 11 = .ok (.iload_n 1, 1) := by decide +kernel
theorem dX10_harmOf_12 : decode cX10_harmOf 12 = .ok (.invokevirtual 208, 3) := by decide +kernel
theorem dX10_harmOf_15 : decode cX10_harmOf 15 = .ok (.ifCond .ne 23, 3) := by decide +kernel
theorem dX10_harmOf_18 : decode cX10_harmOf 18 = .ok (.iload_n 2, 1) := by decide +kernel
theorem dX10_harmOf_19 : decode cX10_harmOf 19 = .ok (.aload_n 0, 1) := by decide +kernel
theorem dX10_harmOf_20 : decode cX10_harmOf 20 = .ok (.getfield 28, 3) := by decide +kernel
theorem dX10_harmOf_23 : decode cX10_harmOf 23 = .ok (.bipush 40, 2) := by decide +kernel
theorem dX10_harmOf_25 : decode cX10_harmOf 25 = .ok (.iload_n 1, 1) := by decide +kernel
theorem dX10_harmOf_26 : decode cX10_harmOf 26 = .ok (.imul, 1) := by decide +kernel
theorem dX10_harmOf_27 : decode cX10_harmOf 27 = .ok (.iload_n 3, 1) := by decide +kernel
theorem dX10_harmOf_28 : decode cX10_harmOf 28 = .ok (.iadd, 1) := by decide +kernel
theorem dX10_harmOf_29 : decode cX10_harmOf 29 = .ok (.iaload, 1) := by decide +kernel
theorem dX10_harmOf_30 : decode cX10_harmOf 30 = .ok (.iadd, 1) := by decide +kernel
theorem dX10_harmOf_31 : decode cX10_harmOf 31 = .ok (.istore_n 2, 1) := by decide +kernel
theorem dX10_harmOf_32 : decode cX10_harmOf 32 = .ok (.iinc 3 1, 3) := by decide +kernel
theorem dX10_harmOf_35 : decode cX10_harmOf 35 = .ok (.goto (-31), 3) := by decide +kernel
theorem dX10_harmOf_38 : decode cX10_harmOf 38 = .ok (.iload_n 2, 1) := by decide +kernel
theorem dX10_harmOf_39 : decode cX10_harmOf 39 = .ok (.aload_n 0, 1) := by decide +kernel
theorem dX10_harmOf_40 : decode cX10_harmOf 40 = .ok (.getfield 9, 3) := by decide +kernel
theorem dX10_harmOf_43 : decode cX10_harmOf 43 = .ok (.sipush 280, 3) := by decide +kernel
theorem dX10_harmOf_46 : decode cX10_harmOf 46 = .ok (.iload_n 1, 1) := by decide +kernel
theorem dX10_harmOf_47 : decode cX10_harmOf 47 = .ok (.iadd, 1) := by decide +kernel
theorem dX10_harmOf_48 : decode cX10_harmOf 48 = .ok (.iaload, 1) := by decide +kernel
theorem dX10_harmOf_49 : decode cX10_harmOf 49 = .ok (.imul, 1) := by decide +kernel
theorem dX10_harmOf_50 : decode cX10_harmOf 50 = .ok (.ireturn, 1) := by decide +kernel
theorem dX10_worst_0 : decode cX10_worst 0 = .ok (.bipush (-5), 2) := by decide +kernel
theorem dX10_worst_2 : decode cX10_worst 2 = .ok (.istore_n 1, 1) := by decide +kernel
theorem dX10_worst_3 : decode cX10_worst 3 = .ok (.iconst (-1), 1) := by decide +kernel
theorem dX10_worst_4 : decode cX10_worst 4 = .ok (.istore_n 2, 1) := by decide +kernel
theorem dX10_worst_5 : decode cX10_worst 5 = .ok (.iconst 0, 1) := by decide +kernel
theorem dX10_worst_6 : decode cX10_worst 6 = .ok (.istore_n 3, 1) := by decide +kernel
theorem dX10_worst_7 : decode cX10_worst 7 = .ok (.iload_n 3, 1) := by decide +kernel
theorem dX10_worst_8 : decode cX10_worst 8 = .ok (.aload_n 0, 1) := by decide +kernel
theorem dX10_worst_9 : decode cX10_worst 9 = .ok (.getfield 9, 3) := by decide +kernel
theorem dX10_worst_12 : decode cX10_worst 12 = .ok (.iconst 0, 1) := by decide +kernel
theorem dX10_worst_13 : decode cX10_worst 13 = .ok (.iaload, 1) := by decide +kernel
theorem dX10_worst_14 : decode cX10_worst 14 = .ok (.if_icmp .ge 41, 3) := by decide +kernel
theorem dX10_worst_17 : decode cX10_worst 17 = .ok (.aload_n 0, 1) := by decide +kernel
theorem dX10_worst_18 : decode cX10_worst 18 = .ok (.iload_n 3, 1) := by decide +kernel
theorem dX10_worst_19 : decode cX10_worst 19 = .ok (.invokevirtual 239, 3) := by decide +kernel
theorem dX10_worst_22 : decode cX10_worst 22 = .ok (.istore 4, 2) := by decide +kernel
theorem dX10_worst_24 : decode cX10_worst 24 = .ok (.iload 4, 2) := by decide +kernel
theorem dX10_worst_26 : decode cX10_worst 26 = .ok (.iload_n 2, 1) := by decide +kernel
theorem dX10_worst_27 : decode cX10_worst 27 = .ok (.if_icmp .le 7, 3) := by decide +kernel
theorem dX10_worst_30 : decode cX10_worst 30 = .ok (.iload_n 3, 1) := by decide +kernel
theorem dX10_worst_31 : decode cX10_worst 31 = .ok (.goto 4, 3) := by decide +kernel
theorem dX10_worst_34 : decode cX10_worst 34 = .ok (.iload_n 1, 1) := by decide +kernel
theorem dX10_worst_35 : decode cX10_worst 35 = .ok (.istore_n 1, 1) := by decide +kernel
theorem dX10_worst_36 : decode cX10_worst 36 = .ok (.iload 4, 2) := by decide +kernel
theorem dX10_worst_38 : decode cX10_worst 38 = .ok (.iload_n 2, 1) := by decide +kernel
theorem dX10_worst_39 : decode cX10_worst 39 = .ok (.if_icmp .le 8, 3) := by decide +kernel
theorem dX10_worst_42 : decode cX10_worst 42 = .ok (.iload 4, 2) := by decide +kernel
theorem dX10_worst_44 : decode cX10_worst 44 = .ok (.goto 4, 3) := by decide +kernel
theorem dX10_worst_47 : decode cX10_worst 47 = .ok (.iload_n 2, 1) := by decide +kernel
theorem dX10_worst_48 : decode cX10_worst 48 = .ok (.istore_n 2, 1) := by decide +kernel
theorem dX10_worst_49 : decode cX10_worst 49 = .ok (.iinc 3 1, 3) := by decide +kernel
theorem dX10_worst_52 : decode cX10_worst 52 = .ok (.goto (-45), 3) := by decide +kernel
theorem dX10_worst_55 : decode cX10_worst 55 = .ok (.iload_n 1, 1) := by decide +kernel
theorem dX10_worst_56 : decode cX10_worst 56 = .ok (.ireturn, 1) := by decide +kernel
theorem dX10_which_0 : decode cX10_which 0 = .ok (.iload_n 1, 1) := by decide +kernel
theorem dX10_which_1 : decode cX10_which 1 = .ok (.iconst 0, 1) := by decide +kernel
theorem dX10_which_2 : decode cX10_which 2 = .ok (.iconst 2, 1) := by decide +kernel
theorem dX10_which_3 : decode cX10_which 3 = .ok (.invokestatic 44, 3) := by decide +kernel
theorem dX10_which_6 : decode cX10_which 6 = .ok (.ifCond .ne 5, 3) := by decide +kernel
theorem dX10_which_9 : decode cX10_which 9 = .ok (.iconst (-1), 1) := by decide +kernel
theorem dX10_which_10 : decode cX10_which 10 = .ok (.ireturn, 1) := by decide +kernel
theorem dX10_which_11 : decode cX10_which 11 = .ok (.aload_n 0, 1) := by decide +kernel
theorem dX10_which_12 : decode cX10_which 12 = .ok (.invokevirtual 205, 3) := by decide +kernel
theorem dX10_which_15 : decode cX10_which 15 = .ok (.iload_n 1, 1) := by decide +kernel
theorem dX10_which_16 : decode cX10_which 16 = .ok (.ifCond .ne 10, 3) := by decide +kernel
theorem dX10_which_19 : decode cX10_which 19 = .ok (.aload_n 0, 1) := by decide +kernel
theorem dX10_which_20 : decode cX10_which 20 = .ok (.invokevirtual 242, 3) := by decide +kernel
theorem dX10_which_23 : decode cX10_which 23 = .ok (.goto 19, 3) := by decide +kernel
theorem dX10_which_26 : decode cX10_which 26 = .ok (.iload_n 1, 1) := by decide +kernel
theorem dX10_which_27 : decode cX10_which 27 = .ok (.iconst 1, 1) := by decide +kernel
