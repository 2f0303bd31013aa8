-- decode rows, as printed (NAMES.whole)
theorem dX0_init_0 : decode cX0_init 0 = .ok (.aload_n 0, 1) := by decide +kernel
theorem dX0_init_1 : decode cX0_init 1 = .ok (.invokespecial 3, 3) := by decide +kernel
theorem dX0_init_4 : decode cX0_init 4 = .ok (.aload_n 0, 1) := by decide +kernel
theorem dX0_init_5 : decode cX0_init 5 = .ok (.bipush 20, 2) := by decide +kernel
theorem dX0_init_7 : decode cX0_init 7 = .ok (.newarray .int, 2) := by decide +kernel
theorem dX0_init_9 : decode cX0_init 9 = .ok (.putfield 11, 3) := by decide +kernel
theorem dX0_init_12 : decode cX0_init 12 = .ok (.aload_n 0, 1) := by decide +kernel
theorem dX0_init_13 : decode cX0_init 13 = .ok (.iconst 0, 1) := by decide +kernel
theorem dX0_init_14 : decode cX0_init 14 = .ok (.putfield 15, 3) := by decide +kernel
theorem dX0_init_17 : decode cX0_init 17 = .ok (.aload_n 0, 1) := by decide +kernel
theorem dX0_init_18 : decode cX0_init 18 = .ok (.iconst 0, 1) := by decide +kernel
theorem dX0_init_19 : decode cX0_init 19 = .ok (.putfield 19, 3) := by decide +kernel
theorem dX0_init_22 : decode cX0_init 22 = .ok (.aload_n 0, 1) := by decide +kernel
theorem dX0_init_23 : decode cX0_init 23 = .ok (.iconst 0, 1) := by decide +kernel
theorem dX0_init_24 : decode cX0_init 24 = .ok (.putfield 22, 3) := by decide +kernel
theorem dX0_init_27 : decode cX0_init 27 = .ok (.aload_n 0, 1) := by decide +kernel
theorem dX0_init_28 : decode cX0_init 28 = .ok (.iconst 0, 1) := by decide +kernel
theorem dX0_init_29 : decode cX0_init 29 = .ok (.putfield 25, 3) := by decide +kernel
theorem dX0_init_32 : decode cX0_init 32 = .ok (.return_, 1) := by decide +kernel
theorem dX0_start_0 : decode cX0_start 0 = .ok (.aload_n 0, 1) := by decide +kernel
theorem dX0_start_1 : decode cX0_start 1 = .ok (.iconst 0, 1) := by decide +kernel
theorem dX0_start_2 : decode cX0_start 2 = .ok (.putfield 15, 3) := by decide +kernel
theorem dX0_start_5 : decode cX0_start 5 = .ok (.aload_n 0, 1) := by decide +kernel
theorem dX0_start_6 : decode cX0_start 6 = .ok (.aload_n 1, 1) := by decide +kernel
theorem dX0_start_7 : decode cX0_start 7 = .ok (.getfield 28, 3) := by decide +kernel
theorem dX0_start_10 : decode cX0_start 10 = .ok (.iload_n 2, 1) := by decide +kernel
theorem dX0_start_11 : decode cX0_start 11 = .ok (.iaload, 1) := by decide +kernel
theorem dX0_start_12 : decode cX0_start 12 = .ok (.putfield 19, 3) := by decide +kernel
theorem dX0_start_15 : decode cX0_start 15 = .ok (.aload_n 0, 1) := by decide +kernel
theorem dX0_start_16 : decode cX0_start 16 = .ok (.iload_n 2, 1) := by decide +kernel
theorem dX0_start_17 : decode cX0_start 17 = .ok (.putfield 22, 3) := by decide +kernel
theorem dX0_start_20 : decode cX0_start 20 = .ok (.aload_n 0, 1) := by decide +kernel
theorem dX0_start_21 : decode cX0_start 21 = .ok (.aload_n 1, 1) := by decide +kernel
theorem dX0_start_22 : decode cX0_start 22 = .ok (.getfield 32, 3) := by decide +kernel
theorem dX0_start_25 : decode cX0_start 25 = .ok (.iload_n 2, 1) := by decide +kernel
theorem dX0_start_26 : decode cX0_start 26 = .ok (.iaload, 1) := by decide +kernel
theorem dX0_start_27 : decode cX0_start 27 = .ok (.putfield 25, 3) := by decide +kernel
theorem dX0_start_30 : decode cX0_start 30 = .ok (.aload_n 0, 1) := by decide +kernel
theorem dX0_start_31 : decode cX0_start 31 = .ok (.aload_n 0, 1) := by decide +kernel
theorem dX0_start_32 : decode cX0_start 32 = .ok (.getfield 19, 3) := by decide +kernel
theorem dX0_start_35 : decode cX0_start 35 = .ok (.iload_n 3, 1) := by decide +kernel
theorem dX0_start_36 : decode cX0_start 36 = .ok (.iload 4, 2) := by decide +kernel
theorem dX0_start_38 : decode cX0_start 38 = .ok (.iconst 0, 1) := by decide +kernel
theorem dX0_start_39 : decode cX0_start 39 = .ok (.invokevirtual 34, 3) := by decide +kernel
theorem dX0_start_42 : decode cX0_start 42 = .ok (.ireturn, 1) := by decide +kernel
theorem dX0_send_0 : decode cX0_send 0 = .ok (.iload 4, 2) := by decide +kernel
theorem dX0_send_2 : decode cX0_send 2 = .ok (.bipush 20, 2) := by decide +kernel
theorem dX0_send_4 : decode cX0_send 4 = .ok (.if_icmp .le 5, 3) := by decide +kernel
theorem dX0_send_7 : decode cX0_send 7 = .ok (.iconst 0, 1) := by decide +kernel
theorem dX0_send_8 : decode cX0_send 8 = .ok (.ireturn, 1) := by decide +kernel
theorem dX0_send_9 : decode cX0_send 9 = .ok (.iload_n 1, 1) := by decide +kernel
theorem dX0_send_10 : decode cX0_send 10 = .ok (.istore 5, 2) := by decide +kernel
theorem dX0_send_12 : decode cX0_send 12 = .ok (.iconst 0, 1) := by decide +kernel
theorem dX0_send_13 : decode cX0_send 13 = .ok (.istore 6, 2) := by decide +kernel
theorem dX0_send_15 : decode cX0_send 15 = .ok (.iload 6, 2) := by decide +kernel
theorem dX0_send_17 : decode cX0_send 17 = .ok (.bipush 7, 2) := by decide +kernel
theorem dX0_send_19 : decode cX0_send 19 = .ok (.if_icmp .ge 54, 3) := by decide +kernel
theorem dX0_send_22 : decode cX0_send 22 = .ok (.iload 5, 2) := by decide +kernel
theorem dX0_send_24 : decode cX0_send 24 = .ok (.invokestatic 38, 3) := by decide +kernel
theorem dX0_send_27 : decode cX0_send 27 = .ok (.ifCond .eq 46, 3) := by decide +kernel
theorem dX0_send_30 : decode cX0_send 30 = .ok (.iload 5, 2) := by decide +kernel
theorem dX0_send_32 : decode cX0_send 32 = .ok (.iload_n 2, 1) := by decide +kernel
theorem dX0_send_33 : decode cX0_send 33 = .ok (.invokestatic 42, 3) := by decide +kernel
theorem dX0_send_36 : decode cX0_send 36 = .ok (.istore 7, 2) := by decide +kernel
theorem dX0_send_38 : decode cX0_send 38 = .ok (.iload 7, 2) := by decide +kernel
theorem dX0_send_40 : decode cX0_send 40 = .ok (.ifCond .eq 20, 3) := by decide +kernel
theorem dX0_send_43 : decode cX0_send 43 = .ok (.aload_n 0, 1) := by decide +kernel
theorem dX0_send_44 : decode cX0_send 44 = .ok (.iload 7, 2) := by decide +kernel
theorem dX0_send_46 : decode cX0_send 46 = .ok (.iload 5, 2) := by decide +kernel
theorem dX0_send_48 : decode cX0_send 48 = .ok (.invokestatic 46, 3) := by decide +kernel
theorem dX0_send_51 : decode cX0_send 51 = .ok (.iload_n 3, 1) := by decide +kernel
theorem dX0_send_52 : decode cX0_send 52 = .ok (.iload 4, 2) := by decide +kernel
theorem dX0_send_54 : decode cX0_send 54 = .ok (.iconst 1, 1) := by decide +kernel
theorem dX0_send_55 : decode cX0_send 55 = .ok (.iadd, 1) := by decide +kernel
theorem dX0_send_56 : decode cX0_send 56 = .ok (.invokevirtual 50, 3) := by decide +kernel
theorem dX0_send_59 : decode cX0_send 59 = .ok (.ireturn, 1) := by decide +kernel
theorem dX0_send_60 : decode cX0_send 60 = .ok (.iload 5, 2) := by decide +kernel
theorem dX0_send_62 : decode cX0_send 62 = .ok (.invokestatic 46, 3) := by decide +kernel
theorem dX0_send_65 : decode cX0_send 65 = .ok (.istore 5, 2) := by decide +kernel
theorem dX0_send_67 : decode cX0_send 67 = .ok (.iinc 6 1, 3) := by decide +kernel
theorem dX0_send_70 : decode cX0_send 70 = .ok (.goto (-55), 3) := by decide +kernel
theorem dX0_send_73 : decode cX0_send 73 = .ok (.iconst 0, 1) := by decide +kernel
theorem dX0_send_74 : decode cX0_send 74 = .ok (.ireturn, 1) := by decide +kernel
theorem dX0_bodyOf_0 : decode cX0_bodyOf 0 = .ok (.iload_n 0, 1) := by decide +kernel
theorem dX0_bodyOf_1 : decode cX0_bodyOf 1 = .ok (.tableswitch 117 0 6 #[43, 47, 58, 70, 82, 94, 105], 43) := by decide +kernel
theorem dX0_bodyOf_44 : decode cX0_bodyOf 44 = .ok (.iload_n 1, 1) := by decide +kernel
theorem dX0_bodyOf_45 : decode cX0_bodyOf 45 = .ok (.iconst 1, 1) := by decide +kernel
theorem dX0_bodyOf_46 : decode cX0_bodyOf 46 = .ok (.iadd, 1) := by decide +kernel
theorem dX0_bodyOf_47 : decode cX0_bodyOf 47 = .ok (.ireturn, 1) := by decide +kernel
theorem dX0_bodyOf_48 : decode cX0_bodyOf 48 = .ok (.iload_n 1, 1) := by decide +kernel
theorem dX0_bodyOf_49 : decode cX0_bodyOf 49 = .ok (.ifCond .ne 8, 3) := by decide +kernel
theorem dX0_bodyOf_52 : decode cX0_bodyOf 52 = .ok (.bipush 11, 2) := by decide +kernel
theorem dX0_bodyOf_54 : decode cX0_bodyOf 54 = .ok (.goto 4, 3) := by decide +kernel
theorem dX0_bodyOf_57 : decode cX0_bodyOf 57 = .ok (.iconst 0, 1) := by decide +kernel
theorem dX0_bodyOf_58 : decode cX0_bodyOf 58 = .ok (.ireturn, 1) := by decide +kernel
theorem dX0_bodyOf_59 : decode cX0_bodyOf 59 = .ok (.iload_n 1, 1) := by decide +kernel
theorem dX0_bodyOf_60 : decode cX0_bodyOf 60 = .ok (.iconst 1, 1) := by decide +kernel
theorem dX0_bodyOf_61 : decode cX0_bodyOf 61 = .ok (.if_icmp .ne 8, 3) := by decide +kernel
theorem dX0_bodyOf_64 : decode cX0_bodyOf 64 = .ok (.bipush 21, 2) := by decide +kernel
theorem dX0_bodyOf_66 : decode cX0_bodyOf 66 = .ok (.goto 4, 3) := by decide +kernel
theorem dX0_bodyOf_69 : decode cX0_bodyOf 69 = .ok (.iconst 0, 1) := by decide +kernel
theorem dX0_bodyOf_70 : decode cX0_bodyOf 70 = .ok (.ireturn, 1) := by decide +kernel
theorem dX0_bodyOf_71 : decode cX0_bodyOf 71 = .ok (.iload_n 1, 1) := by decide +kernel
theorem dX0_bodyOf_72 : decode cX0_bodyOf 72 = .ok (.iconst 2, 1) := by decide +kernel
theorem dX0_bodyOf_73 : decode cX0_bodyOf 73 = .ok (.if_icmp .ne 8, 3) := by decide +kernel
theorem dX0_bodyOf_76 : decode cX0_bodyOf 76 = .ok (.bipush 31, 2) := by decide +kernel
theorem dX0_bodyOf_78 : decode cX0_bodyOf 78 = .ok (.goto 4, 3) := by decide +kernel
theorem dX0_bodyOf_81 : decode cX0_bodyOf 81 = .ok (.iconst 0, 1) := by decide +kernel
theorem dX0_bodyOf_82 : decode cX0_bodyOf 82 = .ok (.ireturn, 1) := by decide +kernel
theorem dX0_bodyOf_83 : decode cX0_bodyOf 83 = .ok (.iload_n 1, 1) := by decide +kernel
theorem dX0_bodyOf_84 : decode cX0_bodyOf 84 = .ok (.iconst 2, 1) := by decide +kernel
theorem dX0_bodyOf_85 : decode cX0_bodyOf 85 = .ok (.if_icmp .ne 8, 3) := by decide +kernel
theorem dX0_bodyOf_88 : decode cX0_bodyOf 88 = .ok (.bipush 41, 2) := by decide +kernel
theorem dX0_bodyOf_90 : decode cX0_bodyOf 90 = .ok (.goto 4, 3) := by decide +kernel
theorem dX0_bodyOf_93 : decode cX0_bodyOf 93 = .ok (.iconst 0, 1) := by decide +kernel
theorem dX0_bodyOf_94 : decode cX0_bodyOf 94 = .ok (.ireturn, 1) := by decide +kernel
theorem dX0_bodyOf_95 : decode cX0_bodyOf 95 = .ok (.iload_n 1, 1) := by decide +kernel
theorem dX0_bodyOf_96 : decode cX0_bodyOf 96 = .ok (.ifCond .ne 8, 3) := by decide +kernel
theorem dX0_bodyOf_99 : decode cX0_bodyOf 99 = .ok (.bipush 51, 2) := by decide +kernel
theorem dX0_bodyOf_101 : decode cX0_bodyOf 101 = .ok (.goto 4, 3) := by decide +kernel
theorem dX0_bodyOf_104 : decode cX0_bodyOf 104 = .ok (.iconst 0, 1) := by decide +kernel
theorem dX0_bodyOf_105 : decode cX0_bodyOf 105 = .ok (.ireturn, 1) := by decide +kernel
theorem dX0_bodyOf_106 : decode cX0_bodyOf 106 = .ok (.iload_n 1, 1) := by decide +kernel
theorem dX0_bodyOf_107 : decode cX0_bodyOf 107 = .ok (.iconst 1, 1) := by decide +kernel
theorem dX0_bodyOf_108 : decode cX0_bodyOf 108 = .ok (.if_icmp .ne 8, 3) := by decide +kernel
theorem dX0_bodyOf_111 : decode cX0_bodyOf 111 = .ok (.bipush 61, 2) := by decide +kernel
theorem dX0_bodyOf_113 : decode cX0_bodyOf 113 = .ok (.goto 4, 3) := by decide +kernel
theorem dX0_bodyOf_116 : decode cX0_bodyOf 116 = .ok (.iconst 0, 1) := by decide +kernel
theorem dX0_bodyOf_117 : decode cX0_bodyOf 117 = .ok (.ireturn, 1) := by decide +kernel
theorem dX0_bodyOf_118 : decode cX0_bodyOf 118 = .ok (.iconst 0, 1) := by decide +kernel
theorem dX0_bodyOf_119 : decode cX0_bodyOf 119 = .ok (.ireturn, 1) := by decide +kernel
theorem dX0_run_0 : decode cX0_run 0 = .ok (.aload_n 0, 1) := by decide +kernel
theorem dX0_run_1 : decode cX0_run 1 = .ok (.getfield 15, 3) := by decide +kernel
theorem dX0_run_4 : decode cX0_run 4 = .ok (.ifCond .lt 25, 3) := by decide +kernel
theorem dX0_run_7 : decode cX0_run 7 = .ok (.aload_n 0, 1) := by decide +kernel
theorem dX0_run_8 : decode cX0_run 8 = .ok (.getfield 15, 3) := by decide +kernel
theorem dX0_run_11 : decode cX0_run 11 = .ok (.aload_n 0, 1) := by decide +kernel
theorem dX0_run_12 : decode cX0_run 12 = .ok (.getfield 11, 3) := by decide +kernel
theorem dX0_run_15 : decode cX0_run 15 = .ok (.arraylength, 1) := by decide +kernel
theorem dX0_run_16 : decode cX0_run 16 = .ok (.if_icmp .ge 13, 3) := by decide +kernel
theorem dX0_run_19 : decode cX0_run 19 = .ok (.aload_n 0, 1) := by decide +kernel
theorem dX0_run_20 : decode cX0_run 20 = .ok (.getfield 11, 3) := by decide +kernel
theorem dX0_run_23 : decode cX0_run 23 = .ok (.aload_n 0, 1) := by decide +kernel
theorem dX0_run_24 : decode cX0_run 24 = .ok (.getfield 15, 3) := by decide +kernel
theorem dX0_run_27 : decode cX0_run 27 = .ok (.iload_n 1, 1) := by decide +kernel
theorem dX0_run_28 : decode cX0_run 28 = .ok (.iastore, 1) := by decide +kernel
theorem dX0_run_29 : decode cX0_run 29 = .ok (.aload_n 0, 1) := by decide +kernel
theorem dX0_run_30 : decode cX0_run 30 = .ok (.dup, 1) := by decide +kernel
theorem dX0_run_31 : decode cX0_run 31 = .ok (.getfield 15, 3) := by decide +kernel
theorem dX0_run_34 : decode cX0_run 34 = .ok (.iconst 1, 1) := by decide +kernel
theorem dX0_run_35 : decode cX0_run 35 = .ok (.iadd, 1) := by decide +kernel
theorem dX0_run_36 : decode cX0_run 36 = .ok (.putfield 15, 3) := by decide +kernel
theorem dX0_run_39 : decode cX0_run 39 = .ok (.iload_n 1, 1) := by decide +kernel
theorem dX0_run_40 : decode cX0_run 40 = .ok (.lookupswitch 215 #[(1, 84), (2, 91), (3, 109), (11, 124), (21, 136), (31, 147), (41, 160), (51, 185), (61, 200)], 84) := by decide +kernel
theorem dX0_run_124 : decode cX0_run 124 = .ok (.iload_n 3, 1) := by decide +kernel
theorem dX0_run_125 : decode cX0_run 125 = .ok (.aload_n 0, 1) := by decide +kernel
theorem dX0_run_126 : decode cX0_run 126 = .ok (.getfield 22, 3) := by decide +kernel
theorem dX0_run_129 : decode cX0_run 129 = .ok (.iadd, 1) := by decide +kernel
theorem dX0_run_130 : decode cX0_run 130 = .ok (.ireturn, 1) := by decide +kernel
theorem dX0_run_131 : decode cX0_run 131 = .ok (.aload_n 0, 1) := by decide +kernel
theorem dX0_run_132 : decode cX0_run 132 = .ok (.aload_n 0, 1) := by decide +kernel
theorem dX0_run_133 : decode cX0_run 133 = .ok (.getfield 19, 3) := by decide +kernel
theorem dX0_run_136 : decode cX0_run 136 = .ok (.iconst 0, 1) := by decide +kernel
theorem dX0_run_137 : decode cX0_run 137 = .ok (.iload_n 3, 1) := by decide +kernel
theorem dX0_run_138 : decode cX0_run 138 = .ok (.iload 4, 2) := by decide +kernel
theorem dX0_run_140 : decode cX0_run 140 = .ok (.invokevirtual 34, 3) := by decide +kernel
theorem dX0_run_143 : decode cX0_run 143 = .ok (.aload_n 0, 1) := by decide +kernel
theorem dX0_run_144 : decode cX0_run 144 = .ok (.getfield 25, 3) := by decide +kernel
theorem dX0_run_147 : decode cX0_run 147 = .ok (.isub, 1) := by decide +kernel
theorem dX0_run_148 : decode cX0_run 148 = .ok (.ireturn, 1) := by decide +kernel
theorem dX0_run_149 : decode cX0_run 149 = .ok (.aload_n 0, 1) := by decide +kernel
theorem dX0_run_150 : decode cX0_run 150 = .ok (.aload_n 0, 1) := by decide +kernel
theorem dX0_run_151 : decode cX0_run 151 = .ok (.getfield 19, 3) := by decide +kernel
theorem dX0_run_154 : decode cX0_run 154 = .ok (.iconst 1, 1) := by decide +kernel
theorem dX0_run_155 : decode cX0_run 155 = .ok (.iload_n 3, 1) := by decide +kernel
theorem dX0_run_156 : decode cX0_run 156 = .ok (.iload 4, 2) := by decide +kernel
theorem dX0_run_158 : decode cX0_run 158 = .ok (.invokevirtual 34, 3) := by decide +kernel
theorem dX0_run_161 : decode cX0_run 161 = .ok (.iconst 2, 1) := by decide +kernel
theorem dX0_run_162 : decode cX0_run 162 = .ok (.imul, 1) := by decide +kernel
theorem dX0_run_163 : decode cX0_run 163 = .ok (.ireturn, 1) := by decide +kernel
theorem dX0_run_164 : decode cX0_run 164 = .ok (.aload_n 0, 1) := by decide +kernel
theorem dX0_run_165 : decode cX0_run 165 = .ok (.iload_n 2, 1) := by decide +kernel
theorem dX0_run_166 : decode cX0_run 166 = .ok (.iconst 0, 1) := by decide +kernel
theorem dX0_run_167 : decode cX0_run 167 = .ok (.iload_n 3, 1) := by decide +kernel
theorem dX0_run_168 : decode cX0_run 168 = .ok (.iconst 3, 1) := by decide +kernel
theorem dX0_run_169 : decode cX0_run 169 = .ok (.imul, 1) := by decide +kernel
theorem dX0_run_170 : decode cX0_run 170 = .ok (.iload 4, 2) := by decide +kernel
theorem dX0_run_172 : decode cX0_run 172 = .ok (.invokevirtual 34, 3) := by decide +kernel
theorem dX0_run_175 : decode cX0_run 175 = .ok (.ireturn, 1) := by decide +kernel
theorem dX0_run_176 : decode cX0_run 176 = .ok (.aload_n 0, 1) := by decide +kernel
theorem dX0_run_177 : decode cX0_run 177 = .ok (.iload_n 2, 1) := by decide +kernel
theorem dX0_run_178 : decode cX0_run 178 = .ok (.iconst 1, 1) := by decide +kernel
theorem dX0_run_179 : decode cX0_run 179 = .ok (.iload_n 3, 1) := by decide +kernel
theorem dX0_run_180 : decode cX0_run 180 = .ok (.iload 4, 2) := by decide +kernel
theorem dX0_run_182 : decode cX0_run 182 = .ok (.invokevirtual 34, 3) := by decide +kernel
theorem dX0_run_185 : decode cX0_run 185 = .ok (.ineg, 1) := by decide +kernel
theorem dX0_run_186 : decode cX0_run 186 = .ok (.ireturn, 1) := by decide +kernel
theorem dX0_run_187 : decode cX0_run 187 = .ok (.aload_n 0, 1) := by decide +kernel
theorem dX0_run_188 : decode cX0_run 188 = .ok (.iload_n 2, 1) := by decide +kernel
theorem dX0_run_189 : decode cX0_run 189 = .ok (.iconst 2, 1) := by decide +kernel
theorem dX0_run_190 : decode cX0_run 190 = .ok (.iload_n 3, 1) := by decide +kernel
theorem dX0_run_191 : decode cX0_run 191 = .ok (.iload 4, 2) := by decide +kernel
theorem dX0_run_193 : decode cX0_run 193 = .ok (.invokevirtual 34, 3) := by decide +kernel
theorem dX0_run_196 : decode cX0_run 196 = .ok (.bipush 7, 2) := by decide +kernel
theorem dX0_run_198 : decode cX0_run 198 = .ok (.ixor, 1) := by decide +kernel
theorem dX0_run_199 : decode cX0_run 199 = .ok (.ireturn, 1) := by decide +kernel
theorem dX0_run_200 : decode cX0_run 200 = .ok (.aload_n 0, 1) := by decide +kernel
theorem dX0_run_201 : decode cX0_run 201 = .ok (.iload_n 2, 1) := by decide +kernel
theorem dX0_run_202 : decode cX0_run 202 = .ok (.iconst 2, 1) := by decide +kernel
theorem dX0_run_203 : decode cX0_run 203 = .ok (.iload_n 3, 1) := by decide +kernel
theorem dX0_run_204 : decode cX0_run 204 = .ok (.iconst 1, 1) := by decide +kernel
theorem dX0_run_205 : decode cX0_run 205 = .ok (.isub, 1) := by decide +kernel
theorem dX0_run_206 : decode cX0_run 206 = .ok (.iload 4, 2) := by decide +kernel
theorem dX0_run_208 : decode cX0_run 208 = .ok (.invokevirtual 34, 3) := by decide +kernel
theorem dX0_run_211 : decode cX0_run 211 = .ok (.aload_n 0, 1) := by decide +kernel
theorem dX0_run_212 : decode cX0_run 212 = .ok (.aload_n 0, 1) := by decide +kernel
theorem dX0_run_213 : decode cX0_run 213 = .ok (.getfield 19, 3) := by decide +kernel
theorem dX0_run_216 : decode cX0_run 216 = .ok (.iconst 0, 1) := by decide +kernel
theorem dX0_run_217 : decode cX0_run 217 = .ok (.iconst 2, 1) := by decide +kernel
theorem dX0_run_218 : decode cX0_run 218 = .ok (.iload 4, 2) := by decide +kernel
theorem dX0_run_220 : decode cX0_run 220 = .ok (.invokevirtual 34, 3) := by decide +kernel
theorem dX0_run_223 : decode cX0_run 223 = .ok (.iadd, 1) := by decide +kernel
theorem dX0_run_224 : decode cX0_run 224 = .ok (.ireturn, 1) := by decide +kernel
theorem dX0_run_225 : decode cX0_run 225 = .ok (.aload_n 0, 1) := by decide +kernel
theorem dX0_run_226 : decode cX0_run 226 = .ok (.iload_n 2, 1) := by decide +kernel
theorem dX0_run_227 : decode cX0_run 227 = .ok (.iconst 0, 1) := by decide +kernel
theorem dX0_run_228 : decode cX0_run 228 = .ok (.iload_n 3, 1) := by decide +kernel
theorem dX0_run_229 : decode cX0_run 229 = .ok (.iload 4, 2) := by decide +kernel
theorem dX0_run_231 : decode cX0_run 231 = .ok (.invokevirtual 34, 3) := by decide +kernel
theorem dX0_run_234 : decode cX0_run 234 = .ok (.aload_n 0, 1) := by decide +kernel
theorem dX0_run_235 : decode cX0_run 235 = .ok (.getfield 22, 3) := by decide +kernel
theorem dX0_run_238 : decode cX0_run 238 = .ok (.ixor, 1) := by decide +kernel
theorem dX0_run_239 : decode cX0_run 239 = .ok (.ireturn, 1) := by decide +kernel
theorem dX0_run_240 : decode cX0_run 240 = .ok (.aload_n 0, 1) := by decide +kernel
theorem dX0_run_241 : decode cX0_run 241 = .ok (.iload_n 2, 1) := by decide +kernel
theorem dX0_run_242 : decode cX0_run 242 = .ok (.iconst 1, 1) := by decide +kernel
theorem dX0_run_243 : decode cX0_run 243 = .ok (.iload_n 3, 1) := by decide +kernel
theorem dX0_run_244 : decode cX0_run 244 = .ok (.iload 4, 2) := by decide +kernel
theorem dX0_run_246 : decode cX0_run 246 = .ok (.invokevirtual 34, 3) := by decide +kernel
theorem dX0_run_249 : decode cX0_run 249 = .ok (.aload_n 0, 1) := by decide +kernel
theorem dX0_run_250 : decode cX0_run 250 = .ok (.getfield 25, 3) := by decide +kernel
theorem dX0_run_253 : decode cX0_run 253 = .ok (.iadd, 1) := by decide +kernel
theorem dX0_run_254 : decode cX0_run 254 = .ok (.ireturn, 1) := by decide +kernel
theorem dX0_run_255 : decode cX0_run 255 = .ok (.iconst 0, 1) := by decide +kernel
theorem dX0_run_256 : decode cX0_run 256 = .ok (.ireturn, 1) := by decide +kernel
theorem dX1_init_0 : decode cX1_init 0 = .ok (.aload_n 0, 1) := by decide +kernel
theorem dX1_init_1 : decode cX1_init 1 = .ok (.invokespecial 3, 3) := by decide +kernel
theorem dX1_init_4 : decode cX1_init 4 = .ok (.aload_n 0, 1) := by decide +kernel
theorem dX1_init_5 : decode cX1_init 5 = .ok (.iconst 3, 1) := by decide +kernel
theorem dX1_init_6 : decode cX1_init 6 = .ok (.newarray .long, 2) := by decide +kernel
theorem dX1_init_8 : decode cX1_init 8 = .ok (.putfield 9, 3) := by decide +kernel
theorem dX1_init_11 : decode cX1_init 11 = .ok (.aload_n 0, 1) := by decide +kernel
theorem dX1_init_12 : decode cX1_init 12 = .ok (.new 15, 3) := by decide +kernel
theorem dX1_init_15 : decode cX1_init 15 = .ok (.dup, 1) := by decide +kernel
theorem dX1_init_16 : decode cX1_init 16 = .ok (.invokespecial 17, 3) := by decide +kernel
theorem dX1_init_19 : decode cX1_init 19 = .ok (.putfield 18, 3) := by decide +kernel
theorem dX1_init_22 : decode cX1_init 22 = .ok (.aload_n 0, 1) := by decide +kernel
theorem dX1_init_23 : decode cX1_init 23 = .ok (.new 22, 3) := by decide +kernel
theorem dX1_init_26 : decode cX1_init 26 = .ok (.dup, 1) := by decide +kernel
theorem dX1_init_27 : decode cX1_init 27 = .ok (.invokespecial 24, 3) := by decide +kernel
theorem dX1_init_30 : decode cX1_init 30 = .ok (.putfield 25, 3) := by decide +kernel
theorem dX1_init_33 : decode cX1_init 33 = .ok (.aload_n 0, 1) := by decide +kernel
theorem dX1_init_34 : decode cX1_init 34 = .ok (.new 29, 3) := by decide +kernel
theorem dX1_init_37 : decode cX1_init 37 = .ok (.dup, 1) := by decide +kernel
theorem dX1_init_38 : decode cX1_init 38 = .ok (.invokespecial 31, 3) := by decide +kernel
theorem dX1_init_41 : decode cX1_init 41 = .ok (.putfield 32, 3) := by decide +kernel
theorem dX1_init_44 : decode cX1_init 44 = .ok (.aload_n 0, 1) := by decide +kernel
theorem dX1_init_45 : decode cX1_init 45 = .ok (.new 36, 3) := by decide +kernel
theorem dX1_init_48 : decode cX1_init 48 = .ok (.dup, 1) := by decide +kernel
theorem dX1_init_49 : decode cX1_init 49 = .ok (.invokespecial 38, 3) := by decide +kernel
theorem dX1_init_52 : decode cX1_init 52 = .ok (.putfield 39, 3) := by decide +kernel
theorem dX1_init_55 : decode cX1_init 55 = .ok (.aload_n 0, 1) := by decide +kernel
theorem dX1_init_56 : decode cX1_init 56 = .ok (.iconst 0, 1) := by decide +kernel
theorem dX1_init_57 : decode cX1_init 57 = .ok (.putfield 43, 3) := by decide +kernel
theorem dX1_init_60 : decode cX1_init 60 = .ok (.return_, 1) := by decide +kernel
theorem dX1_copy_0 : decode cX1_copy 0 = .ok (.aload_n 1, 1) := by decide +kernel
theorem dX1_copy_1 : decode cX1_copy 1 = .ok (.getfield 9, 3) := by decide +kernel
theorem dX1_copy_4 : decode cX1_copy 4 = .ok (.iconst 0, 1) := by decide +kernel
theorem dX1_copy_5 : decode cX1_copy 5 = .ok (.aload_n 0, 1) := by decide +kernel
theorem dX1_copy_6 : decode cX1_copy 6 = .ok (.getfield 9, 3) := by decide +kernel
theorem dX1_copy_9 : decode cX1_copy 9 = .ok (.iconst 0, 1) := by decide +kernel
theorem dX1_copy_10 : decode cX1_copy 10 = .ok (.iconst 3, 1) := by decide +kernel
theorem dX1_copy_11 : decode cX1_copy 11 = .ok (.invokestatic 47, 3) := by decide +kernel
theorem dX1_copy_14 : decode cX1_copy 14 = .ok (.aload_n 0, 1) := by decide +kernel
theorem dX1_copy_15 : decode cX1_copy 15 = .ok (.getfield 18, 3) := by decide +kernel
theorem dX1_copy_18 : decode cX1_copy 18 = .ok (.aload_n 1, 1) := by decide +kernel
theorem dX1_copy_19 : decode cX1_copy 19 = .ok (.getfield 18, 3) := by decide +kernel
theorem dX1_copy_22 : decode cX1_copy 22 = .ok (.invokevirtual 53, 3) := by decide +kernel
theorem dX1_copy_25 : decode cX1_copy 25 = .ok (.aload_n 0, 1) := by decide +kernel
theorem dX1_copy_26 : decode cX1_copy 26 = .ok (.getfield 25, 3) := by decide +kernel
theorem dX1_copy_29 : decode cX1_copy 29 = .ok (.aload_n 1, 1) := by decide +kernel
theorem dX1_copy_30 : decode cX1_copy 30 = .ok (.getfield 25, 3) := by decide +kernel
theorem dX1_copy_33 : decode cX1_copy 33 = .ok (.invokevirtual 57, 3) := by decide +kernel
theorem dX1_copy_36 : decode cX1_copy 36 = .ok (.aload_n 0, 1) := by decide +kernel
theorem dX1_copy_37 : decode cX1_copy 37 = .ok (.getfield 32, 3) := by decide +kernel
theorem dX1_copy_40 : decode cX1_copy 40 = .ok (.aload_n 1, 1) := by decide +kernel
theorem dX1_copy_41 : decode cX1_copy 41 = .ok (.getfield 32, 3) := by decide +kernel
theorem dX1_copy_44 : decode cX1_copy 44 = .ok (.invokevirtual 60, 3) := by decide +kernel
theorem dX1_copy_47 : decode cX1_copy 47 = .ok (.aload_n 0, 1) := by decide +kernel
theorem dX1_copy_48 : decode cX1_copy 48 = .ok (.getfield 39, 3) := by decide +kernel
theorem dX1_copy_51 : decode cX1_copy 51 = .ok (.aload_n 1, 1) := by decide +kernel
theorem dX1_copy_52 : decode cX1_copy 52 = .ok (.getfield 39, 3) := by decide +kernel
theorem dX1_copy_55 : decode cX1_copy 55 = .ok (.invokevirtual 63, 3) := by decide +kernel
theorem dX1_copy_58 : decode cX1_copy 58 = .ok (.aload_n 0, 1) := by decide +kernel
theorem dX1_copy_59 : decode cX1_copy 59 = .ok (.aload_n 1, 1) := by decide +kernel
theorem dX1_copy_60 : decode cX1_copy 60 = .ok (.getfield 43, 3) := by decide +kernel
theorem dX1_copy_63 : decode cX1_copy 63 = .ok (.putfield 43, 3) := by decide +kernel
theorem dX1_copy_66 : decode cX1_copy 66 = .ok (.return_, 1) := by decide +kernel
theorem dX2_init_0 : decode cX2_init 0 = .ok (.aload_n 0, 1) := by decide +kernel
theorem dX2_init_1 : decode cX2_init 1 = .ok (.invokespecial 3, 3) := by decide +kernel
theorem dX2_init_4 : decode cX2_init 4 = .ok (.aload_n 0, 1) := by decide +kernel
theorem dX2_init_5 : decode cX2_init 5 = .ok (.iconst 5, 1) := by decide +kernel
theorem dX2_init_6 : decode cX2_init 6 = .ok (.newarray .int, 2) := by decide +kernel
theorem dX2_init_8 : decode cX2_init 8 = .ok (.putfield 9, 3) := by decide +kernel
theorem dX2_init_11 : decode cX2_init 11 = .ok (.aload_n 0, 1) := by decide +kernel
theorem dX2_init_12 : decode cX2_init 12 = .ok (.bipush 120, 2) := by decide +kernel
theorem dX2_init_14 : decode cX2_init 14 = .ok (.newarray .int, 2) := by decide +kernel
theorem dX2_init_16 : decode cX2_init 16 = .ok (.putfield 15, 3) := by decide +kernel
theorem dX2_init_19 : decode cX2_init 19 = .ok (.aload_n 0, 1) := by decide +kernel
theorem dX2_init_20 : decode cX2_init 20 = .ok (.bipush 10, 2) := by decide +kernel
theorem dX2_init_22 : decode cX2_init 22 = .ok (.newarray .int, 2) := by decide +kernel
theorem dX2_init_24 : decode cX2_init 24 = .ok (.putfield 18, 3) := by decide +kernel
theorem dX2_init_27 : decode cX2_init 27 = .ok (.aload_n 0, 1) := by decide +kernel
theorem dX2_init_28 : decode cX2_init 28 = .ok (.bipush 10, 2) := by decide +kernel
theorem dX2_init_30 : decode cX2_init 30 = .ok (.newarray .int, 2) := by decide +kernel
theorem dX2_init_32 : decode cX2_init 32 = .ok (.putfield 21, 3) := by decide +kernel
theorem dX2_init_35 : decode cX2_init 35 = .ok (.aload_n 0, 1) := by decide +kernel
theorem dX2_init_36 : decode cX2_init 36 = .ok (.iconst 0, 1) := by decide +kernel
theorem dX2_init_37 : decode cX2_init 37 = .ok (.putfield 24, 3) := by decide +kernel
theorem dX2_init_40 : decode cX2_init 40 = .ok (.aload_n 0, 1) := by decide +kernel
theorem dX2_init_41 : decode cX2_init 41 = .ok (.iconst 0, 1) := by decide +kernel
theorem dX2_init_42 : decode cX2_init 42 = .ok (.putfield 28, 3) := by decide +kernel
theorem dX2_init_45 : decode cX2_init 45 = .ok (.aload_n 0, 1) := by decide +kernel
theorem dX2_init_46 : decode cX2_init 46 = .ok (.iconst 0, 1) := by decide +kernel
theorem dX2_init_47 : decode cX2_init 47 = .ok (.putfield 31, 3) := by decide +kernel
theorem dX2_init_50 : decode cX2_init 50 = .ok (.aload_n 0, 1) := by decide +kernel
theorem dX2_init_51 : decode cX2_init 51 = .ok (.invokevirtual 34, 3) := by decide +kernel
theorem dX2_init_54 : decode cX2_init 54 = .ok (.return_, 1) := by decide +kernel
theorem dX2_empty_0 : decode cX2_empty 0 = .ok (.getstatic 37, 3) := by decide +kernel
theorem dX2_empty_3 : decode cX2_empty 3 = .ok (.iconst 0, 1) := by decide +kernel
theorem dX2_empty_4 : decode cX2_empty 4 = .ok (.aload_n 0, 1) := by decide +kernel
theorem dX2_empty_5 : decode cX2_empty 5 = .ok (.getfield 9, 3) := by decide +kernel
theorem dX2_empty_8 : decode cX2_empty 8 = .ok (.iconst 0, 1) := by decide +kernel
theorem dX2_empty_9 : decode cX2_empty 9 = .ok (.iconst 5, 1) := by decide +kernel
theorem dX2_empty_10 : decode cX2_empty 10 = .ok (.invokestatic 40, 3) := by decide +kernel
theorem dX2_empty_13 : decode cX2_empty 13 = .ok (.aload_n 0, 1) := by decide +kernel
theorem dX2_empty_14 : decode cX2_empty 14 = .ok (.iconst 0, 1) := by decide +kernel
theorem dX2_empty_15 : decode cX2_empty 15 = .ok (.putfield 24, 3) := by decide +kernel
theorem dX2_empty_18 : decode cX2_empty 18 = .ok (.aload_n 0, 1) := by decide +kernel
theorem dX2_empty_19 : decode cX2_empty 19 = .ok (.iconst 0, 1) := by decide +kernel
theorem dX2_empty_20 : decode cX2_empty 20 = .ok (.putfield 28, 3) := by decide +kernel
theorem dX2_empty_23 : decode cX2_empty 23 = .ok (.aload_n 0, 1) := by decide +kernel
theorem dX2_empty_24 : decode cX2_empty 24 = .ok (.iconst 0, 1) := by decide +kernel
theorem dX2_empty_25 : decode cX2_empty 25 = .ok (.putfield 31, 3) := by decide +kernel
theorem dX2_empty_28 : decode cX2_empty 28 = .ok (.return_, 1) := by decide +kernel
theorem dX2_put_0 : decode cX2_put 0 = .ok (.aload_n 0, 1) := by decide +kernel
theorem dX2_put_1 : decode cX2_put 1 = .ok (.getfield 31, 3) := by decide +kernel
theorem dX2_put_4 : decode cX2_put 4 = .ok (.ifCond .lt 15, 3) := by decide +kernel
theorem dX2_put_7 : decode cX2_put 7 = .ok (.aload_n 0, 1) := by decide +kernel
theorem dX2_put_8 : decode cX2_put 8 = .ok (.getfield 31, 3) := by decide +kernel
theorem dX2_put_11 : decode cX2_put 11 = .ok (.aload_n 0, 1) := by decide +kernel
theorem dX2_put_12 : decode cX2_put 12 = .ok (.getfield 15, 3) := by decide +kernel
theorem dX2_put_15 : decode cX2_put 15 = .ok (.arraylength, 1) := by decide +kernel
theorem dX2_put_16 : decode cX2_put 16 = .ok (.if_icmp .lt 4, 3) := by decide +kernel
theorem dX2_put_19 : decode cX2_put 19 = .ok (.return_, 1) := by decide +kernel
theorem dX2_put_20 : decode cX2_put 20 = .ok (.aload_n 0, 1) := by decide +kernel
theorem dX2_put_21 : decode cX2_put 21 = .ok (.getfield 15, 3) := by decide +kernel
theorem dX2_put_24 : decode cX2_put 24 = .ok (.aload_n 0, 1) := by decide +kernel
theorem dX2_put_25 : decode cX2_put 25 = .ok (.getfield 31, 3) := by decide +kernel
theorem dX2_put_28 : decode cX2_put 28 = .ok (.iload_n 1, 1) := by decide +kernel
theorem dX2_put_29 : decode cX2_put 29 = .ok (.iastore, 1) := by decide +kernel
theorem dX2_put_30 : decode cX2_put 30 = .ok (.aload_n 0, 1) := by decide +kernel
theorem dX2_put_31 : decode cX2_put 31 = .ok (.dup, 1) := by decide +kernel
theorem dX2_put_32 : decode cX2_put 32 = .ok (.getfield 31, 3) := by decide +kernel
theorem dX2_put_35 : decode cX2_put 35 = .ok (.iconst 1, 1) := by decide +kernel
theorem dX2_put_36 : decode cX2_put 36 = .ok (.iadd, 1) := by decide +kernel
theorem dX2_put_37 : decode cX2_put 37 = .ok (.putfield 31, 3) := by decide +kernel
theorem dX2_put_40 : decode cX2_put 40 = .ok (.return_, 1) := by decide +kernel
theorem dX2_grows_0 : decode cX2_grows 0 = .ok (.aload_n 0, 1) := by decide +kernel
theorem dX2_grows_1 : decode cX2_grows 1 = .ok (.getfield 24, 3) := by decide +kernel
theorem dX2_grows_4 : decode cX2_grows 4 = .ok (.iload_n 1, 1) := by decide +kernel
theorem dX2_grows_5 : decode cX2_grows 5 = .ok (.ishr, 1) := by decide +kernel
theorem dX2_grows_6 : decode cX2_grows 6 = .ok (.iconst 1, 1) := by decide +kernel
theorem dX2_grows_7 : decode cX2_grows 7 = .ok (.iand, 1) := by decide +kernel
theorem dX2_grows_8 : decode cX2_grows 8 = .ok (.ifCond .eq 7, 3) := by decide +kernel
theorem dX2_grows_11 : decode cX2_grows 11 = .ok (.iconst 1, 1) := by decide +kernel
theorem dX2_grows_12 : decode cX2_grows 12 = .ok (.goto 4, 3) := by decide +kernel
theorem dX2_grows_15 : decode cX2_grows 15 = .ok (.iconst 0, 1) := by decide +kernel
theorem dX2_grows_16 : decode cX2_grows 16 = .ok (.ireturn, 1) := by decide +kernel
theorem dX2_close_0 : decode cX2_close 0 = .ok (.aload_n 0, 1) := by decide +kernel
theorem dX2_close_1 : decode cX2_close 1 = .ok (.getfield 28, 3) := by decide +kernel
theorem dX2_close_4 : decode cX2_close 4 = .ok (.ifCond .lt 12, 3) := by decide +kernel
theorem dX2_close_7 : decode cX2_close 7 = .ok (.aload_n 0, 1) := by decide +kernel
theorem dX2_close_8 : decode cX2_close 8 = .ok (.getfield 28, 3) := by decide +kernel
theorem dX2_close_11 : decode cX2_close 11 = .ok (.bipush 10, 2) := by decide +kernel
theorem dX2_close_13 : decode cX2_close 13 = .ok (.if_icmp .lt 4, 3) := by decide +kernel
theorem dX2_close_16 : decode cX2_close 16 = .ok (.return_, 1) := by decide +kernel
theorem dX2_close_17 : decode cX2_close 17 = .ok (.iload_n 1, 1) := by decide +kernel
theorem dX2_close_18 : decode cX2_close 18 = .ok (.ifCond .eq 18, 3) := by decide +kernel
theorem dX2_close_21 : decode cX2_close 21 = .ok (.aload_n 0, 1) := by decide +kernel
theorem dX2_close_22 : decode cX2_close 22 = .ok (.dup, 1) := by decide +kernel
theorem dX2_close_23 : decode cX2_close 23 = .ok (.getfield 24, 3) := by decide +kernel
theorem dX2_close_26 : decode cX2_close 26 = .ok (.iconst 1, 1) := by decide +kernel
theorem dX2_close_27 : decode cX2_close 27 = .ok (.aload_n 0, 1) := by decide +kernel
theorem dX2_close_28 : decode cX2_close 28 = .ok (.getfield 28, 3) := by decide +kernel
theorem dX2_close_31 : decode cX2_close 31 = .ok (.ishl, 1) := by decide +kernel
theorem dX2_close_32 : decode cX2_close 32 = .ok (.ior, 1) := by decide +kernel
theorem dX2_close_33 : decode cX2_close 33 = .ok (.putfield 24, 3) := by decide +kernel
theorem dX2_close_36 : decode cX2_close 36 = .ok (.aload_n 0, 1) := by decide +kernel
theorem dX2_close_37 : decode cX2_close 37 = .ok (.getfield 18, 3) := by decide +kernel
theorem dX2_close_40 : decode cX2_close 40 = .ok (.aload_n 0, 1) := by decide +kernel
theorem dX2_close_41 : decode cX2_close 41 = .ok (.getfield 28, 3) := by decide +kernel
theorem dX2_close_44 : decode cX2_close 44 = .ok (.iload_n 2, 1) := by decide +kernel
theorem dX2_close_45 : decode cX2_close 45 = .ok (.iastore, 1) := by decide +kernel
theorem dX2_close_46 : decode cX2_close 46 = .ok (.aload_n 0, 1) := by decide +kernel
theorem dX2_close_47 : decode cX2_close 47 = .ok (.getfield 21, 3) := by decide +kernel
theorem dX2_close_50 : decode cX2_close 50 = .ok (.aload_n 0, 1) := by decide +kernel
theorem dX2_close_51 : decode cX2_close 51 = .ok (.getfield 28, 3) := by decide +kernel
theorem dX2_close_54 : decode cX2_close 54 = .ok (.aload_n 0, 1) := by decide +kernel
theorem dX2_close_55 : decode cX2_close 55 = .ok (.getfield 31, 3) := by decide +kernel
theorem dX2_close_58 : decode cX2_close 58 = .ok (.iastore, 1) := by decide +kernel
theorem dX2_close_59 : decode cX2_close 59 = .ok (.aload_n 0, 1) := by decide +kernel
theorem dX2_close_60 : decode cX2_close 60 = .ok (.dup, 1) := by decide +kernel
theorem dX2_close_61 : decode cX2_close 61 = .ok (.getfield 28, 3) := by decide +kernel
theorem dX2_close_64 : decode cX2_close 64 = .ok (.iconst 1, 1) := by decide +kernel
theorem dX2_close_65 : decode cX2_close 65 = .ok (.iadd, 1) := by decide +kernel
theorem dX2_close_66 : decode cX2_close 66 = .ok (.putfield 28, 3) := by decide +kernel
theorem dX2_close_69 : decode cX2_close 69 = .ok (.return_, 1) := by decide +kernel
theorem dX2_copy_0 : decode cX2_copy 0 = .ok (.aload_n 1, 1) := by decide +kernel
theorem dX2_copy_1 : decode cX2_copy 1 = .ok (.getfield 9, 3) := by decide +kernel
theorem dX2_copy_4 : decode cX2_copy 4 = .ok (.iconst 0, 1) := by decide +kernel
theorem dX2_copy_5 : decode cX2_copy 5 = .ok (.aload_n 0, 1) := by decide +kernel
theorem dX2_copy_6 : decode cX2_copy 6 = .ok (.getfield 9, 3) := by decide +kernel
theorem dX2_copy_9 : decode cX2_copy 9 = .ok (.iconst 0, 1) := by decide +kernel
theorem dX2_copy_10 : decode cX2_copy 10 = .ok (.iconst 5, 1) := by decide +kernel
theorem dX2_copy_11 : decode cX2_copy 11 = .ok (.invokestatic 40, 3) := by decide +kernel
theorem dX2_copy_14 : decode cX2_copy 14 = .ok (.aload_n 1, 1) := by decide +kernel
theorem dX2_copy_15 : decode cX2_copy 15 = .ok (.getfield 15, 3) := by decide +kernel
theorem dX2_copy_18 : decode cX2_copy 18 = .ok (.iconst 0, 1) := by decide +kernel
theorem dX2_copy_19 : decode cX2_copy 19 = .ok (.aload_n 0, 1) := by decide +kernel
theorem dX2_copy_20 : decode cX2_copy 20 = .ok (.getfield 15, 3) := by decide +kernel
theorem dX2_copy_23 : decode cX2_copy 23 = .ok (.iconst 0, 1) := by decide +kernel
theorem dX2_copy_24 : decode cX2_copy 24 = .ok (.bipush 120, 2) := by decide +kernel
theorem dX2_copy_26 : decode cX2_copy 26 = .ok (.invokestatic 40, 3) := by decide +kernel
theorem dX2_copy_29 : decode cX2_copy 29 = .ok (.aload_n 1, 1) := by decide +kernel
theorem dX2_copy_30 : decode cX2_copy 30 = .ok (.getfield 18, 3) := by decide +kernel
theorem dX2_copy_33 : decode cX2_copy 33 = .ok (.iconst 0, 1) := by decide +kernel
theorem dX2_copy_34 : decode cX2_copy 34 = .ok (.aload_n 0, 1) := by decide +kernel
theorem dX2_copy_35 : decode cX2_copy 35 = .ok (.getfield 18, 3) := by decide +kernel
theorem dX2_copy_38 : decode cX2_copy 38 = .ok (.iconst 0, 1) := by decide +kernel
theorem dX2_copy_39 : decode cX2_copy 39 = .ok (.bipush 10, 2) := by decide +kernel
theorem dX2_copy_41 : decode cX2_copy 41 = .ok (.invokestatic 40, 3) := by decide +kernel
theorem dX2_copy_44 : decode cX2_copy 44 = .ok (.aload_n 1, 1) := by decide +kernel
theorem dX2_copy_45 : decode cX2_copy 45 = .ok (.getfield 21, 3) := by decide +kernel
theorem dX2_copy_48 : decode cX2_copy 48 = .ok (.iconst 0, 1) := by decide +kernel
theorem dX2_copy_49 : decode cX2_copy 49 = .ok (.aload_n 0, 1) := by decide +kernel
theorem dX2_copy_50 : decode cX2_copy 50 = .ok (.getfield 21, 3) := by decide +kernel
theorem dX2_copy_53 : decode cX2_copy 53 = .ok (.iconst 0, 1) := by decide +kernel
theorem dX2_copy_54 : decode cX2_copy 54 = .ok (.bipush 10, 2) := by decide +kernel
theorem dX2_copy_56 : decode cX2_copy 56 = .ok (.invokestatic 40, 3) := by decide +kernel
theorem dX2_copy_59 : decode cX2_copy 59 = .ok (.aload_n 0, 1) := by decide +kernel
theorem dX2_copy_60 : decode cX2_copy 60 = .ok (.aload_n 1, 1) := by decide +kernel
theorem dX2_copy_61 : decode cX2_copy 61 = .ok (.getfield 24, 3) := by decide +kernel
theorem dX2_copy_64 : decode cX2_copy 64 = .ok (.putfield 24, 3) := by decide +kernel
theorem dX2_copy_67 : decode cX2_copy 67 = .ok (.aload_n 0, 1) := by decide +kernel
theorem dX2_copy_68 : decode cX2_copy 68 = .ok (.aload_n 1, 1) := by decide +kernel
theorem dX2_copy_69 : decode cX2_copy 69 = .ok (.getfield 28, 3) := by decide +kernel
theorem dX2_copy_72 : decode cX2_copy 72 = .ok (.putfield 28, 3) := by decide +kernel
theorem dX2_copy_75 : decode cX2_copy 75 = .ok (.aload_n 0, 1) := by decide +kernel
theorem dX2_copy_76 : decode cX2_copy 76 = .ok (.aload_n 1, 1) := by decide +kernel
theorem dX2_copy_77 : decode cX2_copy 77 = .ok (.getfield 31, 3) := by decide +kernel
theorem dX2_copy_80 : decode cX2_copy 80 = .ok (.putfield 31, 3) := by decide +kernel
theorem dX2_copy_83 : decode cX2_copy 83 = .ok (.return_, 1) := by decide +kernel
theorem dX3_init_0 : decode cX3_init 0 = .ok (.aload_n 0, 1) := by decide +kernel
theorem dX3_init_1 : decode cX3_init 1 = .ok (.invokespecial 3, 3) := by decide +kernel
theorem dX3_init_4 : decode cX3_init 4 = .ok (.aload_n 0, 1) := by decide +kernel
theorem dX3_init_5 : decode cX3_init 5 = .ok (.bipush 10, 2) := by decide +kernel
theorem dX3_init_7 : decode cX3_init 7 = .ok (.newarray .int, 2) := by decide +kernel
theorem dX3_init_9 : decode cX3_init 9 = .ok (.putfield 9, 3) := by decide +kernel
theorem dX3_init_12 : decode cX3_init 12 = .ok (.aload_n 0, 1) := by decide +kernel
theorem dX3_init_13 : decode cX3_init 13 = .ok (.bipush 10, 2) := by decide +kernel
theorem dX3_init_15 : decode cX3_init 15 = .ok (.newarray .int, 2) := by decide +kernel
theorem dX3_init_17 : decode cX3_init 17 = .ok (.putfield 15, 3) := by decide +kernel
theorem dX3_init_20 : decode cX3_init 20 = .ok (.aload_n 0, 1) := by decide +kernel
theorem dX3_init_21 : decode cX3_init 21 = .ok (.bipush 10, 2) := by decide +kernel
theorem dX3_init_23 : decode cX3_init 23 = .ok (.newarray .int, 2) := by decide +kernel
theorem dX3_init_25 : decode cX3_init 25 = .ok (.putfield 18, 3) := by decide +kernel
theorem dX3_init_28 : decode cX3_init 28 = .ok (.aload_n 0, 1) := by decide +kernel
theorem dX3_init_29 : decode cX3_init 29 = .ok (.bipush 10, 2) := by decide +kernel
theorem dX3_init_31 : decode cX3_init 31 = .ok (.newarray .int, 2) := by decide +kernel
theorem dX3_init_33 : decode cX3_init 33 = .ok (.putfield 21, 3) := by decide +kernel
theorem dX3_init_36 : decode cX3_init 36 = .ok (.aload_n 0, 1) := by decide +kernel
theorem dX3_init_37 : decode cX3_init 37 = .ok (.iconst 0, 1) := by decide +kernel
theorem dX3_init_38 : decode cX3_init 38 = .ok (.putfield 24, 3) := by decide +kernel
theorem dX3_init_41 : decode cX3_init 41 = .ok (.aload_n 0, 1) := by decide +kernel
theorem dX3_init_42 : decode cX3_init 42 = .ok (.iconst 0, 1) := by decide +kernel
theorem dX3_init_43 : decode cX3_init 43 = .ok (.putfield 28, 3) := by decide +kernel
theorem dX3_init_46 : decode cX3_init 46 = .ok (.return_, 1) := by decide +kernel
theorem dX3_has_0 : decode cX3_has 0 = .ok (.iload_n 1, 1) := by decide +kernel
theorem dX3_has_1 : decode cX3_has 1 = .ok (.ifCond .lt 15, 3) := by decide +kernel
theorem dX3_has_4 : decode cX3_has 4 = .ok (.iload_n 1, 1) := by decide +kernel
theorem dX3_has_5 : decode cX3_has 5 = .ok (.aload_n 0, 1) := by decide +kernel
theorem dX3_has_6 : decode cX3_has 6 = .ok (.getfield 28, 3) := by decide +kernel
theorem dX3_has_9 : decode cX3_has 9 = .ok (.if_icmp .ge 7, 3) := by decide +kernel
theorem dX3_has_12 : decode cX3_has 12 = .ok (.iconst 1, 1) := by decide +kernel
theorem dX3_has_13 : decode cX3_has 13 = .ok (.goto 4, 3) := by decide +kernel
theorem dX3_has_16 : decode cX3_has 16 = .ok (.iconst 0, 1) := by decide +kernel
theorem dX3_has_17 : decode cX3_has 17 = .ok (.ireturn, 1) := by decide +kernel
theorem dX3_isLoose_0 : decode cX3_isLoose 0 = .ok (.aload_n 0, 1) := by decide +kernel
theorem dX3_isLoose_1 : decode cX3_isLoose 1 = .ok (.getfield 24, 3) := by decide +kernel
theorem dX3_isLoose_4 : decode cX3_isLoose 4 = .ok (.iload_n 1, 1) := by decide +kernel
theorem dX3_isLoose_5 : decode cX3_isLoose 5 = .ok (.ishr, 1) := by decide +kernel
theorem dX3_isLoose_6 : decode cX3_isLoose 6 = .ok (.iconst 1, 1) := by decide +kernel
theorem dX3_isLoose_7 : decode cX3_isLoose 7 = .ok (.iand, 1) := by decide +kernel
theorem dX3_isLoose_8 : decode cX3_isLoose 8 = .ok (.ifCond .ne 7, 3) := by decide +kernel
theorem dX3_isLoose_11 : decode cX3_isLoose 11 = .ok (.iconst 1, 1) := by decide +kernel
theorem dX3_isLoose_12 : decode cX3_isLoose 12 = .ok (.goto 4, 3) := by decide +kernel
theorem dX3_isLoose_15 : decode cX3_isLoose 15 = .ok (.iconst 0, 1) := by decide +kernel
theorem dX3_isLoose_16 : decode cX3_isLoose 16 = .ok (.ireturn, 1) := by decide +kernel
theorem dX3_loose_0 : decode cX3_loose 0 = .ok (.iconst 1, 1) := by decide +kernel
theorem dX3_loose_1 : decode cX3_loose 1 = .ok (.aload_n 0, 1) := by decide +kernel
theorem dX3_loose_2 : decode cX3_loose 2 = .ok (.getfield 28, 3) := by decide +kernel
theorem dX3_loose_5 : decode cX3_loose 5 = .ok (.ishl, 1) := by decide +kernel
theorem dX3_loose_6 : decode cX3_loose 6 = .ok (.iconst 1, 1) := by decide +kernel
theorem dX3_loose_7 : decode cX3_loose 7 = .ok (.isub, 1) := by decide +kernel
theorem dX3_loose_8 : decode cX3_loose 8 = .ok (.aload_n 0, 1) := by decide +kernel
theorem dX3_loose_9 : decode cX3_loose 9 = .ok (.getfield 24, 3) := by decide +kernel
theorem dX3_loose_12 : decode cX3_loose 12 = .ok (.iconst (-1), 1) := by decide +kernel
theorem dX3_loose_13 : decode cX3_loose 13 = .ok (.ixor, 1) := by decide +kernel
theorem dX3_loose_14 : decode cX3_loose 14 = .ok (.iand, 1) := by decide +kernel
theorem dX3_loose_15 : decode cX3_loose 15 = .ok (.ireturn, 1) := by decide +kernel
theorem dX3_add_0 : decode cX3_add 0 = .ok (.aload_n 0, 1) := by decide +kernel
theorem dX3_add_1 : decode cX3_add 1 = .ok (.getfield 28, 3) := by decide +kernel
theorem dX3_add_4 : decode cX3_add 4 = .ok (.ifCond .lt 12, 3) := by decide +kernel
theorem dX3_add_7 : decode cX3_add 7 = .ok (.aload_n 0, 1) := by decide +kernel
theorem dX3_add_8 : decode cX3_add 8 = .ok (.getfield 28, 3) := by decide +kernel
theorem dX3_add_11 : decode cX3_add 11 = .ok (.bipush 10, 2) := by decide +kernel
theorem dX3_add_13 : decode cX3_add 13 = .ok (.if_icmp .lt 6, 3) := by decide +kernel
theorem dX3_add_16 : decode cX3_add 16 = .ok (.bipush (-4), 2) := by decide +kernel
theorem dX3_add_18 : decode cX3_add 18 = .ok (.ireturn, 1) := by decide +kernel
theorem dX3_add_19 : decode cX3_add 19 = .ok (.aload_n 0, 1) := by decide +kernel
theorem dX3_add_20 : decode cX3_add 20 = .ok (.getfield 9, 3) := by decide +kernel
theorem dX3_add_23 : decode cX3_add 23 = .ok (.aload_n 0, 1) := by decide +kernel
theorem dX3_add_24 : decode cX3_add 24 = .ok (.getfield 28, 3) := by decide +kernel
theorem dX3_add_27 : decode cX3_add 27 = .ok (.iload_n 1, 1) := by decide +kernel
theorem dX3_add_28 : decode cX3_add 28 = .ok (.iastore, 1) := by decide +kernel
theorem dX3_add_29 : decode cX3_add 29 = .ok (.aload_n 0, 1) := by decide +kernel
theorem dX3_add_30 : decode cX3_add 30 = .ok (.getfield 15, 3) := by decide +kernel
theorem dX3_add_33 : decode cX3_add 33 = .ok (.aload_n 0, 1) := by decide +kernel
theorem dX3_add_34 : decode cX3_add 34 = .ok (.getfield 28, 3) := by decide +kernel
theorem dX3_add_37 : decode cX3_add 37 = .ok (.iload_n 2, 1) := by decide +kernel
theorem dX3_add_38 : decode cX3_add 38 = .ok (.iastore, 1) := by decide +kernel
theorem dX3_add_39 : decode cX3_add 39 = .ok (.aload_n 0, 1) := by decide +kernel
theorem dX3_add_40 : decode cX3_add 40 = .ok (.getfield 18, 3) := by decide +kernel
theorem dX3_add_43 : decode cX3_add 43 = .ok (.aload_n 0, 1) := by decide +kernel
theorem dX3_add_44 : decode cX3_add 44 = .ok (.getfield 28, 3) := by decide +kernel
theorem dX3_add_47 : decode cX3_add 47 = .ok (.iload_n 3, 1) := by decide +kernel
theorem dX3_add_48 : decode cX3_add 48 = .ok (.iastore, 1) := by decide +kernel
theorem dX3_add_49 : decode cX3_add 49 = .ok (.aload_n 0, 1) := by decide +kernel
theorem dX3_add_50 : decode cX3_add 50 = .ok (.getfield 21, 3) := by decide +kernel
theorem dX3_add_53 : decode cX3_add 53 = .ok (.aload_n 0, 1) := by decide +kernel
theorem dX3_add_54 : decode cX3_add 54 = .ok (.getfield 28, 3) := by decide +kernel
theorem dX3_add_57 : decode cX3_add 57 = .ok (.iload 4, 2) := by decide +kernel
theorem dX3_add_59 : decode cX3_add 59 = .ok (.iastore, 1) := by decide +kernel
theorem dX3_add_60 : decode cX3_add 60 = .ok (.aload_n 0, 1) := by decide +kernel
theorem dX3_add_61 : decode cX3_add 61 = .ok (.dup, 1) := by decide +kernel
theorem dX3_add_62 : decode cX3_add 62 = .ok (.getfield 28, 3) := by decide +kernel
theorem dX3_add_65 : decode cX3_add 65 = .ok (.dup_x1, 1) := by decide +kernel
theorem dX3_add_66 : decode cX3_add 66 = .ok (.iconst 1, 1) := by decide +kernel
theorem dX3_add_67 : decode cX3_add 67 = .ok (.iadd, 1) := by decide +kernel
theorem dX3_add_68 : decode cX3_add 68 = .ok (.putfield 28, 3) := by decide +kernel
theorem dX3_add_71 : decode cX3_add 71 = .ok (.ireturn, 1) := by decide +kernel
theorem dX3_copy_0 : decode cX3_copy 0 = .ok (.aload_n 1, 1) := by decide +kernel
theorem dX3_copy_1 : decode cX3_copy 1 = .ok (.getfield 9, 3) := by decide +kernel
theorem dX3_copy_4 : decode cX3_copy 4 = .ok (.iconst 0, 1) := by decide +kernel
theorem dX3_copy_5 : decode cX3_copy 5 = .ok (.aload_n 0, 1) := by decide +kernel
theorem dX3_copy_6 : decode cX3_copy 6 = .ok (.getfield 9, 3) := by decide +kernel
theorem dX3_copy_9 : decode cX3_copy 9 = .ok (.iconst 0, 1) := by decide +kernel
theorem dX3_copy_10 : decode cX3_copy 10 = .ok (.bipush 10, 2) := by decide +kernel
theorem dX3_copy_12 : decode cX3_copy 12 = .ok (.invokestatic 31, 3) := by decide +kernel
theorem dX3_copy_15 : decode cX3_copy 15 = .ok (.aload_n 1, 1) := by decide +kernel
theorem dX3_copy_16 : decode cX3_copy 16 = .ok (.getfield 15, 3) := by decide +kernel
theorem dX3_copy_19 : decode cX3_copy 19 = .ok (.iconst 0, 1) := by decide +kernel
theorem dX3_copy_20 : decode cX3_copy 20 = .ok (.aload_n 0, 1) := by decide +kernel
theorem dX3_copy_21 : decode cX3_copy 21 = .ok (.getfield 15, 3) := by decide +kernel
theorem dX3_copy_24 : decode cX3_copy 24 = .ok (.iconst 0, 1) := by decide +kernel
theorem dX3_copy_25 : decode cX3_copy 25 = .ok (.bipush 10, 2) := by decide +kernel
theorem dX3_copy_27 : decode cX3_copy 27 = .ok (.invokestatic 31, 3) := by decide +kernel
theorem dX3_copy_30 : decode cX3_copy 30 = .ok (.aload_n 1, 1) := by decide +kernel
theorem dX3_copy_31 : decode cX3_copy 31 = .ok (.getfield 18, 3) := by decide +kernel
theorem dX3_copy_34 : decode cX3_copy 34 = .ok (.iconst 0, 1) := by decide +kernel
theorem dX3_copy_35 : decode cX3_copy 35 = .ok (.aload_n 0, 1) := by decide +kernel
theorem dX3_copy_36 : decode cX3_copy 36 = .ok (.getfield 18, 3) := by decide +kernel
theorem dX3_copy_39 : decode cX3_copy 39 = .ok (.iconst 0, 1) := by decide +kernel
theorem dX3_copy_40 : decode cX3_copy 40 = .ok (.bipush 10, 2) := by decide +kernel
theorem dX3_copy_42 : decode cX3_copy 42 = .ok (.invokestatic 31, 3) := by decide +kernel
theorem dX3_copy_45 : decode cX3_copy 45 = .ok (.aload_n 1, 1) := by decide +kernel
theorem dX3_copy_46 : decode cX3_copy 46 = .ok (.getfield 21, 3) := by decide +kernel
theorem dX3_copy_49 : decode cX3_copy 49 = .ok (.iconst 0, 1) := by decide +kernel
theorem dX3_copy_50 : decode cX3_copy 50 = .ok (.aload_n 0, 1) := by decide +kernel
theorem dX3_copy_51 : decode cX3_copy 51 = .ok (.getfield 21, 3) := by decide +kernel
theorem dX3_copy_54 : decode cX3_copy 54 = .ok (.iconst 0, 1) := by decide +kernel
theorem dX3_copy_55 : decode cX3_copy 55 = .ok (.bipush 10, 2) := by decide +kernel
theorem dX3_copy_57 : decode cX3_copy 57 = .ok (.invokestatic 31, 3) := by decide +kernel
theorem dX3_copy_60 : decode cX3_copy 60 = .ok (.aload_n 0, 1) := by decide +kernel
theorem dX3_copy_61 : decode cX3_copy 61 = .ok (.aload_n 1, 1) := by decide +kernel
theorem dX3_copy_62 : decode cX3_copy 62 = .ok (.getfield 24, 3) := by decide +kernel
theorem dX3_copy_65 : decode cX3_copy 65 = .ok (.putfield 24, 3) := by decide +kernel
theorem dX3_copy_68 : decode cX3_copy 68 = .ok (.aload_n 0, 1) := by decide +kernel
theorem dX3_copy_69 : decode cX3_copy 69 = .ok (.aload_n 1, 1) := by decide +kernel
theorem dX3_copy_70 : decode cX3_copy 70 = .ok (.getfield 28, 3) := by decide +kernel
theorem dX3_copy_73 : decode cX3_copy 73 = .ok (.putfield 28, 3) := by decide +kernel
theorem dX3_copy_76 : decode cX3_copy 76 = .ok (.return_, 1) := by decide +kernel
theorem dX4_init_0 : decode cX4_init 0 = .ok (.aload_n 0, 1) := by decide +kernel
theorem dX4_init_1 : decode cX4_init 1 = .ok (.invokespecial 3, 3) := by decide +kernel
theorem dX4_init_4 : decode cX4_init 4 = .ok (.aload_n 0, 1) := by decide +kernel
theorem dX4_init_5 : decode cX4_init 5 = .ok (.bipush 12, 2) := by decide +kernel
theorem dX4_init_7 : decode cX4_init 7 = .ok (.newarray .int, 2) := by decide +kernel
theorem dX4_init_9 : decode cX4_init 9 = .ok (.putfield 9, 3) := by decide +kernel
theorem dX4_init_12 : decode cX4_init 12 = .ok (.aload_n 0, 1) := by decide +kernel
theorem dX4_init_13 : decode cX4_init 13 = .ok (.bipush 12, 2) := by decide +kernel
theorem dX4_init_15 : decode cX4_init 15 = .ok (.newarray .int, 2) := by decide +kernel
theorem dX4_init_17 : decode cX4_init 17 = .ok (.putfield 15, 3) := by decide +kernel
theorem dX4_init_20 : decode cX4_init 20 = .ok (.aload_n 0, 1) := by decide +kernel
theorem dX4_init_21 : decode cX4_init 21 = .ok (.bipush 12, 2) := by decide +kernel
theorem dX4_init_23 : decode cX4_init 23 = .ok (.newarray .int, 2) := by decide +kernel
theorem dX4_init_25 : decode cX4_init 25 = .ok (.putfield 18, 3) := by decide +kernel
theorem dX4_init_28 : decode cX4_init 28 = .ok (.aload_n 0, 1) := by decide +kernel
theorem dX4_init_29 : decode cX4_init 29 = .ok (.iconst 0, 1) := by decide +kernel
theorem dX4_init_30 : decode cX4_init 30 = .ok (.putfield 21, 3) := by decide +kernel
theorem dX4_init_33 : decode cX4_init 33 = .ok (.return_, 1) := by decide +kernel
theorem dX4_add_0 : decode cX4_add 0 = .ok (.aload_n 0, 1) := by decide +kernel
theorem dX4_add_1 : decode cX4_add 1 = .ok (.getfield 21, 3) := by decide +kernel
theorem dX4_add_4 : decode cX4_add 4 = .ok (.ifCond .lt 12, 3) := by decide +kernel
theorem dX4_add_7 : decode cX4_add 7 = .ok (.aload_n 0, 1) := by decide +kernel
theorem dX4_add_8 : decode cX4_add 8 = .ok (.getfield 21, 3) := by decide +kernel
theorem dX4_add_11 : decode cX4_add 11 = .ok (.bipush 12, 2) := by decide +kernel
theorem dX4_add_13 : decode cX4_add 13 = .ok (.if_icmp .lt 6, 3) := by decide +kernel
theorem dX4_add_16 : decode cX4_add 16 = .ok (.bipush (-4), 2) := by decide +kernel
theorem dX4_add_18 : decode cX4_add 18 = .ok (.ireturn, 1) := by decide +kernel
theorem dX4_add_19 : decode cX4_add 19 = .ok (.aload_n 0, 1) := by decide +kernel
theorem dX4_add_20 : decode cX4_add 20 = .ok (.getfield 9, 3) := by decide +kernel
theorem dX4_add_23 : decode cX4_add 23 = .ok (.aload_n 0, 1) := by decide +kernel
theorem dX4_add_24 : decode cX4_add 24 = .ok (.getfield 21, 3) := by decide +kernel
theorem dX4_add_27 : decode cX4_add 27 = .ok (.iload_n 1, 1) := by decide +kernel
theorem dX4_add_28 : decode cX4_add 28 = .ok (.iastore, 1) := by decide +kernel
theorem dX4_add_29 : decode cX4_add 29 = .ok (.aload_n 0, 1) := by decide +kernel
theorem dX4_add_30 : decode cX4_add 30 = .ok (.getfield 15, 3) := by decide +kernel
theorem dX4_add_33 : decode cX4_add 33 = .ok (.aload_n 0, 1) := by decide +kernel
theorem dX4_add_34 : decode cX4_add 34 = .ok (.getfield 21, 3) := by decide +kernel
theorem dX4_add_37 : decode cX4_add 37 = .ok (.iload_n 2, 1) := by decide +kernel
theorem dX4_add_38 : decode cX4_add 38 = .ok (.iastore, 1) := by decide +kernel
theorem dX4_add_39 : decode cX4_add 39 = .ok (.aload_n 0, 1) := by decide +kernel
theorem dX4_add_40 : decode cX4_add 40 = .ok (.getfield 18, 3) := by decide +kernel
theorem dX4_add_43 : decode cX4_add 43 = .ok (.aload_n 0, 1) := by decide +kernel
theorem dX4_add_44 : decode cX4_add 44 = .ok (.getfield 21, 3) := by decide +kernel
theorem dX4_add_47 : decode cX4_add 47 = .ok (.iload_n 3, 1) := by decide +kernel
theorem dX4_add_48 : decode cX4_add 48 = .ok (.iastore, 1) := by decide +kernel
theorem dX4_add_49 : decode cX4_add 49 = .ok (.aload_n 0, 1) := by decide +kernel
theorem dX4_add_50 : decode cX4_add 50 = .ok (.dup, 1) := by decide +kernel
theorem dX4_add_51 : decode cX4_add 51 = .ok (.getfield 21, 3) := by decide +kernel
theorem dX4_add_54 : decode cX4_add 54 = .ok (.iconst 1, 1) := by decide +kernel
theorem dX4_add_55 : decode cX4_add 55 = .ok (.iadd, 1) := by decide +kernel
theorem dX4_add_56 : decode cX4_add 56 = .ok (.putfield 21, 3) := by decide +kernel
theorem dX4_add_59 : decode cX4_add 59 = .ok (.aload_n 0, 1) := by decide +kernel
theorem dX4_add_60 : decode cX4_add 60 = .ok (.getfield 21, 3) := by decide +kernel
theorem dX4_add_63 : decode cX4_add 63 = .ok (.ireturn, 1) := by decide +kernel
theorem dX4_copy_0 : decode cX4_copy 0 = .ok (.aload_n 1, 1) := by decide +kernel
theorem dX4_copy_1 : decode cX4_copy 1 = .ok (.getfield 9, 3) := by decide +kernel
theorem dX4_copy_4 : decode cX4_copy 4 = .ok (.iconst 0, 1) := by decide +kernel
theorem dX4_copy_5 : decode cX4_copy 5 = .ok (.aload_n 0, 1) := by decide +kernel
theorem dX4_copy_6 : decode cX4_copy 6 = .ok (.getfield 9, 3) := by decide +kernel
theorem dX4_copy_9 : decode cX4_copy 9 = .ok (.iconst 0, 1) := by decide +kernel
theorem dX4_copy_10 : decode cX4_copy 10 = .ok (.bipush 12, 2) := by decide +kernel
theorem dX4_copy_12 : decode cX4_copy 12 = .ok (.invokestatic 25, 3) := by decide +kernel
theorem dX4_copy_15 : decode cX4_copy 15 = .ok (.aload_n 1, 1) := by decide +kernel
theorem dX4_copy_16 : decode cX4_copy 16 = .ok (.getfield 15, 3) := by decide +kernel
theorem dX4_copy_19 : decode cX4_copy 19 = .ok (.iconst 0, 1) := by decide +kernel
theorem dX4_copy_20 : decode cX4_copy 20 = .ok (.aload_n 0, 1) := by decide +kernel
theorem dX4_copy_21 : decode cX4_copy 21 = .ok (.getfield 15, 3) := by decide +kernel
theorem dX4_copy_24 : decode cX4_copy 24 = .ok (.iconst 0, 1) := by decide +kernel
theorem dX4_copy_25 : decode cX4_copy 25 = .ok (.bipush 12, 2) := by decide +kernel
theorem dX4_copy_27 : decode cX4_copy 27 = .ok (.invokestatic 25, 3) := by decide +kernel
theorem dX4_copy_30 : decode cX4_copy 30 = .ok (.aload_n 1, 1) := by decide +kernel
theorem dX4_copy_31 : decode cX4_copy 31 = .ok (.getfield 18, 3) := by decide +kernel
theorem dX4_copy_34 : decode cX4_copy 34 = .ok (.iconst 0, 1) := by decide +kernel
theorem dX4_copy_35 : decode cX4_copy 35 = .ok (.aload_n 0, 1) := by decide +kernel
theorem dX4_copy_36 : decode cX4_copy 36 = .ok (.getfield 18, 3) := by decide +kernel
theorem dX4_copy_39 : decode cX4_copy 39 = .ok (.iconst 0, 1) := by decide +kernel
theorem dX4_copy_40 : decode cX4_copy 40 = .ok (.bipush 12, 2) := by decide +kernel
theorem dX4_copy_42 : decode cX4_copy 42 = .ok (.invokestatic 25, 3) := by decide +kernel
theorem dX4_copy_45 : decode cX4_copy 45 = .ok (.aload_n 0, 1) := by decide +kernel
theorem dX4_copy_46 : decode cX4_copy 46 = .ok (.aload_n 1, 1) := by decide +kernel
theorem dX4_copy_47 : decode cX4_copy 47 = .ok (.getfield 21, 3) := by decide +kernel
theorem dX4_copy_50 : decode cX4_copy 50 = .ok (.putfield 21, 3) := by decide +kernel
theorem dX4_copy_53 : decode cX4_copy 53 = .ok (.return_, 1) := by decide +kernel
theorem dX5_init_0 : decode cX5_init 0 = .ok (.aload_n 0, 1) := by decide +kernel
theorem dX5_init_1 : decode cX5_init 1 = .ok (.invokespecial 3, 3) := by decide +kernel
theorem dX5_init_4 : decode cX5_init 4 = .ok (.aload_n 0, 1) := by decide +kernel
theorem dX5_init_5 : decode cX5_init 5 = .ok (.new 9, 3) := by decide +kernel
theorem dX5_init_8 : decode cX5_init 8 = .ok (.dup, 1) := by decide +kernel
theorem dX5_init_9 : decode cX5_init 9 = .ok (.invokespecial 11, 3) := by decide +kernel
theorem dX5_init_12 : decode cX5_init 12 = .ok (.putfield 12, 3) := by decide +kernel
theorem dX5_init_15 : decode cX5_init 15 = .ok (.aload_n 0, 1) := by decide +kernel
theorem dX5_init_16 : decode cX5_init 16 = .ok (.new 18, 3) := by decide +kernel
theorem dX5_init_19 : decode cX5_init 19 = .ok (.dup, 1) := by decide +kernel
theorem dX5_init_20 : decode cX5_init 20 = .ok (.invokespecial 20, 3) := by decide +kernel
theorem dX5_init_23 : decode cX5_init 23 = .ok (.putfield 21, 3) := by decide +kernel
theorem dX5_init_26 : decode cX5_init 26 = .ok (.aload_n 0, 1) := by decide +kernel
theorem dX5_init_27 : decode cX5_init 27 = .ok (.iconst 0, 1) := by decide +kernel
theorem dX5_init_28 : decode cX5_init 28 = .ok (.putfield 25, 3) := by decide +kernel
theorem dX5_init_31 : decode cX5_init 31 = .ok (.return_, 1) := by decide +kernel
theorem dX5_reads_0 : decode cX5_reads 0 = .ok (.aload_n 0, 1) := by decide +kernel
theorem dX5_reads_1 : decode cX5_reads 1 = .ok (.getfield 21, 3) := by decide +kernel
theorem dX5_reads_4 : decode cX5_reads 4 = .ok (.aload_n 1, 1) := by decide +kernel
theorem dX5_reads_5 : decode cX5_reads 5 = .ok (.invokevirtual 29, 3) := by decide +kernel
theorem dX5_reads_8 : decode cX5_reads 8 = .ok (.aload_n 0, 1) := by decide +kernel
theorem dX5_reads_9 : decode cX5_reads 9 = .ok (.iconst 0, 1) := by decide +kernel
theorem dX5_reads_10 : decode cX5_reads 10 = .ok (.putfield 25, 3) := by decide +kernel
theorem dX5_reads_13 : decode cX5_reads 13 = .ok (.aload_n 0, 1) := by decide +kernel
theorem dX5_reads_14 : decode cX5_reads 14 = .ok (.getfield 12, 3) := by decide +kernel
theorem dX5_reads_17 : decode cX5_reads 17 = .ok (.invokevirtual 33, 3) := by decide +kernel
theorem dX5_reads_20 : decode cX5_reads 20 = .ok (.iconst 1, 1) := by decide +kernel
theorem dX5_reads_21 : decode cX5_reads 21 = .ok (.istore_n 2, 1) := by decide +kernel
theorem dX5_reads_22 : decode cX5_reads 22 = .ok (.iload_n 2, 1) := by decide +kernel
theorem dX5_reads_23 : decode cX5_reads 23 = .ok (.bipush 10, 2) := by decide +kernel
theorem dX5_reads_25 : decode cX5_reads 25 = .ok (.if_icmp .gt 51, 3) := by decide +kernel
theorem dX5_reads_28 : decode cX5_reads 28 = .ok (.aload_n 0, 1) := by decide +kernel
theorem dX5_reads_29 : decode cX5_reads 29 = .ok (.invokevirtual 36, 3) := by decide +kernel
theorem dX5_reads_32 : decode cX5_reads 32 = .ok (.ifCond .ne 5, 3) := by decide +kernel
theorem dX5_reads_35 : decode cX5_reads 35 = .ok (.iconst 0, 1) := by decide +kernel
theorem dX5_reads_36 : decode cX5_reads 36 = .ok (.ireturn, 1) := by decide +kernel
theorem dX5_reads_37 : decode cX5_reads 37 = .ok (.aload_n 0, 1) := by decide +kernel
theorem dX5_reads_38 : decode cX5_reads 38 = .ok (.getfield 25, 3) := by decide +kernel
theorem dX5_reads_41 : decode cX5_reads 41 = .ok (.aload_n 0, 1) := by decide +kernel
theorem dX5_reads_42 : decode cX5_reads 42 = .ok (.getfield 21, 3) := by decide +kernel
theorem dX5_reads_45 : decode cX5_reads 45 = .ok (.getfield 40, 3) := by decide +kernel
theorem dX5_reads_48 : decode cX5_reads 48 = .ok (.if_icmp .lt 5, 3) := by decide +kernel
theorem dX5_reads_51 : decode cX5_reads 51 = .ok (.iconst 1, 1) := by decide +kernel
theorem dX5_reads_52 : decode cX5_reads 52 = .ok (.ireturn, 1) := by decide +kernel
theorem dX5_reads_53 : decode cX5_reads 53 = .ok (.iload_n 2, 1) := by decide +kernel
theorem dX5_reads_54 : decode cX5_reads 54 = .ok (.bipush 10, 2) := by decide +kernel
theorem dX5_reads_56 : decode cX5_reads 56 = .ok (.if_icmp .eq 12, 3) := by decide +kernel
theorem dX5_reads_59 : decode cX5_reads 59 = .ok (.aload_n 0, 1) := by decide +kernel
theorem dX5_reads_60 : decode cX5_reads 60 = .ok (.bipush 59, 2) := by decide +kernel
theorem dX5_reads_62 : decode cX5_reads 62 = .ok (.invokevirtual 43, 3) := by decide +kernel
theorem dX5_reads_65 : decode cX5_reads 65 = .ok (.ifCond .ne 5, 3) := by decide +kernel
theorem dX5_reads_68 : decode cX5_reads 68 = .ok (.iconst 0, 1) := by decide +kernel
theorem dX5_reads_69 : decode cX5_reads 69 = .ok (.ireturn, 1) := by decide +kernel
theorem dX5_reads_70 : decode cX5_reads 70 = .ok (.iinc 2 1, 3) := by decide +kernel
theorem dX5_reads_73 : decode cX5_reads 73 = .ok (.goto (-51), 3) := by decide +kernel
theorem dX5_reads_76 : decode cX5_reads 76 = .ok (.iconst 0, 1) := by decide +kernel
theorem dX5_reads_77 : decode cX5_reads 77 = .ok (.ireturn, 1) := by decide +kernel
theorem dX5_peek_0 : decode cX5_peek 0 = .ok (.aload_n 0, 1) := by decide +kernel
theorem dX5_peek_1 : decode cX5_peek 1 = .ok (.getfield 25, 3) := by decide +kernel
theorem dX5_peek_4 : decode cX5_peek 4 = .ok (.ifCond .lt 47, 3) := by decide +kernel
theorem dX5_peek_7 : decode cX5_peek 7 = .ok (.aload_n 0, 1) := by decide +kernel
theorem dX5_peek_8 : decode cX5_peek 8 = .ok (.getfield 25, 3) := by decide +kernel
theorem dX5_peek_11 : decode cX5_peek 11 = .ok (.aload_n 0, 1) := by decide +kernel
theorem dX5_peek_12 : decode cX5_peek 12 = .ok (.getfield 21, 3) := by decide +kernel
theorem dX5_peek_15 : decode cX5_peek 15 = .ok (.getfield 40, 3) := by decide +kernel
theorem dX5_peek_18 : decode cX5_peek 18 = .ok (.if_icmp .ge 33, 3) := by decide +kernel
theorem dX5_peek_21 : decode cX5_peek 21 = .ok (.aload_n 0, 1) := by decide +kernel
theorem dX5_peek_22 : decode cX5_peek 22 = .ok (.getfield 25, 3) := by decide +kernel
theorem dX5_peek_25 : decode cX5_peek 25 = .ok (.aload_n 0, 1) := by decide +kernel
theorem dX5_peek_26 : decode cX5_peek 26 = .ok (.getfield 21, 3) := by decide +kernel
theorem dX5_peek_29 : decode cX5_peek 29 = .ok (.getfield 47, 3) := by decide +kernel
theorem dX5_peek_32 : decode cX5_peek 32 = .ok (.arraylength, 1) := by decide +kernel
theorem dX5_peek_33 : decode cX5_peek 33 = .ok (.if_icmp .ge 18, 3) := by decide +kernel
theorem dX5_peek_36 : decode cX5_peek 36 = .ok (.aload_n 0, 1) := by decide +kernel
theorem dX5_peek_37 : decode cX5_peek 37 = .ok (.getfield 21, 3) := by decide +kernel
theorem dX5_peek_40 : decode cX5_peek 40 = .ok (.getfield 47, 3) := by decide +kernel
theorem dX5_peek_43 : decode cX5_peek 43 = .ok (.aload_n 0, 1) := by decide +kernel
theorem dX5_peek_44 : decode cX5_peek 44 = .ok (.getfield 25, 3) := by decide +kernel
theorem dX5_peek_47 : decode cX5_peek 47 = .ok (.iaload, 1) := by decide +kernel
theorem dX5_peek_48 : decode cX5_peek 48 = .ok (.goto 4, 3) := by decide +kernel
theorem dX5_peek_51 : decode cX5_peek 51 = .ok (.iconst (-1), 1) := by decide +kernel
theorem dX5_peek_52 : decode cX5_peek 52 = .ok (.ireturn, 1) := by decide +kernel
theorem dX5_eats_0 : decode cX5_eats 0 = .ok (.aload_n 0, 1) := by decide +kernel
theorem dX5_eats_1 : decode cX5_eats 1 = .ok (.invokevirtual 51, 3) := by decide +kernel
theorem dX5_eats_4 : decode cX5_eats 4 = .ok (.iload_n 1, 1) := by decide +kernel
theorem dX5_eats_5 : decode cX5_eats 5 = .ok (.if_icmp .eq 5, 3) := by decide +kernel
theorem dX5_eats_8 : decode cX5_eats 8 = .ok (.iconst 0, 1) := by decide +kernel
theorem dX5_eats_9 : decode cX5_eats 9 = .ok (.ireturn, 1) := by decide +kernel
theorem dX5_eats_10 : decode cX5_eats 10 = .ok (.aload_n 0, 1) := by decide +kernel
theorem dX5_eats_11 : decode cX5_eats 11 = .ok (.dup, 1) := by decide +kernel
theorem dX5_eats_12 : decode cX5_eats 12 = .ok (.getfield 25, 3) := by decide +kernel
theorem dX5_eats_15 : decode cX5_eats 15 = .ok (.iconst 1, 1) := by decide +kernel
theorem dX5_eats_16 : decode cX5_eats 16 = .ok (.iadd, 1) := by decide +kernel
theorem dX5_eats_17 : decode cX5_eats 17 = .ok (.putfield 25, 3) := by decide +kernel
theorem dX5_eats_20 : decode cX5_eats 20 = .ok (.iconst 1, 1) := by decide +kernel
theorem dX5_eats_21 : decode cX5_eats 21 = .ok (.ireturn, 1) := by decide +kernel
theorem dX5_clause_0 : decode cX5_clause 0 = .ok (.aload_n 0, 1) := by decide +kernel
theorem dX5_clause_1 : decode cX5_clause 1 = .ok (.invokevirtual 55, 3) := by decide +kernel
theorem dX5_clause_4 : decode cX5_clause 4 = .ok (.istore_n 1, 1) := by decide +kernel
theorem dX5_clause_5 : decode cX5_clause 5 = .ok (.iload_n 1, 1) := by decide +kernel
theorem dX5_clause_6 : decode cX5_clause 6 = .ok (.ifCond .ge 5, 3) := by decide +kernel
theorem dX5_clause_9 : decode cX5_clause 9 = .ok (.iconst 0, 1) := by decide +kernel
theorem dX5_clause_10 : decode cX5_clause 10 = .ok (.ireturn, 1) := by decide +kernel
theorem dX5_clause_11 : decode cX5_clause 11 = .ok (.aload_n 0, 1) := by decide +kernel
theorem dX5_clause_12 : decode cX5_clause 12 = .ok (.invokevirtual 58, 3) := by decide +kernel
theorem dX5_clause_15 : decode cX5_clause 15 = .ok (.istore_n 2, 1) := by decide +kernel
theorem dX5_clause_16 : decode cX5_clause 16 = .ok (.iload_n 2, 1) := by decide +kernel
theorem dX5_clause_17 : decode cX5_clause 17 = .ok (.ifCond .ge 5, 3) := by decide +kernel
theorem dX5_clause_20 : decode cX5_clause 20 = .ok (.iconst 0, 1) := by decide +kernel
theorem dX5_clause_21 : decode cX5_clause 21 = .ok (.ireturn, 1) := by decide +kernel
theorem dX5_clause_22 : decode cX5_clause 22 = .ok (.iload_n 1, 1) := by decide +kernel
theorem dX5_clause_23 : decode cX5_clause 23 = .ok (.iconst 2, 1) := by decide +kernel
theorem dX5_clause_24 : decode cX5_clause 24 = .ok (.isub, 1) := by decide +kernel
theorem dX5_clause_25 : decode cX5_clause 25 = .ok (.istore_n 3, 1) := by decide +kernel
theorem dX5_clause_26 : decode cX5_clause 26 = .ok (.iload_n 3, 1) := by decide +kernel
theorem dX5_clause_27 : decode cX5_clause 27 = .ok (.ifCond .lt 20, 3) := by decide +kernel
theorem dX5_clause_30 : decode cX5_clause 30 = .ok (.iload_n 3, 1) := by decide +kernel
theorem dX5_clause_31 : decode cX5_clause 31 = .ok (.iconst 5, 1) := by decide +kernel
theorem dX5_clause_32 : decode cX5_clause 32 = .ok (.if_icmp .ge 15, 3) := by decide +kernel
theorem dX5_clause_35 : decode cX5_clause 35 = .ok (.aload_n 0, 1) := by decide +kernel
theorem dX5_clause_36 : decode cX5_clause 36 = .ok (.getfield 12, 3) := by decide +kernel
theorem dX5_clause_39 : decode cX5_clause 39 = .ok (.getfield 61, 3) := by decide +kernel
theorem dX5_clause_42 : decode cX5_clause 42 = .ok (.iload_n 3, 1) := by decide +kernel
theorem dX5_clause_43 : decode cX5_clause 43 = .ok (.iload_n 2, 1) := by decide +kernel
theorem dX5_clause_44 : decode cX5_clause 44 = .ok (.iastore, 1) := by decide +kernel
theorem dX5_clause_45 : decode cX5_clause 45 = .ok (.iconst 1, 1) := by decide +kernel
theorem dX5_clause_46 : decode cX5_clause 46 = .ok (.ireturn, 1) := by decide +kernel
theorem dX5_clause_47 : decode cX5_clause 47 = .ok (.aload_n 0, 1) := by decide +kernel
theorem dX5_clause_48 : decode cX5_clause 48 = .ok (.bipush 32, 2) := by decide +kernel
theorem dX5_clause_50 : decode cX5_clause 50 = .ok (.invokevirtual 43, 3) := by decide +kernel
theorem dX5_clause_53 : decode cX5_clause 53 = .ok (.ifCond .eq 11, 3) := by decide +kernel
theorem dX5_clause_56 : decode cX5_clause 56 = .ok (.aload_n 0, 1) := by decide +kernel
theorem dX5_clause_57 : decode cX5_clause 57 = .ok (.iconst 0, 1) := by decide +kernel
theorem dX5_clause_58 : decode cX5_clause 58 = .ok (.invokevirtual 64, 3) := by decide +kernel
theorem dX5_clause_61 : decode cX5_clause 61 = .ok (.ifCond .ne 5, 3) := by decide +kernel
theorem dX5_clause_64 : decode cX5_clause 64 = .ok (.iconst 0, 1) := by decide +kernel
theorem dX5_clause_65 : decode cX5_clause 65 = .ok (.ireturn, 1) := by decide +kernel
theorem dX5_clause_66 : decode cX5_clause 66 = .ok (.aload_n 0, 1) := by decide +kernel
theorem dX5_clause_67 : decode cX5_clause 67 = .ok (.getfield 12, 3) := by decide +kernel
theorem dX5_clause_70 : decode cX5_clause 70 = .ok (.iload_n 1, 1) := by decide +kernel
theorem dX5_clause_71 : decode cX5_clause 71 = .ok (.ifCond .ne 7, 3) := by decide +kernel
theorem dX5_clause_74 : decode cX5_clause 74 = .ok (.iconst 1, 1) := by decide +kernel
theorem dX5_clause_75 : decode cX5_clause 75 = .ok (.goto 4, 3) := by decide +kernel
theorem dX5_clause_78 : decode cX5_clause 78 = .ok (.iconst 0, 1) := by decide +kernel
theorem dX5_clause_79 : decode cX5_clause 79 = .ok (.iload_n 2, 1) := by decide +kernel
theorem dX5_clause_80 : decode cX5_clause 80 = .ok (.invokevirtual 68, 3) := by decide +kernel
theorem dX5_clause_83 : decode cX5_clause 83 = .ok (.iconst 1, 1) := by decide +kernel
theorem dX5_clause_84 : decode cX5_clause 84 = .ok (.ireturn, 1) := by decide +kernel
theorem dX5_word_0 : decode cX5_word 0 = .ok (.bipush 127, 2) := by decide +kernel
theorem dX5_word_2 : decode cX5_word 2 = .ok (.istore_n 1, 1) := by decide +kernel
theorem dX5_word_3 : decode cX5_word 3 = .ok (.iconst 0, 1) := by decide +kernel
theorem dX5_word_4 : decode cX5_word 4 = .ok (.istore_n 2, 1) := by decide +kernel
theorem dX5_word_5 : decode cX5_word 5 = .ok (.iload_n 2, 1) := by decide +kernel
theorem dX5_word_6 : decode cX5_word 6 = .ok (.iconst 5, 1) := by decide +kernel
theorem dX5_word_7 : decode cX5_word 7 = .ok (.if_icmp .ge 103, 3) := by decide +kernel
theorem dX5_word_10 : decode cX5_word 10 = .ok (.iconst (-1), 1) := by decide +kernel
theorem dX5_word_11 : decode cX5_word 11 = .ok (.istore_n 3, 1) := by decide +kernel
theorem dX5_word_12 : decode cX5_word 12 = .ok (.iconst 0, 1) := by decide +kernel
theorem dX5_word_13 : decode cX5_word 13 = .ok (.istore 4, 2) := by decide +kernel
theorem dX5_word_15 : decode cX5_word 15 = .ok (.iconst 0, 1) := by decide +kernel
theorem dX5_word_16 : decode cX5_word 16 = .ok (.istore 5, 2) := by decide +kernel
theorem dX5_word_18 : decode cX5_word 18 = .ok (.iload 5, 2) := by decide +kernel
theorem dX5_word_20 : decode cX5_word 20 = .ok (.bipush 7, 2) := by decide +kernel
theorem dX5_word_22 : decode cX5_word 22 = .ok (.if_icmp .ge 51, 3) := by decide +kernel
theorem dX5_word_25 : decode cX5_word 25 = .ok (.iload_n 1, 1) := by decide +kernel
theorem dX5_word_26 : decode cX5_word 26 = .ok (.iload 5, 2) := by decide +kernel
theorem dX5_word_28 : decode cX5_word 28 = .ok (.ishr, 1) := by decide +kernel
theorem dX5_word_29 : decode cX5_word 29 = .ok (.iconst 1, 1) := by decide +kernel
theorem dX5_word_30 : decode cX5_word 30 = .ok (.iand, 1) := by decide +kernel
theorem dX5_word_31 : decode cX5_word 31 = .ok (.ifCond .eq 36, 3) := by decide +kernel
theorem dX5_word_34 : decode cX5_word 34 = .ok (.ldc 72, 2) := by decide +kernel
theorem dX5_word_36 : decode cX5_word 36 = .ok (.iload 5, 2) := by decide +kernel
theorem dX5_word_38 : decode cX5_word 38 = .ok (.iconst 5, 1) := by decide +kernel
theorem dX5_word_39 : decode cX5_word 39 = .ok (.imul, 1) := by decide +kernel
theorem dX5_word_40 : decode cX5_word 40 = .ok (.iload_n 2, 1) := by decide +kernel
theorem dX5_word_41 : decode cX5_word 41 = .ok (.iadd, 1) := by decide +kernel
theorem dX5_word_42 : decode cX5_word 42 = .ok (.invokevirtual 74, 3) := by decide +kernel
theorem dX5_word_45 : decode cX5_word 45 = .ok (.aload_n 0, 1) := by decide +kernel
theorem dX5_word_46 : decode cX5_word 46 = .ok (.invokevirtual 51, 3) := by decide +kernel
theorem dX5_word_49 : decode cX5_word 49 = .ok (.if_icmp .eq 6, 3) := by decide +kernel
theorem dX5_word_52 : decode cX5_word 52 = .ok (.goto 15, 3) := by decide +kernel
theorem dX5_word_55 : decode cX5_word 55 = .ok (.iload 4, 2) := by decide +kernel
theorem dX5_word_57 : decode cX5_word 57 = .ok (.iconst 1, 1) := by decide +kernel
theorem dX5_word_58 : decode cX5_word 58 = .ok (.iload 5, 2) := by decide +kernel
theorem dX5_word_60 : decode cX5_word 60 = .ok (.ishl, 1) := by decide +kernel
theorem dX5_word_61 : decode cX5_word 61 = .ok (.ior, 1) := by decide +kernel
theorem dX5_word_62 : decode cX5_word 62 = .ok (.istore 4, 2) := by decide +kernel
theorem dX5_word_64 : decode cX5_word 64 = .ok (.iload 5, 2) := by decide +kernel
theorem dX5_word_66 : decode cX5_word 66 = .ok (.istore_n 3, 1) := by decide +kernel
theorem dX5_word_67 : decode cX5_word 67 = .ok (.iinc 5 1, 3) := by decide +kernel
theorem dX5_word_70 : decode cX5_word 70 = .ok (.goto (-52), 3) := by decide +kernel
theorem dX5_word_73 : decode cX5_word 73 = .ok (.iload 4, 2) := by decide +kernel
theorem dX5_word_75 : decode cX5_word 75 = .ok (.ifCond .ne 5, 3) := by decide +kernel
theorem dX5_word_78 : decode cX5_word 78 = .ok (.iconst (-1), 1) := by decide +kernel
theorem dX5_word_79 : decode cX5_word 79 = .ok (.ireturn, 1) := by decide +kernel
theorem dX5_word_80 : decode cX5_word 80 = .ok (.aload_n 0, 1) := by decide +kernel
theorem dX5_word_81 : decode cX5_word 81 = .ok (.bipush 32, 2) := by decide +kernel
theorem dX5_word_83 : decode cX5_word 83 = .ok (.invokevirtual 43, 3) := by decide +kernel
theorem dX5_word_86 : decode cX5_word 86 = .ok (.ifCond .eq 5, 3) := by decide +kernel
theorem dX5_word_89 : decode cX5_word 89 = .ok (.iload_n 3, 1) := by decide +kernel
theorem dX5_word_90 : decode cX5_word 90 = .ok (.ireturn, 1) := by decide +kernel
theorem dX5_word_91 : decode cX5_word 91 = .ok (.aload_n 0, 1) := by decide +kernel
theorem dX5_word_92 : decode cX5_word 92 = .ok (.dup, 1) := by decide +kernel
theorem dX5_word_93 : decode cX5_word 93 = .ok (.getfield 25, 3) := by decide +kernel
theorem dX5_word_96 : decode cX5_word 96 = .ok (.iconst 1, 1) := by decide +kernel
theorem dX5_word_97 : decode cX5_word 97 = .ok (.iadd, 1) := by decide +kernel
theorem dX5_word_98 : decode cX5_word 98 = .ok (.putfield 25, 3) := by decide +kernel
theorem dX5_word_101 : decode cX5_word 101 = .ok (.iload 4, 2) := by decide +kernel
theorem dX5_word_103 : decode cX5_word 103 = .ok (.istore_n 1, 1) := by decide +kernel
theorem dX5_word_104 : decode cX5_word 104 = .ok (.iinc 2 1, 3) := by decide +kernel
theorem dX5_word_107 : decode cX5_word 107 = .ok (.goto (-102), 3) := by decide +kernel
theorem dX5_word_110 : decode cX5_word 110 = .ok (.iconst (-1), 1) := by decide +kernel
theorem dX5_word_111 : decode cX5_word 111 = .ok (.ireturn, 1) := by decide +kernel
theorem dX5_number_0 : decode cX5_number 0 = .ok (.aload_n 0, 1) := by decide +kernel
theorem dX5_number_1 : decode cX5_number 1 = .ok (.invokevirtual 51, 3) := by decide +kernel
theorem dX5_number_4 : decode cX5_number 4 = .ok (.bipush 48, 2) := by decide +kernel
theorem dX5_number_6 : decode cX5_number 6 = .ok (.isub, 1) := by decide +kernel
theorem dX5_number_7 : decode cX5_number 7 = .ok (.istore_n 1, 1) := by decide +kernel
theorem dX5_number_8 : decode cX5_number 8 = .ok (.iload_n 1, 1) := by decide +kernel
theorem dX5_number_9 : decode cX5_number 9 = .ok (.ifCond .lt 9, 3) := by decide +kernel
theorem dX5_number_12 : decode cX5_number 12 = .ok (.iload_n 1, 1) := by decide +kernel
theorem dX5_number_13 : decode cX5_number 13 = .ok (.bipush 9, 2) := by decide +kernel
theorem dX5_number_15 : decode cX5_number 15 = .ok (.if_icmp .le 5, 3) := by decide +kernel
theorem dX5_number_18 : decode cX5_number 18 = .ok (.iconst (-1), 1) := by decide +kernel
theorem dX5_number_19 : decode cX5_number 19 = .ok (.ireturn, 1) := by decide +kernel
theorem dX5_number_20 : decode cX5_number 20 = .ok (.aload_n 0, 1) := by decide +kernel
theorem dX5_number_21 : decode cX5_number 21 = .ok (.dup, 1) := by decide +kernel
theorem dX5_number_22 : decode cX5_number 22 = .ok (.getfield 25, 3) := by decide +kernel
theorem dX5_number_25 : decode cX5_number 25 = .ok (.iconst 1, 1) := by decide +kernel
theorem dX5_number_26 : decode cX5_number 26 = .ok (.iadd, 1) := by decide +kernel
theorem dX5_number_27 : decode cX5_number 27 = .ok (.putfield 25, 3) := by decide +kernel
theorem dX5_number_30 : decode cX5_number 30 = .ok (.aload_n 0, 1) := by decide +kernel
theorem dX5_number_31 : decode cX5_number 31 = .ok (.invokevirtual 51, 3) := by decide +kernel
theorem dX5_number_34 : decode cX5_number 34 = .ok (.bipush 48, 2) := by decide +kernel
theorem dX5_number_36 : decode cX5_number 36 = .ok (.isub, 1) := by decide +kernel
theorem dX5_number_37 : decode cX5_number 37 = .ok (.istore_n 2, 1) := by decide +kernel
theorem dX5_number_38 : decode cX5_number 38 = .ok (.iload_n 1, 1) := by decide +kernel
theorem dX5_number_39 : decode cX5_number 39 = .ok (.ifCond .eq 13, 3) := by decide +kernel
theorem dX5_number_42 : decode cX5_number 42 = .ok (.iload_n 2, 1) := by decide +kernel
theorem dX5_number_43 : decode cX5_number 43 = .ok (.ifCond .lt 9, 3) := by decide +kernel
theorem dX5_number_46 : decode cX5_number 46 = .ok (.iload_n 2, 1) := by decide +kernel
theorem dX5_number_47 : decode cX5_number 47 = .ok (.bipush 9, 2) := by decide +kernel
theorem dX5_number_49 : decode cX5_number 49 = .ok (.if_icmp .le 5, 3) := by decide +kernel
theorem dX5_number_52 : decode cX5_number 52 = .ok (.iload_n 1, 1) := by decide +kernel
theorem dX5_number_53 : decode cX5_number 53 = .ok (.ireturn, 1) := by decide +kernel
theorem dX5_number_54 : decode cX5_number 54 = .ok (.aload_n 0, 1) := by decide +kernel
theorem dX5_number_55 : decode cX5_number 55 = .ok (.dup, 1) := by decide +kernel
theorem dX5_number_56 : decode cX5_number 56 = .ok (.getfield 25, 3) := by decide +kernel
theorem dX5_number_59 : decode cX5_number 59 = .ok (.iconst 1, 1) := by decide +kernel
theorem dX5_number_60 : decode cX5_number 60 = .ok (.iadd, 1) := by decide +kernel
theorem dX5_number_61 : decode cX5_number 61 = .ok (.putfield 25, 3) := by decide +kernel
theorem dX5_number_64 : decode cX5_number 64 = .ok (.bipush 10, 2) := by decide +kernel
theorem dX5_number_66 : decode cX5_number 66 = .ok (.iload_n 1, 1) := by decide +kernel
theorem dX5_number_67 : decode cX5_number 67 = .ok (.imul, 1) := by decide +kernel
theorem dX5_number_68 : decode cX5_number 68 = .ok (.iload_n 2, 1) := by decide +kernel
theorem dX5_number_69 : decode cX5_number 69 = .ok (.iadd, 1) := by decide +kernel
theorem dX5_number_70 : decode cX5_number 70 = .ok (.ireturn, 1) := by decide +kernel
theorem dX5_either_0 : decode cX5_either 0 = .ok (.iconst 0, 1) := by decide +kernel
theorem dX5_either_1 : decode cX5_either 1 = .ok (.istore_n 2, 1) := by decide +kernel
theorem dX5_either_2 : decode cX5_either 2 = .ok (.iconst 0, 1) := by decide +kernel
theorem dX5_either_3 : decode cX5_either 3 = .ok (.istore_n 3, 1) := by decide +kernel
theorem dX5_either_4 : decode cX5_either 4 = .ok (.iconst 0, 1) := by decide +kernel
theorem dX5_either_5 : decode cX5_either 5 = .ok (.istore 4, 2) := by decide +kernel
theorem dX5_either_7 : decode cX5_either 7 = .ok (.iload 4, 2) := by decide +kernel
theorem dX5_either_9 : decode cX5_either 9 = .ok (.bipush 120, 2) := by decide +kernel
theorem dX5_either_11 : decode cX5_either 11 = .ok (.if_icmp .ge 72, 3) := by decide +kernel
theorem dX5_either_14 : decode cX5_either 14 = .ok (.aload_n 0, 1) := by decide +kernel
theorem dX5_either_15 : decode cX5_either 15 = .ok (.iload_n 1, 1) := by decide +kernel
theorem dX5_either_16 : decode cX5_either 16 = .ok (.invokevirtual 80, 3) := by decide +kernel
theorem dX5_either_19 : decode cX5_either 19 = .ok (.ifCond .ne 5, 3) := by decide +kernel
theorem dX5_either_22 : decode cX5_either 22 = .ok (.iconst 0, 1) := by decide +kernel
theorem dX5_either_23 : decode cX5_either 23 = .ok (.ireturn, 1) := by decide +kernel
theorem dX5_either_24 : decode cX5_either 24 = .ok (.iload_n 2, 1) := by decide +kernel
theorem dX5_either_25 : decode cX5_either 25 = .ok (.ifCond .eq 12, 3) := by decide +kernel
theorem dX5_either_28 : decode cX5_either 28 = .ok (.aload_n 0, 1) := by decide +kernel
theorem dX5_either_29 : decode cX5_either 29 = .ok (.getfield 12, 3) := by decide +kernel
theorem dX5_either_32 : decode cX5_either 32 = .ok (.bipush (-2), 2) := by decide +kernel
theorem dX5_either_34 : decode cX5_either 34 = .ok (.invokevirtual 83, 3) := by decide +kernel
theorem dX5_either_37 : decode cX5_either 37 = .ok (.aload_n 0, 1) := by decide +kernel
theorem dX5_either_38 : decode cX5_either 38 = .ok (.bipush 38, 2) := by decide +kernel
theorem dX5_either_40 : decode cX5_either 40 = .ok (.invokevirtual 43, 3) := by decide +kernel
theorem dX5_either_43 : decode cX5_either 43 = .ok (.istore_n 2, 1) := by decide +kernel
theorem dX5_either_44 : decode cX5_either 44 = .ok (.iload_n 2, 1) := by decide +kernel
theorem dX5_either_45 : decode cX5_either 45 = .ok (.ifCond .eq 6, 3) := by decide +kernel
theorem dX5_either_48 : decode cX5_either 48 = .ok (.goto 29, 3) := by decide +kernel
theorem dX5_either_51 : decode cX5_either 51 = .ok (.iload_n 3, 1) := by decide +kernel
theorem dX5_either_52 : decode cX5_either 52 = .ok (.ifCond .eq 12, 3) := by decide +kernel
theorem dX5_either_55 : decode cX5_either 55 = .ok (.aload_n 0, 1) := by decide +kernel
theorem dX5_either_56 : decode cX5_either 56 = .ok (.getfield 12, 3) := by decide +kernel
theorem dX5_either_59 : decode cX5_either 59 = .ok (.bipush (-3), 2) := by decide +kernel
theorem dX5_either_61 : decode cX5_either 61 = .ok (.invokevirtual 83, 3) := by decide +kernel
theorem dX5_either_64 : decode cX5_either 64 = .ok (.aload_n 0, 1) := by decide +kernel
theorem dX5_either_65 : decode cX5_either 65 = .ok (.bipush 124, 2) := by decide +kernel
theorem dX5_either_67 : decode cX5_either 67 = .ok (.invokevirtual 43, 3) := by decide +kernel
theorem dX5_either_70 : decode cX5_either 70 = .ok (.istore_n 3, 1) := by decide +kernel
theorem dX5_either_71 : decode cX5_either 71 = .ok (.iload_n 3, 1) := by decide +kernel
theorem dX5_either_72 : decode cX5_either 72 = .ok (.ifCond .ne 5, 3) := by decide +kernel
theorem dX5_either_75 : decode cX5_either 75 = .ok (.iconst 1, 1) := by decide +kernel
theorem dX5_either_76 : decode cX5_either 76 = .ok (.ireturn, 1) := by decide +kernel
theorem dX5_either_77 : decode cX5_either 77 = .ok (.iinc 4 1, 3) := by decide +kernel
theorem dX5_either_80 : decode cX5_either 80 = .ok (.goto (-73), 3) := by decide +kernel
theorem dX5_either_83 : decode cX5_either 83 = .ok (.iconst 0, 1) := by decide +kernel
theorem dX5_either_84 : decode cX5_either 84 = .ok (.ireturn, 1) := by decide +kernel
theorem dX5_factor_0 : decode cX5_factor 0 = .ok (.iload_n 1, 1) := by decide +kernel
theorem dX5_factor_1 : decode cX5_factor 1 = .ok (.istore_n 2, 1) := by decide +kernel
theorem dX5_factor_2 : decode cX5_factor 2 = .ok (.iconst 0, 1) := by decide +kernel
theorem dX5_factor_3 : decode cX5_factor 3 = .ok (.istore_n 3, 1) := by decide +kernel
theorem dX5_factor_4 : decode cX5_factor 4 = .ok (.iload_n 2, 1) := by decide +kernel
theorem dX5_factor_5 : decode cX5_factor 5 = .ok (.iconst 5, 1) := by decide +kernel
theorem dX5_factor_6 : decode cX5_factor 6 = .ok (.if_icmp .ge 28, 3) := by decide +kernel
theorem dX5_factor_9 : decode cX5_factor 9 = .ok (.aload_n 0, 1) := by decide +kernel
theorem dX5_factor_10 : decode cX5_factor 10 = .ok (.bipush 33, 2) := by decide +kernel
theorem dX5_factor_12 : decode cX5_factor 12 = .ok (.invokevirtual 43, 3) := by decide +kernel
theorem dX5_factor_15 : decode cX5_factor 15 = .ok (.ifCond .eq 19, 3) := by decide +kernel
theorem dX5_factor_18 : decode cX5_factor 18 = .ok (.iload_n 3, 1) := by decide +kernel
theorem dX5_factor_19 : decode cX5_factor 19 = .ok (.ifCond .ne 7, 3) := by decide +kernel
theorem dX5_factor_22 : decode cX5_factor 22 = .ok (.iconst 1, 1) := by decide +kernel
theorem dX5_factor_23 : decode cX5_factor 23 = .ok (.goto 4, 3) := by decide +kernel
theorem dX5_factor_26 : decode cX5_factor 26 = .ok (.iconst 0, 1) := by decide +kernel
theorem dX5_factor_27 : decode cX5_factor 27 = .ok (.istore_n 3, 1) := by decide +kernel
theorem dX5_factor_28 : decode cX5_factor 28 = .ok (.iinc 2 1, 3) := by decide +kernel
theorem dX5_factor_31 : decode cX5_factor 31 = .ok (.goto (-27), 3) := by decide +kernel
theorem dX5_factor_34 : decode cX5_factor 34 = .ok (.iload_n 2, 1) := by decide +kernel
theorem dX5_factor_35 : decode cX5_factor 35 = .ok (.iconst 5, 1) := by decide +kernel
theorem dX5_factor_36 : decode cX5_factor 36 = .ok (.if_icmp .ge 33, 3) := by decide +kernel
theorem dX5_factor_39 : decode cX5_factor 39 = .ok (.aload_n 0, 1) := by decide +kernel
theorem dX5_factor_40 : decode cX5_factor 40 = .ok (.bipush 40, 2) := by decide +kernel
theorem dX5_factor_42 : decode cX5_factor 42 = .ok (.invokevirtual 43, 3) := by decide +kernel
theorem dX5_factor_45 : decode cX5_factor 45 = .ok (.ifCond .eq 24, 3) := by decide +kernel
theorem dX5_factor_48 : decode cX5_factor 48 = .ok (.aload_n 0, 1) := by decide +kernel
theorem dX5_factor_49 : decode cX5_factor 49 = .ok (.iload_n 2, 1) := by decide +kernel
theorem dX5_factor_50 : decode cX5_factor 50 = .ok (.iconst 1, 1) := by decide +kernel
theorem dX5_factor_51 : decode cX5_factor 51 = .ok (.iadd, 1) := by decide +kernel
theorem dX5_factor_52 : decode cX5_factor 52 = .ok (.invokevirtual 64, 3) := by decide +kernel
theorem dX5_factor_55 : decode cX5_factor 55 = .ok (.ifCond .eq 12, 3) := by decide +kernel
theorem dX5_factor_58 : decode cX5_factor 58 = .ok (.aload_n 0, 1) := by decide +kernel
theorem dX5_factor_59 : decode cX5_factor 59 = .ok (.bipush 41, 2) := by decide +kernel
theorem dX5_factor_61 : decode cX5_factor 61 = .ok (.invokevirtual 43, 3) := by decide +kernel
theorem dX5_factor_64 : decode cX5_factor 64 = .ok (.ifCond .ne 14, 3) := by decide +kernel
theorem dX5_factor_67 : decode cX5_factor 67 = .ok (.iconst 0, 1) := by decide +kernel
theorem dX5_factor_68 : decode cX5_factor 68 = .ok (.ireturn, 1) := by decide +kernel
theorem dX5_factor_69 : decode cX5_factor 69 = .ok (.aload_n 0, 1) := by decide +kernel
theorem dX5_factor_70 : decode cX5_factor 70 = .ok (.invokevirtual 87, 3) := by decide +kernel
theorem dX5_factor_73 : decode cX5_factor 73 = .ok (.ifCond .ne 5, 3) := by decide +kernel
theorem dX5_factor_76 : decode cX5_factor 76 = .ok (.iconst 0, 1) := by decide +kernel
theorem dX5_factor_77 : decode cX5_factor 77 = .ok (.ireturn, 1) := by decide +kernel
theorem dX5_factor_78 : decode cX5_factor 78 = .ok (.iload_n 3, 1) := by decide +kernel
theorem dX5_factor_79 : decode cX5_factor 79 = .ok (.ifCond .eq 11, 3) := by decide +kernel
theorem dX5_factor_82 : decode cX5_factor 82 = .ok (.aload_n 0, 1) := by decide +kernel
theorem dX5_factor_83 : decode cX5_factor 83 = .ok (.getfield 12, 3) := by decide +kernel
theorem dX5_factor_86 : decode cX5_factor 86 = .ok (.iconst (-1), 1) := by decide +kernel
theorem dX5_factor_87 : decode cX5_factor 87 = .ok (.invokevirtual 83, 3) := by decide +kernel
theorem dX5_factor_90 : decode cX5_factor 90 = .ok (.iconst 1, 1) := by decide +kernel
theorem dX5_factor_91 : decode cX5_factor 91 = .ok (.ireturn, 1) := by decide +kernel
theorem dX5_test_0 : decode cX5_test 0 = .ok (.aload_n 0, 1) := by decide +kernel
theorem dX5_test_1 : decode cX5_test 1 = .ok (.ldc 92, 2) := by decide +kernel
theorem dX5_test_3 : decode cX5_test 3 = .ok (.invokevirtual 94, 3) := by decide +kernel
theorem dX5_test_6 : decode cX5_test 6 = .ok (.istore_n 1, 1) := by decide +kernel
theorem dX5_test_7 : decode cX5_test 7 = .ok (.iload_n 1, 1) := by decide +kernel
theorem dX5_test_8 : decode cX5_test 8 = .ok (.ifCond .ge 5, 3) := by decide +kernel
theorem dX5_test_11 : decode cX5_test 11 = .ok (.iconst 0, 1) := by decide +kernel
theorem dX5_test_12 : decode cX5_test 12 = .ok (.ireturn, 1) := by decide +kernel
theorem dX5_test_13 : decode cX5_test 13 = .ok (.aload_n 0, 1) := by decide +kernel
theorem dX5_test_14 : decode cX5_test 14 = .ok (.ldc 98, 2) := by decide +kernel
theorem dX5_test_16 : decode cX5_test 16 = .ok (.invokevirtual 94, 3) := by decide +kernel
theorem dX5_test_19 : decode cX5_test 19 = .ok (.istore_n 2, 1) := by decide +kernel
theorem dX5_test_20 : decode cX5_test 20 = .ok (.iload_n 2, 1) := by decide +kernel
theorem dX5_test_21 : decode cX5_test 21 = .ok (.ifCond .ge 5, 3) := by decide +kernel
theorem dX5_test_24 : decode cX5_test 24 = .ok (.iconst 0, 1) := by decide +kernel
theorem dX5_test_25 : decode cX5_test 25 = .ok (.ireturn, 1) := by decide +kernel
theorem dX5_test_26 : decode cX5_test 26 = .ok (.aload_n 0, 1) := by decide +kernel
theorem dX5_test_27 : decode cX5_test 27 = .ok (.invokevirtual 58, 3) := by decide +kernel
theorem dX5_test_30 : decode cX5_test 30 = .ok (.istore_n 3, 1) := by decide +kernel
theorem dX5_test_31 : decode cX5_test 31 = .ok (.iload_n 3, 1) := by decide +kernel
theorem dX5_test_32 : decode cX5_test 32 = .ok (.ifCond .ge 5, 3) := by decide +kernel
theorem dX5_test_35 : decode cX5_test 35 = .ok (.iconst 0, 1) := by decide +kernel
theorem dX5_test_36 : decode cX5_test 36 = .ok (.ireturn, 1) := by decide +kernel
theorem dX5_test_37 : decode cX5_test 37 = .ok (.aload_n 0, 1) := by decide +kernel
theorem dX5_test_38 : decode cX5_test 38 = .ok (.getfield 12, 3) := by decide +kernel
theorem dX5_test_41 : decode cX5_test 41 = .ok (.iload_n 1, 1) := by decide +kernel
theorem dX5_test_42 : decode cX5_test 42 = .ok (.iload_n 2, 1) := by decide +kernel
theorem dX5_test_43 : decode cX5_test 43 = .ok (.iload_n 3, 1) := by decide +kernel
theorem dX5_test_44 : decode cX5_test 44 = .ok (.invokestatic 100, 3) := by decide +kernel
theorem dX5_test_47 : decode cX5_test 47 = .ok (.invokevirtual 83, 3) := by decide +kernel
theorem dX5_test_50 : decode cX5_test 50 = .ok (.iconst 1, 1) := by decide +kernel
theorem dX5_test_51 : decode cX5_test 51 = .ok (.ireturn, 1) := by decide +kernel
theorem dX5_oneOf_0 : decode cX5_oneOf 0 = .ok (.aload_n 0, 1) := by decide +kernel
theorem dX5_oneOf_1 : decode cX5_oneOf 1 = .ok (.invokevirtual 51, 3) := by decide +kernel
theorem dX5_oneOf_4 : decode cX5_oneOf 4 = .ok (.istore_n 2, 1) := by decide +kernel
theorem dX5_oneOf_5 : decode cX5_oneOf 5 = .ok (.iconst 0, 1) := by decide +kernel
theorem dX5_oneOf_6 : decode cX5_oneOf 6 = .ok (.istore_n 3, 1) := by decide +kernel
theorem dX5_oneOf_7 : decode cX5_oneOf 7 = .ok (.iload_n 3, 1) := by decide +kernel
theorem dX5_oneOf_8 : decode cX5_oneOf 8 = .ok (.aload_n 1, 1) := by decide +kernel
theorem dX5_oneOf_9 : decode cX5_oneOf 9 = .ok (.invokevirtual 104, 3) := by decide +kernel
theorem dX5_oneOf_12 : decode cX5_oneOf 12 = .ok (.if_icmp .ge 33, 3) := by decide +kernel
theorem dX5_oneOf_15 : decode cX5_oneOf 15 = .ok (.aload_n 1, 1) := by decide +kernel
theorem dX5_oneOf_16 : decode cX5_oneOf 16 = .ok (.iload_n 3, 1) := by decide +kernel
theorem dX5_oneOf_17 : decode cX5_oneOf 17 = .ok (.invokevirtual 74, 3) := by decide +kernel
theorem dX5_oneOf_20 : decode cX5_oneOf 20 = .ok (.iload_n 2, 1) := by decide +kernel
theorem dX5_oneOf_21 : decode cX5_oneOf 21 = .ok (.if_icmp .eq 6, 3) := by decide +kernel
theorem dX5_oneOf_24 : decode cX5_oneOf 24 = .ok (.goto 15, 3) := by decide +kernel
theorem dX5_oneOf_27 : decode cX5_oneOf 27 = .ok (.aload_n 0, 1) := by decide +kernel
theorem dX5_oneOf_28 : decode cX5_oneOf 28 = .ok (.dup, 1) := by decide +kernel
theorem dX5_oneOf_29 : decode cX5_oneOf 29 = .ok (.getfield 25, 3) := by decide +kernel
theorem dX5_oneOf_32 : decode cX5_oneOf 32 = .ok (.iconst 1, 1) := by decide +kernel
theorem dX5_oneOf_33 : decode cX5_oneOf 33 = .ok (.iadd, 1) := by decide +kernel
theorem dX5_oneOf_34 : decode cX5_oneOf 34 = .ok (.putfield 25, 3) := by decide +kernel
theorem dX5_oneOf_37 : decode cX5_oneOf 37 = .ok (.iload_n 3, 1) := by decide +kernel
theorem dX5_oneOf_38 : decode cX5_oneOf 38 = .ok (.ireturn, 1) := by decide +kernel
theorem dX5_oneOf_39 : decode cX5_oneOf 39 = .ok (.iinc 3 1, 3) := by decide +kernel
theorem dX5_oneOf_42 : decode cX5_oneOf 42 = .ok (.goto (-35), 3) := by decide +kernel
theorem dX5_oneOf_45 : decode cX5_oneOf 45 = .ok (.iconst (-1), 1) := by decide +kernel
theorem dX5_oneOf_46 : decode cX5_oneOf 46 = .ok (.ireturn, 1) := by decide +kernel
theorem dX6_init_0 : decode cX6_init 0 = .ok (.aload_n 0, 1) := by decide +kernel
theorem dX6_init_1 : decode cX6_init 1 = .ok (.invokespecial 3, 3) := by decide +kernel
theorem dX6_init_4 : decode cX6_init 4 = .ok (.aload_n 0, 1) := by decide +kernel
theorem dX6_init_5 : decode cX6_init 5 = .ok (.bipush 40, 2) := by decide +kernel
theorem dX6_init_7 : decode cX6_init 7 = .ok (.newarray .int, 2) := by decide +kernel
theorem dX6_init_9 : decode cX6_init 9 = .ok (.putfield 9, 3) := by decide +kernel
theorem dX6_init_12 : decode cX6_init 12 = .ok (.aload_n 0, 1) := by decide +kernel
theorem dX6_init_13 : decode cX6_init 13 = .ok (.sipush 400, 3) := by decide +kernel
theorem dX6_init_16 : decode cX6_init 16 = .ok (.newarray .int, 2) := by decide +kernel
theorem dX6_init_18 : decode cX6_init 18 = .ok (.putfield 15, 3) := by decide +kernel
theorem dX6_init_21 : decode cX6_init 21 = .ok (.aload_n 0, 1) := by decide +kernel
theorem dX6_init_22 : decode cX6_init 22 = .ok (.sipush 400, 3) := by decide +kernel
theorem dX6_init_25 : decode cX6_init 25 = .ok (.newarray .int, 2) := by decide +kernel
theorem dX6_init_27 : decode cX6_init 27 = .ok (.putfield 18, 3) := by decide +kernel
theorem dX6_init_30 : decode cX6_init 30 = .ok (.aload_n 0, 1) := by decide +kernel
theorem dX6_init_31 : decode cX6_init 31 = .ok (.sipush 400, 3) := by decide +kernel
theorem dX6_init_34 : decode cX6_init 34 = .ok (.newarray .int, 2) := by decide +kernel
theorem dX6_init_36 : decode cX6_init 36 = .ok (.putfield 21, 3) := by decide +kernel
theorem dX6_init_39 : decode cX6_init 39 = .ok (.aload_n 0, 1) := by decide +kernel
theorem dX6_init_40 : decode cX6_init 40 = .ok (.bipush 10, 2) := by decide +kernel
theorem dX6_init_42 : decode cX6_init 42 = .ok (.newarray .long, 2) := by decide +kernel
theorem dX6_init_44 : decode cX6_init 44 = .ok (.putfield 24, 3) := by decide +kernel
theorem dX6_init_47 : decode cX6_init 47 = .ok (.aload_n 0, 1) := by decide +kernel
theorem dX6_init_48 : decode cX6_init 48 = .ok (.bipush 16, 2) := by decide +kernel
theorem dX6_init_50 : decode cX6_init 50 = .ok (.newarray .long, 2) := by decide +kernel
theorem dX6_init_52 : decode cX6_init 52 = .ok (.putfield 28, 3) := by decide +kernel
theorem dX6_init_55 : decode cX6_init 55 = .ok (.return_, 1) := by decide +kernel
theorem dX6_lengthOf_0 : decode cX6_lengthOf 0 = .ok (.aload_n 0, 1) := by decide +kernel
theorem dX6_lengthOf_1 : decode cX6_lengthOf 1 = .ok (.getfield 9, 3) := by decide +kernel
theorem dX6_lengthOf_4 : decode cX6_lengthOf 4 = .ok (.iload_n 2, 1) := by decide +kernel
theorem dX6_lengthOf_5 : decode cX6_lengthOf 5 = .ok (.iaload, 1) := by decide +kernel
theorem dX6_lengthOf_6 : decode cX6_lengthOf 6 = .ok (.aload_n 0, 1) := by decide +kernel
theorem dX6_lengthOf_7 : decode cX6_lengthOf 7 = .ok (.getfield 15, 3) := by decide +kernel
theorem dX6_lengthOf_10 : decode cX6_lengthOf 10 = .ok (.iload_n 1, 1) := by decide +kernel
theorem dX6_lengthOf_11 : decode cX6_lengthOf 11 = .ok (.bipush 40, 2) := by decide +kernel
theorem dX6_lengthOf_13 : decode cX6_lengthOf 13 = .ok (.imul, 1) := by decide +kernel
theorem dX6_lengthOf_14 : decode cX6_lengthOf 14 = .ok (.iload_n 2, 1) := by decide +kernel
theorem dX6_lengthOf_15 : decode cX6_lengthOf 15 = .ok (.iadd, 1) := by decide +kernel
theorem dX6_lengthOf_16 : decode cX6_lengthOf 16 = .ok (.iaload, 1) := by decide +kernel
theorem dX6_lengthOf_17 : decode cX6_lengthOf 17 = .ok (.imul, 1) := by decide +kernel
theorem dX6_lengthOf_18 : decode cX6_lengthOf 18 = .ok (.bipush 10, 2) := by decide +kernel
theorem dX6_lengthOf_20 : decode cX6_lengthOf 20 = .ok (.idiv, 1) := by decide +kernel
theorem dX6_lengthOf_21 : decode cX6_lengthOf 21 = .ok (.ireturn, 1) := by decide +kernel
theorem dX6_holdOf_0 : decode cX6_holdOf 0 = .ok (.iconst 1, 1) := by decide +kernel
theorem dX6_holdOf_1 : decode cX6_holdOf 1 = .ok (.aload_n 0, 1) := by decide +kernel
theorem dX6_holdOf_2 : decode cX6_holdOf 2 = .ok (.getfield 18, 3) := by decide +kernel
theorem dX6_holdOf_5 : decode cX6_holdOf 5 = .ok (.iload_n 1, 1) := by decide +kernel
theorem dX6_holdOf_6 : decode cX6_holdOf 6 = .ok (.bipush 40, 2) := by decide +kernel
theorem dX6_holdOf_8 : decode cX6_holdOf 8 = .ok (.imul, 1) := by decide +kernel
theorem dX6_holdOf_9 : decode cX6_holdOf 9 = .ok (.iload_n 2, 1) := by decide +kernel
theorem dX6_holdOf_10 : decode cX6_holdOf 10 = .ok (.iadd, 1) := by decide +kernel
theorem dX6_holdOf_11 : decode cX6_holdOf 11 = .ok (.iaload, 1) := by decide +kernel
theorem dX6_holdOf_12 : decode cX6_holdOf 12 = .ok (.invokestatic 31, 3) := by decide +kernel
theorem dX6_holdOf_15 : decode cX6_holdOf 15 = .ok (.ireturn, 1) := by decide +kernel
theorem dX6_knocksOf_0 : decode cX6_knocksOf 0 = .ok (.aload_n 0, 1) := by decide +kernel
theorem dX6_knocksOf_1 : decode cX6_knocksOf 1 = .ok (.getfield 21, 3) := by decide +kernel
theorem dX6_knocksOf_4 : decode cX6_knocksOf 4 = .ok (.iload_n 1, 1) := by decide +kernel
theorem dX6_knocksOf_5 : decode cX6_knocksOf 5 = .ok (.bipush 40, 2) := by decide +kernel
theorem dX6_knocksOf_7 : decode cX6_knocksOf 7 = .ok (.imul, 1) := by decide +kernel
theorem dX6_knocksOf_8 : decode cX6_knocksOf 8 = .ok (.iload_n 2, 1) := by decide +kernel
theorem dX6_knocksOf_9 : decode cX6_knocksOf 9 = .ok (.iadd, 1) := by decide +kernel
theorem dX6_knocksOf_10 : decode cX6_knocksOf 10 = .ok (.iaload, 1) := by decide +kernel
theorem dX6_knocksOf_11 : decode cX6_knocksOf 11 = .ok (.ireturn, 1) := by decide +kernel
theorem dX6_knockingOf_0 : decode cX6_knockingOf 0 = .ok (.lconst 0, 1) := by decide +kernel
theorem dX6_knockingOf_1 : decode cX6_knockingOf 1 = .ok (.lstore_n 2, 1) := by decide +kernel
theorem dX6_knockingOf_2 : decode cX6_knockingOf 2 = .ok (.iconst 0, 1) := by decide +kernel
theorem dX6_knockingOf_3 : decode cX6_knockingOf 3 = .ok (.istore 4, 2) := by decide +kernel
theorem dX6_knockingOf_5 : decode cX6_knockingOf 5 = .ok (.iload 4, 2) := by decide +kernel
theorem dX6_knockingOf_7 : decode cX6_knockingOf 7 = .ok (.bipush 40, 2) := by decide +kernel
theorem dX6_knockingOf_9 : decode cX6_knockingOf 9 = .ok (.if_icmp .ge 26, 3) := by decide +kernel
theorem dX6_knockingOf_12 : decode cX6_knockingOf 12 = .ok (.aload_n 0, 1) := by decide +kernel
theorem dX6_knockingOf_13 : decode cX6_knockingOf 13 = .ok (.iload_n 1, 1) := by decide +kernel
theorem dX6_knockingOf_14 : decode cX6_knockingOf 14 = .ok (.iload 4, 2) := by decide +kernel
theorem dX6_knockingOf_16 : decode cX6_knockingOf 16 = .ok (.invokevirtual 37, 3) := by decide +kernel
theorem dX6_knockingOf_19 : decode cX6_knockingOf 19 = .ok (.ifCond .le 10, 3) := by decide +kernel
theorem dX6_knockingOf_22 : decode cX6_knockingOf 22 = .ok (.lload_n 2, 1) := by decide +kernel
theorem dX6_knockingOf_23 : decode cX6_knockingOf 23 = .ok (.lconst 1, 1) := by decide +kernel
theorem dX6_knockingOf_24 : decode cX6_knockingOf 24 = .ok (.iload 4, 2) := by decide +kernel
theorem dX6_knockingOf_26 : decode cX6_knockingOf 26 = .ok (.lshl, 1) := by decide +kernel
theorem dX6_knockingOf_27 : decode cX6_knockingOf 27 = .ok (.lor, 1) := by decide +kernel
theorem dX6_knockingOf_28 : decode cX6_knockingOf 28 = .ok (.lstore_n 2, 1) := by decide +kernel
theorem dX6_knockingOf_29 : decode cX6_knockingOf 29 = .ok (.iinc 4 1, 3) := by decide +kernel
theorem dX6_knockingOf_32 : decode cX6_knockingOf 32 = .ok (.goto (-27), 3) := by decide +kernel
theorem dX6_knockingOf_35 : decode cX6_knockingOf 35 = .ok (.lload_n 2, 1) := by decide +kernel
theorem dX6_knockingOf_36 : decode cX6_knockingOf 36 = .ok (.lreturn, 1) := by decide +kernel
theorem dX6_read_0 : decode cX6_read 0 = .ok (.iconst 0, 1) := by decide +kernel
theorem dX6_read_1 : decode cX6_read 1 = .ok (.istore 4, 2) := by decide +kernel
theorem dX6_read_3 : decode cX6_read 3 = .ok (.iload 4, 2) := by decide +kernel
theorem dX6_read_5 : decode cX6_read 5 = .ok (.bipush 40, 2) := by decide +kernel
theorem dX6_read_7 : decode cX6_read 7 = .ok (.if_icmp .ge 35, 3) := by decide +kernel
theorem dX6_read_10 : decode cX6_read 10 = .ok (.aload_n 0, 1) := by decide +kernel
theorem dX6_read_11 : decode cX6_read 11 = .ok (.getfield 15, 3) := by decide +kernel
theorem dX6_read_14 : decode cX6_read 14 = .ok (.iload_n 3, 1) := by decide +kernel
theorem dX6_read_15 : decode cX6_read 15 = .ok (.bipush 40, 2) := by decide +kernel
theorem dX6_read_17 : decode cX6_read 17 = .ok (.imul, 1) := by decide +kernel
theorem dX6_read_18 : decode cX6_read 18 = .ok (.iload 4, 2) := by decide +kernel
theorem dX6_read_20 : decode cX6_read 20 = .ok (.iadd, 1) := by decide +kernel
theorem dX6_read_21 : decode cX6_read 21 = .ok (.iconst 0, 1) := by decide +kernel
theorem dX6_read_22 : decode cX6_read 22 = .ok (.iastore, 1) := by decide +kernel
theorem dX6_read_23 : decode cX6_read 23 = .ok (.aload_n 0, 1) := by decide +kernel
theorem dX6_read_24 : decode cX6_read 24 = .ok (.getfield 18, 3) := by decide +kernel
theorem dX6_read_27 : decode cX6_read 27 = .ok (.iload_n 3, 1) := by decide +kernel
theorem dX6_read_28 : decode cX6_read 28 = .ok (.bipush 40, 2) := by decide +kernel
theorem dX6_read_30 : decode cX6_read 30 = .ok (.imul, 1) := by decide +kernel
theorem dX6_read_31 : decode cX6_read 31 = .ok (.iload 4, 2) := by decide +kernel
theorem dX6_read_33 : decode cX6_read 33 = .ok (.iadd, 1) := by decide +kernel
theorem dX6_read_34 : decode cX6_read 34 = .ok (.iconst 0, 1) := by decide +kernel
theorem dX6_read_35 : decode cX6_read 35 = .ok (.iastore, 1) := by decide +kernel
theorem dX6_read_36 : decode cX6_read 36 = .ok (.iinc 4 1, 3) := by decide +kernel
theorem dX6_read_39 : decode cX6_read 39 = .ok (.goto (-36), 3) := by decide +kernel
theorem dX6_read_42 : decode cX6_read 42 = .ok (.aload_n 0, 1) := by decide +kernel
theorem dX6_read_43 : decode cX6_read 43 = .ok (.getfield 24, 3) := by decide +kernel
theorem dX6_read_46 : decode cX6_read 46 = .ok (.iload_n 3, 1) := by decide +kernel
theorem dX6_read_47 : decode cX6_read 47 = .ok (.ldc2_w 40, 3) := by decide +kernel
theorem dX6_read_50 : decode cX6_read 50 = .ok (.lastore, 1) := by decide +kernel
theorem dX6_read_51 : decode cX6_read 51 = .ok (.iconst 0, 1) := by decide +kernel
theorem dX6_read_52 : decode cX6_read 52 = .ok (.istore 4, 2) := by decide +kernel
theorem dX6_read_54 : decode cX6_read 54 = .ok (.iconst 0, 1) := by decide +kernel
theorem dX6_read_55 : decode cX6_read 55 = .ok (.istore 5, 2) := by decide +kernel
theorem dX6_read_57 : decode cX6_read 57 = .ok (.iload 5, 2) := by decide +kernel
theorem dX6_read_59 : decode cX6_read 59 = .ok (.aload_n 1, 1) := by decide +kernel
theorem dX6_read_60 : decode cX6_read 60 = .ok (.getfield 42, 3) := by decide +kernel
theorem dX6_read_63 : decode cX6_read 63 = .ok (.if_icmp .ge 84, 3) := by decide +kernel
theorem dX6_read_66 : decode cX6_read 66 = .ok (.aload_n 0, 1) := by decide +kernel
theorem dX6_read_67 : decode cX6_read 67 = .ok (.aload_n 1, 1) := by decide +kernel
theorem dX6_read_68 : decode cX6_read 68 = .ok (.iload 4, 2) := by decide +kernel
theorem dX6_read_70 : decode cX6_read 70 = .ok (.aload_n 1, 1) := by decide +kernel
theorem dX6_read_71 : decode cX6_read 71 = .ok (.getfield 48, 3) := by decide +kernel
theorem dX6_read_74 : decode cX6_read 74 = .ok (.iload 5, 2) := by decide +kernel
theorem dX6_read_76 : decode cX6_read 76 = .ok (.iaload, 1) := by decide +kernel
theorem dX6_read_77 : decode cX6_read 77 = .ok (.aload_n 2, 1) := by decide +kernel
theorem dX6_read_78 : decode cX6_read 78 = .ok (.iload_n 3, 1) := by decide +kernel
theorem dX6_read_79 : decode cX6_read 79 = .ok (.invokevirtual 51, 3) := by decide +kernel
theorem dX6_read_82 : decode cX6_read 82 = .ok (.lstore 6, 2) := by decide +kernel
theorem dX6_read_84 : decode cX6_read 84 = .ok (.aload_n 0, 1) := by decide +kernel
theorem dX6_read_85 : decode cX6_read 85 = .ok (.getfield 24, 3) := by decide +kernel
theorem dX6_read_88 : decode cX6_read 88 = .ok (.iload_n 3, 1) := by decide +kernel
theorem dX6_read_89 : decode cX6_read 89 = .ok (.dup2, 1) := by decide +kernel
theorem dX6_read_90 : decode cX6_read 90 = .ok (.laload, 1) := by decide +kernel
theorem dX6_read_91 : decode cX6_read 91 = .ok (.lload 6, 2) := by decide +kernel
theorem dX6_read_93 : decode cX6_read 93 = .ok (.ldc2_w 55, 3) := by decide +kernel
theorem dX6_read_96 : decode cX6_read 96 = .ok (.lxor, 1) := by decide +kernel
theorem dX6_read_97 : decode cX6_read 97 = .ok (.land, 1) := by decide +kernel
theorem dX6_read_98 : decode cX6_read 98 = .ok (.lastore, 1) := by decide +kernel
theorem dX6_read_99 : decode cX6_read 99 = .ok (.aload_n 1, 1) := by decide +kernel
theorem dX6_read_100 : decode cX6_read 100 = .ok (.iload 5, 2) := by decide +kernel
theorem dX6_read_102 : decode cX6_read 102 = .ok (.invokevirtual 57, 3) := by decide +kernel
theorem dX6_read_105 : decode cX6_read 105 = .ok (.ifCond .eq 10, 3) := by decide +kernel
theorem dX6_read_108 : decode cX6_read 108 = .ok (.aload_n 0, 1) := by decide +kernel
theorem dX6_read_109 : decode cX6_read 109 = .ok (.getfield 15, 3) := by decide +kernel
theorem dX6_read_112 : decode cX6_read 112 = .ok (.goto 7, 3) := by decide +kernel
theorem dX6_read_115 : decode cX6_read 115 = .ok (.aload_n 0, 1) := by decide +kernel
theorem dX6_read_116 : decode cX6_read 116 = .ok (.getfield 18, 3) := by decide +kernel
theorem dX6_read_119 : decode cX6_read 119 = .ok (.iload_n 3, 1) := by decide +kernel
theorem dX6_read_120 : decode cX6_read 120 = .ok (.lload 6, 2) := by decide +kernel
theorem dX6_read_122 : decode cX6_read 122 = .ok (.aload_n 1, 1) := by decide +kernel
theorem dX6_read_123 : decode cX6_read 123 = .ok (.getfield 61, 3) := by decide +kernel
theorem dX6_read_126 : decode cX6_read 126 = .ok (.iload 5, 2) := by decide +kernel
theorem dX6_read_128 : decode cX6_read 128 = .ok (.iaload, 1) := by decide +kernel
theorem dX6_read_129 : decode cX6_read 129 = .ok (.invokestatic 64, 3) := by decide +kernel
theorem dX6_read_132 : decode cX6_read 132 = .ok (.aload_n 1, 1) := by decide +kernel
theorem dX6_read_133 : decode cX6_read 133 = .ok (.getfield 48, 3) := by decide +kernel
theorem dX6_read_136 : decode cX6_read 136 = .ok (.iload 5, 2) := by decide +kernel
theorem dX6_read_138 : decode cX6_read 138 = .ok (.iaload, 1) := by decide +kernel
theorem dX6_read_139 : decode cX6_read 139 = .ok (.istore 4, 2) := by decide +kernel
theorem dX6_read_141 : decode cX6_read 141 = .ok (.iinc 5 1, 3) := by decide +kernel
theorem dX6_read_144 : decode cX6_read 144 = .ok (.goto (-87), 3) := by decide +kernel
theorem dX6_read_147 : decode cX6_read 147 = .ok (.return_, 1) := by decide +kernel
theorem dX6_addTo_0 : decode cX6_addTo 0 = .ok (.iconst 0, 1) := by decide +kernel
theorem dX6_addTo_1 : decode cX6_addTo 1 = .ok (.istore 5, 2) := by decide +kernel
theorem dX6_addTo_3 : decode cX6_addTo 3 = .ok (.iload 5, 2) := by decide +kernel
theorem dX6_addTo_5 : decode cX6_addTo 5 = .ok (.bipush 40, 2) := by decide +kernel
theorem dX6_addTo_7 : decode cX6_addTo 7 = .ok (.if_icmp .ge 34, 3) := by decide +kernel
theorem dX6_addTo_10 : decode cX6_addTo 10 = .ok (.lload_n 2, 1) := by decide +kernel
theorem dX6_addTo_11 : decode cX6_addTo 11 = .ok (.iload 5, 2) := by decide +kernel
theorem dX6_addTo_13 : decode cX6_addTo 13 = .ok (.lshr, 1) := by decide +kernel
theorem dX6_addTo_14 : decode cX6_addTo 14 = .ok (.lconst 1, 1) := by decide +kernel
theorem dX6_addTo_15 : decode cX6_addTo 15 = .ok (.land, 1) := by decide +kernel
theorem dX6_addTo_16 : decode cX6_addTo 16 = .ok (.lconst 0, 1) := by decide +kernel
theorem dX6_addTo_17 : decode cX6_addTo 17 = .ok (.lcmp, 1) := by decide +kernel
theorem dX6_addTo_18 : decode cX6_addTo 18 = .ok (.ifCond .eq 17, 3) := by decide +kernel
theorem dX6_addTo_21 : decode cX6_addTo 21 = .ok (.aload_n 0, 1) := by decide +kernel
theorem dX6_addTo_22 : decode cX6_addTo 22 = .ok (.iload_n 1, 1) := by decide +kernel
theorem dX6_addTo_23 : decode cX6_addTo 23 = .ok (.bipush 40, 2) := by decide +kernel
theorem dX6_addTo_25 : decode cX6_addTo 25 = .ok (.imul, 1) := by decide +kernel
theorem dX6_addTo_26 : decode cX6_addTo 26 = .ok (.iload 5, 2) := by decide +kernel
theorem dX6_addTo_28 : decode cX6_addTo 28 = .ok (.iadd, 1) := by decide +kernel
theorem dX6_addTo_29 : decode cX6_addTo 29 = .ok (.dup2, 1) := by decide +kernel
theorem dX6_addTo_30 : decode cX6_addTo 30 = .ok (.iaload, 1) := by decide +kernel
theorem dX6_addTo_31 : decode cX6_addTo 31 = .ok (.iload 4, 2) := by decide +kernel
theorem dX6_addTo_33 : decode cX6_addTo 33 = .ok (.iadd, 1) := by decide +kernel
theorem dX6_addTo_34 : decode cX6_addTo 34 = .ok (.iastore, 1) := by decide +kernel
theorem dX6_addTo_35 : decode cX6_addTo 35 = .ok (.iinc 5 1, 3) := by decide +kernel
theorem dX6_addTo_38 : decode cX6_addTo 38 = .ok (.goto (-35), 3) := by decide +kernel
theorem dX6_addTo_41 : decode cX6_addTo 41 = .ok (.return_, 1) := by decide +kernel
theorem dX6_holds_0 : decode cX6_holds 0 = .ok (.iconst 0, 1) := by decide +kernel
theorem dX6_holds_1 : decode cX6_holds 1 = .ok (.istore 6, 2) := by decide +kernel
theorem dX6_holds_3 : decode cX6_holds 3 = .ok (.iload_n 2, 1) := by decide +kernel
theorem dX6_holds_4 : decode cX6_holds 4 = .ok (.istore 7, 2) := by decide +kernel
theorem dX6_holds_6 : decode cX6_holds 6 = .ok (.iload 7, 2) := by decide +kernel
theorem dX6_holds_8 : decode cX6_holds 8 = .ok (.iload_n 3, 1) := by decide +kernel
theorem dX6_holds_9 : decode cX6_holds 9 = .ok (.if_icmp .ge 152, 3) := by decide +kernel
theorem dX6_holds_12 : decode cX6_holds 12 = .ok (.iload 7, 2) := by decide +kernel
theorem dX6_holds_14 : decode cX6_holds 14 = .ok (.bipush 120, 2) := by decide +kernel
theorem dX6_holds_16 : decode cX6_holds 16 = .ok (.if_icmp .ge 145, 3) := by decide +kernel
theorem dX6_holds_19 : decode cX6_holds 19 = .ok (.aload_n 1, 1) := by decide +kernel
theorem dX6_holds_20 : decode cX6_holds 20 = .ok (.getfield 68, 3) := by decide +kernel
theorem dX6_holds_23 : decode cX6_holds 23 = .ok (.iload 7, 2) := by decide +kernel
theorem dX6_holds_25 : decode cX6_holds 25 = .ok (.iaload, 1) := by decide +kernel
theorem dX6_holds_26 : decode cX6_holds 26 = .ok (.istore 8, 2) := by decide +kernel
theorem dX6_holds_28 : decode cX6_holds 28 = .ok (.iload 8, 2) := by decide +kernel
theorem dX6_holds_30 : decode cX6_holds 30 = .ok (.ifCond .lt 34, 3) := by decide +kernel
theorem dX6_holds_33 : decode cX6_holds 33 = .ok (.iload 6, 2) := by decide +kernel
theorem dX6_holds_35 : decode cX6_holds 35 = .ok (.bipush 16, 2) := by decide +kernel
theorem dX6_holds_37 : decode cX6_holds 37 = .ok (.if_icmp .lt 5, 3) := by decide +kernel
theorem dX6_holds_40 : decode cX6_holds 40 = .ok (.lconst 0, 1) := by decide +kernel
theorem dX6_holds_41 : decode cX6_holds 41 = .ok (.lreturn, 1) := by decide +kernel
theorem dX6_holds_42 : decode cX6_holds 42 = .ok (.aload_n 0, 1) := by decide +kernel
theorem dX6_holds_43 : decode cX6_holds 43 = .ok (.getfield 28, 3) := by decide +kernel
theorem dX6_holds_46 : decode cX6_holds 46 = .ok (.iload 6, 2) := by decide +kernel
theorem dX6_holds_48 : decode cX6_holds 48 = .ok (.iload 8, 2) := by decide +kernel
theorem dX6_holds_50 : decode cX6_holds 50 = .ok (.aload 4, 2) := by decide +kernel
theorem dX6_holds_52 : decode cX6_holds 52 = .ok (.iload 5, 2) := by decide +kernel
theorem dX6_holds_54 : decode cX6_holds 54 = .ok (.invokestatic 71, 3) := by decide +kernel
theorem dX6_holds_57 : decode cX6_holds 57 = .ok (.lastore, 1) := by decide +kernel
theorem dX6_holds_58 : decode cX6_holds 58 = .ok (.iinc 6 1, 3) := by decide +kernel
theorem dX6_holds_61 : decode cX6_holds 61 = .ok (.goto 94, 3) := by decide +kernel
theorem dX6_holds_64 : decode cX6_holds 64 = .ok (.iload 8, 2) := by decide +kernel
theorem dX6_holds_66 : decode cX6_holds 66 = .ok (.iconst (-1), 1) := by decide +kernel
theorem dX6_holds_67 : decode cX6_holds 67 = .ok (.if_icmp .ne 29, 3) := by decide +kernel
theorem dX6_holds_70 : decode cX6_holds 70 = .ok (.iload 6, 2) := by decide +kernel
theorem dX6_holds_72 : decode cX6_holds 72 = .ok (.iconst 1, 1) := by decide +kernel
theorem dX6_holds_73 : decode cX6_holds 73 = .ok (.if_icmp .ge 5, 3) := by decide +kernel
theorem dX6_holds_76 : decode cX6_holds 76 = .ok (.lconst 0, 1) := by decide +kernel
theorem dX6_holds_77 : decode cX6_holds 77 = .ok (.lreturn, 1) := by decide +kernel
theorem dX6_holds_78 : decode cX6_holds 78 = .ok (.aload_n 0, 1) := by decide +kernel
theorem dX6_holds_79 : decode cX6_holds 79 = .ok (.getfield 28, 3) := by decide +kernel
theorem dX6_holds_82 : decode cX6_holds 82 = .ok (.iload 6, 2) := by decide +kernel
theorem dX6_holds_84 : decode cX6_holds 84 = .ok (.iconst 1, 1) := by decide +kernel
theorem dX6_holds_85 : decode cX6_holds 85 = .ok (.isub, 1) := by decide +kernel
theorem dX6_holds_86 : decode cX6_holds 86 = .ok (.dup2, 1) := by decide +kernel
theorem dX6_holds_87 : decode cX6_holds 87 = .ok (.laload, 1) := by decide +kernel
theorem dX6_holds_88 : decode cX6_holds 88 = .ok (.ldc2_w 40, 3) := by decide +kernel
theorem dX6_holds_91 : decode cX6_holds 91 = .ok (.lxor, 1) := by decide +kernel
theorem dX6_holds_92 : decode cX6_holds 92 = .ok (.lastore, 1) := by decide +kernel
theorem dX6_holds_93 : decode cX6_holds 93 = .ok (.goto 62, 3) := by decide +kernel
theorem dX6_holds_96 : decode cX6_holds 96 = .ok (.iload 6, 2) := by decide +kernel
theorem dX6_holds_98 : decode cX6_holds 98 = .ok (.iconst 2, 1) := by decide +kernel
theorem dX6_holds_99 : decode cX6_holds 99 = .ok (.if_icmp .ge 5, 3) := by decide +kernel
theorem dX6_holds_102 : decode cX6_holds 102 = .ok (.lconst 0, 1) := by decide +kernel
theorem dX6_holds_103 : decode cX6_holds 103 = .ok (.lreturn, 1) := by decide +kernel
theorem dX6_holds_104 : decode cX6_holds 104 = .ok (.iinc 6 (-1), 3) := by decide +kernel
theorem dX6_holds_107 : decode cX6_holds 107 = .ok (.iload 8, 2) := by decide +kernel
theorem dX6_holds_109 : decode cX6_holds 109 = .ok (.bipush (-2), 2) := by decide +kernel
theorem dX6_holds_111 : decode cX6_holds 111 = .ok (.if_icmp .ne 25, 3) := by decide +kernel
theorem dX6_holds_114 : decode cX6_holds 114 = .ok (.aload_n 0, 1) := by decide +kernel
theorem dX6_holds_115 : decode cX6_holds 115 = .ok (.getfield 28, 3) := by decide +kernel
theorem dX6_holds_118 : decode cX6_holds 118 = .ok (.iload 6, 2) := by decide +kernel
theorem dX6_holds_120 : decode cX6_holds 120 = .ok (.iconst 1, 1) := by decide +kernel
theorem dX6_holds_121 : decode cX6_holds 121 = .ok (.isub, 1) := by decide +kernel
theorem dX6_holds_122 : decode cX6_holds 122 = .ok (.dup2, 1) := by decide +kernel
theorem dX6_holds_123 : decode cX6_holds 123 = .ok (.laload, 1) := by decide +kernel
theorem dX6_holds_124 : decode cX6_holds 124 = .ok (.aload_n 0, 1) := by decide +kernel
theorem dX6_holds_125 : decode cX6_holds 125 = .ok (.getfield 28, 3) := by decide +kernel
theorem dX6_holds_128 : decode cX6_holds 128 = .ok (.iload 6, 2) := by decide +kernel
theorem dX6_holds_130 : decode cX6_holds 130 = .ok (.laload, 1) := by decide +kernel
theorem dX6_holds_131 : decode cX6_holds 131 = .ok (.land, 1) := by decide +kernel
theorem dX6_holds_132 : decode cX6_holds 132 = .ok (.lastore, 1) := by decide +kernel
theorem dX6_holds_133 : decode cX6_holds 133 = .ok (.goto 22, 3) := by decide +kernel
theorem dX6_holds_136 : decode cX6_holds 136 = .ok (.aload_n 0, 1) := by decide +kernel
theorem dX6_holds_137 : decode cX6_holds 137 = .ok (.getfield 28, 3) := by decide +kernel
theorem dX6_holds_140 : decode cX6_holds 140 = .ok (.iload 6, 2) := by decide +kernel
theorem dX6_holds_142 : decode cX6_holds 142 = .ok (.iconst 1, 1) := by decide +kernel
theorem dX6_holds_143 : decode cX6_holds 143 = .ok (.isub, 1) := by decide +kernel
theorem dX6_holds_144 : decode cX6_holds 144 = .ok (.dup2, 1) := by decide +kernel
theorem dX6_holds_145 : decode cX6_holds 145 = .ok (.laload, 1) := by decide +kernel
theorem dX6_holds_146 : decode cX6_holds 146 = .ok (.aload_n 0, 1) := by decide +kernel
theorem dX6_holds_147 : decode cX6_holds 147 = .ok (.getfield 28, 3) := by decide +kernel
theorem dX6_holds_150 : decode cX6_holds 150 = .ok (.iload 6, 2) := by decide +kernel
theorem dX6_holds_152 : decode cX6_holds 152 = .ok (.laload, 1) := by decide +kernel
theorem dX6_holds_153 : decode cX6_holds 153 = .ok (.lor, 1) := by decide +kernel
theorem dX6_holds_154 : decode cX6_holds 154 = .ok (.lastore, 1) := by decide +kernel
theorem dX6_holds_155 : decode cX6_holds 155 = .ok (.iinc 7 1, 3) := by decide +kernel
theorem dX6_holds_158 : decode cX6_holds 158 = .ok (.goto (-152), 3) := by decide +kernel
theorem dX6_holds_161 : decode cX6_holds 161 = .ok (.iload 6, 2) := by decide +kernel
theorem dX6_holds_163 : decode cX6_holds 163 = .ok (.iconst 1, 1) := by decide +kernel
theorem dX6_holds_164 : decode cX6_holds 164 = .ok (.if_icmp .ne 12, 3) := by decide +kernel
theorem dX6_holds_167 : decode cX6_holds 167 = .ok (.aload_n 0, 1) := by decide +kernel
theorem dX6_holds_168 : decode cX6_holds 168 = .ok (.getfield 28, 3) := by decide +kernel
theorem dX6_holds_171 : decode cX6_holds 171 = .ok (.iconst 0, 1) := by decide +kernel
theorem dX6_holds_172 : decode cX6_holds 172 = .ok (.laload, 1) := by decide +kernel
theorem dX6_holds_173 : decode cX6_holds 173 = .ok (.goto 4, 3) := by decide +kernel
theorem dX6_holds_176 : decode cX6_holds 176 = .ok (.lconst 0, 1) := by decide +kernel
theorem dX6_holds_177 : decode cX6_holds 177 = .ok (.lreturn, 1) := by decide +kernel
theorem dX6_minutesOf_0 : decode cX6_minutesOf 0 = .ok (.iload_n 0, 1) := by decide +kernel
theorem dX6_minutesOf_1 : decode cX6_minutesOf 1 = .ok (.invokestatic 75, 3) := by decide +kernel
theorem dX6_minutesOf_4 : decode cX6_minutesOf 4 = .ok (.tableswitch 67 0 3 #[32, 37, 47, 57], 32) := by decide +kernel
theorem dX6_minutesOf_36 : decode cX6_minutesOf 36 = .ok (.iload_n 2, 1) := by decide +kernel
theorem dX6_minutesOf_37 : decode cX6_minutesOf 37 = .ok (.istore_n 3, 1) := by decide +kernel
theorem dX6_minutesOf_38 : decode cX6_minutesOf 38 = .ok (.goto 38, 3) := by decide +kernel
theorem dX6_minutesOf_41 : decode cX6_minutesOf 41 = .ok (.aload_n 1, 1) := by decide +kernel
theorem dX6_minutesOf_42 : decode cX6_minutesOf 42 = .ok (.getfield 81, 3) := by decide +kernel
theorem dX6_minutesOf_45 : decode cX6_minutesOf 45 = .ok (.iload_n 2, 1) := by decide +kernel
theorem dX6_minutesOf_46 : decode cX6_minutesOf 46 = .ok (.iaload, 1) := by decide +kernel
theorem dX6_minutesOf_47 : decode cX6_minutesOf 47 = .ok (.istore_n 3, 1) := by decide +kernel
theorem dX6_minutesOf_48 : decode cX6_minutesOf 48 = .ok (.goto 28, 3) := by decide +kernel
theorem dX6_minutesOf_51 : decode cX6_minutesOf 51 = .ok (.aload_n 1, 1) := by decide +kernel
theorem dX6_minutesOf_52 : decode cX6_minutesOf 52 = .ok (.getfield 86, 3) := by decide +kernel
theorem dX6_minutesOf_55 : decode cX6_minutesOf 55 = .ok (.iload_n 2, 1) := by decide +kernel
theorem dX6_minutesOf_56 : decode cX6_minutesOf 56 = .ok (.iaload, 1) := by decide +kernel
theorem dX6_minutesOf_57 : decode cX6_minutesOf 57 = .ok (.istore_n 3, 1) := by decide +kernel
theorem dX6_minutesOf_58 : decode cX6_minutesOf 58 = .ok (.goto 18, 3) := by decide +kernel
theorem dX6_minutesOf_61 : decode cX6_minutesOf 61 = .ok (.aload_n 1, 1) := by decide +kernel
theorem dX6_minutesOf_62 : decode cX6_minutesOf 62 = .ok (.getfield 89, 3) := by decide +kernel
theorem dX6_minutesOf_65 : decode cX6_minutesOf 65 = .ok (.iload_n 2, 1) := by decide +kernel
theorem dX6_minutesOf_66 : decode cX6_minutesOf 66 = .ok (.iaload, 1) := by decide +kernel
theorem dX6_minutesOf_67 : decode cX6_minutesOf 67 = .ok (.istore_n 3, 1) := by decide +kernel
theorem dX6_minutesOf_68 : decode cX6_minutesOf 68 = .ok (.goto 8, 3) := by decide +kernel
theorem dX6_minutesOf_71 : decode cX6_minutesOf 71 = .ok (.iload_n 0, 1) := by decide +kernel
theorem dX6_minutesOf_72 : decode cX6_minutesOf 72 = .ok (.invokestatic 92, 3) := by decide +kernel
theorem dX6_minutesOf_75 : decode cX6_minutesOf 75 = .ok (.lreturn, 1) := by decide +kernel
theorem dX6_minutesOf_76 : decode cX6_minutesOf 76 = .ok (.iload_n 0, 1) := by decide +kernel
theorem dX6_minutesOf_77 : decode cX6_minutesOf 77 = .ok (.iload_n 3, 1) := by decide +kernel
theorem dX6_minutesOf_78 : decode cX6_minutesOf 78 = .ok (.invokestatic 96, 3) := by decide +kernel
theorem dX6_minutesOf_81 : decode cX6_minutesOf 81 = .ok (.ifCond .eq 9, 3) := by decide +kernel
theorem dX6_minutesOf_84 : decode cX6_minutesOf 84 = .ok (.ldc2_w 40, 3) := by decide +kernel
theorem dX6_minutesOf_87 : decode cX6_minutesOf 87 = .ok (.goto 4, 3) := by decide +kernel
theorem dX6_minutesOf_90 : decode cX6_minutesOf 90 = .ok (.lconst 0, 1) := by decide +kernel
theorem dX6_minutesOf_91 : decode cX6_minutesOf 91 = .ok (.lreturn, 1) := by decide +kernel
theorem dX6_warm_0 : decode cX6_warm 0 = .ok (.iconst 0, 1) := by decide +kernel
theorem dX6_warm_1 : decode cX6_warm 1 = .ok (.istore 4, 2) := by decide +kernel
theorem dX6_warm_3 : decode cX6_warm 3 = .ok (.iconst 0, 1) := by decide +kernel
theorem dX6_warm_4 : decode cX6_warm 4 = .ok (.istore 5, 2) := by decide +kernel
theorem dX6_warm_6 : decode cX6_warm 6 = .ok (.iload 5, 2) := by decide +kernel
theorem dX6_warm_8 : decode cX6_warm 8 = .ok (.bipush 40, 2) := by decide +kernel
theorem dX6_warm_10 : decode cX6_warm 10 = .ok (.if_icmp .ge 77, 3) := by decide +kernel
theorem dX6_warm_13 : decode cX6_warm 13 = .ok (.lload_n 2, 1) := by decide +kernel
theorem dX6_warm_14 : decode cX6_warm 14 = .ok (.iload 5, 2) := by decide +kernel
theorem dX6_warm_16 : decode cX6_warm 16 = .ok (.lshr, 1) := by decide +kernel
theorem dX6_warm_17 : decode cX6_warm 17 = .ok (.lconst 1, 1) := by decide +kernel
theorem dX6_warm_18 : decode cX6_warm 18 = .ok (.land, 1) := by decide +kernel
theorem dX6_warm_19 : decode cX6_warm 19 = .ok (.lconst 0, 1) := by decide +kernel
theorem dX6_warm_20 : decode cX6_warm 20 = .ok (.lcmp, 1) := by decide +kernel
theorem dX6_warm_21 : decode cX6_warm 21 = .ok (.ifCond .eq 7, 3) := by decide +kernel
theorem dX6_warm_24 : decode cX6_warm 24 = .ok (.iconst 1, 1) := by decide +kernel
theorem dX6_warm_25 : decode cX6_warm 25 = .ok (.goto 4, 3) := by decide +kernel
theorem dX6_warm_28 : decode cX6_warm 28 = .ok (.iconst 0, 1) := by decide +kernel
theorem dX6_warm_29 : decode cX6_warm 29 = .ok (.istore 6, 2) := by decide +kernel
theorem dX6_warm_31 : decode cX6_warm 31 = .ok (.iload 6, 2) := by decide +kernel
theorem dX6_warm_33 : decode cX6_warm 33 = .ok (.ifCond .eq 15, 3) := by decide +kernel
theorem dX6_warm_36 : decode cX6_warm 36 = .ok (.iload 4, 2) := by decide +kernel
theorem dX6_warm_38 : decode cX6_warm 38 = .ok (.aload_n 1, 1) := by decide +kernel
theorem dX6_warm_39 : decode cX6_warm 39 = .ok (.getfield 99, 3) := by decide +kernel
theorem dX6_warm_42 : decode cX6_warm 42 = .ok (.iconst 0, 1) := by decide +kernel
theorem dX6_warm_43 : decode cX6_warm 43 = .ok (.iaload, 1) := by decide +kernel
theorem dX6_warm_44 : decode cX6_warm 44 = .ok (.iadd, 1) := by decide +kernel
theorem dX6_warm_45 : decode cX6_warm 45 = .ok (.goto 12, 3) := by decide +kernel
theorem dX6_warm_48 : decode cX6_warm 48 = .ok (.iload 4, 2) := by decide +kernel
theorem dX6_warm_50 : decode cX6_warm 50 = .ok (.aload_n 1, 1) := by decide +kernel
theorem dX6_warm_51 : decode cX6_warm 51 = .ok (.getfield 99, 3) := by decide +kernel
theorem dX6_warm_54 : decode cX6_warm 54 = .ok (.iconst 1, 1) := by decide +kernel
theorem dX6_warm_55 : decode cX6_warm 55 = .ok (.iaload, 1) := by decide +kernel
theorem dX6_warm_56 : decode cX6_warm 56 = .ok (.isub, 1) := by decide +kernel
theorem dX6_warm_57 : decode cX6_warm 57 = .ok (.istore 7, 2) := by decide +kernel
theorem dX6_warm_59 : decode cX6_warm 59 = .ok (.iconst 0, 1) := by decide +kernel
theorem dX6_warm_60 : decode cX6_warm 60 = .ok (.bipush 99, 2) := by decide +kernel
theorem dX6_warm_62 : decode cX6_warm 62 = .ok (.iload 7, 2) := by decide +kernel
theorem dX6_warm_64 : decode cX6_warm 64 = .ok (.invokestatic 102, 3) := by decide +kernel
theorem dX6_warm_67 : decode cX6_warm 67 = .ok (.invokestatic 31, 3) := by decide +kernel
theorem dX6_warm_70 : decode cX6_warm 70 = .ok (.istore 4, 2) := by decide +kernel
theorem dX6_warm_72 : decode cX6_warm 72 = .ok (.aload_n 0, 1) := by decide +kernel
theorem dX6_warm_73 : decode cX6_warm 73 = .ok (.getfield 9, 3) := by decide +kernel
theorem dX6_warm_76 : decode cX6_warm 76 = .ok (.iload 5, 2) := by decide +kernel
theorem dX6_warm_78 : decode cX6_warm 78 = .ok (.iload 4, 2) := by decide +kernel
theorem dX6_warm_80 : decode cX6_warm 80 = .ok (.iastore, 1) := by decide +kernel
theorem dX6_warm_81 : decode cX6_warm 81 = .ok (.iinc 5 1, 3) := by decide +kernel
theorem dX6_warm_84 : decode cX6_warm 84 = .ok (.goto (-78), 3) := by decide +kernel
theorem dX6_warm_87 : decode cX6_warm 87 = .ok (.return_, 1) := by decide +kernel
theorem dX6_knock_0 : decode cX6_knock 0 = .ok (.aload_n 1, 1) := by decide +kernel
theorem dX6_knock_1 : decode cX6_knock 1 = .ok (.getfield 89, 3) := by decide +kernel
theorem dX6_knock_4 : decode cX6_knock 4 = .ok (.iload_n 2, 1) := by decide +kernel
theorem dX6_knock_5 : decode cX6_knock 5 = .ok (.iaload, 1) := by decide +kernel
theorem dX6_knock_6 : decode cX6_knock 6 = .ok (.istore 7, 2) := by decide +kernel
theorem dX6_knock_8 : decode cX6_knock 8 = .ok (.lload_n 3, 1) := by decide +kernel
theorem dX6_knock_9 : decode cX6_knock 9 = .ok (.iconst 1, 1) := by decide +kernel
theorem dX6_knock_10 : decode cX6_knock 10 = .ok (.lshl, 1) := by decide +kernel
theorem dX6_knock_11 : decode cX6_knock 11 = .ok (.lload_n 3, 1) := by decide +kernel
theorem dX6_knock_12 : decode cX6_knock 12 = .ok (.ldc2_w 55, 3) := by decide +kernel
theorem dX6_knock_15 : decode cX6_knock 15 = .ok (.lxor, 1) := by decide +kernel
theorem dX6_knock_16 : decode cX6_knock 16 = .ok (.land, 1) := by decide +kernel
theorem dX6_knock_17 : decode cX6_knock 17 = .ok (.ldc2_w 40, 3) := by decide +kernel
theorem dX6_knock_20 : decode cX6_knock 20 = .ok (.land, 1) := by decide +kernel
theorem dX6_knock_21 : decode cX6_knock 21 = .ok (.lstore 8, 2) := by decide +kernel
theorem dX6_knock_23 : decode cX6_knock 23 = .ok (.lload_n 3, 1) := by decide +kernel
theorem dX6_knock_24 : decode cX6_knock 24 = .ok (.lload_n 3, 1) := by decide +kernel
theorem dX6_knock_25 : decode cX6_knock 25 = .ok (.iconst 1, 1) := by decide +kernel
theorem dX6_knock_26 : decode cX6_knock 26 = .ok (.lshl, 1) := by decide +kernel
theorem dX6_knock_27 : decode cX6_knock 27 = .ok (.ldc2_w 55, 3) := by decide +kernel
theorem dX6_knock_30 : decode cX6_knock 30 = .ok (.lxor, 1) := by decide +kernel
theorem dX6_knock_31 : decode cX6_knock 31 = .ok (.land, 1) := by decide +kernel
theorem dX6_knock_32 : decode cX6_knock 32 = .ok (.lstore 10, 2) := by decide +kernel
theorem dX6_knock_34 : decode cX6_knock 34 = .ok (.aload_n 1, 1) := by decide +kernel
theorem dX6_knock_35 : decode cX6_knock 35 = .ok (.getfield 86, 3) := by decide +kernel
theorem dX6_knock_38 : decode cX6_knock 38 = .ok (.iload_n 2, 1) := by decide +kernel
theorem dX6_knock_39 : decode cX6_knock 39 = .ok (.iaload, 1) := by decide +kernel
theorem dX6_knock_40 : decode cX6_knock 40 = .ok (.tableswitch 127 1 6 #[40, 58, 85, 49, 71, 102], 40) := by decide +kernel
theorem dX6_knock_80 : decode cX6_knock 80 = .ok (.aload_n 0, 1) := by decide +kernel
theorem dX6_knock_81 : decode cX6_knock 81 = .ok (.iload_n 2, 1) := by decide +kernel
theorem dX6_knock_82 : decode cX6_knock 82 = .ok (.iconst 0, 1) := by decide +kernel
theorem dX6_knock_83 : decode cX6_knock 83 = .ok (.invokevirtual 105, 3) := by decide +kernel
theorem dX6_knock_86 : decode cX6_knock 86 = .ok (.goto 101, 3) := by decide +kernel
theorem dX6_knock_89 : decode cX6_knock 89 = .ok (.aload_n 0, 1) := by decide +kernel
theorem dX6_knock_90 : decode cX6_knock 90 = .ok (.iload_n 2, 1) := by decide +kernel
theorem dX6_knock_91 : decode cX6_knock 91 = .ok (.iconst 1, 1) := by decide +kernel
theorem dX6_knock_92 : decode cX6_knock 92 = .ok (.invokevirtual 105, 3) := by decide +kernel
theorem dX6_knock_95 : decode cX6_knock 95 = .ok (.goto 92, 3) := by decide +kernel
theorem dX6_knock_98 : decode cX6_knock 98 = .ok (.aload_n 0, 1) := by decide +kernel
theorem dX6_knock_99 : decode cX6_knock 99 = .ok (.iload_n 2, 1) := by decide +kernel
theorem dX6_knock_100 : decode cX6_knock 100 = .ok (.lload 8, 2) := by decide +kernel
theorem dX6_knock_102 : decode cX6_knock 102 = .ok (.iload 7, 2) := by decide +kernel
theorem dX6_knock_104 : decode cX6_knock 104 = .ok (.lconst 0, 1) := by decide +kernel
theorem dX6_knock_105 : decode cX6_knock 105 = .ok (.invokevirtual 109, 3) := by decide +kernel
theorem dX6_knock_108 : decode cX6_knock 108 = .ok (.goto 79, 3) := by decide +kernel
theorem dX6_knock_111 : decode cX6_knock 111 = .ok (.aload_n 0, 1) := by decide +kernel
theorem dX6_knock_112 : decode cX6_knock 112 = .ok (.iload_n 2, 1) := by decide +kernel
theorem dX6_knock_113 : decode cX6_knock 113 = .ok (.lload 8, 2) := by decide +kernel
theorem dX6_knock_115 : decode cX6_knock 115 = .ok (.iload 7, 2) := by decide +kernel
theorem dX6_knock_117 : decode cX6_knock 117 = .ok (.lload 10, 2) := by decide +kernel
theorem dX6_knock_119 : decode cX6_knock 119 = .ok (.invokevirtual 109, 3) := by decide +kernel
theorem dX6_knock_122 : decode cX6_knock 122 = .ok (.goto 65, 3) := by decide +kernel
theorem dX6_knock_125 : decode cX6_knock 125 = .ok (.aload_n 0, 1) := by decide +kernel
theorem dX6_knock_126 : decode cX6_knock 126 = .ok (.iload_n 2, 1) := by decide +kernel
theorem dX6_knock_127 : decode cX6_knock 127 = .ok (.lconst 0, 1) := by decide +kernel
theorem dX6_knock_128 : decode cX6_knock 128 = .ok (.iconst 0, 1) := by decide +kernel
theorem dX6_knock_129 : decode cX6_knock 129 = .ok (.lload 5, 2) := by decide +kernel
theorem dX6_knock_131 : decode cX6_knock 131 = .ok (.iload 7, 2) := by decide +kernel
theorem dX6_knock_133 : decode cX6_knock 133 = .ok (.invokestatic 113, 3) := by decide +kernel
theorem dX6_knock_136 : decode cX6_knock 136 = .ok (.invokevirtual 109, 3) := by decide +kernel
theorem dX6_knock_139 : decode cX6_knock 139 = .ok (.goto 48, 3) := by decide +kernel
theorem dX6_knock_142 : decode cX6_knock 142 = .ok (.aload_n 0, 1) := by decide +kernel
theorem dX6_knock_143 : decode cX6_knock 143 = .ok (.iload_n 2, 1) := by decide +kernel
theorem dX6_knock_144 : decode cX6_knock 144 = .ok (.lconst 0, 1) := by decide +kernel
theorem dX6_knock_145 : decode cX6_knock 145 = .ok (.iconst 0, 1) := by decide +kernel
theorem dX6_knock_146 : decode cX6_knock 146 = .ok (.lload 5, 2) := by decide +kernel
theorem dX6_knock_148 : decode cX6_knock 148 = .ok (.ldc2_w 55, 3) := by decide +kernel
theorem dX6_knock_151 : decode cX6_knock 151 = .ok (.lxor, 1) := by decide +kernel
theorem dX6_knock_152 : decode cX6_knock 152 = .ok (.ldc2_w 40, 3) := by decide +kernel
theorem dX6_knock_155 : decode cX6_knock 155 = .ok (.land, 1) := by decide +kernel
theorem dX6_knock_156 : decode cX6_knock 156 = .ok (.iload 7, 2) := by decide +kernel
theorem dX6_knock_158 : decode cX6_knock 158 = .ok (.invokestatic 113, 3) := by decide +kernel
theorem dX6_knock_161 : decode cX6_knock 161 = .ok (.invokevirtual 109, 3) := by decide +kernel
theorem dX6_knock_164 : decode cX6_knock 164 = .ok (.goto 23, 3) := by decide +kernel
theorem dX6_knock_167 : decode cX6_knock 167 = .ok (.aload_n 0, 1) := by decide +kernel
theorem dX6_knock_168 : decode cX6_knock 168 = .ok (.iload_n 2, 1) := by decide +kernel
theorem dX6_knock_169 : decode cX6_knock 169 = .ok (.lconst 0, 1) := by decide +kernel
theorem dX6_knock_170 : decode cX6_knock 170 = .ok (.iconst 0, 1) := by decide +kernel
theorem dX6_knock_171 : decode cX6_knock 171 = .ok (.aload_n 0, 1) := by decide +kernel
theorem dX6_knock_172 : decode cX6_knock 172 = .ok (.getfield 24, 3) := by decide +kernel
theorem dX6_knock_175 : decode cX6_knock 175 = .ok (.iload_n 2, 1) := by decide +kernel
theorem dX6_knock_176 : decode cX6_knock 176 = .ok (.laload, 1) := by decide +kernel
theorem dX6_knock_177 : decode cX6_knock 177 = .ok (.ldc2_w 117, 3) := by decide +kernel
theorem dX6_knock_180 : decode cX6_knock 180 = .ok (.iload 7, 2) := by decide +kernel
theorem dX6_knock_182 : decode cX6_knock 182 = .ok (.lshl, 1) := by decide +kernel
theorem dX6_knock_183 : decode cX6_knock 183 = .ok (.land, 1) := by decide +kernel
theorem dX6_knock_184 : decode cX6_knock 184 = .ok (.invokevirtual 109, 3) := by decide +kernel
theorem dX6_knock_187 : decode cX6_knock 187 = .ok (.return_, 1) := by decide +kernel
theorem dX6_mark_0 : decode cX6_mark 0 = .ok (.iconst 0, 1) := by decide +kernel
theorem dX6_mark_1 : decode cX6_mark 1 = .ok (.istore 7, 2) := by decide +kernel
theorem dX6_mark_3 : decode cX6_mark 3 = .ok (.iload 7, 2) := by decide +kernel
theorem dX6_mark_5 : decode cX6_mark 5 = .ok (.bipush 40, 2) := by decide +kernel
theorem dX6_mark_7 : decode cX6_mark 7 = .ok (.if_icmp .ge 59, 3) := by decide +kernel
theorem dX6_mark_10 : decode cX6_mark 10 = .ok (.iconst 0, 1) := by decide +kernel
theorem dX6_mark_11 : decode cX6_mark 11 = .ok (.istore 8, 2) := by decide +kernel
theorem dX6_mark_13 : decode cX6_mark 13 = .ok (.lload_n 2, 1) := by decide +kernel
theorem dX6_mark_14 : decode cX6_mark 14 = .ok (.iload 7, 2) := by decide +kernel
theorem dX6_mark_16 : decode cX6_mark 16 = .ok (.lshr, 1) := by decide +kernel
theorem dX6_mark_17 : decode cX6_mark 17 = .ok (.lconst 1, 1) := by decide +kernel
theorem dX6_mark_18 : decode cX6_mark 18 = .ok (.land, 1) := by decide +kernel
theorem dX6_mark_19 : decode cX6_mark 19 = .ok (.lconst 0, 1) := by decide +kernel
theorem dX6_mark_20 : decode cX6_mark 20 = .ok (.lcmp, 1) := by decide +kernel
theorem dX6_mark_21 : decode cX6_mark 21 = .ok (.ifCond .eq 10, 3) := by decide +kernel
theorem dX6_mark_24 : decode cX6_mark 24 = .ok (.iload 8, 2) := by decide +kernel
theorem dX6_mark_26 : decode cX6_mark 26 = .ok (.iload 4, 2) := by decide +kernel
theorem dX6_mark_28 : decode cX6_mark 28 = .ok (.iadd, 1) := by decide +kernel
theorem dX6_mark_29 : decode cX6_mark 29 = .ok (.istore 8, 2) := by decide +kernel
theorem dX6_mark_31 : decode cX6_mark 31 = .ok (.lload 5, 2) := by decide +kernel
theorem dX6_mark_33 : decode cX6_mark 33 = .ok (.iload 7, 2) := by decide +kernel
theorem dX6_mark_35 : decode cX6_mark 35 = .ok (.lshr, 1) := by decide +kernel
theorem dX6_mark_36 : decode cX6_mark 36 = .ok (.lconst 1, 1) := by decide +kernel
theorem dX6_mark_37 : decode cX6_mark 37 = .ok (.land, 1) := by decide +kernel
theorem dX6_mark_38 : decode cX6_mark 38 = .ok (.lconst 0, 1) := by decide +kernel
theorem dX6_mark_39 : decode cX6_mark 39 = .ok (.lcmp, 1) := by decide +kernel
theorem dX6_mark_40 : decode cX6_mark 40 = .ok (.ifCond .eq 6, 3) := by decide +kernel
theorem dX6_mark_43 : decode cX6_mark 43 = .ok (.iinc 8 1, 3) := by decide +kernel
theorem dX6_mark_46 : decode cX6_mark 46 = .ok (.aload_n 0, 1) := by decide +kernel
theorem dX6_mark_47 : decode cX6_mark 47 = .ok (.getfield 21, 3) := by decide +kernel
theorem dX6_mark_50 : decode cX6_mark 50 = .ok (.iload_n 1, 1) := by decide +kernel
theorem dX6_mark_51 : decode cX6_mark 51 = .ok (.bipush 40, 2) := by decide +kernel
theorem dX6_mark_53 : decode cX6_mark 53 = .ok (.imul, 1) := by decide +kernel
theorem dX6_mark_54 : decode cX6_mark 54 = .ok (.iload 7, 2) := by decide +kernel
theorem dX6_mark_56 : decode cX6_mark 56 = .ok (.iadd, 1) := by decide +kernel
theorem dX6_mark_57 : decode cX6_mark 57 = .ok (.iload 8, 2) := by decide +kernel
theorem dX6_mark_59 : decode cX6_mark 59 = .ok (.iastore, 1) := by decide +kernel
theorem dX6_mark_60 : decode cX6_mark 60 = .ok (.iinc 7 1, 3) := by decide +kernel
theorem dX6_mark_63 : decode cX6_mark 63 = .ok (.goto (-60), 3) := by decide +kernel
theorem dX6_mark_66 : decode cX6_mark 66 = .ok (.return_, 1) := by decide +kernel
theorem dX6_lasting_0 : decode cX6_lasting 0 = .ok (.lload_n 0, 1) := by decide +kernel
theorem dX6_lasting_1 : decode cX6_lasting 1 = .ok (.lstore_n 3, 1) := by decide +kernel
theorem dX6_lasting_2 : decode cX6_lasting 2 = .ok (.iconst 1, 1) := by decide +kernel
theorem dX6_lasting_3 : decode cX6_lasting 3 = .ok (.istore 5, 2) := by decide +kernel
theorem dX6_lasting_5 : decode cX6_lasting 5 = .ok (.iload 5, 2) := by decide +kernel
theorem dX6_lasting_7 : decode cX6_lasting 7 = .ok (.iload_n 2, 1) := by decide +kernel
theorem dX6_lasting_8 : decode cX6_lasting 8 = .ok (.if_icmp .ge 23, 3) := by decide +kernel
theorem dX6_lasting_11 : decode cX6_lasting 11 = .ok (.iload 5, 2) := by decide +kernel
theorem dX6_lasting_13 : decode cX6_lasting 13 = .ok (.bipush 40, 2) := by decide +kernel
theorem dX6_lasting_15 : decode cX6_lasting 15 = .ok (.if_icmp .ge 16, 3) := by decide +kernel
theorem dX6_lasting_18 : decode cX6_lasting 18 = .ok (.lload_n 3, 1) := by decide +kernel
theorem dX6_lasting_19 : decode cX6_lasting 19 = .ok (.lload_n 0, 1) := by decide +kernel
theorem dX6_lasting_20 : decode cX6_lasting 20 = .ok (.iload 5, 2) := by decide +kernel
theorem dX6_lasting_22 : decode cX6_lasting 22 = .ok (.lshl, 1) := by decide +kernel
theorem dX6_lasting_23 : decode cX6_lasting 23 = .ok (.land, 1) := by decide +kernel
theorem dX6_lasting_24 : decode cX6_lasting 24 = .ok (.lstore_n 3, 1) := by decide +kernel
theorem dX6_lasting_25 : decode cX6_lasting 25 = .ok (.iinc 5 1, 3) := by decide +kernel
theorem dX6_lasting_28 : decode cX6_lasting 28 = .ok (.goto (-23), 3) := by decide +kernel
theorem dX6_lasting_31 : decode cX6_lasting 31 = .ok (.lload_n 3, 1) := by decide +kernel
theorem dX6_lasting_32 : decode cX6_lasting 32 = .ok (.lreturn, 1) := by decide +kernel
theorem dX6_tick_0 : decode cX6_tick 0 = .ok (.iconst 0, 1) := by decide +kernel
theorem dX6_tick_1 : decode cX6_tick 1 = .ok (.istore_n 3, 1) := by decide +kernel
theorem dX6_tick_2 : decode cX6_tick 2 = .ok (.iconst 0, 1) := by decide +kernel
theorem dX6_tick_3 : decode cX6_tick 3 = .ok (.istore 4, 2) := by decide +kernel
theorem dX6_tick_5 : decode cX6_tick 5 = .ok (.iconst 0, 1) := by decide +kernel
theorem dX6_tick_6 : decode cX6_tick 6 = .ok (.istore 5, 2) := by decide +kernel
theorem dX6_tick_8 : decode cX6_tick 8 = .ok (.iload 5, 2) := by decide +kernel
theorem dX6_tick_10 : decode cX6_tick 10 = .ok (.bipush 40, 2) := by decide +kernel
theorem dX6_tick_12 : decode cX6_tick 12 = .ok (.if_icmp .ge 92, 3) := by decide +kernel
theorem dX6_tick_15 : decode cX6_tick 15 = .ok (.aload_n 0, 1) := by decide +kernel
theorem dX6_tick_16 : decode cX6_tick 16 = .ok (.iload_n 1, 1) := by decide +kernel
theorem dX6_tick_17 : decode cX6_tick 17 = .ok (.iload 5, 2) := by decide +kernel
theorem dX6_tick_19 : decode cX6_tick 19 = .ok (.invokevirtual 119, 3) := by decide +kernel
theorem dX6_tick_22 : decode cX6_tick 22 = .ok (.istore 6, 2) := by decide +kernel
theorem dX6_tick_24 : decode cX6_tick 24 = .ok (.bipush 9, 2) := by decide +kernel
theorem dX6_tick_26 : decode cX6_tick 26 = .ok (.iload 6, 2) := by decide +kernel
theorem dX6_tick_28 : decode cX6_tick 28 = .ok (.iload_n 3, 1) := by decide +kernel
theorem dX6_tick_29 : decode cX6_tick 29 = .ok (.isub, 1) := by decide +kernel
theorem dX6_tick_30 : decode cX6_tick 30 = .ok (.invokestatic 122, 3) := by decide +kernel
theorem dX6_tick_33 : decode cX6_tick 33 = .ok (.aload_n 0, 1) := by decide +kernel
theorem dX6_tick_34 : decode cX6_tick 34 = .ok (.iload_n 1, 1) := by decide +kernel
theorem dX6_tick_35 : decode cX6_tick 35 = .ok (.iload 5, 2) := by decide +kernel
theorem dX6_tick_37 : decode cX6_tick 37 = .ok (.invokevirtual 125, 3) := by decide +kernel
theorem dX6_tick_40 : decode cX6_tick 40 = .ok (.idiv, 1) := by decide +kernel
theorem dX6_tick_41 : decode cX6_tick 41 = .ok (.invokestatic 102, 3) := by decide +kernel
theorem dX6_tick_44 : decode cX6_tick 44 = .ok (.istore 7, 2) := by decide +kernel
theorem dX6_tick_46 : decode cX6_tick 46 = .ok (.iload 7, 2) := by decide +kernel
theorem dX6_tick_48 : decode cX6_tick 48 = .ok (.iconst 1, 1) := by decide +kernel
theorem dX6_tick_49 : decode cX6_tick 49 = .ok (.if_icmp .lt 6, 3) := by decide +kernel
theorem dX6_tick_52 : decode cX6_tick 52 = .ok (.iload 6, 2) := by decide +kernel
theorem dX6_tick_54 : decode cX6_tick 54 = .ok (.istore_n 3, 1) := by decide +kernel
theorem dX6_tick_55 : decode cX6_tick 55 = .ok (.aload_n 0, 1) := by decide +kernel
theorem dX6_tick_56 : decode cX6_tick 56 = .ok (.getfield 21, 3) := by decide +kernel
theorem dX6_tick_59 : decode cX6_tick 59 = .ok (.iload_n 1, 1) := by decide +kernel
theorem dX6_tick_60 : decode cX6_tick 60 = .ok (.bipush 40, 2) := by decide +kernel
theorem dX6_tick_62 : decode cX6_tick 62 = .ok (.imul, 1) := by decide +kernel
theorem dX6_tick_63 : decode cX6_tick 63 = .ok (.iload 5, 2) := by decide +kernel
theorem dX6_tick_65 : decode cX6_tick 65 = .ok (.iadd, 1) := by decide +kernel
theorem dX6_tick_66 : decode cX6_tick 66 = .ok (.iload_n 2, 1) := by decide +kernel
theorem dX6_tick_67 : decode cX6_tick 67 = .ok (.ifCond .eq 19, 3) := by decide +kernel
theorem dX6_tick_70 : decode cX6_tick 70 = .ok (.aload_n 0, 1) := by decide +kernel
theorem dX6_tick_71 : decode cX6_tick 71 = .ok (.getfield 9, 3) := by decide +kernel
theorem dX6_tick_74 : decode cX6_tick 74 = .ok (.iload 5, 2) := by decide +kernel
theorem dX6_tick_76 : decode cX6_tick 76 = .ok (.iaload, 1) := by decide +kernel
theorem dX6_tick_77 : decode cX6_tick 77 = .ok (.iload 4, 2) := by decide +kernel
theorem dX6_tick_79 : decode cX6_tick 79 = .ok (.if_icmp .gt 7, 3) := by decide +kernel
theorem dX6_tick_82 : decode cX6_tick 82 = .ok (.iconst 0, 1) := by decide +kernel
theorem dX6_tick_83 : decode cX6_tick 83 = .ok (.goto 5, 3) := by decide +kernel
theorem dX6_tick_86 : decode cX6_tick 86 = .ok (.iload 7, 2) := by decide +kernel
theorem dX6_tick_88 : decode cX6_tick 88 = .ok (.iastore, 1) := by decide +kernel
theorem dX6_tick_89 : decode cX6_tick 89 = .ok (.aload_n 0, 1) := by decide +kernel
theorem dX6_tick_90 : decode cX6_tick 90 = .ok (.getfield 9, 3) := by decide +kernel
theorem dX6_tick_93 : decode cX6_tick 93 = .ok (.iload 5, 2) := by decide +kernel
theorem dX6_tick_95 : decode cX6_tick 95 = .ok (.iaload, 1) := by decide +kernel
theorem dX6_tick_96 : decode cX6_tick 96 = .ok (.istore 4, 2) := by decide +kernel
theorem dX6_tick_98 : decode cX6_tick 98 = .ok (.iinc 5 1, 3) := by decide +kernel
theorem dX6_tick_101 : decode cX6_tick 101 = .ok (.goto (-93), 3) := by decide +kernel
theorem dX6_tick_104 : decode cX6_tick 104 = .ok (.return_, 1) := by decide +kernel
theorem dX7_init_0 : decode cX7_init 0 = .ok (.aload_n 0, 1) := by decide +kernel
theorem dX7_init_1 : decode cX7_init 1 = .ok (.invokespecial 3, 3) := by decide +kernel
theorem dX7_init_4 : decode cX7_init 4 = .ok (.aload_n 0, 1) := by decide +kernel
theorem dX7_init_5 : decode cX7_init 5 = .ok (.bipush 120, 2) := by decide +kernel
theorem dX7_init_7 : decode cX7_init 7 = .ok (.newarray .int, 2) := by decide +kernel
theorem dX7_init_9 : decode cX7_init 9 = .ok (.putfield 9, 3) := by decide +kernel
theorem dX7_init_12 : decode cX7_init 12 = .ok (.aload_n 0, 1) := by decide +kernel
theorem dX7_init_13 : decode cX7_init 13 = .ok (.iconst 0, 1) := by decide +kernel
theorem dX7_init_14 : decode cX7_init 14 = .ok (.putfield 15, 3) := by decide +kernel
theorem dX7_init_17 : decode cX7_init 17 = .ok (.return_, 1) := by decide +kernel
theorem dX7_add_0 : decode cX7_add 0 = .ok (.aload_n 0, 1) := by decide +kernel
theorem dX7_add_1 : decode cX7_add 1 = .ok (.getfield 15, 3) := by decide +kernel
theorem dX7_add_4 : decode cX7_add 4 = .ok (.ifCond .lt 15, 3) := by decide +kernel
theorem dX7_add_7 : decode cX7_add 7 = .ok (.aload_n 0, 1) := by decide +kernel
theorem dX7_add_8 : decode cX7_add 8 = .ok (.getfield 15, 3) := by decide +kernel
theorem dX7_add_11 : decode cX7_add 11 = .ok (.aload_n 0, 1) := by decide +kernel
theorem dX7_add_12 : decode cX7_add 12 = .ok (.getfield 9, 3) := by decide +kernel
theorem dX7_add_15 : decode cX7_add 15 = .ok (.arraylength, 1) := by decide +kernel
theorem dX7_add_16 : decode cX7_add 16 = .ok (.if_icmp .lt 4, 3) := by decide +kernel
theorem dX7_add_19 : decode cX7_add 19 = .ok (.return_, 1) := by decide +kernel
theorem dX7_add_20 : decode cX7_add 20 = .ok (.aload_n 0, 1) := by decide +kernel
theorem dX7_add_21 : decode cX7_add 21 = .ok (.getfield 9, 3) := by decide +kernel
theorem dX7_add_24 : decode cX7_add 24 = .ok (.aload_n 0, 1) := by decide +kernel
theorem dX7_add_25 : decode cX7_add 25 = .ok (.getfield 15, 3) := by decide +kernel
theorem dX7_add_28 : decode cX7_add 28 = .ok (.iload_n 1, 1) := by decide +kernel
theorem dX7_add_29 : decode cX7_add 29 = .ok (.iastore, 1) := by decide +kernel
theorem dX7_add_30 : decode cX7_add 30 = .ok (.aload_n 0, 1) := by decide +kernel
theorem dX7_add_31 : decode cX7_add 31 = .ok (.dup, 1) := by decide +kernel
theorem dX7_add_32 : decode cX7_add 32 = .ok (.getfield 15, 3) := by decide +kernel
theorem dX7_add_35 : decode cX7_add 35 = .ok (.iconst 1, 1) := by decide +kernel
theorem dX7_add_36 : decode cX7_add 36 = .ok (.iadd, 1) := by decide +kernel
theorem dX7_add_37 : decode cX7_add 37 = .ok (.putfield 15, 3) := by decide +kernel
theorem dX7_add_40 : decode cX7_add 40 = .ok (.return_, 1) := by decide +kernel
theorem dX7_copy_0 : decode cX7_copy 0 = .ok (.aload_n 1, 1) := by decide +kernel
theorem dX7_copy_1 : decode cX7_copy 1 = .ok (.getfield 9, 3) := by decide +kernel
theorem dX7_copy_4 : decode cX7_copy 4 = .ok (.iconst 0, 1) := by decide +kernel
theorem dX7_copy_5 : decode cX7_copy 5 = .ok (.aload_n 0, 1) := by decide +kernel
theorem dX7_copy_6 : decode cX7_copy 6 = .ok (.getfield 9, 3) := by decide +kernel
theorem dX7_copy_9 : decode cX7_copy 9 = .ok (.iconst 0, 1) := by decide +kernel
theorem dX7_copy_10 : decode cX7_copy 10 = .ok (.bipush 120, 2) := by decide +kernel
theorem dX7_copy_12 : decode cX7_copy 12 = .ok (.invokestatic 19, 3) := by decide +kernel
theorem dX7_copy_15 : decode cX7_copy 15 = .ok (.aload_n 0, 1) := by decide +kernel
theorem dX7_copy_16 : decode cX7_copy 16 = .ok (.aload_n 1, 1) := by decide +kernel
theorem dX7_copy_17 : decode cX7_copy 17 = .ok (.getfield 15, 3) := by decide +kernel
theorem dX7_copy_20 : decode cX7_copy 20 = .ok (.putfield 15, 3) := by decide +kernel
theorem dX7_copy_23 : decode cX7_copy 23 = .ok (.return_, 1) := by decide +kernel
theorem dX8_code_0 : decode cX8_code 0 = .ok (.iload_n 0, 1) := by decide +kernel
theorem dX8_code_1 : decode cX8_code 1 = .ok (.iconst 3, 1) := by decide +kernel
theorem dX8_code_2 : decode cX8_code 2 = .ok (.imul, 1) := by decide +kernel
theorem dX8_code_3 : decode cX8_code 3 = .ok (.iload_n 1, 1) := by decide +kernel
theorem dX8_code_4 : decode cX8_code 4 = .ok (.iadd, 1) := by decide +kernel
theorem dX8_code_5 : decode cX8_code 5 = .ok (.bipush 100, 2) := by decide +kernel
theorem dX8_code_7 : decode cX8_code 7 = .ok (.imul, 1) := by decide +kernel
theorem dX8_code_8 : decode cX8_code 8 = .ok (.iload_n 2, 1) := by decide +kernel
theorem dX8_code_9 : decode cX8_code 9 = .ok (.iadd, 1) := by decide +kernel
theorem dX8_code_10 : decode cX8_code 10 = .ok (.ireturn, 1) := by decide +kernel
theorem dX8_subject_0 : decode cX8_subject 0 = .ok (.iload_n 0, 1) := by decide +kernel
theorem dX8_subject_1 : decode cX8_subject 1 = .ok (.sipush 300, 3) := by decide +kernel
theorem dX8_subject_4 : decode cX8_subject 4 = .ok (.idiv, 1) := by decide +kernel
theorem dX8_subject_5 : decode cX8_subject 5 = .ok (.ireturn, 1) := by decide +kernel
theorem dX8_sign_0 : decode cX8_sign 0 = .ok (.iload_n 0, 1) := by decide +kernel
theorem dX8_sign_1 : decode cX8_sign 1 = .ok (.bipush 100, 2) := by decide +kernel
theorem dX8_sign_3 : decode cX8_sign 3 = .ok (.idiv, 1) := by decide +kernel
theorem dX8_sign_4 : decode cX8_sign 4 = .ok (.iconst 3, 1) := by decide +kernel
theorem dX8_sign_5 : decode cX8_sign 5 = .ok (.irem, 1) := by decide +kernel
theorem dX8_sign_6 : decode cX8_sign 6 = .ok (.ireturn, 1) := by decide +kernel
theorem dX8_number_0 : decode cX8_number 0 = .ok (.iload_n 0, 1) := by decide +kernel
theorem dX8_number_1 : decode cX8_number 1 = .ok (.bipush 100, 2) := by decide +kernel
theorem dX8_number_3 : decode cX8_number 3 = .ok (.irem, 1) := by decide +kernel
theorem dX8_number_4 : decode cX8_number 4 = .ok (.ireturn, 1) := by decide +kernel
theorem dX8_holds_0 : decode cX8_holds 0 = .ok (.iload_n 0, 1) := by decide +kernel
theorem dX8_holds_1 : decode cX8_holds 1 = .ok (.invokestatic 9, 3) := by decide +kernel
theorem dX8_holds_4 : decode cX8_holds 4 = .ok (.lookupswitch 56 #[(0, 28), (1, 42)], 28) := by decide +kernel
theorem dX8_holds_32 : decode cX8_holds 32 = .ok (.iload_n 1, 1) := by decide +kernel
theorem dX8_holds_33 : decode cX8_holds 33 = .ok (.iload_n 0, 1) := by decide +kernel
theorem dX8_holds_34 : decode cX8_holds 34 = .ok (.invokestatic 15, 3) := by decide +kernel
theorem dX8_holds_37 : decode cX8_holds 37 = .ok (.if_icmp .ge 7, 3) := by decide +kernel
theorem dX8_holds_40 : decode cX8_holds 40 = .ok (.iconst 1, 1) := by decide +kernel
theorem dX8_holds_41 : decode cX8_holds 41 = .ok (.goto 4, 3) := by decide +kernel
theorem dX8_holds_44 : decode cX8_holds 44 = .ok (.iconst 0, 1) := by decide +kernel
theorem dX8_holds_45 : decode cX8_holds 45 = .ok (.ireturn, 1) := by decide +kernel
theorem dX8_holds_46 : decode cX8_holds 46 = .ok (.iload_n 1, 1) := by decide +kernel
theorem dX8_holds_47 : decode cX8_holds 47 = .ok (.iload_n 0, 1) := by decide +kernel
theorem dX8_holds_48 : decode cX8_holds 48 = .ok (.invokestatic 15, 3) := by decide +kernel
theorem dX8_holds_51 : decode cX8_holds 51 = .ok (.if_icmp .ne 7, 3) := by decide +kernel
theorem dX8_holds_54 : decode cX8_holds 54 = .ok (.iconst 1, 1) := by decide +kernel
theorem dX8_holds_55 : decode cX8_holds 55 = .ok (.goto 4, 3) := by decide +kernel
theorem dX8_holds_58 : decode cX8_holds 58 = .ok (.iconst 0, 1) := by decide +kernel
theorem dX8_holds_59 : decode cX8_holds 59 = .ok (.ireturn, 1) := by decide +kernel
theorem dX8_holds_60 : decode cX8_holds 60 = .ok (.iload_n 1, 1) := by decide +kernel
theorem dX8_holds_61 : decode cX8_holds 61 = .ok (.iload_n 0, 1) := by decide +kernel
theorem dX8_holds_62 : decode cX8_holds 62 = .ok (.invokestatic 15, 3) := by decide +kernel
theorem dX8_holds_65 : decode cX8_holds 65 = .ok (.if_icmp .le 7, 3) := by decide +kernel
theorem dX8_holds_68 : decode cX8_holds 68 = .ok (.iconst 1, 1) := by decide +kernel
theorem dX8_holds_69 : decode cX8_holds 69 = .ok (.goto 4, 3) := by decide +kernel
theorem dX8_holds_72 : decode cX8_holds 72 = .ok (.iconst 0, 1) := by decide +kernel
theorem dX8_holds_73 : decode cX8_holds 73 = .ok (.ireturn, 1) := by decide +kernel
theorem dX8_minutes_0 : decode cX8_minutes 0 = .ok (.iload_n 0, 1) := by decide +kernel
theorem dX8_minutes_1 : decode cX8_minutes 1 = .ok (.invokestatic 15, 3) := by decide +kernel
theorem dX8_minutes_4 : decode cX8_minutes 4 = .ok (.istore_n 1, 1) := by decide +kernel
theorem dX8_minutes_5 : decode cX8_minutes 5 = .ok (.iload_n 1, 1) := by decide +kernel
theorem dX8_minutes_6 : decode cX8_minutes 6 = .ok (.bipush 40, 2) := by decide +kernel
theorem dX8_minutes_8 : decode cX8_minutes 8 = .ok (.if_icmp .lt 9, 3) := by decide +kernel
theorem dX8_minutes_11 : decode cX8_minutes 11 = .ok (.ldc2_w 18, 3) := by decide +kernel
theorem dX8_minutes_14 : decode cX8_minutes 14 = .ok (.goto 8, 3) := by decide +kernel
theorem dX8_minutes_17 : decode cX8_minutes 17 = .ok (.lconst 1, 1) := by decide +kernel
theorem dX8_minutes_18 : decode cX8_minutes 18 = .ok (.iload_n 1, 1) := by decide +kernel
theorem dX8_minutes_19 : decode cX8_minutes 19 = .ok (.lshl, 1) := by decide +kernel
theorem dX8_minutes_20 : decode cX8_minutes 20 = .ok (.lconst 1, 1) := by decide +kernel
theorem dX8_minutes_21 : decode cX8_minutes 21 = .ok (.lsub, 1) := by decide +kernel
theorem dX8_minutes_22 : decode cX8_minutes 22 = .ok (.lstore_n 2, 1) := by decide +kernel
theorem dX8_minutes_23 : decode cX8_minutes 23 = .ok (.iload_n 1, 1) := by decide +kernel
theorem dX8_minutes_24 : decode cX8_minutes 24 = .ok (.bipush 40, 2) := by decide +kernel
theorem dX8_minutes_26 : decode cX8_minutes 26 = .ok (.if_icmp .lt 7, 3) := by decide +kernel
theorem dX8_minutes_29 : decode cX8_minutes 29 = .ok (.lconst 0, 1) := by decide +kernel
theorem dX8_minutes_30 : decode cX8_minutes 30 = .ok (.goto 6, 3) := by decide +kernel
theorem dX8_minutes_33 : decode cX8_minutes 33 = .ok (.lconst 1, 1) := by decide +kernel
theorem dX8_minutes_34 : decode cX8_minutes 34 = .ok (.iload_n 1, 1) := by decide +kernel
theorem dX8_minutes_35 : decode cX8_minutes 35 = .ok (.lshl, 1) := by decide +kernel
theorem dX8_minutes_36 : decode cX8_minutes 36 = .ok (.lstore 4, 2) := by decide +kernel
theorem dX8_minutes_38 : decode cX8_minutes 38 = .ok (.iload_n 0, 1) := by decide +kernel
theorem dX8_minutes_39 : decode cX8_minutes 39 = .ok (.invokestatic 9, 3) := by decide +kernel
theorem dX8_minutes_42 : decode cX8_minutes 42 = .ok (.lookupswitch 31 #[(0, 26), (1, 28)], 26) := by decide +kernel
theorem dX8_minutes_68 : decode cX8_minutes 68 = .ok (.lload_n 2, 1) := by decide +kernel
theorem dX8_minutes_69 : decode cX8_minutes 69 = .ok (.lreturn, 1) := by decide +kernel
theorem dX8_minutes_70 : decode cX8_minutes 70 = .ok (.lload 4, 2) := by decide +kernel
theorem dX8_minutes_72 : decode cX8_minutes 72 = .ok (.lreturn, 1) := by decide +kernel
theorem dX8_minutes_73 : decode cX8_minutes 73 = .ok (.ldc2_w 18, 3) := by decide +kernel
theorem dX8_minutes_76 : decode cX8_minutes 76 = .ok (.lload_n 2, 1) := by decide +kernel
theorem dX8_minutes_77 : decode cX8_minutes 77 = .ok (.ldc2_w 20, 3) := by decide +kernel
theorem dX8_minutes_80 : decode cX8_minutes 80 = .ok (.lxor, 1) := by decide +kernel
theorem dX8_minutes_81 : decode cX8_minutes 81 = .ok (.land, 1) := by decide +kernel
theorem dX8_minutes_82 : decode cX8_minutes 82 = .ok (.lload 4, 2) := by decide +kernel
theorem dX8_minutes_84 : decode cX8_minutes 84 = .ok (.ldc2_w 20, 3) := by decide +kernel
theorem dX8_minutes_87 : decode cX8_minutes 87 = .ok (.lxor, 1) := by decide +kernel
theorem dX8_minutes_88 : decode cX8_minutes 88 = .ok (.land, 1) := by decide +kernel
theorem dX8_minutes_89 : decode cX8_minutes 89 = .ok (.lreturn, 1) := by decide +kernel
theorem dX9_init_0 : decode cX9_init 0 = .ok (.aload_n 0, 1) := by decide +kernel
theorem dX9_init_1 : decode cX9_init 1 = .ok (.invokespecial 5, 3) := by decide +kernel
theorem dX9_init_4 : decode cX9_init 4 = .ok (.aload_n 0, 1) := by decide +kernel
theorem dX9_init_5 : decode cX9_init 5 = .ok (.new 11, 3) := by decide +kernel
theorem dX9_init_8 : decode cX9_init 8 = .ok (.dup, 1) := by decide +kernel
theorem dX9_init_9 : decode cX9_init 9 = .ok (.invokespecial 13, 3) := by decide +kernel
theorem dX9_init_12 : decode cX9_init 12 = .ok (.putfield 14, 3) := by decide +kernel
theorem dX9_init_15 : decode cX9_init 15 = .ok (.aload_n 0, 1) := by decide +kernel
theorem dX9_init_16 : decode cX9_init 16 = .ok (.new 11, 3) := by decide +kernel
theorem dX9_init_19 : decode cX9_init 19 = .ok (.dup, 1) := by decide +kernel
theorem dX9_init_20 : decode cX9_init 20 = .ok (.invokespecial 13, 3) := by decide +kernel
theorem dX9_init_23 : decode cX9_init 23 = .ok (.putfield 18, 3) := by decide +kernel
theorem dX9_init_26 : decode cX9_init 26 = .ok (.aload_n 0, 1) := by decide +kernel
theorem dX9_init_27 : decode cX9_init 27 = .ok (.iconst 0, 1) := by decide +kernel
theorem dX9_init_28 : decode cX9_init 28 = .ok (.putfield 21, 3) := by decide +kernel
theorem dX9_init_31 : decode cX9_init 31 = .ok (.aload_n 0, 1) := by decide +kernel
theorem dX9_init_32 : decode cX9_init 32 = .ok (.new 25, 3) := by decide +kernel
theorem dX9_init_35 : decode cX9_init 35 = .ok (.dup, 1) := by decide +kernel
theorem dX9_init_36 : decode cX9_init 36 = .ok (.invokespecial 27, 3) := by decide +kernel
theorem dX9_init_39 : decode cX9_init 39 = .ok (.putfield 28, 3) := by decide +kernel
theorem dX9_init_42 : decode cX9_init 42 = .ok (.aload_n 0, 1) := by decide +kernel
theorem dX9_init_43 : decode cX9_init 43 = .ok (.new 32, 3) := by decide +kernel
theorem dX9_init_46 : decode cX9_init 46 = .ok (.dup, 1) := by decide +kernel
theorem dX9_init_47 : decode cX9_init 47 = .ok (.invokespecial 34, 3) := by decide +kernel
theorem dX9_init_50 : decode cX9_init 50 = .ok (.putfield 35, 3) := by decide +kernel
theorem dX9_init_53 : decode cX9_init 53 = .ok (.aload_n 0, 1) := by decide +kernel
theorem dX9_init_54 : decode cX9_init 54 = .ok (.new 39, 3) := by decide +kernel
theorem dX9_init_57 : decode cX9_init 57 = .ok (.dup, 1) := by decide +kernel
theorem dX9_init_58 : decode cX9_init 58 = .ok (.invokespecial 41, 3) := by decide +kernel
theorem dX9_init_61 : decode cX9_init 61 = .ok (.putfield 42, 3) := by decide +kernel
theorem dX9_init_64 : decode cX9_init 64 = .ok (.aload_n 0, 1) := by decide +kernel
theorem dX9_init_65 : decode cX9_init 65 = .ok (.iconst 0, 1) := by decide +kernel
theorem dX9_init_66 : decode cX9_init 66 = .ok (.putfield 46, 3) := by decide +kernel
theorem dX9_init_69 : decode cX9_init 69 = .ok (.aload_n 0, 1) := by decide +kernel
theorem dX9_init_70 : decode cX9_init 70 = .ok (.bipush 120, 2) := by decide +kernel
theorem dX9_init_72 : decode cX9_init 72 = .ok (.newarray .int, 2) := by decide +kernel
theorem dX9_init_74 : decode cX9_init 74 = .ok (.putfield 49, 3) := by decide +kernel
theorem dX9_init_77 : decode cX9_init 77 = .ok (.return_, 1) := by decide +kernel
theorem dX9_day_0 : decode cX9_day 0 = .ok (.iload_n 1, 1) := by decide +kernel
theorem dX9_day_1 : decode cX9_day 1 = .ok (.ifCond .lt 8, 3) := by decide +kernel
theorem dX9_day_4 : decode cX9_day 4 = .ok (.iload_n 1, 1) := by decide +kernel
theorem dX9_day_5 : decode cX9_day 5 = .ok (.iconst 3, 1) := by decide +kernel
theorem dX9_day_6 : decode cX9_day 6 = .ok (.if_icmp .lt 5, 3) := by decide +kernel
theorem dX9_day_9 : decode cX9_day 9 = .ok (.iconst (-1), 1) := by decide +kernel
theorem dX9_day_10 : decode cX9_day 10 = .ok (.ireturn, 1) := by decide +kernel
theorem dX9_day_11 : decode cX9_day 11 = .ok (.lload_n 2, 1) := by decide +kernel
theorem dX9_day_12 : decode cX9_day 12 = .ok (.lconst 0, 1) := by decide +kernel
theorem dX9_day_13 : decode cX9_day 13 = .ok (.lcmp, 1) := by decide +kernel
theorem dX9_day_14 : decode cX9_day 14 = .ok (.ifCond .lt 11, 3) := by decide +kernel
theorem dX9_day_17 : decode cX9_day 17 = .ok (.lload_n 2, 1) := by decide +kernel
theorem dX9_day_18 : decode cX9_day 18 = .ok (.ldc2_w 53, 3) := by decide +kernel
theorem dX9_day_21 : decode cX9_day 21 = .ok (.lcmp, 1) := by decide +kernel
theorem dX9_day_22 : decode cX9_day 22 = .ok (.ifCond .le 6, 3) := by decide +kernel
theorem dX9_day_25 : decode cX9_day 25 = .ok (.bipush (-2), 2) := by decide +kernel
theorem dX9_day_27 : decode cX9_day 27 = .ok (.ireturn, 1) := by decide +kernel
theorem dX9_day_28 : decode cX9_day 28 = .ok (.aload_n 0, 1) := by decide +kernel
theorem dX9_day_29 : decode cX9_day 29 = .ok (.getfield 14, 3) := by decide +kernel
theorem dX9_day_32 : decode cX9_day 32 = .ok (.getfield 55, 3) := by decide +kernel
theorem dX9_day_35 : decode cX9_day 35 = .ok (.iload_n 1, 1) := by decide +kernel
theorem dX9_day_36 : decode cX9_day 36 = .ok (.laload, 1) := by decide +kernel
theorem dX9_day_37 : decode cX9_day 37 = .ok (.invokestatic 59, 3) := by decide +kernel
theorem dX9_day_40 : decode cX9_day 40 = .ok (.istore 4, 2) := by decide +kernel
theorem dX9_day_42 : decode cX9_day 42 = .ok (.aload_n 0, 1) := by decide +kernel
theorem dX9_day_43 : decode cX9_day 43 = .ok (.getfield 14, 3) := by decide +kernel
theorem dX9_day_46 : decode cX9_day 46 = .ok (.getfield 55, 3) := by decide +kernel
theorem dX9_day_49 : decode cX9_day 49 = .ok (.iload_n 1, 1) := by decide +kernel
theorem dX9_day_50 : decode cX9_day 50 = .ok (.lload_n 2, 1) := by decide +kernel
theorem dX9_day_51 : decode cX9_day 51 = .ok (.lastore, 1) := by decide +kernel
theorem dX9_day_52 : decode cX9_day 52 = .ok (.aload_n 0, 1) := by decide +kernel
theorem dX9_day_53 : decode cX9_day 53 = .ok (.iconst 0, 1) := by decide +kernel
theorem dX9_day_54 : decode cX9_day 54 = .ok (.putfield 46, 3) := by decide +kernel
theorem dX9_day_57 : decode cX9_day 57 = .ok (.iload 4, 2) := by decide +kernel
theorem dX9_day_59 : decode cX9_day 59 = .ok (.ireturn, 1) := by decide +kernel
theorem dX9_feed_0 : decode cX9_feed 0 = .ok (.iload_n 3, 1) := by decide +kernel
theorem dX9_feed_1 : decode cX9_feed 1 = .ok (.iconst 1, 1) := by decide +kernel
theorem dX9_feed_2 : decode cX9_feed 2 = .ok (.if_icmp .lt 9, 3) := by decide +kernel
theorem dX9_feed_5 : decode cX9_feed 5 = .ok (.iload_n 3, 1) := by decide +kernel
theorem dX9_feed_6 : decode cX9_feed 6 = .ok (.bipush 8, 2) := by decide +kernel
theorem dX9_feed_8 : decode cX9_feed 8 = .ok (.if_icmp .le 6, 3) := by decide +kernel
theorem dX9_feed_11 : decode cX9_feed 11 = .ok (.bipush (-2), 2) := by decide +kernel
theorem dX9_feed_13 : decode cX9_feed 13 = .ok (.ireturn, 1) := by decide +kernel
theorem dX9_feed_14 : decode cX9_feed 14 = .ok (.aload_n 0, 1) := by decide +kernel
theorem dX9_feed_15 : decode cX9_feed 15 = .ok (.getfield 14, 3) := by decide +kernel
theorem dX9_feed_18 : decode cX9_feed 18 = .ok (.getfield 63, 3) := by decide +kernel
theorem dX9_feed_21 : decode cX9_feed 21 = .ok (.getfield 67, 3) := by decide +kernel
theorem dX9_feed_24 : decode cX9_feed 24 = .ok (.iload_n 3, 1) := by decide +kernel
theorem dX9_feed_25 : decode cX9_feed 25 = .ok (.iadd, 1) := by decide +kernel
theorem dX9_feed_26 : decode cX9_feed 26 = .ok (.bipush 120, 2) := by decide +kernel
theorem dX9_feed_28 : decode cX9_feed 28 = .ok (.if_icmp .le 6, 3) := by decide +kernel
theorem dX9_feed_31 : decode cX9_feed 31 = .ok (.bipush (-4), 2) := by decide +kernel
theorem dX9_feed_33 : decode cX9_feed 33 = .ok (.ireturn, 1) := by decide +kernel
theorem dX9_feed_34 : decode cX9_feed 34 = .ok (.iload_n 3, 1) := by decide +kernel
theorem dX9_feed_35 : decode cX9_feed 35 = .ok (.iconst 1, 1) := by decide +kernel
theorem dX9_feed_36 : decode cX9_feed 36 = .ok (.isub, 1) := by decide +kernel
theorem dX9_feed_37 : decode cX9_feed 37 = .ok (.istore 4, 2) := by decide +kernel
theorem dX9_feed_39 : decode cX9_feed 39 = .ok (.iload 4, 2) := by decide +kernel
theorem dX9_feed_41 : decode cX9_feed 41 = .ok (.ifCond .lt 31, 3) := by decide +kernel
theorem dX9_feed_44 : decode cX9_feed 44 = .ok (.aload_n 0, 1) := by decide +kernel
theorem dX9_feed_45 : decode cX9_feed 45 = .ok (.getfield 14, 3) := by decide +kernel
theorem dX9_feed_48 : decode cX9_feed 48 = .ok (.getfield 63, 3) := by decide +kernel
theorem dX9_feed_51 : decode cX9_feed 51 = .ok (.lload_n 1, 1) := by decide +kernel
theorem dX9_feed_52 : decode cX9_feed 52 = .ok (.bipush 8, 2) := by decide +kernel
theorem dX9_feed_54 : decode cX9_feed 54 = .ok (.iload 4, 2) := by decide +kernel
theorem dX9_feed_56 : decode cX9_feed 56 = .ok (.imul, 1) := by decide +kernel
theorem dX9_feed_57 : decode cX9_feed 57 = .ok (.lshr, 1) := by decide +kernel
theorem dX9_feed_58 : decode cX9_feed 58 = .ok (.l2i, 1) := by decide +kernel
theorem dX9_feed_59 : decode cX9_feed 59 = .ok (.sipush 255, 3) := by decide +kernel
theorem dX9_feed_62 : decode cX9_feed 62 = .ok (.iand, 1) := by decide +kernel
theorem dX9_feed_63 : decode cX9_feed 63 = .ok (.invokevirtual 73, 3) := by decide +kernel
theorem dX9_feed_66 : decode cX9_feed 66 = .ok (.iinc 4 (-1), 3) := by decide +kernel
theorem dX9_feed_69 : decode cX9_feed 69 = .ok (.goto (-30), 3) := by decide +kernel
theorem dX9_feed_72 : decode cX9_feed 72 = .ok (.aload_n 0, 1) := by decide +kernel
theorem dX9_feed_73 : decode cX9_feed 73 = .ok (.getfield 14, 3) := by decide +kernel
theorem dX9_feed_76 : decode cX9_feed 76 = .ok (.getfield 63, 3) := by decide +kernel
theorem dX9_feed_79 : decode cX9_feed 79 = .ok (.getfield 67, 3) := by decide +kernel
theorem dX9_feed_82 : decode cX9_feed 82 = .ok (.ireturn, 1) := by decide +kernel
theorem dX9_house_0 : decode cX9_house 0 = .ok (.aload_n 0, 1) := by decide +kernel
theorem dX9_house_1 : decode cX9_house 1 = .ok (.getfield 14, 3) := by decide +kernel
theorem dX9_house_4 : decode cX9_house 4 = .ok (.getfield 77, 3) := by decide +kernel
theorem dX9_house_7 : decode cX9_house 7 = .ok (.iconst 5, 1) := by decide +kernel
theorem dX9_house_8 : decode cX9_house 8 = .ok (.if_icmp .lt 6, 3) := by decide +kernel
theorem dX9_house_11 : decode cX9_house 11 = .ok (.bipush (-4), 2) := by decide +kernel
theorem dX9_house_13 : decode cX9_house 13 = .ok (.ireturn, 1) := by decide +kernel
theorem dX9_house_14 : decode cX9_house 14 = .ok (.aload_n 0, 1) := by decide +kernel
theorem dX9_house_15 : decode cX9_house 15 = .ok (.getfield 28, 3) := by decide +kernel
theorem dX9_house_18 : decode cX9_house 18 = .ok (.aload_n 0, 1) := by decide +kernel
theorem dX9_house_19 : decode cX9_house 19 = .ok (.getfield 14, 3) := by decide +kernel
theorem dX9_house_22 : decode cX9_house 22 = .ok (.getfield 63, 3) := by decide +kernel
theorem dX9_house_25 : decode cX9_house 25 = .ok (.invokevirtual 80, 3) := by decide +kernel
theorem dX9_house_28 : decode cX9_house 28 = .ok (.istore_n 1, 1) := by decide +kernel
theorem dX9_house_29 : decode cX9_house 29 = .ok (.aload_n 0, 1) := by decide +kernel
theorem dX9_house_30 : decode cX9_house 30 = .ok (.getfield 14, 3) := by decide +kernel
theorem dX9_house_33 : decode cX9_house 33 = .ok (.getfield 63, 3) := by decide +kernel
theorem dX9_house_36 : decode cX9_house 36 = .ok (.iconst 0, 1) := by decide +kernel
theorem dX9_house_37 : decode cX9_house 37 = .ok (.putfield 67, 3) := by decide +kernel
theorem dX9_house_40 : decode cX9_house 40 = .ok (.iload_n 1, 1) := by decide +kernel
theorem dX9_house_41 : decode cX9_house 41 = .ok (.ifCond .ne 14, 3) := by decide +kernel
theorem dX9_house_44 : decode cX9_house 44 = .ok (.bipush (-10), 2) := by decide +kernel
theorem dX9_house_46 : decode cX9_house 46 = .ok (.aload_n 0, 1) := by decide +kernel
theorem dX9_house_47 : decode cX9_house 47 = .ok (.getfield 28, 3) := by decide +kernel
theorem dX9_house_50 : decode cX9_house 50 = .ok (.getfield 84, 3) := by decide +kernel
theorem dX9_house_53 : decode cX9_house 53 = .ok (.isub, 1) := by decide +kernel
theorem dX9_house_54 : decode cX9_house 54 = .ok (.ireturn, 1) := by decide +kernel
theorem dX9_house_55 : decode cX9_house 55 = .ok (.aload_n 0, 1) := by decide +kernel
theorem dX9_house_56 : decode cX9_house 56 = .ok (.getfield 14, 3) := by decide +kernel
theorem dX9_house_59 : decode cX9_house 59 = .ok (.getfield 87, 3) := by decide +kernel
theorem dX9_house_62 : decode cX9_house 62 = .ok (.aload_n 0, 1) := by decide +kernel
theorem dX9_house_63 : decode cX9_house 63 = .ok (.getfield 28, 3) := by decide +kernel
theorem dX9_house_66 : decode cX9_house 66 = .ok (.getfield 91, 3) := by decide +kernel
theorem dX9_house_69 : decode cX9_house 69 = .ok (.invokevirtual 94, 3) := by decide +kernel
theorem dX9_house_72 : decode cX9_house 72 = .ok (.aload_n 0, 1) := by decide +kernel
theorem dX9_house_73 : decode cX9_house 73 = .ok (.iconst 0, 1) := by decide +kernel
theorem dX9_house_74 : decode cX9_house 74 = .ok (.putfield 46, 3) := by decide +kernel
theorem dX9_house_77 : decode cX9_house 77 = .ok (.aload_n 0, 1) := by decide +kernel
theorem dX9_house_78 : decode cX9_house 78 = .ok (.getfield 14, 3) := by decide +kernel
theorem dX9_house_81 : decode cX9_house 81 = .ok (.dup, 1) := by decide +kernel
theorem dX9_house_82 : decode cX9_house 82 = .ok (.getfield 77, 3) := by decide +kernel
theorem dX9_house_85 : decode cX9_house 85 = .ok (.dup_x1, 1) := by decide +kernel
theorem dX9_house_86 : decode cX9_house 86 = .ok (.iconst 1, 1) := by decide +kernel
theorem dX9_house_87 : decode cX9_house 87 = .ok (.iadd, 1) := by decide +kernel
theorem dX9_house_88 : decode cX9_house 88 = .ok (.putfield 77, 3) := by decide +kernel
theorem dX9_house_91 : decode cX9_house 91 = .ok (.ireturn, 1) := by decide +kernel
theorem dX9_told_0 : decode cX9_told 0 = .ok (.iload_n 1, 1) := by decide +kernel
theorem dX9_told_1 : decode cX9_told 1 = .ok (.ifCond .lt 8, 3) := by decide +kernel
theorem dX9_told_4 : decode cX9_told 4 = .ok (.iload_n 1, 1) := by decide +kernel
theorem dX9_told_5 : decode cX9_told 5 = .ok (.iconst 5, 1) := by decide +kernel
theorem dX9_told_6 : decode cX9_told 6 = .ok (.if_icmp .lt 5, 3) := by decide +kernel
theorem dX9_told_9 : decode cX9_told 9 = .ok (.iconst (-1), 1) := by decide +kernel
theorem dX9_told_10 : decode cX9_told 10 = .ok (.ireturn, 1) := by decide +kernel
theorem dX9_told_11 : decode cX9_told 11 = .ok (.aload_n 0, 1) := by decide +kernel
