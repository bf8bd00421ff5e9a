theorem d_Mo_close_57 : decode prog_12_method_17_code 57 = .ok (.getfield 50, 3) := by decide +kernel
theorem d_Mo_close_60 : decode prog_12_method_17_code 60 = .ok (.iload_n 2, 1) := by decide +kernel
theorem d_Mo_close_61 : decode prog_12_method_17_code 61 = .ok (.aload_n 0, 1) := by decide +kernel
theorem d_Mo_close_62 : decode prog_12_method_17_code 62 = .ok (.getfield 44, 3) := by decide +kernel
theorem d_Mo_close_65 : decode prog_12_method_17_code 65 = .ok (.iload_n 2, 1) := by decide +kernel
theorem d_Mo_close_66 : decode prog_12_method_17_code 66 = .ok (.iaload, 1) := by decide +kernel
theorem d_Mo_close_67 : decode prog_12_method_17_code 67 = .ok (.iastore, 1) := by decide +kernel
theorem d_Mo_close_68 : decode prog_12_method_17_code 68 = .ok (.aload_n 0, 1) := by decide +kernel
theorem d_Mo_close_69 : decode prog_12_method_17_code 69 = .ok (.getfield 47, 3) := by decide +kernel
theorem d_Mo_close_72 : decode prog_12_method_17_code 72 = .ok (.iload_n 2, 1) := by decide +kernel
theorem d_Mo_close_73 : decode prog_12_method_17_code 73 = .ok (.iconst 2, 1) := by decide +kernel
theorem d_Mo_close_74 : decode prog_12_method_17_code 74 = .ok (.idiv, 1) := by decide +kernel
theorem d_Mo_close_75 : decode prog_12_method_17_code 75 = .ok (.aload_n 0, 1) := by decide +kernel
theorem d_Mo_close_76 : decode prog_12_method_17_code 76 = .ok (.getfield 41, 3) := by decide +kernel
theorem d_Mo_close_79 : decode prog_12_method_17_code 79 = .ok (.iload_n 2, 1) := by decide +kernel
theorem d_Mo_close_80 : decode prog_12_method_17_code 80 = .ok (.iconst 2, 1) := by decide +kernel
theorem d_Mo_close_81 : decode prog_12_method_17_code 81 = .ok (.idiv, 1) := by decide +kernel
theorem d_Mo_close_82 : decode prog_12_method_17_code 82 = .ok (.iaload, 1) := by decide +kernel
theorem d_Mo_close_83 : decode prog_12_method_17_code 83 = .ok (.iastore, 1) := by decide +kernel
theorem d_Mo_close_84 : decode prog_12_method_17_code 84 = .ok (.iinc 2 1, 3) := by decide +kernel
theorem d_Mo_close_87 : decode prog_12_method_17_code 87 = .ok (.goto (-38), 3) := by decide +kernel
theorem d_Mo_close_90 : decode prog_12_method_17_code 90 = .ok (.aload_n 0, 1) := by decide +kernel
theorem d_Mo_close_91 : decode prog_12_method_17_code 91 = .ok (.iconst 1, 1) := by decide +kernel
theorem d_Mo_close_92 : decode prog_12_method_17_code 92 = .ok (.invokevirtual 151, 3) := by decide +kernel
theorem d_Mo_close_95 : decode prog_12_method_17_code 95 = .ok (.istore_n 2, 1) := by decide +kernel
theorem d_Mo_close_96 : decode prog_12_method_17_code 96 = .ok (.aload_n 0, 1) := by decide +kernel
theorem d_Mo_close_97 : decode prog_12_method_17_code 97 = .ok (.getfield 106, 3) := by decide +kernel
theorem d_Mo_close_100 : decode prog_12_method_17_code 100 = .ok (.ifCond .ne 12, 3) := by decide +kernel
theorem d_Mo_close_103 : decode prog_12_method_17_code 103 = .ok (.iload_n 2, 1) := by decide +kernel
theorem d_Mo_close_104 : decode prog_12_method_17_code 104 = .ok (.iload_n 1, 1) := by decide +kernel
theorem d_Mo_close_105 : decode prog_12_method_17_code 105 = .ok (.if_icmp .ne 7, 3) := by decide +kernel
theorem d_Mo_close_108 : decode prog_12_method_17_code 108 = .ok (.iconst 1, 1) := by decide +kernel
theorem d_Mo_close_109 : decode prog_12_method_17_code 109 = .ok (.goto 4, 3) := by decide +kernel
theorem d_Mo_close_112 : decode prog_12_method_17_code 112 = .ok (.iconst 0, 1) := by decide +kernel
theorem d_Mo_close_113 : decode prog_12_method_17_code 113 = .ok (.istore_n 3, 1) := by decide +kernel
theorem d_Mo_close_114 : decode prog_12_method_17_code 114 = .ok (.iload_n 3, 1) := by decide +kernel
theorem d_Mo_close_115 : decode prog_12_method_17_code 115 = .ok (.ifCond .eq 131, 3) := by decide +kernel
theorem d_Mo_close_118 : decode prog_12_method_17_code 118 = .ok (.aload_n 0, 1) := by decide +kernel
theorem d_Mo_close_119 : decode prog_12_method_17_code 119 = .ok (.iconst 3, 1) := by decide +kernel
theorem d_Mo_close_120 : decode prog_12_method_17_code 120 = .ok (.aload_n 0, 1) := by decide +kernel
theorem d_Mo_close_121 : decode prog_12_method_17_code 121 = .ok (.getfield 145, 3) := by decide +kernel
theorem d_Mo_close_124 : decode prog_12_method_17_code 124 = .ok (.aload_n 0, 1) := by decide +kernel
theorem d_Mo_close_125 : decode prog_12_method_17_code 125 = .ok (.iconst 1, 1) := by decide +kernel
theorem d_Mo_close_126 : decode prog_12_method_17_code 126 = .ok (.invokevirtual 142, 3) := by decide +kernel
theorem d_Mo_close_129 : decode prog_12_method_17_code 129 = .ok (.invokevirtual 138, 3) := by decide +kernel
theorem d_Mo_close_132 : decode prog_12_method_17_code 132 = .ok (.istore 4, 2) := by decide +kernel
theorem d_Mo_close_134 : decode prog_12_method_17_code 134 = .ok (.iconst 0, 1) := by decide +kernel
theorem d_Mo_close_135 : decode prog_12_method_17_code 135 = .ok (.istore 5, 2) := by decide +kernel
theorem d_Mo_close_137 : decode prog_12_method_17_code 137 = .ok (.iload 5, 2) := by decide +kernel
theorem d_Mo_close_139 : decode prog_12_method_17_code 139 = .ok (.sipush 128, 3) := by decide +kernel
theorem d_Mo_close_142 : decode prog_12_method_17_code 142 = .ok (.if_icmp .ge 41, 3) := by decide +kernel
theorem d_Mo_close_145 : decode prog_12_method_17_code 145 = .ok (.aload_n 0, 1) := by decide +kernel
theorem d_Mo_close_146 : decode prog_12_method_17_code 146 = .ok (.getfield 44, 3) := by decide +kernel
theorem d_Mo_close_149 : decode prog_12_method_17_code 149 = .ok (.iload 5, 2) := by decide +kernel
theorem d_Mo_close_151 : decode prog_12_method_17_code 151 = .ok (.aload_n 0, 1) := by decide +kernel
theorem d_Mo_close_152 : decode prog_12_method_17_code 152 = .ok (.getfield 50, 3) := by decide +kernel
theorem d_Mo_close_155 : decode prog_12_method_17_code 155 = .ok (.iload 5, 2) := by decide +kernel
theorem d_Mo_close_157 : decode prog_12_method_17_code 157 = .ok (.iaload, 1) := by decide +kernel
theorem d_Mo_close_158 : decode prog_12_method_17_code 158 = .ok (.iastore, 1) := by decide +kernel
theorem d_Mo_close_159 : decode prog_12_method_17_code 159 = .ok (.aload_n 0, 1) := by decide +kernel
theorem d_Mo_close_160 : decode prog_12_method_17_code 160 = .ok (.getfield 41, 3) := by decide +kernel
theorem d_Mo_close_163 : decode prog_12_method_17_code 163 = .ok (.iload 5, 2) := by decide +kernel
theorem d_Mo_close_165 : decode prog_12_method_17_code 165 = .ok (.iconst 2, 1) := by decide +kernel
theorem d_Mo_close_166 : decode prog_12_method_17_code 166 = .ok (.idiv, 1) := by decide +kernel
theorem d_Mo_close_167 : decode prog_12_method_17_code 167 = .ok (.aload_n 0, 1) := by decide +kernel
theorem d_Mo_close_168 : decode prog_12_method_17_code 168 = .ok (.getfield 47, 3) := by decide +kernel
theorem d_Mo_close_171 : decode prog_12_method_17_code 171 = .ok (.iload 5, 2) := by decide +kernel
theorem d_Mo_close_173 : decode prog_12_method_17_code 173 = .ok (.iconst 2, 1) := by decide +kernel
theorem d_Mo_close_174 : decode prog_12_method_17_code 174 = .ok (.idiv, 1) := by decide +kernel
theorem d_Mo_close_175 : decode prog_12_method_17_code 175 = .ok (.iaload, 1) := by decide +kernel
theorem d_Mo_close_176 : decode prog_12_method_17_code 176 = .ok (.iastore, 1) := by decide +kernel
theorem d_Mo_close_177 : decode prog_12_method_17_code 177 = .ok (.iinc 5 1, 3) := by decide +kernel
theorem d_Mo_close_180 : decode prog_12_method_17_code 180 = .ok (.goto (-43), 3) := by decide +kernel
theorem d_Mo_close_183 : decode prog_12_method_17_code 183 = .ok (.iconst 0, 1) := by decide +kernel
theorem d_Mo_close_184 : decode prog_12_method_17_code 184 = .ok (.istore 5, 2) := by decide +kernel
theorem d_Mo_close_186 : decode prog_12_method_17_code 186 = .ok (.iload 5, 2) := by decide +kernel
theorem d_Mo_close_188 : decode prog_12_method_17_code 188 = .ok (.bipush 64, 2) := by decide +kernel
theorem d_Mo_close_190 : decode prog_12_method_17_code 190 = .ok (.if_icmp .ge 31, 3) := by decide +kernel
theorem d_Mo_close_193 : decode prog_12_method_17_code 193 = .ok (.aload_n 0, 1) := by decide +kernel
theorem d_Mo_close_194 : decode prog_12_method_17_code 194 = .ok (.getfield 7, 3) := by decide +kernel
theorem d_Mo_close_197 : decode prog_12_method_17_code 197 = .ok (.bipush 64, 2) := by decide +kernel
theorem d_Mo_close_199 : decode prog_12_method_17_code 199 = .ok (.aload_n 0, 1) := by decide +kernel
theorem d_Mo_close_200 : decode prog_12_method_17_code 200 = .ok (.getfield 145, 3) := by decide +kernel
theorem d_Mo_close_203 : decode prog_12_method_17_code 203 = .ok (.imul, 1) := by decide +kernel
theorem d_Mo_close_204 : decode prog_12_method_17_code 204 = .ok (.iload 5, 2) := by decide +kernel
theorem d_Mo_close_206 : decode prog_12_method_17_code 206 = .ok (.iadd, 1) := by decide +kernel
theorem d_Mo_close_207 : decode prog_12_method_17_code 207 = .ok (.aload_n 0, 1) := by decide +kernel
theorem d_Mo_close_208 : decode prog_12_method_17_code 208 = .ok (.getfield 13, 3) := by decide +kernel
theorem d_Mo_close_211 : decode prog_12_method_17_code 211 = .ok (.iload 5, 2) := by decide +kernel
theorem d_Mo_close_213 : decode prog_12_method_17_code 213 = .ok (.iaload, 1) := by decide +kernel
theorem d_Mo_close_214 : decode prog_12_method_17_code 214 = .ok (.iastore, 1) := by decide +kernel
theorem d_Mo_close_215 : decode prog_12_method_17_code 215 = .ok (.iinc 5 1, 3) := by decide +kernel
theorem d_Mo_close_218 : decode prog_12_method_17_code 218 = .ok (.goto (-32), 3) := by decide +kernel
theorem d_Mo_close_221 : decode prog_12_method_17_code 221 = .ok (.aload_n 0, 1) := by decide +kernel
theorem d_Mo_close_222 : decode prog_12_method_17_code 222 = .ok (.getfield 20, 3) := by decide +kernel
theorem d_Mo_close_225 : decode prog_12_method_17_code 225 = .ok (.aload_n 0, 1) := by decide +kernel
theorem d_Mo_close_226 : decode prog_12_method_17_code 226 = .ok (.getfield 145, 3) := by decide +kernel
theorem d_Mo_close_229 : decode prog_12_method_17_code 229 = .ok (.aload_n 0, 1) := by decide +kernel
theorem d_Mo_close_230 : decode prog_12_method_17_code 230 = .ok (.getfield 26, 3) := by decide +kernel
theorem d_Mo_close_233 : decode prog_12_method_17_code 233 = .ok (.iconst 1, 1) := by decide +kernel
theorem d_Mo_close_234 : decode prog_12_method_17_code 234 = .ok (.iaload, 1) := by decide +kernel
theorem d_Mo_close_235 : decode prog_12_method_17_code 235 = .ok (.iastore, 1) := by decide +kernel
theorem d_Mo_close_236 : decode prog_12_method_17_code 236 = .ok (.aload_n 0, 1) := by decide +kernel
theorem d_Mo_close_237 : decode prog_12_method_17_code 237 = .ok (.dup, 1) := by decide +kernel
theorem d_Mo_close_238 : decode prog_12_method_17_code 238 = .ok (.getfield 145, 3) := by decide +kernel
theorem d_Mo_close_241 : decode prog_12_method_17_code 241 = .ok (.iconst 1, 1) := by decide +kernel
theorem d_Mo_close_242 : decode prog_12_method_17_code 242 = .ok (.iadd, 1) := by decide +kernel
theorem d_Mo_close_243 : decode prog_12_method_17_code 243 = .ok (.putfield 145, 3) := by decide +kernel
theorem d_Mo_close_246 : decode prog_12_method_17_code 246 = .ok (.aload_n 0, 1) := by decide +kernel
theorem d_Mo_close_247 : decode prog_12_method_17_code 247 = .ok (.invokevirtual 155, 3) := by decide +kernel
theorem d_Mo_close_250 : decode prog_12_method_17_code 250 = .ok (.aload_n 0, 1) := by decide +kernel
theorem d_Mo_close_251 : decode prog_12_method_17_code 251 = .ok (.getfield 106, 3) := by decide +kernel
theorem d_Mo_close_254 : decode prog_12_method_17_code 254 = .ok (.ifCond .eq 8, 3) := by decide +kernel
theorem d_Mo_close_257 : decode prog_12_method_17_code 257 = .ok (.bipush (-9), 2) := by decide +kernel
theorem d_Mo_close_259 : decode prog_12_method_17_code 259 = .ok (.goto 9, 3) := by decide +kernel
theorem d_Mo_close_262 : decode prog_12_method_17_code 262 = .ok (.aload_n 0, 1) := by decide +kernel
theorem d_Mo_close_263 : decode prog_12_method_17_code 263 = .ok (.getfield 145, 3) := by decide +kernel
theorem d_Mo_close_266 : decode prog_12_method_17_code 266 = .ok (.iconst 1, 1) := by decide +kernel
theorem d_Mo_close_267 : decode prog_12_method_17_code 267 = .ok (.isub, 1) := by decide +kernel
theorem d_Mo_close_268 : decode prog_12_method_17_code 268 = .ok (.ireturn, 1) := by decide +kernel
theorem d_Mo_fuse_0 : decode prog_12_method_18_code 0 = .ok (.aload_n 0, 1) := by decide +kernel
theorem d_Mo_fuse_1 : decode prog_12_method_18_code 1 = .ok (.getfield 106, 3) := by decide +kernel
theorem d_Mo_fuse_4 : decode prog_12_method_18_code 4 = .ok (.ifCond .ne 14, 3) := by decide +kernel
theorem d_Mo_fuse_7 : decode prog_12_method_18_code 7 = .ok (.iload_n 1, 1) := by decide +kernel
theorem d_Mo_fuse_8 : decode prog_12_method_18_code 8 = .ok (.iconst 1, 1) := by decide +kernel
theorem d_Mo_fuse_9 : decode prog_12_method_18_code 9 = .ok (.if_icmp .lt 9, 3) := by decide +kernel
theorem d_Mo_fuse_12 : decode prog_12_method_18_code 12 = .ok (.iload_n 1, 1) := by decide +kernel
theorem d_Mo_fuse_13 : decode prog_12_method_18_code 13 = .ok (.bipush 100, 2) := by decide +kernel
theorem d_Mo_fuse_15 : decode prog_12_method_18_code 15 = .ok (.if_icmp .le 5, 3) := by decide +kernel
theorem d_Mo_fuse_18 : decode prog_12_method_18_code 18 = .ok (.iconst 0, 1) := by decide +kernel
theorem d_Mo_fuse_19 : decode prog_12_method_18_code 19 = .ok (.ireturn, 1) := by decide +kernel
theorem d_Mo_fuse_20 : decode prog_12_method_18_code 20 = .ok (.aload_n 0, 1) := by decide +kernel
theorem d_Mo_fuse_21 : decode prog_12_method_18_code 21 = .ok (.iload_n 1, 1) := by decide +kernel
theorem d_Mo_fuse_22 : decode prog_12_method_18_code 22 = .ok (.putfield 124, 3) := by decide +kernel
theorem d_Mo_fuse_25 : decode prog_12_method_18_code 25 = .ok (.iconst 1, 1) := by decide +kernel
theorem d_Mo_fuse_26 : decode prog_12_method_18_code 26 = .ok (.ireturn, 1) := by decide +kernel
theorem d_Mo_restart_0 : decode prog_12_method_19_code 0 = .ok (.aload_n 0, 1) := by decide +kernel
theorem d_Mo_restart_1 : decode prog_12_method_19_code 1 = .ok (.getfield 106, 3) := by decide +kernel
theorem d_Mo_restart_4 : decode prog_12_method_19_code 4 = .ok (.ifCond .ne 5, 3) := by decide +kernel
theorem d_Mo_restart_7 : decode prog_12_method_19_code 7 = .ok (.iconst (-1), 1) := by decide +kernel
theorem d_Mo_restart_8 : decode prog_12_method_19_code 8 = .ok (.ireturn, 1) := by decide +kernel
theorem d_Mo_restart_9 : decode prog_12_method_19_code 9 = .ok (.aload_n 0, 1) := by decide +kernel
theorem d_Mo_restart_10 : decode prog_12_method_19_code 10 = .ok (.iconst 0, 1) := by decide +kernel
theorem d_Mo_restart_11 : decode prog_12_method_19_code 11 = .ok (.putfield 106, 3) := by decide +kernel
theorem d_Mo_restart_14 : decode prog_12_method_19_code 14 = .ok (.aload_n 0, 1) := by decide +kernel
theorem d_Mo_restart_15 : decode prog_12_method_19_code 15 = .ok (.getfield 121, 3) := by decide +kernel
theorem d_Mo_restart_18 : decode prog_12_method_19_code 18 = .ok (.istore_n 1, 1) := by decide +kernel
theorem d_Mo_restart_19 : decode prog_12_method_19_code 19 = .ok (.iload_n 1, 1) := by decide +kernel
theorem d_Mo_restart_20 : decode prog_12_method_19_code 20 = .ok (.ifCond .le 21, 3) := by decide +kernel
theorem d_Mo_restart_23 : decode prog_12_method_19_code 23 = .ok (.aload_n 0, 1) := by decide +kernel
theorem d_Mo_restart_24 : decode prog_12_method_19_code 24 = .ok (.getfield 32, 3) := by decide +kernel
theorem d_Mo_restart_27 : decode prog_12_method_19_code 27 = .ok (.iload_n 1, 1) := by decide +kernel
theorem d_Mo_restart_28 : decode prog_12_method_19_code 28 = .ok (.iconst 1, 1) := by decide +kernel
theorem d_Mo_restart_29 : decode prog_12_method_19_code 29 = .ok (.isub, 1) := by decide +kernel
theorem d_Mo_restart_30 : decode prog_12_method_19_code 30 = .ok (.iaload, 1) := by decide +kernel
theorem d_Mo_restart_31 : decode prog_12_method_19_code 31 = .ok (.iconst 3, 1) := by decide +kernel
theorem d_Mo_restart_32 : decode prog_12_method_19_code 32 = .ok (.if_icmp .eq 9, 3) := by decide +kernel
theorem d_Mo_restart_35 : decode prog_12_method_19_code 35 = .ok (.iinc 1 (-1), 3) := by decide +kernel
theorem d_Mo_restart_38 : decode prog_12_method_19_code 38 = .ok (.goto (-19), 3) := by decide +kernel
theorem d_Mo_restart_41 : decode prog_12_method_19_code 41 = .ok (.aload_n 0, 1) := by decide +kernel
theorem d_Mo_restart_42 : decode prog_12_method_19_code 42 = .ok (.getfield 121, 3) := by decide +kernel
theorem d_Mo_restart_45 : decode prog_12_method_19_code 45 = .ok (.iload_n 1, 1) := by decide +kernel
theorem d_Mo_restart_46 : decode prog_12_method_19_code 46 = .ok (.isub, 1) := by decide +kernel
theorem d_Mo_restart_47 : decode prog_12_method_19_code 47 = .ok (.istore_n 2, 1) := by decide +kernel
theorem d_Mo_restart_48 : decode prog_12_method_19_code 48 = .ok (.aload_n 0, 1) := by decide +kernel
theorem d_Mo_restart_49 : decode prog_12_method_19_code 49 = .ok (.iload_n 1, 1) := by decide +kernel
theorem d_Mo_restart_50 : decode prog_12_method_19_code 50 = .ok (.putfield 121, 3) := by decide +kernel
theorem d_Mo_restart_53 : decode prog_12_method_19_code 53 = .ok (.iload_n 2, 1) := by decide +kernel
theorem d_Mo_restart_54 : decode prog_12_method_19_code 54 = .ok (.ireturn, 1) := by decide +kernel
theorem d_Mo_leafOf_0 : decode prog_12_method_20_code 0 = .ok (.aload_n 0, 1) := by decide +kernel
theorem d_Mo_leafOf_1 : decode prog_12_method_20_code 1 = .ok (.iconst 3, 1) := by decide +kernel
theorem d_Mo_leafOf_2 : decode prog_12_method_20_code 2 = .ok (.aload_n 0, 1) := by decide +kernel
theorem d_Mo_leafOf_3 : decode prog_12_method_20_code 3 = .ok (.getfield 20, 3) := by decide +kernel
theorem d_Mo_leafOf_6 : decode prog_12_method_20_code 6 = .ok (.iload_n 1, 1) := by decide +kernel
theorem d_Mo_leafOf_7 : decode prog_12_method_20_code 7 = .ok (.iaload, 1) := by decide +kernel
theorem d_Mo_leafOf_8 : decode prog_12_method_20_code 8 = .ok (.iload_n 1, 1) := by decide +kernel
theorem d_Mo_leafOf_9 : decode prog_12_method_20_code 9 = .ok (.invokevirtual 102, 3) := by decide +kernel
theorem d_Mo_leafOf_12 : decode prog_12_method_20_code 12 = .ok (.ireturn, 1) := by decide +kernel
theorem d_Mo_row_0 : decode prog_12_method_21_code 0 = .ok (.iconst 0, 1) := by decide +kernel
theorem d_Mo_row_1 : decode prog_12_method_21_code 1 = .ok (.istore_n 3, 1) := by decide +kernel
theorem d_Mo_row_2 : decode prog_12_method_21_code 2 = .ok (.iload_n 1, 1) := by decide +kernel
theorem d_Mo_row_3 : decode prog_12_method_21_code 3 = .ok (.istore 4, 2) := by decide +kernel
theorem d_Mo_row_5 : decode prog_12_method_21_code 5 = .ok (.iload 4, 2) := by decide +kernel
theorem d_Mo_row_7 : decode prog_12_method_21_code 7 = .ok (.iload_n 1, 1) := by decide +kernel
theorem d_Mo_row_8 : decode prog_12_method_21_code 8 = .ok (.iload_n 2, 1) := by decide +kernel
theorem d_Mo_row_9 : decode prog_12_method_21_code 9 = .ok (.iadd, 1) := by decide +kernel
theorem d_Mo_row_10 : decode prog_12_method_21_code 10 = .ok (.if_icmp .ge 100, 3) := by decide +kernel
theorem d_Mo_row_13 : decode prog_12_method_21_code 13 = .ok (.aload_n 0, 1) := by decide +kernel
theorem d_Mo_row_14 : decode prog_12_method_21_code 14 = .ok (.getfield 59, 3) := by decide +kernel
theorem d_Mo_row_17 : decode prog_12_method_21_code 17 = .ok (.iload_n 3, 1) := by decide +kernel
theorem d_Mo_row_18 : decode prog_12_method_21_code 18 = .ok (.aload_n 0, 1) := by decide +kernel
theorem d_Mo_row_19 : decode prog_12_method_21_code 19 = .ok (.iload 4, 2) := by decide +kernel
theorem d_Mo_row_21 : decode prog_12_method_21_code 21 = .ok (.invokevirtual 158, 3) := by decide +kernel
theorem d_Mo_row_24 : decode prog_12_method_21_code 24 = .ok (.iastore, 1) := by decide +kernel
theorem d_Mo_row_25 : decode prog_12_method_21_code 25 = .ok (.aload_n 0, 1) := by decide +kernel
theorem d_Mo_row_26 : decode prog_12_method_21_code 26 = .ok (.getfield 62, 3) := by decide +kernel
theorem d_Mo_row_29 : decode prog_12_method_21_code 29 = .ok (.iload_n 3, 1) := by decide +kernel
theorem d_Mo_row_30 : decode prog_12_method_21_code 30 = .ok (.iconst 1, 1) := by decide +kernel
theorem d_Mo_row_31 : decode prog_12_method_21_code 31 = .ok (.iastore, 1) := by decide +kernel
theorem d_Mo_row_32 : decode prog_12_method_21_code 32 = .ok (.iinc 3 1, 3) := by decide +kernel
theorem d_Mo_row_35 : decode prog_12_method_21_code 35 = .ok (.iload_n 3, 1) := by decide +kernel
theorem d_Mo_row_36 : decode prog_12_method_21_code 36 = .ok (.iconst 1, 1) := by decide +kernel
theorem d_Mo_row_37 : decode prog_12_method_21_code 37 = .ok (.if_icmp .le 67, 3) := by decide +kernel
theorem d_Mo_row_40 : decode prog_12_method_21_code 40 = .ok (.aload_n 0, 1) := by decide +kernel
theorem d_Mo_row_41 : decode prog_12_method_21_code 41 = .ok (.getfield 62, 3) := by decide +kernel
theorem d_Mo_row_44 : decode prog_12_method_21_code 44 = .ok (.iload_n 3, 1) := by decide +kernel
theorem d_Mo_row_45 : decode prog_12_method_21_code 45 = .ok (.iconst 1, 1) := by decide +kernel
theorem d_Mo_row_46 : decode prog_12_method_21_code 46 = .ok (.isub, 1) := by decide +kernel
theorem d_Mo_row_47 : decode prog_12_method_21_code 47 = .ok (.iaload, 1) := by decide +kernel
theorem d_Mo_row_48 : decode prog_12_method_21_code 48 = .ok (.aload_n 0, 1) := by decide +kernel
theorem d_Mo_row_49 : decode prog_12_method_21_code 49 = .ok (.getfield 62, 3) := by decide +kernel
theorem d_Mo_row_52 : decode prog_12_method_21_code 52 = .ok (.iload_n 3, 1) := by decide +kernel
theorem d_Mo_row_53 : decode prog_12_method_21_code 53 = .ok (.iconst 2, 1) := by decide +kernel
theorem d_Mo_row_54 : decode prog_12_method_21_code 54 = .ok (.isub, 1) := by decide +kernel
theorem d_Mo_row_55 : decode prog_12_method_21_code 55 = .ok (.iaload, 1) := by decide +kernel
theorem d_Mo_row_56 : decode prog_12_method_21_code 56 = .ok (.if_icmp .ne 48, 3) := by decide +kernel
theorem d_Mo_row_59 : decode prog_12_method_21_code 59 = .ok (.iinc 3 (-1), 3) := by decide +kernel
theorem d_Mo_row_62 : decode prog_12_method_21_code 62 = .ok (.aload_n 0, 1) := by decide +kernel
theorem d_Mo_row_63 : decode prog_12_method_21_code 63 = .ok (.getfield 59, 3) := by decide +kernel
theorem d_Mo_row_66 : decode prog_12_method_21_code 66 = .ok (.iload_n 3, 1) := by decide +kernel
theorem d_Mo_row_67 : decode prog_12_method_21_code 67 = .ok (.iconst 1, 1) := by decide +kernel
theorem d_Mo_row_68 : decode prog_12_method_21_code 68 = .ok (.isub, 1) := by decide +kernel
theorem d_Mo_row_69 : decode prog_12_method_21_code 69 = .ok (.aload_n 0, 1) := by decide +kernel
theorem d_Mo_row_70 : decode prog_12_method_21_code 70 = .ok (.iconst 4, 1) := by decide +kernel
theorem d_Mo_row_71 : decode prog_12_method_21_code 71 = .ok (.aload_n 0, 1) := by decide +kernel
theorem d_Mo_row_72 : decode prog_12_method_21_code 72 = .ok (.getfield 59, 3) := by decide +kernel
theorem d_Mo_row_75 : decode prog_12_method_21_code 75 = .ok (.iload_n 3, 1) := by decide +kernel
theorem d_Mo_row_76 : decode prog_12_method_21_code 76 = .ok (.iconst 1, 1) := by decide +kernel
theorem d_Mo_row_77 : decode prog_12_method_21_code 77 = .ok (.isub, 1) := by decide +kernel
theorem d_Mo_row_78 : decode prog_12_method_21_code 78 = .ok (.iaload, 1) := by decide +kernel
theorem d_Mo_row_79 : decode prog_12_method_21_code 79 = .ok (.aload_n 0, 1) := by decide +kernel
theorem d_Mo_row_80 : decode prog_12_method_21_code 80 = .ok (.getfield 59, 3) := by decide +kernel
theorem d_Mo_row_83 : decode prog_12_method_21_code 83 = .ok (.iload_n 3, 1) := by decide +kernel
theorem d_Mo_row_84 : decode prog_12_method_21_code 84 = .ok (.iaload, 1) := by decide +kernel
theorem d_Mo_row_85 : decode prog_12_method_21_code 85 = .ok (.invokevirtual 102, 3) := by decide +kernel
theorem d_Mo_row_88 : decode prog_12_method_21_code 88 = .ok (.iastore, 1) := by decide +kernel
theorem d_Mo_row_89 : decode prog_12_method_21_code 89 = .ok (.aload_n 0, 1) := by decide +kernel
theorem d_Mo_row_90 : decode prog_12_method_21_code 90 = .ok (.getfield 62, 3) := by decide +kernel
theorem d_Mo_row_93 : decode prog_12_method_21_code 93 = .ok (.iload_n 3, 1) := by decide +kernel
theorem d_Mo_row_94 : decode prog_12_method_21_code 94 = .ok (.iconst 1, 1) := by decide +kernel
theorem d_Mo_row_95 : decode prog_12_method_21_code 95 = .ok (.isub, 1) := by decide +kernel
theorem d_Mo_row_96 : decode prog_12_method_21_code 96 = .ok (.dup2, 1) := by decide +kernel
theorem d_Mo_row_97 : decode prog_12_method_21_code 97 = .ok (.iaload, 1) := by decide +kernel
theorem d_Mo_row_98 : decode prog_12_method_21_code 98 = .ok (.iconst 2, 1) := by decide +kernel
theorem d_Mo_row_99 : decode prog_12_method_21_code 99 = .ok (.imul, 1) := by decide +kernel
theorem d_Mo_row_100 : decode prog_12_method_21_code 100 = .ok (.iastore, 1) := by decide +kernel
theorem d_Mo_row_101 : decode prog_12_method_21_code 101 = .ok (.goto (-66), 3) := by decide +kernel
theorem d_Mo_row_104 : decode prog_12_method_21_code 104 = .ok (.iinc 4 1, 3) := by decide +kernel
theorem d_Mo_row_107 : decode prog_12_method_21_code 107 = .ok (.goto (-102), 3) := by decide +kernel
theorem d_Mo_row_110 : decode prog_12_method_21_code 110 = .ok (.iload_n 3, 1) := by decide +kernel
theorem d_Mo_row_111 : decode prog_12_method_21_code 111 = .ok (.iconst 1, 1) := by decide +kernel
theorem d_Mo_row_112 : decode prog_12_method_21_code 112 = .ok (.if_icmp .le 36, 3) := by decide +kernel
theorem d_Mo_row_115 : decode prog_12_method_21_code 115 = .ok (.iinc 3 (-1), 3) := by decide +kernel
theorem d_Mo_row_118 : decode prog_12_method_21_code 118 = .ok (.aload_n 0, 1) := by decide +kernel
theorem d_Mo_row_119 : decode prog_12_method_21_code 119 = .ok (.getfield 59, 3) := by decide +kernel
theorem d_Mo_row_122 : decode prog_12_method_21_code 122 = .ok (.iload_n 3, 1) := by decide +kernel
theorem d_Mo_row_123 : decode prog_12_method_21_code 123 = .ok (.iconst 1, 1) := by decide +kernel
theorem d_Mo_row_124 : decode prog_12_method_21_code 124 = .ok (.isub, 1) := by decide +kernel
theorem d_Mo_row_125 : decode prog_12_method_21_code 125 = .ok (.aload_n 0, 1) := by decide +kernel
theorem d_Mo_row_126 : decode prog_12_method_21_code 126 = .ok (.iconst 4, 1) := by decide +kernel
theorem d_Mo_row_127 : decode prog_12_method_21_code 127 = .ok (.aload_n 0, 1) := by decide +kernel
theorem d_Mo_row_128 : decode prog_12_method_21_code 128 = .ok (.getfield 59, 3) := by decide +kernel
theorem d_Mo_row_131 : decode prog_12_method_21_code 131 = .ok (.iload_n 3, 1) := by decide +kernel
theorem d_Mo_row_132 : decode prog_12_method_21_code 132 = .ok (.iconst 1, 1) := by decide +kernel
theorem d_Mo_row_133 : decode prog_12_method_21_code 133 = .ok (.isub, 1) := by decide +kernel
theorem d_Mo_row_134 : decode prog_12_method_21_code 134 = .ok (.iaload, 1) := by decide +kernel
theorem d_Mo_row_135 : decode prog_12_method_21_code 135 = .ok (.aload_n 0, 1) := by decide +kernel
theorem d_Mo_row_136 : decode prog_12_method_21_code 136 = .ok (.getfield 59, 3) := by decide +kernel
theorem d_Mo_row_139 : decode prog_12_method_21_code 139 = .ok (.iload_n 3, 1) := by decide +kernel
theorem d_Mo_row_140 : decode prog_12_method_21_code 140 = .ok (.iaload, 1) := by decide +kernel
theorem d_Mo_row_141 : decode prog_12_method_21_code 141 = .ok (.invokevirtual 102, 3) := by decide +kernel
theorem d_Mo_row_144 : decode prog_12_method_21_code 144 = .ok (.iastore, 1) := by decide +kernel
theorem d_Mo_row_145 : decode prog_12_method_21_code 145 = .ok (.goto (-35), 3) := by decide +kernel
theorem d_Mo_row_148 : decode prog_12_method_21_code 148 = .ok (.aload_n 0, 1) := by decide +kernel
theorem d_Mo_row_149 : decode prog_12_method_21_code 149 = .ok (.getfield 59, 3) := by decide +kernel
theorem d_Mo_row_152 : decode prog_12_method_21_code 152 = .ok (.iconst 0, 1) := by decide +kernel
theorem d_Mo_row_153 : decode prog_12_method_21_code 153 = .ok (.iaload, 1) := by decide +kernel
theorem d_Mo_row_154 : decode prog_12_method_21_code 154 = .ok (.ireturn, 1) := by decide +kernel
theorem d_Mo_root_0 : decode prog_12_method_22_code 0 = .ok (.iload_n 1, 1) := by decide +kernel
theorem d_Mo_root_1 : decode prog_12_method_22_code 1 = .ok (.ifCond .lt 11, 3) := by decide +kernel
theorem d_Mo_root_4 : decode prog_12_method_22_code 4 = .ok (.iload_n 1, 1) := by decide +kernel
theorem d_Mo_root_5 : decode prog_12_method_22_code 5 = .ok (.aload_n 0, 1) := by decide +kernel
theorem d_Mo_root_6 : decode prog_12_method_22_code 6 = .ok (.getfield 145, 3) := by decide +kernel
theorem d_Mo_root_9 : decode prog_12_method_22_code 9 = .ok (.if_icmp .lt 7, 3) := by decide +kernel
theorem d_Mo_root_12 : decode prog_12_method_22_code 12 = .ok (.iconst (-1), 1) := by decide +kernel
theorem d_Mo_root_13 : decode prog_12_method_22_code 13 = .ok (.goto 9, 3) := by decide +kernel
theorem d_Mo_root_16 : decode prog_12_method_22_code 16 = .ok (.aload_n 0, 1) := by decide +kernel
theorem d_Mo_root_17 : decode prog_12_method_22_code 17 = .ok (.getfield 20, 3) := by decide +kernel
theorem d_Mo_root_20 : decode prog_12_method_22_code 20 = .ok (.iload_n 1, 1) := by decide +kernel
theorem d_Mo_root_21 : decode prog_12_method_22_code 21 = .ok (.iaload, 1) := by decide +kernel
theorem d_Mo_root_22 : decode prog_12_method_22_code 22 = .ok (.ireturn, 1) := by decide +kernel
theorem d_Mo_head_0 : decode prog_12_method_23_code 0 = .ok (.iload_n 1, 1) := by decide +kernel
theorem d_Mo_head_1 : decode prog_12_method_23_code 1 = .ok (.ifCond .lt 11, 3) := by decide +kernel
theorem d_Mo_head_4 : decode prog_12_method_23_code 4 = .ok (.iload_n 1, 1) := by decide +kernel
theorem d_Mo_head_5 : decode prog_12_method_23_code 5 = .ok (.aload_n 0, 1) := by decide +kernel
theorem d_Mo_head_6 : decode prog_12_method_23_code 6 = .ok (.getfield 145, 3) := by decide +kernel
theorem d_Mo_head_9 : decode prog_12_method_23_code 9 = .ok (.if_icmp .lt 7, 3) := by decide +kernel
theorem d_Mo_head_12 : decode prog_12_method_23_code 12 = .ok (.iconst (-1), 1) := by decide +kernel
theorem d_Mo_head_13 : decode prog_12_method_23_code 13 = .ok (.goto 11, 3) := by decide +kernel
theorem d_Mo_head_16 : decode prog_12_method_23_code 16 = .ok (.aload_n 0, 1) := by decide +kernel
theorem d_Mo_head_17 : decode prog_12_method_23_code 17 = .ok (.iconst 0, 1) := by decide +kernel
theorem d_Mo_head_18 : decode prog_12_method_23_code 18 = .ok (.iload_n 1, 1) := by decide +kernel
theorem d_Mo_head_19 : decode prog_12_method_23_code 19 = .ok (.iconst 1, 1) := by decide +kernel
theorem d_Mo_head_20 : decode prog_12_method_23_code 20 = .ok (.iadd, 1) := by decide +kernel
theorem d_Mo_head_21 : decode prog_12_method_23_code 21 = .ok (.invokevirtual 161, 3) := by decide +kernel
theorem d_Mo_head_24 : decode prog_12_method_23_code 24 = .ok (.ireturn, 1) := by decide +kernel
theorem d_Mo_way_0 : decode prog_12_method_24_code 0 = .ok (.iconst 0, 1) := by decide +kernel
theorem d_Mo_way_1 : decode prog_12_method_24_code 1 = .ok (.istore 4, 2) := by decide +kernel
theorem d_Mo_way_3 : decode prog_12_method_24_code 3 = .ok (.iload_n 2, 1) := by decide +kernel
theorem d_Mo_way_4 : decode prog_12_method_24_code 4 = .ok (.iconst 1, 1) := by decide +kernel
theorem d_Mo_way_5 : decode prog_12_method_24_code 5 = .ok (.iadd, 1) := by decide +kernel
theorem d_Mo_way_6 : decode prog_12_method_24_code 6 = .ok (.istore 5, 2) := by decide +kernel
theorem d_Mo_way_8 : decode prog_12_method_24_code 8 = .ok (.aload_n 0, 1) := by decide +kernel
theorem d_Mo_way_9 : decode prog_12_method_24_code 9 = .ok (.iconst 0, 1) := by decide +kernel
theorem d_Mo_way_10 : decode prog_12_method_24_code 10 = .ok (.putfield 165, 3) := by decide +kernel
theorem d_Mo_way_13 : decode prog_12_method_24_code 13 = .ok (.iload 5, 2) := by decide +kernel
theorem d_Mo_way_15 : decode prog_12_method_24_code 15 = .ok (.iconst 1, 1) := by decide +kernel
theorem d_Mo_way_16 : decode prog_12_method_24_code 16 = .ok (.if_icmp .le 161, 3) := by decide +kernel
theorem d_Mo_way_19 : decode prog_12_method_24_code 19 = .ok (.iload_n 3, 1) := by decide +kernel
theorem d_Mo_way_20 : decode prog_12_method_24_code 20 = .ok (.ifCond .eq 14, 3) := by decide +kernel
theorem d_Mo_way_23 : decode prog_12_method_24_code 23 = .ok (.iload 4, 2) := by decide +kernel
theorem d_Mo_way_25 : decode prog_12_method_24_code 25 = .ok (.iload 5, 2) := by decide +kernel
theorem d_Mo_way_27 : decode prog_12_method_24_code 27 = .ok (.iadd, 1) := by decide +kernel
theorem d_Mo_way_28 : decode prog_12_method_24_code 28 = .ok (.iconst 1, 1) := by decide +kernel
theorem d_Mo_way_29 : decode prog_12_method_24_code 29 = .ok (.isub, 1) := by decide +kernel
theorem d_Mo_way_30 : decode prog_12_method_24_code 30 = .ok (.iload_n 1, 1) := by decide +kernel
theorem d_Mo_way_31 : decode prog_12_method_24_code 31 = .ok (.if_icmp .le 146, 3) := by decide +kernel
theorem d_Mo_way_34 : decode prog_12_method_24_code 34 = .ok (.iconst 1, 1) := by decide +kernel
theorem d_Mo_way_35 : decode prog_12_method_24_code 35 = .ok (.istore 6, 2) := by decide +kernel
theorem d_Mo_way_37 : decode prog_12_method_24_code 37 = .ok (.iconst 2, 1) := by decide +kernel
theorem d_Mo_way_38 : decode prog_12_method_24_code 38 = .ok (.iload 6, 2) := by decide +kernel
theorem d_Mo_way_40 : decode prog_12_method_24_code 40 = .ok (.imul, 1) := by decide +kernel
theorem d_Mo_way_41 : decode prog_12_method_24_code 41 = .ok (.iload 5, 2) := by decide +kernel
theorem d_Mo_way_43 : decode prog_12_method_24_code 43 = .ok (.if_icmp .ge 12, 3) := by decide +kernel
theorem d_Mo_way_46 : decode prog_12_method_24_code 46 = .ok (.iconst 2, 1) := by decide +kernel
theorem d_Mo_way_47 : decode prog_12_method_24_code 47 = .ok (.iload 6, 2) := by decide +kernel
theorem d_Mo_way_49 : decode prog_12_method_24_code 49 = .ok (.imul, 1) := by decide +kernel
theorem d_Mo_way_50 : decode prog_12_method_24_code 50 = .ok (.istore 6, 2) := by decide +kernel
theorem d_Mo_way_52 : decode prog_12_method_24_code 52 = .ok (.goto (-15), 3) := by decide +kernel
theorem d_Mo_way_55 : decode prog_12_method_24_code 55 = .ok (.iload_n 1, 1) := by decide +kernel
theorem d_Mo_way_56 : decode prog_12_method_24_code 56 = .ok (.iload 4, 2) := by decide +kernel
theorem d_Mo_way_58 : decode prog_12_method_24_code 58 = .ok (.iload 6, 2) := by decide +kernel
theorem d_Mo_way_60 : decode prog_12_method_24_code 60 = .ok (.iadd, 1) := by decide +kernel
theorem d_Mo_way_61 : decode prog_12_method_24_code 61 = .ok (.if_icmp .lt 7, 3) := by decide +kernel
theorem d_Mo_way_64 : decode prog_12_method_24_code 64 = .ok (.iconst 1, 1) := by decide +kernel
theorem d_Mo_way_65 : decode prog_12_method_24_code 65 = .ok (.goto 4, 3) := by decide +kernel
theorem d_Mo_way_68 : decode prog_12_method_24_code 68 = .ok (.iconst 0, 1) := by decide +kernel
theorem d_Mo_way_69 : decode prog_12_method_24_code 69 = .ok (.istore 7, 2) := by decide +kernel
theorem d_Mo_way_71 : decode prog_12_method_24_code 71 = .ok (.aload_n 0, 1) := by decide +kernel
theorem d_Mo_way_72 : decode prog_12_method_24_code 72 = .ok (.getfield 65, 3) := by decide +kernel
theorem d_Mo_way_75 : decode prog_12_method_24_code 75 = .ok (.aload_n 0, 1) := by decide +kernel
theorem d_Mo_way_76 : decode prog_12_method_24_code 76 = .ok (.getfield 165, 3) := by decide +kernel
theorem d_Mo_way_79 : decode prog_12_method_24_code 79 = .ok (.iload 7, 2) := by decide +kernel
theorem d_Mo_way_81 : decode prog_12_method_24_code 81 = .ok (.bastore, 1) := by decide +kernel
theorem d_Mo_way_82 : decode prog_12_method_24_code 82 = .ok (.aload_n 0, 1) := by decide +kernel
theorem d_Mo_way_83 : decode prog_12_method_24_code 83 = .ok (.getfield 68, 3) := by decide +kernel
theorem d_Mo_way_86 : decode prog_12_method_24_code 86 = .ok (.aload_n 0, 1) := by decide +kernel
theorem d_Mo_way_87 : decode prog_12_method_24_code 87 = .ok (.getfield 165, 3) := by decide +kernel
theorem d_Mo_way_90 : decode prog_12_method_24_code 90 = .ok (.iload 7, 2) := by decide +kernel
theorem d_Mo_way_92 : decode prog_12_method_24_code 92 = .ok (.ifCond .eq 8, 3) := by decide +kernel
theorem d_Mo_way_95 : decode prog_12_method_24_code 95 = .ok (.iload 4, 2) := by decide +kernel
theorem d_Mo_way_97 : decode prog_12_method_24_code 97 = .ok (.goto 8, 3) := by decide +kernel
theorem d_Mo_way_100 : decode prog_12_method_24_code 100 = .ok (.iload 4, 2) := by decide +kernel
theorem d_Mo_way_102 : decode prog_12_method_24_code 102 = .ok (.iload 6, 2) := by decide +kernel
theorem d_Mo_way_104 : decode prog_12_method_24_code 104 = .ok (.iadd, 1) := by decide +kernel
theorem d_Mo_way_105 : decode prog_12_method_24_code 105 = .ok (.iastore, 1) := by decide +kernel
theorem d_Mo_way_106 : decode prog_12_method_24_code 106 = .ok (.aload_n 0, 1) := by decide +kernel
theorem d_Mo_way_107 : decode prog_12_method_24_code 107 = .ok (.getfield 71, 3) := by decide +kernel
theorem d_Mo_way_110 : decode prog_12_method_24_code 110 = .ok (.aload_n 0, 1) := by decide +kernel
theorem d_Mo_way_111 : decode prog_12_method_24_code 111 = .ok (.getfield 165, 3) := by decide +kernel
theorem d_Mo_way_114 : decode prog_12_method_24_code 114 = .ok (.iload 7, 2) := by decide +kernel
theorem d_Mo_way_116 : decode prog_12_method_24_code 116 = .ok (.ifCond .eq 8, 3) := by decide +kernel
theorem d_Mo_way_119 : decode prog_12_method_24_code 119 = .ok (.iload 6, 2) := by decide +kernel
theorem d_Mo_way_121 : decode prog_12_method_24_code 121 = .ok (.goto 8, 3) := by decide +kernel
theorem d_Mo_way_124 : decode prog_12_method_24_code 124 = .ok (.iload 5, 2) := by decide +kernel
theorem d_Mo_way_126 : decode prog_12_method_24_code 126 = .ok (.iload 6, 2) := by decide +kernel
theorem d_Mo_way_128 : decode prog_12_method_24_code 128 = .ok (.isub, 1) := by decide +kernel
theorem d_Mo_way_129 : decode prog_12_method_24_code 129 = .ok (.iastore, 1) := by decide +kernel
theorem d_Mo_way_130 : decode prog_12_method_24_code 130 = .ok (.aload_n 0, 1) := by decide +kernel
theorem d_Mo_way_131 : decode prog_12_method_24_code 131 = .ok (.dup, 1) := by decide +kernel
theorem d_Mo_way_132 : decode prog_12_method_24_code 132 = .ok (.getfield 165, 3) := by decide +kernel
theorem d_Mo_way_135 : decode prog_12_method_24_code 135 = .ok (.iconst 1, 1) := by decide +kernel
theorem d_Mo_way_136 : decode prog_12_method_24_code 136 = .ok (.iadd, 1) := by decide +kernel
theorem d_Mo_way_137 : decode prog_12_method_24_code 137 = .ok (.putfield 165, 3) := by decide +kernel
theorem d_Mo_way_140 : decode prog_12_method_24_code 140 = .ok (.iload 7, 2) := by decide +kernel
theorem d_Mo_way_142 : decode prog_12_method_24_code 142 = .ok (.ifCond .eq 11, 3) := by decide +kernel
theorem d_Mo_way_145 : decode prog_12_method_24_code 145 = .ok (.iload 4, 2) := by decide +kernel
theorem d_Mo_way_147 : decode prog_12_method_24_code 147 = .ok (.iload 6, 2) := by decide +kernel
theorem d_Mo_way_149 : decode prog_12_method_24_code 149 = .ok (.iadd, 1) := by decide +kernel
theorem d_Mo_way_150 : decode prog_12_method_24_code 150 = .ok (.goto 5, 3) := by decide +kernel
theorem d_Mo_way_153 : decode prog_12_method_24_code 153 = .ok (.iload 4, 2) := by decide +kernel
theorem d_Mo_way_155 : decode prog_12_method_24_code 155 = .ok (.istore 4, 2) := by decide +kernel
theorem d_Mo_way_157 : decode prog_12_method_24_code 157 = .ok (.iload 7, 2) := by decide +kernel
theorem d_Mo_way_159 : decode prog_12_method_24_code 159 = .ok (.ifCond .eq 11, 3) := by decide +kernel
theorem d_Mo_way_162 : decode prog_12_method_24_code 162 = .ok (.iload 5, 2) := by decide +kernel
theorem d_Mo_way_164 : decode prog_12_method_24_code 164 = .ok (.iload 6, 2) := by decide +kernel
theorem d_Mo_way_166 : decode prog_12_method_24_code 166 = .ok (.isub, 1) := by decide +kernel
theorem d_Mo_way_167 : decode prog_12_method_24_code 167 = .ok (.goto 5, 3) := by decide +kernel
theorem d_Mo_way_170 : decode prog_12_method_24_code 170 = .ok (.iload 6, 2) := by decide +kernel
theorem d_Mo_way_172 : decode prog_12_method_24_code 172 = .ok (.istore 5, 2) := by decide +kernel
theorem d_Mo_way_174 : decode prog_12_method_24_code 174 = .ok (.goto (-161), 3) := by decide +kernel
theorem d_Mo_way_177 : decode prog_12_method_24_code 177 = .ok (.aload_n 0, 1) := by decide +kernel
theorem d_Mo_way_178 : decode prog_12_method_24_code 178 = .ok (.iload 4, 2) := by decide +kernel
theorem d_Mo_way_180 : decode prog_12_method_24_code 180 = .ok (.putfield 168, 3) := by decide +kernel
theorem d_Mo_way_183 : decode prog_12_method_24_code 183 = .ok (.aload_n 0, 1) := by decide +kernel
theorem d_Mo_way_184 : decode prog_12_method_24_code 184 = .ok (.iload 5, 2) := by decide +kernel
theorem d_Mo_way_186 : decode prog_12_method_24_code 186 = .ok (.putfield 171, 3) := by decide +kernel
theorem d_Mo_way_189 : decode prog_12_method_24_code 189 = .ok (.return_, 1) := by decide +kernel
theorem d_Mo_add_0 : decode prog_12_method_25_code 0 = .ok (.aload_n 0, 1) := by decide +kernel
theorem d_Mo_add_1 : decode prog_12_method_25_code 1 = .ok (.getfield 53, 3) := by decide +kernel
theorem d_Mo_add_4 : decode prog_12_method_25_code 4 = .ok (.bipush 30, 2) := by decide +kernel
theorem d_Mo_add_6 : decode prog_12_method_25_code 6 = .ok (.iload_n 1, 1) := by decide +kernel
theorem d_Mo_add_7 : decode prog_12_method_25_code 7 = .ok (.imul, 1) := by decide +kernel
theorem d_Mo_add_8 : decode prog_12_method_25_code 8 = .ok (.aload_n 0, 1) := by decide +kernel
theorem d_Mo_add_9 : decode prog_12_method_25_code 9 = .ok (.getfield 56, 3) := by decide +kernel
theorem d_Mo_add_12 : decode prog_12_method_25_code 12 = .ok (.iload_n 1, 1) := by decide +kernel
theorem d_Mo_add_13 : decode prog_12_method_25_code 13 = .ok (.iaload, 1) := by decide +kernel
theorem d_Mo_add_14 : decode prog_12_method_25_code 14 = .ok (.iadd, 1) := by decide +kernel
theorem d_Mo_add_15 : decode prog_12_method_25_code 15 = .ok (.iload_n 2, 1) := by decide +kernel
theorem d_Mo_add_16 : decode prog_12_method_25_code 16 = .ok (.iastore, 1) := by decide +kernel
theorem d_Mo_add_17 : decode prog_12_method_25_code 17 = .ok (.aload_n 0, 1) := by decide +kernel
theorem d_Mo_add_18 : decode prog_12_method_25_code 18 = .ok (.getfield 56, 3) := by decide +kernel
theorem d_Mo_add_21 : decode prog_12_method_25_code 21 = .ok (.iload_n 1, 1) := by decide +kernel
theorem d_Mo_add_22 : decode prog_12_method_25_code 22 = .ok (.dup2, 1) := by decide +kernel
theorem d_Mo_add_23 : decode prog_12_method_25_code 23 = .ok (.iaload, 1) := by decide +kernel
theorem d_Mo_add_24 : decode prog_12_method_25_code 24 = .ok (.iconst 1, 1) := by decide +kernel
theorem d_Mo_add_25 : decode prog_12_method_25_code 25 = .ok (.iadd, 1) := by decide +kernel
theorem d_Mo_add_26 : decode prog_12_method_25_code 26 = .ok (.iastore, 1) := by decide +kernel
theorem d_Mo_add_27 : decode prog_12_method_25_code 27 = .ok (.return_, 1) := by decide +kernel
theorem d_Mo_lookup_0 : decode prog_12_method_26_code 0 = .ok (.aload_n 0, 1) := by decide +kernel
theorem d_Mo_lookup_1 : decode prog_12_method_26_code 1 = .ok (.bipush 64, 2) := by decide +kernel
theorem d_Mo_lookup_3 : decode prog_12_method_26_code 3 = .ok (.iload_n 3, 1) := by decide +kernel
theorem d_Mo_lookup_4 : decode prog_12_method_26_code 4 = .ok (.imul, 1) := by decide +kernel
theorem d_Mo_lookup_5 : decode prog_12_method_26_code 5 = .ok (.invokevirtual 148, 3) := by decide +kernel
theorem d_Mo_lookup_8 : decode prog_12_method_26_code 8 = .ok (.iconst 1, 1) := by decide +kernel
theorem d_Mo_lookup_9 : decode prog_12_method_26_code 9 = .ok (.istore 4, 2) := by decide +kernel
theorem d_Mo_lookup_11 : decode prog_12_method_26_code 11 = .ok (.iconst 0, 1) := by decide +kernel
theorem d_Mo_lookup_12 : decode prog_12_method_26_code 12 = .ok (.istore 5, 2) := by decide +kernel
theorem d_Mo_lookup_14 : decode prog_12_method_26_code 14 = .ok (.aload_n 0, 1) := by decide +kernel
theorem d_Mo_lookup_15 : decode prog_12_method_26_code 15 = .ok (.getfield 23, 3) := by decide +kernel
theorem d_Mo_lookup_18 : decode prog_12_method_26_code 18 = .ok (.iload 4, 2) := by decide +kernel
theorem d_Mo_lookup_20 : decode prog_12_method_26_code 20 = .ok (.iaload, 1) := by decide +kernel
theorem d_Mo_lookup_21 : decode prog_12_method_26_code 21 = .ok (.iconst 1, 1) := by decide +kernel
theorem d_Mo_lookup_22 : decode prog_12_method_26_code 22 = .ok (.if_icmp .le 22, 3) := by decide +kernel
theorem d_Mo_lookup_25 : decode prog_12_method_26_code 25 = .ok (.iconst 2, 1) := by decide +kernel
theorem d_Mo_lookup_26 : decode prog_12_method_26_code 26 = .ok (.iload 4, 2) := by decide +kernel
theorem d_Mo_lookup_28 : decode prog_12_method_26_code 28 = .ok (.imul, 1) := by decide +kernel
theorem d_Mo_lookup_29 : decode prog_12_method_26_code 29 = .ok (.iload_n 2, 1) := by decide +kernel
theorem d_Mo_lookup_30 : decode prog_12_method_26_code 30 = .ok (.iload 5, 2) := by decide +kernel
theorem d_Mo_lookup_32 : decode prog_12_method_26_code 32 = .ok (.invokestatic 174, 3) := by decide +kernel
theorem d_Mo_lookup_35 : decode prog_12_method_26_code 35 = .ok (.iadd, 1) := by decide +kernel
theorem d_Mo_lookup_36 : decode prog_12_method_26_code 36 = .ok (.istore 4, 2) := by decide +kernel
theorem d_Mo_lookup_38 : decode prog_12_method_26_code 38 = .ok (.iinc 5 1, 3) := by decide +kernel
theorem d_Mo_lookup_41 : decode prog_12_method_26_code 41 = .ok (.goto (-27), 3) := by decide +kernel
theorem d_Mo_lookup_44 : decode prog_12_method_26_code 44 = .ok (.aload_n 0, 1) := by decide +kernel
theorem d_Mo_lookup_45 : decode prog_12_method_26_code 45 = .ok (.iload_n 1, 1) := by decide +kernel
theorem d_Mo_lookup_46 : decode prog_12_method_26_code 46 = .ok (.iload 5, 2) := by decide +kernel
theorem d_Mo_lookup_48 : decode prog_12_method_26_code 48 = .ok (.invokevirtual 177, 3) := by decide +kernel
theorem d_Mo_lookup_51 : decode prog_12_method_26_code 51 = .ok (.aload_n 0, 1) := by decide +kernel
theorem d_Mo_lookup_52 : decode prog_12_method_26_code 52 = .ok (.iload_n 1, 1) := by decide +kernel
theorem d_Mo_lookup_53 : decode prog_12_method_26_code 53 = .ok (.aload_n 0, 1) := by decide +kernel
theorem d_Mo_lookup_54 : decode prog_12_method_26_code 54 = .ok (.getfield 29, 3) := by decide +kernel
theorem d_Mo_lookup_57 : decode prog_12_method_26_code 57 = .ok (.iload 4, 2) := by decide +kernel
theorem d_Mo_lookup_59 : decode prog_12_method_26_code 59 = .ok (.iaload, 1) := by decide +kernel
theorem d_Mo_lookup_60 : decode prog_12_method_26_code 60 = .ok (.invokevirtual 177, 3) := by decide +kernel
theorem d_Mo_lookup_63 : decode prog_12_method_26_code 63 = .ok (.aload_n 0, 1) := by decide +kernel
theorem d_Mo_lookup_64 : decode prog_12_method_26_code 64 = .ok (.iload_n 1, 1) := by decide +kernel
theorem d_Mo_lookup_65 : decode prog_12_method_26_code 65 = .ok (.aload_n 0, 1) := by decide +kernel
theorem d_Mo_lookup_66 : decode prog_12_method_26_code 66 = .ok (.getfield 23, 3) := by decide +kernel
theorem d_Mo_lookup_69 : decode prog_12_method_26_code 69 = .ok (.iload 4, 2) := by decide +kernel
theorem d_Mo_lookup_71 : decode prog_12_method_26_code 71 = .ok (.iaload, 1) := by decide +kernel
theorem d_Mo_lookup_72 : decode prog_12_method_26_code 72 = .ok (.iconst 1, 1) := by decide +kernel
theorem d_Mo_lookup_73 : decode prog_12_method_26_code 73 = .ok (.if_icmp .ne 23, 3) := by decide +kernel
theorem d_Mo_lookup_76 : decode prog_12_method_26_code 76 = .ok (.aload_n 0, 1) := by decide +kernel
theorem d_Mo_lookup_77 : decode prog_12_method_26_code 77 = .ok (.getfield 7, 3) := by decide +kernel
theorem d_Mo_lookup_80 : decode prog_12_method_26_code 80 = .ok (.bipush 64, 2) := by decide +kernel
theorem d_Mo_lookup_82 : decode prog_12_method_26_code 82 = .ok (.iload_n 3, 1) := by decide +kernel
theorem d_Mo_lookup_83 : decode prog_12_method_26_code 83 = .ok (.imul, 1) := by decide +kernel
theorem d_Mo_lookup_84 : decode prog_12_method_26_code 84 = .ok (.aload_n 0, 1) := by decide +kernel
theorem d_Mo_lookup_85 : decode prog_12_method_26_code 85 = .ok (.getfield 29, 3) := by decide +kernel
theorem d_Mo_lookup_88 : decode prog_12_method_26_code 88 = .ok (.iload 4, 2) := by decide +kernel
theorem d_Mo_lookup_90 : decode prog_12_method_26_code 90 = .ok (.iaload, 1) := by decide +kernel
theorem d_Mo_lookup_91 : decode prog_12_method_26_code 91 = .ok (.iadd, 1) := by decide +kernel
theorem d_Mo_lookup_92 : decode prog_12_method_26_code 92 = .ok (.iaload, 1) := by decide +kernel
theorem d_Mo_lookup_93 : decode prog_12_method_26_code 93 = .ok (.goto 4, 3) := by decide +kernel
theorem d_Mo_lookup_96 : decode prog_12_method_26_code 96 = .ok (.iconst 0, 1) := by decide +kernel
theorem d_Mo_lookup_97 : decode prog_12_method_26_code 97 = .ok (.invokevirtual 177, 3) := by decide +kernel
theorem d_Mo_lookup_100 : decode prog_12_method_26_code 100 = .ok (.iconst 1, 1) := by decide +kernel
theorem d_Mo_lookup_101 : decode prog_12_method_26_code 101 = .ok (.istore 6, 2) := by decide +kernel
theorem d_Mo_lookup_103 : decode prog_12_method_26_code 103 = .ok (.iconst 0, 1) := by decide +kernel
theorem d_Mo_lookup_104 : decode prog_12_method_26_code 104 = .ok (.istore 7, 2) := by decide +kernel
theorem d_Mo_lookup_106 : decode prog_12_method_26_code 106 = .ok (.iload 7, 2) := by decide +kernel
theorem d_Mo_lookup_108 : decode prog_12_method_26_code 108 = .ok (.iload 5, 2) := by decide +kernel
theorem d_Mo_lookup_110 : decode prog_12_method_26_code 110 = .ok (.if_icmp .ge 49, 3) := by decide +kernel
theorem d_Mo_lookup_113 : decode prog_12_method_26_code 113 = .ok (.iconst 2, 1) := by decide +kernel
theorem d_Mo_lookup_114 : decode prog_12_method_26_code 114 = .ok (.iload 6, 2) := by decide +kernel
theorem d_Mo_lookup_116 : decode prog_12_method_26_code 116 = .ok (.imul, 1) := by decide +kernel
theorem d_Mo_lookup_117 : decode prog_12_method_26_code 117 = .ok (.iconst 1, 1) := by decide +kernel
theorem d_Mo_lookup_118 : decode prog_12_method_26_code 118 = .ok (.iadd, 1) := by decide +kernel
theorem d_Mo_lookup_119 : decode prog_12_method_26_code 119 = .ok (.iload_n 2, 1) := by decide +kernel
theorem d_Mo_lookup_120 : decode prog_12_method_26_code 120 = .ok (.iload 7, 2) := by decide +kernel
theorem d_Mo_lookup_122 : decode prog_12_method_26_code 122 = .ok (.invokestatic 174, 3) := by decide +kernel
theorem d_Mo_lookup_125 : decode prog_12_method_26_code 125 = .ok (.isub, 1) := by decide +kernel
theorem d_Mo_lookup_126 : decode prog_12_method_26_code 126 = .ok (.istore 8, 2) := by decide +kernel
theorem d_Mo_lookup_128 : decode prog_12_method_26_code 128 = .ok (.aload_n 0, 1) := by decide +kernel
theorem d_Mo_lookup_129 : decode prog_12_method_26_code 129 = .ok (.iload_n 1, 1) := by decide +kernel
theorem d_Mo_lookup_130 : decode prog_12_method_26_code 130 = .ok (.aload_n 0, 1) := by decide +kernel
theorem d_Mo_lookup_131 : decode prog_12_method_26_code 131 = .ok (.getfield 26, 3) := by decide +kernel
theorem d_Mo_lookup_134 : decode prog_12_method_26_code 134 = .ok (.iload 8, 2) := by decide +kernel
theorem d_Mo_lookup_136 : decode prog_12_method_26_code 136 = .ok (.iaload, 1) := by decide +kernel
theorem d_Mo_lookup_137 : decode prog_12_method_26_code 137 = .ok (.invokevirtual 177, 3) := by decide +kernel
theorem d_Mo_lookup_140 : decode prog_12_method_26_code 140 = .ok (.iconst 2, 1) := by decide +kernel
theorem d_Mo_lookup_141 : decode prog_12_method_26_code 141 = .ok (.iload 6, 2) := by decide +kernel
theorem d_Mo_lookup_143 : decode prog_12_method_26_code 143 = .ok (.imul, 1) := by decide +kernel
theorem d_Mo_lookup_144 : decode prog_12_method_26_code 144 = .ok (.iload_n 2, 1) := by decide +kernel
theorem d_Mo_lookup_145 : decode prog_12_method_26_code 145 = .ok (.iload 7, 2) := by decide +kernel
theorem d_Mo_lookup_147 : decode prog_12_method_26_code 147 = .ok (.invokestatic 174, 3) := by decide +kernel
theorem d_Mo_lookup_150 : decode prog_12_method_26_code 150 = .ok (.iadd, 1) := by decide +kernel
theorem d_Mo_lookup_151 : decode prog_12_method_26_code 151 = .ok (.istore 6, 2) := by decide +kernel
theorem d_Mo_lookup_153 : decode prog_12_method_26_code 153 = .ok (.iinc 7 1, 3) := by decide +kernel
theorem d_Mo_lookup_156 : decode prog_12_method_26_code 156 = .ok (.goto (-50), 3) := by decide +kernel
theorem d_Mo_lookup_159 : decode prog_12_method_26_code 159 = .ok (.aload_n 0, 1) := by decide +kernel
theorem d_Mo_lookup_160 : decode prog_12_method_26_code 160 = .ok (.iload 5, 2) := by decide +kernel
theorem d_Mo_lookup_162 : decode prog_12_method_26_code 162 = .ok (.aload_n 0, 1) := by decide +kernel
theorem d_Mo_lookup_163 : decode prog_12_method_26_code 163 = .ok (.getfield 23, 3) := by decide +kernel
theorem d_Mo_lookup_166 : decode prog_12_method_26_code 166 = .ok (.iload 4, 2) := by decide +kernel
theorem d_Mo_lookup_168 : decode prog_12_method_26_code 168 = .ok (.iaload, 1) := by decide +kernel
theorem d_Mo_lookup_169 : decode prog_12_method_26_code 169 = .ok (.iadd, 1) := by decide +kernel
theorem d_Mo_lookup_170 : decode prog_12_method_26_code 170 = .ok (.putfield 181, 3) := by decide +kernel
theorem d_Mo_lookup_173 : decode prog_12_method_26_code 173 = .ok (.aload_n 0, 1) := by decide +kernel
theorem d_Mo_lookup_174 : decode prog_12_method_26_code 174 = .ok (.getfield 29, 3) := by decide +kernel
theorem d_Mo_lookup_177 : decode prog_12_method_26_code 177 = .ok (.iload 4, 2) := by decide +kernel
theorem d_Mo_lookup_179 : decode prog_12_method_26_code 179 = .ok (.iaload, 1) := by decide +kernel
theorem d_Mo_lookup_180 : decode prog_12_method_26_code 180 = .ok (.iload_n 2, 1) := by decide +kernel
theorem d_Mo_lookup_181 : decode prog_12_method_26_code 181 = .ok (.if_icmp .ne 17, 3) := by decide +kernel
theorem d_Mo_lookup_184 : decode prog_12_method_26_code 184 = .ok (.aload_n 0, 1) := by decide +kernel
theorem d_Mo_lookup_185 : decode prog_12_method_26_code 185 = .ok (.getfield 7, 3) := by decide +kernel
theorem d_Mo_lookup_188 : decode prog_12_method_26_code 188 = .ok (.bipush 64, 2) := by decide +kernel
theorem d_Mo_lookup_190 : decode prog_12_method_26_code 190 = .ok (.iload_n 3, 1) := by decide +kernel
theorem d_Mo_lookup_191 : decode prog_12_method_26_code 191 = .ok (.imul, 1) := by decide +kernel
theorem d_Mo_lookup_192 : decode prog_12_method_26_code 192 = .ok (.iload_n 2, 1) := by decide +kernel
theorem d_Mo_lookup_193 : decode prog_12_method_26_code 193 = .ok (.iadd, 1) := by decide +kernel
theorem d_Mo_lookup_194 : decode prog_12_method_26_code 194 = .ok (.iaload, 1) := by decide +kernel
theorem d_Mo_lookup_195 : decode prog_12_method_26_code 195 = .ok (.goto 4, 3) := by decide +kernel
theorem d_Mo_lookup_198 : decode prog_12_method_26_code 198 = .ok (.iconst 0, 1) := by decide +kernel
theorem d_Mo_lookup_199 : decode prog_12_method_26_code 199 = .ok (.ireturn, 1) := by decide +kernel
theorem d_Mo_prove_0 : decode prog_12_method_27_code 0 = .ok (.aload_n 0, 1) := by decide +kernel
theorem d_Mo_prove_1 : decode prog_12_method_27_code 1 = .ok (.getfield 106, 3) := by decide +kernel
theorem d_Mo_prove_4 : decode prog_12_method_27_code 4 = .ok (.ifCond .eq 6, 3) := by decide +kernel
theorem d_Mo_prove_7 : decode prog_12_method_27_code 7 = .ok (.bipush (-9), 2) := by decide +kernel
theorem d_Mo_prove_9 : decode prog_12_method_27_code 9 = .ok (.ireturn, 1) := by decide +kernel
theorem d_Mo_prove_10 : decode prog_12_method_27_code 10 = .ok (.iload 4, 2) := by decide +kernel
theorem d_Mo_prove_12 : decode prog_12_method_27_code 12 = .ok (.ifCond .lt 16, 3) := by decide +kernel
theorem d_Mo_prove_15 : decode prog_12_method_27_code 15 = .ok (.iload 4, 2) := by decide +kernel
theorem d_Mo_prove_17 : decode prog_12_method_27_code 17 = .ok (.aload_n 0, 1) := by decide +kernel
theorem d_Mo_prove_18 : decode prog_12_method_27_code 18 = .ok (.getfield 145, 3) := by decide +kernel
theorem d_Mo_prove_21 : decode prog_12_method_27_code 21 = .ok (.if_icmp .ge 7, 3) := by decide +kernel
theorem d_Mo_prove_24 : decode prog_12_method_27_code 24 = .ok (.iconst 1, 1) := by decide +kernel
theorem d_Mo_prove_25 : decode prog_12_method_27_code 25 = .ok (.goto 4, 3) := by decide +kernel
theorem d_Mo_prove_28 : decode prog_12_method_27_code 28 = .ok (.iconst 0, 1) := by decide +kernel
theorem d_Mo_prove_29 : decode prog_12_method_27_code 29 = .ok (.istore 5, 2) := by decide +kernel
theorem d_Mo_prove_31 : decode prog_12_method_27_code 31 = .ok (.iload_n 1, 1) := by decide +kernel
theorem d_Mo_prove_32 : decode prog_12_method_27_code 32 = .ok (.ifCond .lt 47, 3) := by decide +kernel
theorem d_Mo_prove_35 : decode prog_12_method_27_code 35 = .ok (.iload_n 1, 1) := by decide +kernel
theorem d_Mo_prove_36 : decode prog_12_method_27_code 36 = .ok (.iconst 3, 1) := by decide +kernel
theorem d_Mo_prove_37 : decode prog_12_method_27_code 37 = .ok (.if_icmp .gt 42, 3) := by decide +kernel
theorem d_Mo_prove_40 : decode prog_12_method_27_code 40 = .ok (.iload_n 2, 1) := by decide +kernel
theorem d_Mo_prove_41 : decode prog_12_method_27_code 41 = .ok (.ifCond .lt 38, 3) := by decide +kernel
theorem d_Mo_prove_44 : decode prog_12_method_27_code 44 = .ok (.iload_n 2, 1) := by decide +kernel
theorem d_Mo_prove_45 : decode prog_12_method_27_code 45 = .ok (.iconst 2, 1) := by decide +kernel
theorem d_Mo_prove_46 : decode prog_12_method_27_code 46 = .ok (.if_icmp .gt 33, 3) := by decide +kernel
theorem d_Mo_prove_49 : decode prog_12_method_27_code 49 = .ok (.iload 5, 2) := by decide +kernel
theorem d_Mo_prove_51 : decode prog_12_method_27_code 51 = .ok (.ifCond .eq 28, 3) := by decide +kernel
theorem d_Mo_prove_54 : decode prog_12_method_27_code 54 = .ok (.iload_n 2, 1) := by decide +kernel
theorem d_Mo_prove_55 : decode prog_12_method_27_code 55 = .ok (.ifCond .ne 10, 3) := by decide +kernel
theorem d_Mo_prove_58 : decode prog_12_method_27_code 58 = .ok (.iload_n 3, 1) := by decide +kernel
theorem d_Mo_prove_59 : decode prog_12_method_27_code 59 = .ok (.invokestatic 110, 3) := by decide +kernel
theorem d_Mo_prove_62 : decode prog_12_method_27_code 62 = .ok (.ifCond .eq 17, 3) := by decide +kernel
theorem d_Mo_prove_65 : decode prog_12_method_27_code 65 = .ok (.iload_n 2, 1) := by decide +kernel
theorem d_Mo_prove_66 : decode prog_12_method_27_code 66 = .ok (.ifCond .le 15, 3) := by decide +kernel
theorem d_Mo_prove_69 : decode prog_12_method_27_code 69 = .ok (.iload_n 3, 1) := by decide +kernel
theorem d_Mo_prove_70 : decode prog_12_method_27_code 70 = .ok (.ifCond .lt 9, 3) := by decide +kernel
theorem d_Mo_prove_73 : decode prog_12_method_27_code 73 = .ok (.iload_n 3, 1) := by decide +kernel
theorem d_Mo_prove_74 : decode prog_12_method_27_code 74 = .ok (.iload 4, 2) := by decide +kernel
theorem d_Mo_prove_76 : decode prog_12_method_27_code 76 = .ok (.if_icmp .le 5, 3) := by decide +kernel
theorem d_Mo_prove_79 : decode prog_12_method_27_code 79 = .ok (.iconst (-1), 1) := by decide +kernel
theorem d_Mo_prove_80 : decode prog_12_method_27_code 80 = .ok (.ireturn, 1) := by decide +kernel
theorem d_Mo_prove_81 : decode prog_12_method_27_code 81 = .ok (.aload_n 0, 1) := by decide +kernel
theorem d_Mo_prove_82 : decode prog_12_method_27_code 82 = .ok (.getfield 56, 3) := by decide +kernel
theorem d_Mo_prove_85 : decode prog_12_method_27_code 85 = .ok (.iload_n 1, 1) := by decide +kernel
theorem d_Mo_prove_86 : decode prog_12_method_27_code 86 = .ok (.iconst 0, 1) := by decide +kernel
theorem d_Mo_prove_87 : decode prog_12_method_27_code 87 = .ok (.iastore, 1) := by decide +kernel
theorem d_Mo_prove_88 : decode prog_12_method_27_code 88 = .ok (.iconst 0, 1) := by decide +kernel
theorem d_Mo_prove_89 : decode prog_12_method_27_code 89 = .ok (.istore 6, 2) := by decide +kernel
theorem d_Mo_prove_91 : decode prog_12_method_27_code 91 = .ok (.iload_n 2, 1) := by decide +kernel
theorem d_Mo_prove_92 : decode prog_12_method_27_code 92 = .ok (.ifCond .ne 16, 3) := by decide +kernel
theorem d_Mo_prove_95 : decode prog_12_method_27_code 95 = .ok (.aload_n 0, 1) := by decide +kernel
theorem d_Mo_prove_96 : decode prog_12_method_27_code 96 = .ok (.iload_n 1, 1) := by decide +kernel
theorem d_Mo_prove_97 : decode prog_12_method_27_code 97 = .ok (.iload_n 3, 1) := by decide +kernel
theorem d_Mo_prove_98 : decode prog_12_method_27_code 98 = .ok (.iload 4, 2) := by decide +kernel
