theorem d_Mo_prove_100 : decode prog_12_method_27_code 100 = .ok (.invokevirtual 184, 3) := by decide +kernel
theorem d_Mo_prove_103 : decode prog_12_method_27_code 103 = .ok (.istore 6, 2) := by decide +kernel
theorem d_Mo_prove_105 : decode prog_12_method_27_code 105 = .ok (.goto 99, 3) := by decide +kernel
theorem d_Mo_prove_108 : decode prog_12_method_27_code 108 = .ok (.aload_n 0, 1) := by decide +kernel
theorem d_Mo_prove_109 : decode prog_12_method_27_code 109 = .ok (.iload_n 3, 1) := by decide +kernel
theorem d_Mo_prove_110 : decode prog_12_method_27_code 110 = .ok (.iload 4, 2) := by decide +kernel
theorem d_Mo_prove_112 : decode prog_12_method_27_code 112 = .ok (.iload_n 2, 1) := by decide +kernel
theorem d_Mo_prove_113 : decode prog_12_method_27_code 113 = .ok (.iconst 2, 1) := by decide +kernel
theorem d_Mo_prove_114 : decode prog_12_method_27_code 114 = .ok (.if_icmp .ne 7, 3) := by decide +kernel
theorem d_Mo_prove_117 : decode prog_12_method_27_code 117 = .ok (.iconst 1, 1) := by decide +kernel
theorem d_Mo_prove_118 : decode prog_12_method_27_code 118 = .ok (.goto 4, 3) := by decide +kernel
theorem d_Mo_prove_121 : decode prog_12_method_27_code 121 = .ok (.iconst 0, 1) := by decide +kernel
theorem d_Mo_prove_122 : decode prog_12_method_27_code 122 = .ok (.invokevirtual 187, 3) := by decide +kernel
theorem d_Mo_prove_125 : decode prog_12_method_27_code 125 = .ok (.iload_n 2, 1) := by decide +kernel
theorem d_Mo_prove_126 : decode prog_12_method_27_code 126 = .ok (.iconst 2, 1) := by decide +kernel
theorem d_Mo_prove_127 : decode prog_12_method_27_code 127 = .ok (.if_icmp .ne 31, 3) := by decide +kernel
theorem d_Mo_prove_130 : decode prog_12_method_27_code 130 = .ok (.aload_n 0, 1) := by decide +kernel
theorem d_Mo_prove_131 : decode prog_12_method_27_code 131 = .ok (.getfield 168, 3) := by decide +kernel
theorem d_Mo_prove_134 : decode prog_12_method_27_code 134 = .ok (.ifCond .le 24, 3) := by decide +kernel
theorem d_Mo_prove_137 : decode prog_12_method_27_code 137 = .ok (.aload_n 0, 1) := by decide +kernel
theorem d_Mo_prove_138 : decode prog_12_method_27_code 138 = .ok (.aload_n 0, 1) := by decide +kernel
theorem d_Mo_prove_139 : decode prog_12_method_27_code 139 = .ok (.getfield 168, 3) := by decide +kernel
theorem d_Mo_prove_142 : decode prog_12_method_27_code 142 = .ok (.aload_n 0, 1) := by decide +kernel
theorem d_Mo_prove_143 : decode prog_12_method_27_code 143 = .ok (.getfield 171, 3) := by decide +kernel
theorem d_Mo_prove_146 : decode prog_12_method_27_code 146 = .ok (.invokevirtual 161, 3) := by decide +kernel
theorem d_Mo_prove_149 : decode prog_12_method_27_code 149 = .ok (.istore 7, 2) := by decide +kernel
theorem d_Mo_prove_151 : decode prog_12_method_27_code 151 = .ok (.aload_n 0, 1) := by decide +kernel
theorem d_Mo_prove_152 : decode prog_12_method_27_code 152 = .ok (.iload_n 1, 1) := by decide +kernel
theorem d_Mo_prove_153 : decode prog_12_method_27_code 153 = .ok (.iload 7, 2) := by decide +kernel
theorem d_Mo_prove_155 : decode prog_12_method_27_code 155 = .ok (.invokevirtual 177, 3) := by decide +kernel
theorem d_Mo_prove_158 : decode prog_12_method_27_code 158 = .ok (.aload_n 0, 1) := by decide +kernel
theorem d_Mo_prove_159 : decode prog_12_method_27_code 159 = .ok (.getfield 165, 3) := by decide +kernel
theorem d_Mo_prove_162 : decode prog_12_method_27_code 162 = .ok (.iconst 1, 1) := by decide +kernel
theorem d_Mo_prove_163 : decode prog_12_method_27_code 163 = .ok (.isub, 1) := by decide +kernel
theorem d_Mo_prove_164 : decode prog_12_method_27_code 164 = .ok (.istore 7, 2) := by decide +kernel
theorem d_Mo_prove_166 : decode prog_12_method_27_code 166 = .ok (.iload 7, 2) := by decide +kernel
theorem d_Mo_prove_168 : decode prog_12_method_27_code 168 = .ok (.ifCond .lt 36, 3) := by decide +kernel
theorem d_Mo_prove_171 : decode prog_12_method_27_code 171 = .ok (.aload_n 0, 1) := by decide +kernel
theorem d_Mo_prove_172 : decode prog_12_method_27_code 172 = .ok (.aload_n 0, 1) := by decide +kernel
theorem d_Mo_prove_173 : decode prog_12_method_27_code 173 = .ok (.getfield 68, 3) := by decide +kernel
theorem d_Mo_prove_176 : decode prog_12_method_27_code 176 = .ok (.iload 7, 2) := by decide +kernel
theorem d_Mo_prove_178 : decode prog_12_method_27_code 178 = .ok (.iaload, 1) := by decide +kernel
theorem d_Mo_prove_179 : decode prog_12_method_27_code 179 = .ok (.aload_n 0, 1) := by decide +kernel
theorem d_Mo_prove_180 : decode prog_12_method_27_code 180 = .ok (.getfield 71, 3) := by decide +kernel
theorem d_Mo_prove_183 : decode prog_12_method_27_code 183 = .ok (.iload 7, 2) := by decide +kernel
theorem d_Mo_prove_185 : decode prog_12_method_27_code 185 = .ok (.iaload, 1) := by decide +kernel
theorem d_Mo_prove_186 : decode prog_12_method_27_code 186 = .ok (.invokevirtual 161, 3) := by decide +kernel
theorem d_Mo_prove_189 : decode prog_12_method_27_code 189 = .ok (.istore 8, 2) := by decide +kernel
theorem d_Mo_prove_191 : decode prog_12_method_27_code 191 = .ok (.aload_n 0, 1) := by decide +kernel
theorem d_Mo_prove_192 : decode prog_12_method_27_code 192 = .ok (.iload_n 1, 1) := by decide +kernel
theorem d_Mo_prove_193 : decode prog_12_method_27_code 193 = .ok (.iload 8, 2) := by decide +kernel
theorem d_Mo_prove_195 : decode prog_12_method_27_code 195 = .ok (.invokevirtual 177, 3) := by decide +kernel
theorem d_Mo_prove_198 : decode prog_12_method_27_code 198 = .ok (.iinc 7 (-1), 3) := by decide +kernel
theorem d_Mo_prove_201 : decode prog_12_method_27_code 201 = .ok (.goto (-35), 3) := by decide +kernel
theorem d_Mo_prove_204 : decode prog_12_method_27_code 204 = .ok (.aload_n 0, 1) := by decide +kernel
theorem d_Mo_prove_205 : decode prog_12_method_27_code 205 = .ok (.aload_n 0, 1) := by decide +kernel
theorem d_Mo_prove_206 : decode prog_12_method_27_code 206 = .ok (.getfield 56, 3) := by decide +kernel
theorem d_Mo_prove_209 : decode prog_12_method_27_code 209 = .ok (.iload_n 1, 1) := by decide +kernel
theorem d_Mo_prove_210 : decode prog_12_method_27_code 210 = .ok (.iaload, 1) := by decide +kernel
theorem d_Mo_prove_211 : decode prog_12_method_27_code 211 = .ok (.putfield 191, 3) := by decide +kernel
theorem d_Mo_prove_214 : decode prog_12_method_27_code 214 = .ok (.iload_n 2, 1) := by decide +kernel
theorem d_Mo_prove_215 : decode prog_12_method_27_code 215 = .ok (.ifCond .ne 8, 3) := by decide +kernel
theorem d_Mo_prove_218 : decode prog_12_method_27_code 218 = .ok (.iload 6, 2) := by decide +kernel
theorem d_Mo_prove_220 : decode prog_12_method_27_code 220 = .ok (.goto 7, 3) := by decide +kernel
theorem d_Mo_prove_223 : decode prog_12_method_27_code 223 = .ok (.aload_n 0, 1) := by decide +kernel
theorem d_Mo_prove_224 : decode prog_12_method_27_code 224 = .ok (.getfield 191, 3) := by decide +kernel
theorem d_Mo_prove_227 : decode prog_12_method_27_code 227 = .ok (.ireturn, 1) := by decide +kernel
theorem d_Mo_word_0 : decode prog_12_method_28_code 0 = .ok (.iload_n 1, 1) := by decide +kernel
theorem d_Mo_word_1 : decode prog_12_method_28_code 1 = .ok (.ifCond .lt 23, 3) := by decide +kernel
theorem d_Mo_word_4 : decode prog_12_method_28_code 4 = .ok (.iload_n 1, 1) := by decide +kernel
theorem d_Mo_word_5 : decode prog_12_method_28_code 5 = .ok (.iconst 3, 1) := by decide +kernel
theorem d_Mo_word_6 : decode prog_12_method_28_code 6 = .ok (.if_icmp .gt 18, 3) := by decide +kernel
theorem d_Mo_word_9 : decode prog_12_method_28_code 9 = .ok (.iload_n 2, 1) := by decide +kernel
theorem d_Mo_word_10 : decode prog_12_method_28_code 10 = .ok (.iconst (-1), 1) := by decide +kernel
theorem d_Mo_word_11 : decode prog_12_method_28_code 11 = .ok (.if_icmp .lt 13, 3) := by decide +kernel
theorem d_Mo_word_14 : decode prog_12_method_28_code 14 = .ok (.iload_n 2, 1) := by decide +kernel
theorem d_Mo_word_15 : decode prog_12_method_28_code 15 = .ok (.aload_n 0, 1) := by decide +kernel
theorem d_Mo_word_16 : decode prog_12_method_28_code 16 = .ok (.getfield 56, 3) := by decide +kernel
theorem d_Mo_word_19 : decode prog_12_method_28_code 19 = .ok (.iload_n 1, 1) := by decide +kernel
theorem d_Mo_word_20 : decode prog_12_method_28_code 20 = .ok (.iaload, 1) := by decide +kernel
theorem d_Mo_word_21 : decode prog_12_method_28_code 21 = .ok (.if_icmp .lt 6, 3) := by decide +kernel
theorem d_Mo_word_24 : decode prog_12_method_28_code 24 = .ok (.bipush (-2), 2) := by decide +kernel
theorem d_Mo_word_26 : decode prog_12_method_28_code 26 = .ok (.ireturn, 1) := by decide +kernel
theorem d_Mo_word_27 : decode prog_12_method_28_code 27 = .ok (.iload_n 2, 1) := by decide +kernel
theorem d_Mo_word_28 : decode prog_12_method_28_code 28 = .ok (.ifCond .ge 12, 3) := by decide +kernel
theorem d_Mo_word_31 : decode prog_12_method_28_code 31 = .ok (.aload_n 0, 1) := by decide +kernel
theorem d_Mo_word_32 : decode prog_12_method_28_code 32 = .ok (.getfield 56, 3) := by decide +kernel
theorem d_Mo_word_35 : decode prog_12_method_28_code 35 = .ok (.iload_n 1, 1) := by decide +kernel
theorem d_Mo_word_36 : decode prog_12_method_28_code 36 = .ok (.iaload, 1) := by decide +kernel
theorem d_Mo_word_37 : decode prog_12_method_28_code 37 = .ok (.goto 14, 3) := by decide +kernel
theorem d_Mo_word_40 : decode prog_12_method_28_code 40 = .ok (.aload_n 0, 1) := by decide +kernel
theorem d_Mo_word_41 : decode prog_12_method_28_code 41 = .ok (.getfield 53, 3) := by decide +kernel
theorem d_Mo_word_44 : decode prog_12_method_28_code 44 = .ok (.bipush 30, 2) := by decide +kernel
theorem d_Mo_word_46 : decode prog_12_method_28_code 46 = .ok (.iload_n 1, 1) := by decide +kernel
theorem d_Mo_word_47 : decode prog_12_method_28_code 47 = .ok (.imul, 1) := by decide +kernel
theorem d_Mo_word_48 : decode prog_12_method_28_code 48 = .ok (.iload_n 2, 1) := by decide +kernel
theorem d_Mo_word_49 : decode prog_12_method_28_code 49 = .ok (.iadd, 1) := by decide +kernel
theorem d_Mo_word_50 : decode prog_12_method_28_code 50 = .ok (.iaload, 1) := by decide +kernel
theorem d_Mo_word_51 : decode prog_12_method_28_code 51 = .ok (.ireturn, 1) := by decide +kernel
theorem d_Mo_poke_0 : decode prog_12_method_29_code 0 = .ok (.iload_n 1, 1) := by decide +kernel
theorem d_Mo_poke_1 : decode prog_12_method_29_code 1 = .ok (.ifCond .lt 28, 3) := by decide +kernel
theorem d_Mo_poke_4 : decode prog_12_method_29_code 4 = .ok (.iload_n 1, 1) := by decide +kernel
theorem d_Mo_poke_5 : decode prog_12_method_29_code 5 = .ok (.iconst 3, 1) := by decide +kernel
theorem d_Mo_poke_6 : decode prog_12_method_29_code 6 = .ok (.if_icmp .gt 23, 3) := by decide +kernel
theorem d_Mo_poke_9 : decode prog_12_method_29_code 9 = .ok (.iload_n 2, 1) := by decide +kernel
theorem d_Mo_poke_10 : decode prog_12_method_29_code 10 = .ok (.ifCond .lt 19, 3) := by decide +kernel
theorem d_Mo_poke_13 : decode prog_12_method_29_code 13 = .ok (.iload_n 2, 1) := by decide +kernel
theorem d_Mo_poke_14 : decode prog_12_method_29_code 14 = .ok (.aload_n 0, 1) := by decide +kernel
theorem d_Mo_poke_15 : decode prog_12_method_29_code 15 = .ok (.getfield 56, 3) := by decide +kernel
theorem d_Mo_poke_18 : decode prog_12_method_29_code 18 = .ok (.iload_n 1, 1) := by decide +kernel
theorem d_Mo_poke_19 : decode prog_12_method_29_code 19 = .ok (.iaload, 1) := by decide +kernel
theorem d_Mo_poke_20 : decode prog_12_method_29_code 20 = .ok (.if_icmp .gt 9, 3) := by decide +kernel
theorem d_Mo_poke_23 : decode prog_12_method_29_code 23 = .ok (.iload_n 2, 1) := by decide +kernel
theorem d_Mo_poke_24 : decode prog_12_method_29_code 24 = .ok (.bipush 29, 2) := by decide +kernel
theorem d_Mo_poke_26 : decode prog_12_method_29_code 26 = .ok (.if_icmp .le 5, 3) := by decide +kernel
theorem d_Mo_poke_29 : decode prog_12_method_29_code 29 = .ok (.iconst 0, 1) := by decide +kernel
theorem d_Mo_poke_30 : decode prog_12_method_29_code 30 = .ok (.ireturn, 1) := by decide +kernel
theorem d_Mo_poke_31 : decode prog_12_method_29_code 31 = .ok (.aload_n 0, 1) := by decide +kernel
theorem d_Mo_poke_32 : decode prog_12_method_29_code 32 = .ok (.getfield 53, 3) := by decide +kernel
theorem d_Mo_poke_35 : decode prog_12_method_29_code 35 = .ok (.bipush 30, 2) := by decide +kernel
theorem d_Mo_poke_37 : decode prog_12_method_29_code 37 = .ok (.iload_n 1, 1) := by decide +kernel
theorem d_Mo_poke_38 : decode prog_12_method_29_code 38 = .ok (.imul, 1) := by decide +kernel
theorem d_Mo_poke_39 : decode prog_12_method_29_code 39 = .ok (.iload_n 2, 1) := by decide +kernel
theorem d_Mo_poke_40 : decode prog_12_method_29_code 40 = .ok (.iadd, 1) := by decide +kernel
theorem d_Mo_poke_41 : decode prog_12_method_29_code 41 = .ok (.iload_n 3, 1) := by decide +kernel
theorem d_Mo_poke_42 : decode prog_12_method_29_code 42 = .ok (.iastore, 1) := by decide +kernel
theorem d_Mo_poke_43 : decode prog_12_method_29_code 43 = .ok (.aload_n 0, 1) := by decide +kernel
theorem d_Mo_poke_44 : decode prog_12_method_29_code 44 = .ok (.getfield 56, 3) := by decide +kernel
theorem d_Mo_poke_47 : decode prog_12_method_29_code 47 = .ok (.iload_n 1, 1) := by decide +kernel
theorem d_Mo_poke_48 : decode prog_12_method_29_code 48 = .ok (.iload_n 2, 1) := by decide +kernel
theorem d_Mo_poke_49 : decode prog_12_method_29_code 49 = .ok (.aload_n 0, 1) := by decide +kernel
theorem d_Mo_poke_50 : decode prog_12_method_29_code 50 = .ok (.getfield 56, 3) := by decide +kernel
theorem d_Mo_poke_53 : decode prog_12_method_29_code 53 = .ok (.iload_n 1, 1) := by decide +kernel
theorem d_Mo_poke_54 : decode prog_12_method_29_code 54 = .ok (.iaload, 1) := by decide +kernel
theorem d_Mo_poke_55 : decode prog_12_method_29_code 55 = .ok (.if_icmp .ne 9, 3) := by decide +kernel
theorem d_Mo_poke_58 : decode prog_12_method_29_code 58 = .ok (.iload_n 2, 1) := by decide +kernel
theorem d_Mo_poke_59 : decode prog_12_method_29_code 59 = .ok (.iconst 1, 1) := by decide +kernel
theorem d_Mo_poke_60 : decode prog_12_method_29_code 60 = .ok (.iadd, 1) := by decide +kernel
theorem d_Mo_poke_61 : decode prog_12_method_29_code 61 = .ok (.goto 9, 3) := by decide +kernel
theorem d_Mo_poke_64 : decode prog_12_method_29_code 64 = .ok (.aload_n 0, 1) := by decide +kernel
theorem d_Mo_poke_65 : decode prog_12_method_29_code 65 = .ok (.getfield 56, 3) := by decide +kernel
theorem d_Mo_poke_68 : decode prog_12_method_29_code 68 = .ok (.iload_n 1, 1) := by decide +kernel
theorem d_Mo_poke_69 : decode prog_12_method_29_code 69 = .ok (.iaload, 1) := by decide +kernel
theorem d_Mo_poke_70 : decode prog_12_method_29_code 70 = .ok (.iastore, 1) := by decide +kernel
theorem d_Mo_poke_71 : decode prog_12_method_29_code 71 = .ok (.iconst 1, 1) := by decide +kernel
theorem d_Mo_poke_72 : decode prog_12_method_29_code 72 = .ok (.ireturn, 1) := by decide +kernel
theorem d_Mo_trim_0 : decode prog_12_method_30_code 0 = .ok (.iload_n 1, 1) := by decide +kernel
theorem d_Mo_trim_1 : decode prog_12_method_30_code 1 = .ok (.ifCond .lt 22, 3) := by decide +kernel
theorem d_Mo_trim_4 : decode prog_12_method_30_code 4 = .ok (.iload_n 1, 1) := by decide +kernel
theorem d_Mo_trim_5 : decode prog_12_method_30_code 5 = .ok (.iconst 3, 1) := by decide +kernel
theorem d_Mo_trim_6 : decode prog_12_method_30_code 6 = .ok (.if_icmp .gt 17, 3) := by decide +kernel
theorem d_Mo_trim_9 : decode prog_12_method_30_code 9 = .ok (.iload_n 2, 1) := by decide +kernel
theorem d_Mo_trim_10 : decode prog_12_method_30_code 10 = .ok (.ifCond .lt 13, 3) := by decide +kernel
theorem d_Mo_trim_13 : decode prog_12_method_30_code 13 = .ok (.iload_n 2, 1) := by decide +kernel
theorem d_Mo_trim_14 : decode prog_12_method_30_code 14 = .ok (.aload_n 0, 1) := by decide +kernel
theorem d_Mo_trim_15 : decode prog_12_method_30_code 15 = .ok (.getfield 56, 3) := by decide +kernel
theorem d_Mo_trim_18 : decode prog_12_method_30_code 18 = .ok (.iload_n 1, 1) := by decide +kernel
theorem d_Mo_trim_19 : decode prog_12_method_30_code 19 = .ok (.iaload, 1) := by decide +kernel
theorem d_Mo_trim_20 : decode prog_12_method_30_code 20 = .ok (.if_icmp .le 5, 3) := by decide +kernel
theorem d_Mo_trim_23 : decode prog_12_method_30_code 23 = .ok (.iconst 0, 1) := by decide +kernel
theorem d_Mo_trim_24 : decode prog_12_method_30_code 24 = .ok (.ireturn, 1) := by decide +kernel
theorem d_Mo_trim_25 : decode prog_12_method_30_code 25 = .ok (.aload_n 0, 1) := by decide +kernel
theorem d_Mo_trim_26 : decode prog_12_method_30_code 26 = .ok (.getfield 56, 3) := by decide +kernel
theorem d_Mo_trim_29 : decode prog_12_method_30_code 29 = .ok (.iload_n 1, 1) := by decide +kernel
theorem d_Mo_trim_30 : decode prog_12_method_30_code 30 = .ok (.iload_n 2, 1) := by decide +kernel
theorem d_Mo_trim_31 : decode prog_12_method_30_code 31 = .ok (.iastore, 1) := by decide +kernel
theorem d_Mo_trim_32 : decode prog_12_method_30_code 32 = .ok (.iconst 1, 1) := by decide +kernel
theorem d_Mo_trim_33 : decode prog_12_method_30_code 33 = .ok (.ireturn, 1) := by decide +kernel
theorem d_Mo_formed_0 : decode prog_12_method_31_code 0 = .ok (.iload_n 1, 1) := by decide +kernel
theorem d_Mo_formed_1 : decode prog_12_method_31_code 1 = .ok (.ifCond .lt 25, 3) := by decide +kernel
theorem d_Mo_formed_4 : decode prog_12_method_31_code 4 = .ok (.iload_n 1, 1) := by decide +kernel
theorem d_Mo_formed_5 : decode prog_12_method_31_code 5 = .ok (.iconst 3, 1) := by decide +kernel
theorem d_Mo_formed_6 : decode prog_12_method_31_code 6 = .ok (.if_icmp .gt 20, 3) := by decide +kernel
theorem d_Mo_formed_9 : decode prog_12_method_31_code 9 = .ok (.iload_n 2, 1) := by decide +kernel
theorem d_Mo_formed_10 : decode prog_12_method_31_code 10 = .ok (.invokestatic 110, 3) := by decide +kernel
theorem d_Mo_formed_13 : decode prog_12_method_31_code 13 = .ok (.ifCond .eq 13, 3) := by decide +kernel
theorem d_Mo_formed_16 : decode prog_12_method_31_code 16 = .ok (.aload_n 0, 1) := by decide +kernel
theorem d_Mo_formed_17 : decode prog_12_method_31_code 17 = .ok (.getfield 56, 3) := by decide +kernel
theorem d_Mo_formed_20 : decode prog_12_method_31_code 20 = .ok (.iload_n 1, 1) := by decide +kernel
theorem d_Mo_formed_21 : decode prog_12_method_31_code 21 = .ok (.iaload, 1) := by decide +kernel
theorem d_Mo_formed_22 : decode prog_12_method_31_code 22 = .ok (.iconst 3, 1) := by decide +kernel
theorem d_Mo_formed_23 : decode prog_12_method_31_code 23 = .ok (.if_icmp .ge 5, 3) := by decide +kernel
theorem d_Mo_formed_26 : decode prog_12_method_31_code 26 = .ok (.iconst 0, 1) := by decide +kernel
theorem d_Mo_formed_27 : decode prog_12_method_31_code 27 = .ok (.ireturn, 1) := by decide +kernel
theorem d_Mo_formed_28 : decode prog_12_method_31_code 28 = .ok (.aload_n 0, 1) := by decide +kernel
theorem d_Mo_formed_29 : decode prog_12_method_31_code 29 = .ok (.getfield 53, 3) := by decide +kernel
theorem d_Mo_formed_32 : decode prog_12_method_31_code 32 = .ok (.bipush 30, 2) := by decide +kernel
theorem d_Mo_formed_34 : decode prog_12_method_31_code 34 = .ok (.iload_n 1, 1) := by decide +kernel
theorem d_Mo_formed_35 : decode prog_12_method_31_code 35 = .ok (.imul, 1) := by decide +kernel
theorem d_Mo_formed_36 : decode prog_12_method_31_code 36 = .ok (.iaload, 1) := by decide +kernel
theorem d_Mo_formed_37 : decode prog_12_method_31_code 37 = .ok (.istore_n 3, 1) := by decide +kernel
theorem d_Mo_formed_38 : decode prog_12_method_31_code 38 = .ok (.aload_n 0, 1) := by decide +kernel
theorem d_Mo_formed_39 : decode prog_12_method_31_code 39 = .ok (.getfield 53, 3) := by decide +kernel
theorem d_Mo_formed_42 : decode prog_12_method_31_code 42 = .ok (.bipush 30, 2) := by decide +kernel
theorem d_Mo_formed_44 : decode prog_12_method_31_code 44 = .ok (.iload_n 1, 1) := by decide +kernel
theorem d_Mo_formed_45 : decode prog_12_method_31_code 45 = .ok (.imul, 1) := by decide +kernel
theorem d_Mo_formed_46 : decode prog_12_method_31_code 46 = .ok (.iconst 1, 1) := by decide +kernel
theorem d_Mo_formed_47 : decode prog_12_method_31_code 47 = .ok (.iadd, 1) := by decide +kernel
theorem d_Mo_formed_48 : decode prog_12_method_31_code 48 = .ok (.iaload, 1) := by decide +kernel
theorem d_Mo_formed_49 : decode prog_12_method_31_code 49 = .ok (.istore 4, 2) := by decide +kernel
theorem d_Mo_formed_51 : decode prog_12_method_31_code 51 = .ok (.aload_n 0, 1) := by decide +kernel
theorem d_Mo_formed_52 : decode prog_12_method_31_code 52 = .ok (.getfield 53, 3) := by decide +kernel
theorem d_Mo_formed_55 : decode prog_12_method_31_code 55 = .ok (.bipush 30, 2) := by decide +kernel
theorem d_Mo_formed_57 : decode prog_12_method_31_code 57 = .ok (.iload_n 1, 1) := by decide +kernel
theorem d_Mo_formed_58 : decode prog_12_method_31_code 58 = .ok (.imul, 1) := by decide +kernel
theorem d_Mo_formed_59 : decode prog_12_method_31_code 59 = .ok (.iconst 2, 1) := by decide +kernel
theorem d_Mo_formed_60 : decode prog_12_method_31_code 60 = .ok (.iadd, 1) := by decide +kernel
theorem d_Mo_formed_61 : decode prog_12_method_31_code 61 = .ok (.iaload, 1) := by decide +kernel
theorem d_Mo_formed_62 : decode prog_12_method_31_code 62 = .ok (.istore 5, 2) := by decide +kernel
theorem d_Mo_formed_64 : decode prog_12_method_31_code 64 = .ok (.iload_n 3, 1) := by decide +kernel
theorem d_Mo_formed_65 : decode prog_12_method_31_code 65 = .ok (.ifCond .lt 21, 3) := by decide +kernel
theorem d_Mo_formed_68 : decode prog_12_method_31_code 68 = .ok (.iload_n 3, 1) := by decide +kernel
theorem d_Mo_formed_69 : decode prog_12_method_31_code 69 = .ok (.bipush 6, 2) := by decide +kernel
theorem d_Mo_formed_71 : decode prog_12_method_31_code 71 = .ok (.if_icmp .gt 15, 3) := by decide +kernel
theorem d_Mo_formed_74 : decode prog_12_method_31_code 74 = .ok (.aload_n 0, 1) := by decide +kernel
theorem d_Mo_formed_75 : decode prog_12_method_31_code 75 = .ok (.getfield 56, 3) := by decide +kernel
theorem d_Mo_formed_78 : decode prog_12_method_31_code 78 = .ok (.iload_n 1, 1) := by decide +kernel
theorem d_Mo_formed_79 : decode prog_12_method_31_code 79 = .ok (.iaload, 1) := by decide +kernel
theorem d_Mo_formed_80 : decode prog_12_method_31_code 80 = .ok (.iconst 3, 1) := by decide +kernel
theorem d_Mo_formed_81 : decode prog_12_method_31_code 81 = .ok (.iload_n 3, 1) := by decide +kernel
theorem d_Mo_formed_82 : decode prog_12_method_31_code 82 = .ok (.iadd, 1) := by decide +kernel
theorem d_Mo_formed_83 : decode prog_12_method_31_code 83 = .ok (.if_icmp .eq 5, 3) := by decide +kernel
theorem d_Mo_formed_86 : decode prog_12_method_31_code 86 = .ok (.iconst 0, 1) := by decide +kernel
theorem d_Mo_formed_87 : decode prog_12_method_31_code 87 = .ok (.ireturn, 1) := by decide +kernel
theorem d_Mo_formed_88 : decode prog_12_method_31_code 88 = .ok (.iload 4, 2) := by decide +kernel
theorem d_Mo_formed_90 : decode prog_12_method_31_code 90 = .ok (.iconst (-1), 1) := by decide +kernel
theorem d_Mo_formed_91 : decode prog_12_method_31_code 91 = .ok (.if_icmp .ne 14, 3) := by decide +kernel
theorem d_Mo_formed_94 : decode prog_12_method_31_code 94 = .ok (.iload 5, 2) := by decide +kernel
theorem d_Mo_formed_96 : decode prog_12_method_31_code 96 = .ok (.ifCond .ne 7, 3) := by decide +kernel
theorem d_Mo_formed_99 : decode prog_12_method_31_code 99 = .ok (.iconst 1, 1) := by decide +kernel
theorem d_Mo_formed_100 : decode prog_12_method_31_code 100 = .ok (.goto 4, 3) := by decide +kernel
theorem d_Mo_formed_103 : decode prog_12_method_31_code 103 = .ok (.iconst 0, 1) := by decide +kernel
theorem d_Mo_formed_104 : decode prog_12_method_31_code 104 = .ok (.ireturn, 1) := by decide +kernel
theorem d_Mo_formed_105 : decode prog_12_method_31_code 105 = .ok (.iload 4, 2) := by decide +kernel
theorem d_Mo_formed_107 : decode prog_12_method_31_code 107 = .ok (.invokestatic 110, 3) := by decide +kernel
theorem d_Mo_formed_110 : decode prog_12_method_31_code 110 = .ok (.ifCond .eq 15, 3) := by decide +kernel
theorem d_Mo_formed_113 : decode prog_12_method_31_code 113 = .ok (.iload 5, 2) := by decide +kernel
theorem d_Mo_formed_115 : decode prog_12_method_31_code 115 = .ok (.invokestatic 114, 3) := by decide +kernel
theorem d_Mo_formed_118 : decode prog_12_method_31_code 118 = .ok (.ifCond .eq 7, 3) := by decide +kernel
theorem d_Mo_formed_121 : decode prog_12_method_31_code 121 = .ok (.iconst 1, 1) := by decide +kernel
theorem d_Mo_formed_122 : decode prog_12_method_31_code 122 = .ok (.goto 4, 3) := by decide +kernel
theorem d_Mo_formed_125 : decode prog_12_method_31_code 125 = .ok (.iconst 0, 1) := by decide +kernel
theorem d_Mo_formed_126 : decode prog_12_method_31_code 126 = .ok (.istore 6, 2) := by decide +kernel
theorem d_Mo_formed_128 : decode prog_12_method_31_code 128 = .ok (.iconst 0, 1) := by decide +kernel
theorem d_Mo_formed_129 : decode prog_12_method_31_code 129 = .ok (.istore 7, 2) := by decide +kernel
theorem d_Mo_formed_131 : decode prog_12_method_31_code 131 = .ok (.iload 7, 2) := by decide +kernel
theorem d_Mo_formed_133 : decode prog_12_method_31_code 133 = .ok (.iload_n 3, 1) := by decide +kernel
theorem d_Mo_formed_134 : decode prog_12_method_31_code 134 = .ok (.if_icmp .ge 37, 3) := by decide +kernel
theorem d_Mo_formed_137 : decode prog_12_method_31_code 137 = .ok (.iload 6, 2) := by decide +kernel
theorem d_Mo_formed_139 : decode prog_12_method_31_code 139 = .ok (.ifCond .eq 32, 3) := by decide +kernel
theorem d_Mo_formed_142 : decode prog_12_method_31_code 142 = .ok (.iload 4, 2) := by decide +kernel
theorem d_Mo_formed_144 : decode prog_12_method_31_code 144 = .ok (.iload 7, 2) := by decide +kernel
theorem d_Mo_formed_146 : decode prog_12_method_31_code 146 = .ok (.invokestatic 174, 3) := by decide +kernel
theorem d_Mo_formed_149 : decode prog_12_method_31_code 149 = .ok (.iload_n 2, 1) := by decide +kernel
theorem d_Mo_formed_150 : decode prog_12_method_31_code 150 = .ok (.iload 7, 2) := by decide +kernel
theorem d_Mo_formed_152 : decode prog_12_method_31_code 152 = .ok (.invokestatic 174, 3) := by decide +kernel
theorem d_Mo_formed_155 : decode prog_12_method_31_code 155 = .ok (.if_icmp .ne 7, 3) := by decide +kernel
theorem d_Mo_formed_158 : decode prog_12_method_31_code 158 = .ok (.iconst 1, 1) := by decide +kernel
theorem d_Mo_formed_159 : decode prog_12_method_31_code 159 = .ok (.goto 4, 3) := by decide +kernel
theorem d_Mo_formed_162 : decode prog_12_method_31_code 162 = .ok (.iconst 0, 1) := by decide +kernel
theorem d_Mo_formed_163 : decode prog_12_method_31_code 163 = .ok (.istore 6, 2) := by decide +kernel
theorem d_Mo_formed_165 : decode prog_12_method_31_code 165 = .ok (.iinc 7 1, 3) := by decide +kernel
theorem d_Mo_formed_168 : decode prog_12_method_31_code 168 = .ok (.goto (-37), 3) := by decide +kernel
theorem d_Mo_formed_171 : decode prog_12_method_31_code 171 = .ok (.iload 6, 2) := by decide +kernel
theorem d_Mo_formed_173 : decode prog_12_method_31_code 173 = .ok (.ireturn, 1) := by decide +kernel
theorem d_Mo_accepted_0 : decode prog_12_method_32_code 0 = .ok (.aload_n 0, 1) := by decide +kernel
theorem d_Mo_accepted_1 : decode prog_12_method_32_code 1 = .ok (.iload_n 1, 1) := by decide +kernel
theorem d_Mo_accepted_2 : decode prog_12_method_32_code 2 = .ok (.iload_n 2, 1) := by decide +kernel
theorem d_Mo_accepted_3 : decode prog_12_method_32_code 3 = .ok (.invokevirtual 194, 3) := by decide +kernel
theorem d_Mo_accepted_6 : decode prog_12_method_32_code 6 = .ok (.ifCond .ne 5, 3) := by decide +kernel
theorem d_Mo_accepted_9 : decode prog_12_method_32_code 9 = .ok (.iconst 0, 1) := by decide +kernel
theorem d_Mo_accepted_10 : decode prog_12_method_32_code 10 = .ok (.ireturn, 1) := by decide +kernel
theorem d_Mo_accepted_11 : decode prog_12_method_32_code 11 = .ok (.aload_n 0, 1) := by decide +kernel
theorem d_Mo_accepted_12 : decode prog_12_method_32_code 12 = .ok (.getfield 53, 3) := by decide +kernel
theorem d_Mo_accepted_15 : decode prog_12_method_32_code 15 = .ok (.bipush 30, 2) := by decide +kernel
theorem d_Mo_accepted_17 : decode prog_12_method_32_code 17 = .ok (.iload_n 1, 1) := by decide +kernel
theorem d_Mo_accepted_18 : decode prog_12_method_32_code 18 = .ok (.imul, 1) := by decide +kernel
theorem d_Mo_accepted_19 : decode prog_12_method_32_code 19 = .ok (.iaload, 1) := by decide +kernel
theorem d_Mo_accepted_20 : decode prog_12_method_32_code 20 = .ok (.istore 5, 2) := by decide +kernel
theorem d_Mo_accepted_22 : decode prog_12_method_32_code 22 = .ok (.aload_n 0, 1) := by decide +kernel
theorem d_Mo_accepted_23 : decode prog_12_method_32_code 23 = .ok (.getfield 53, 3) := by decide +kernel
theorem d_Mo_accepted_26 : decode prog_12_method_32_code 26 = .ok (.bipush 30, 2) := by decide +kernel
theorem d_Mo_accepted_28 : decode prog_12_method_32_code 28 = .ok (.iload_n 1, 1) := by decide +kernel
theorem d_Mo_accepted_29 : decode prog_12_method_32_code 29 = .ok (.imul, 1) := by decide +kernel
theorem d_Mo_accepted_30 : decode prog_12_method_32_code 30 = .ok (.iconst 1, 1) := by decide +kernel
theorem d_Mo_accepted_31 : decode prog_12_method_32_code 31 = .ok (.iadd, 1) := by decide +kernel
theorem d_Mo_accepted_32 : decode prog_12_method_32_code 32 = .ok (.iaload, 1) := by decide +kernel
theorem d_Mo_accepted_33 : decode prog_12_method_32_code 33 = .ok (.istore 6, 2) := by decide +kernel
theorem d_Mo_accepted_35 : decode prog_12_method_32_code 35 = .ok (.aload_n 0, 1) := by decide +kernel
theorem d_Mo_accepted_36 : decode prog_12_method_32_code 36 = .ok (.getfield 74, 3) := by decide +kernel
theorem d_Mo_accepted_39 : decode prog_12_method_32_code 39 = .ok (.iload 4, 2) := by decide +kernel
theorem d_Mo_accepted_41 : decode prog_12_method_32_code 41 = .ok (.iload 5, 2) := by decide +kernel
theorem d_Mo_accepted_43 : decode prog_12_method_32_code 43 = .ok (.iadd, 1) := by decide +kernel
theorem d_Mo_accepted_44 : decode prog_12_method_32_code 44 = .ok (.iload 6, 2) := by decide +kernel
theorem d_Mo_accepted_46 : decode prog_12_method_32_code 46 = .ok (.ifCond .ge 7, 3) := by decide +kernel
theorem d_Mo_accepted_49 : decode prog_12_method_32_code 49 = .ok (.iconst 0, 1) := by decide +kernel
theorem d_Mo_accepted_50 : decode prog_12_method_32_code 50 = .ok (.goto 4, 3) := by decide +kernel
theorem d_Mo_accepted_53 : decode prog_12_method_32_code 53 = .ok (.iconst 1, 1) := by decide +kernel
theorem d_Mo_accepted_54 : decode prog_12_method_32_code 54 = .ok (.iastore, 1) := by decide +kernel
theorem d_Mo_accepted_55 : decode prog_12_method_32_code 55 = .ok (.aload_n 0, 1) := by decide +kernel
theorem d_Mo_accepted_56 : decode prog_12_method_32_code 56 = .ok (.getfield 77, 3) := by decide +kernel
theorem d_Mo_accepted_59 : decode prog_12_method_32_code 59 = .ok (.iload 4, 2) := by decide +kernel
theorem d_Mo_accepted_61 : decode prog_12_method_32_code 61 = .ok (.iload 5, 2) := by decide +kernel
theorem d_Mo_accepted_63 : decode prog_12_method_32_code 63 = .ok (.iadd, 1) := by decide +kernel
theorem d_Mo_accepted_64 : decode prog_12_method_32_code 64 = .ok (.iload 6, 2) := by decide +kernel
theorem d_Mo_accepted_66 : decode prog_12_method_32_code 66 = .ok (.iastore, 1) := by decide +kernel
theorem d_Mo_accepted_67 : decode prog_12_method_32_code 67 = .ok (.aload_n 0, 1) := by decide +kernel
theorem d_Mo_accepted_68 : decode prog_12_method_32_code 68 = .ok (.getfield 80, 3) := by decide +kernel
theorem d_Mo_accepted_71 : decode prog_12_method_32_code 71 = .ok (.iload 4, 2) := by decide +kernel
theorem d_Mo_accepted_73 : decode prog_12_method_32_code 73 = .ok (.iload 5, 2) := by decide +kernel
theorem d_Mo_accepted_75 : decode prog_12_method_32_code 75 = .ok (.iadd, 1) := by decide +kernel
theorem d_Mo_accepted_76 : decode prog_12_method_32_code 76 = .ok (.aload_n 0, 1) := by decide +kernel
theorem d_Mo_accepted_77 : decode prog_12_method_32_code 77 = .ok (.getfield 53, 3) := by decide +kernel
theorem d_Mo_accepted_80 : decode prog_12_method_32_code 80 = .ok (.bipush 30, 2) := by decide +kernel
theorem d_Mo_accepted_82 : decode prog_12_method_32_code 82 = .ok (.iload_n 1, 1) := by decide +kernel
theorem d_Mo_accepted_83 : decode prog_12_method_32_code 83 = .ok (.imul, 1) := by decide +kernel
theorem d_Mo_accepted_84 : decode prog_12_method_32_code 84 = .ok (.iconst 2, 1) := by decide +kernel
theorem d_Mo_accepted_85 : decode prog_12_method_32_code 85 = .ok (.iadd, 1) := by decide +kernel
theorem d_Mo_accepted_86 : decode prog_12_method_32_code 86 = .ok (.iaload, 1) := by decide +kernel
theorem d_Mo_accepted_87 : decode prog_12_method_32_code 87 = .ok (.iastore, 1) := by decide +kernel
theorem d_Mo_accepted_88 : decode prog_12_method_32_code 88 = .ok (.iload 6, 2) := by decide +kernel
theorem d_Mo_accepted_90 : decode prog_12_method_32_code 90 = .ok (.ifCond .ge 7, 3) := by decide +kernel
theorem d_Mo_accepted_93 : decode prog_12_method_32_code 93 = .ok (.iconst 0, 1) := by decide +kernel
theorem d_Mo_accepted_94 : decode prog_12_method_32_code 94 = .ok (.goto 21, 3) := by decide +kernel
theorem d_Mo_accepted_97 : decode prog_12_method_32_code 97 = .ok (.aload_n 0, 1) := by decide +kernel
theorem d_Mo_accepted_98 : decode prog_12_method_32_code 98 = .ok (.iconst 1, 1) := by decide +kernel
theorem d_Mo_accepted_99 : decode prog_12_method_32_code 99 = .ok (.iload 6, 2) := by decide +kernel
theorem d_Mo_accepted_101 : decode prog_12_method_32_code 101 = .ok (.aload_n 0, 1) := by decide +kernel
theorem d_Mo_accepted_102 : decode prog_12_method_32_code 102 = .ok (.getfield 53, 3) := by decide +kernel
theorem d_Mo_accepted_105 : decode prog_12_method_32_code 105 = .ok (.bipush 30, 2) := by decide +kernel
theorem d_Mo_accepted_107 : decode prog_12_method_32_code 107 = .ok (.iload_n 1, 1) := by decide +kernel
theorem d_Mo_accepted_108 : decode prog_12_method_32_code 108 = .ok (.imul, 1) := by decide +kernel
theorem d_Mo_accepted_109 : decode prog_12_method_32_code 109 = .ok (.iconst 2, 1) := by decide +kernel
theorem d_Mo_accepted_110 : decode prog_12_method_32_code 110 = .ok (.iadd, 1) := by decide +kernel
theorem d_Mo_accepted_111 : decode prog_12_method_32_code 111 = .ok (.iaload, 1) := by decide +kernel
theorem d_Mo_accepted_112 : decode prog_12_method_32_code 112 = .ok (.invokevirtual 102, 3) := by decide +kernel
theorem d_Mo_accepted_115 : decode prog_12_method_32_code 115 = .ok (.istore 7, 2) := by decide +kernel
theorem d_Mo_accepted_117 : decode prog_12_method_32_code 117 = .ok (.iload 5, 2) := by decide +kernel
theorem d_Mo_accepted_119 : decode prog_12_method_32_code 119 = .ok (.iconst 1, 1) := by decide +kernel
theorem d_Mo_accepted_120 : decode prog_12_method_32_code 120 = .ok (.isub, 1) := by decide +kernel
theorem d_Mo_accepted_121 : decode prog_12_method_32_code 121 = .ok (.istore 8, 2) := by decide +kernel
theorem d_Mo_accepted_123 : decode prog_12_method_32_code 123 = .ok (.iload 8, 2) := by decide +kernel
theorem d_Mo_accepted_125 : decode prog_12_method_32_code 125 = .ok (.ifCond .lt 115, 3) := by decide +kernel
theorem d_Mo_accepted_128 : decode prog_12_method_32_code 128 = .ok (.aload_n 0, 1) := by decide +kernel
theorem d_Mo_accepted_129 : decode prog_12_method_32_code 129 = .ok (.getfield 53, 3) := by decide +kernel
theorem d_Mo_accepted_132 : decode prog_12_method_32_code 132 = .ok (.bipush 30, 2) := by decide +kernel
theorem d_Mo_accepted_134 : decode prog_12_method_32_code 134 = .ok (.iload_n 1, 1) := by decide +kernel
theorem d_Mo_accepted_135 : decode prog_12_method_32_code 135 = .ok (.imul, 1) := by decide +kernel
theorem d_Mo_accepted_136 : decode prog_12_method_32_code 136 = .ok (.iconst 3, 1) := by decide +kernel
theorem d_Mo_accepted_137 : decode prog_12_method_32_code 137 = .ok (.iadd, 1) := by decide +kernel
theorem d_Mo_accepted_138 : decode prog_12_method_32_code 138 = .ok (.iload 8, 2) := by decide +kernel
theorem d_Mo_accepted_140 : decode prog_12_method_32_code 140 = .ok (.iadd, 1) := by decide +kernel
theorem d_Mo_accepted_141 : decode prog_12_method_32_code 141 = .ok (.iaload, 1) := by decide +kernel
theorem d_Mo_accepted_142 : decode prog_12_method_32_code 142 = .ok (.istore 9, 2) := by decide +kernel
theorem d_Mo_accepted_144 : decode prog_12_method_32_code 144 = .ok (.aload_n 0, 1) := by decide +kernel
theorem d_Mo_accepted_145 : decode prog_12_method_32_code 145 = .ok (.getfield 74, 3) := by decide +kernel
theorem d_Mo_accepted_148 : decode prog_12_method_32_code 148 = .ok (.iload 4, 2) := by decide +kernel
theorem d_Mo_accepted_150 : decode prog_12_method_32_code 150 = .ok (.iload 8, 2) := by decide +kernel
theorem d_Mo_accepted_152 : decode prog_12_method_32_code 152 = .ok (.iadd, 1) := by decide +kernel
theorem d_Mo_accepted_153 : decode prog_12_method_32_code 153 = .ok (.iconst 2, 1) := by decide +kernel
theorem d_Mo_accepted_154 : decode prog_12_method_32_code 154 = .ok (.iastore, 1) := by decide +kernel
theorem d_Mo_accepted_155 : decode prog_12_method_32_code 155 = .ok (.aload_n 0, 1) := by decide +kernel
theorem d_Mo_accepted_156 : decode prog_12_method_32_code 156 = .ok (.getfield 77, 3) := by decide +kernel
theorem d_Mo_accepted_159 : decode prog_12_method_32_code 159 = .ok (.iload 4, 2) := by decide +kernel
theorem d_Mo_accepted_161 : decode prog_12_method_32_code 161 = .ok (.iload 8, 2) := by decide +kernel
theorem d_Mo_accepted_163 : decode prog_12_method_32_code 163 = .ok (.iadd, 1) := by decide +kernel
theorem d_Mo_accepted_164 : decode prog_12_method_32_code 164 = .ok (.iload_n 2, 1) := by decide +kernel
theorem d_Mo_accepted_165 : decode prog_12_method_32_code 165 = .ok (.iload 8, 2) := by decide +kernel
theorem d_Mo_accepted_167 : decode prog_12_method_32_code 167 = .ok (.invokestatic 174, 3) := by decide +kernel
theorem d_Mo_accepted_170 : decode prog_12_method_32_code 170 = .ok (.ifCond .ne 8, 3) := by decide +kernel
theorem d_Mo_accepted_173 : decode prog_12_method_32_code 173 = .ok (.iload 7, 2) := by decide +kernel
theorem d_Mo_accepted_175 : decode prog_12_method_32_code 175 = .ok (.goto 5, 3) := by decide +kernel
theorem d_Mo_accepted_178 : decode prog_12_method_32_code 178 = .ok (.iload 9, 2) := by decide +kernel
theorem d_Mo_accepted_180 : decode prog_12_method_32_code 180 = .ok (.iastore, 1) := by decide +kernel
theorem d_Mo_accepted_181 : decode prog_12_method_32_code 181 = .ok (.aload_n 0, 1) := by decide +kernel
theorem d_Mo_accepted_182 : decode prog_12_method_32_code 182 = .ok (.getfield 80, 3) := by decide +kernel
theorem d_Mo_accepted_185 : decode prog_12_method_32_code 185 = .ok (.iload 4, 2) := by decide +kernel
theorem d_Mo_accepted_187 : decode prog_12_method_32_code 187 = .ok (.iload 8, 2) := by decide +kernel
theorem d_Mo_accepted_189 : decode prog_12_method_32_code 189 = .ok (.iadd, 1) := by decide +kernel
theorem d_Mo_accepted_190 : decode prog_12_method_32_code 190 = .ok (.iload_n 2, 1) := by decide +kernel
theorem d_Mo_accepted_191 : decode prog_12_method_32_code 191 = .ok (.iload 8, 2) := by decide +kernel
theorem d_Mo_accepted_193 : decode prog_12_method_32_code 193 = .ok (.invokestatic 174, 3) := by decide +kernel
theorem d_Mo_accepted_196 : decode prog_12_method_32_code 196 = .ok (.ifCond .ne 8, 3) := by decide +kernel
theorem d_Mo_accepted_199 : decode prog_12_method_32_code 199 = .ok (.iload 9, 2) := by decide +kernel
theorem d_Mo_accepted_201 : decode prog_12_method_32_code 201 = .ok (.goto 5, 3) := by decide +kernel
theorem d_Mo_accepted_204 : decode prog_12_method_32_code 204 = .ok (.iload 7, 2) := by decide +kernel
theorem d_Mo_accepted_206 : decode prog_12_method_32_code 206 = .ok (.iastore, 1) := by decide +kernel
theorem d_Mo_accepted_207 : decode prog_12_method_32_code 207 = .ok (.aload_n 0, 1) := by decide +kernel
theorem d_Mo_accepted_208 : decode prog_12_method_32_code 208 = .ok (.iconst 2, 1) := by decide +kernel
theorem d_Mo_accepted_209 : decode prog_12_method_32_code 209 = .ok (.aload_n 0, 1) := by decide +kernel
theorem d_Mo_accepted_210 : decode prog_12_method_32_code 210 = .ok (.getfield 77, 3) := by decide +kernel
theorem d_Mo_accepted_213 : decode prog_12_method_32_code 213 = .ok (.iload 4, 2) := by decide +kernel
theorem d_Mo_accepted_215 : decode prog_12_method_32_code 215 = .ok (.iload 8, 2) := by decide +kernel
theorem d_Mo_accepted_217 : decode prog_12_method_32_code 217 = .ok (.iadd, 1) := by decide +kernel
theorem d_Mo_accepted_218 : decode prog_12_method_32_code 218 = .ok (.iaload, 1) := by decide +kernel
theorem d_Mo_accepted_219 : decode prog_12_method_32_code 219 = .ok (.aload_n 0, 1) := by decide +kernel
theorem d_Mo_accepted_220 : decode prog_12_method_32_code 220 = .ok (.getfield 80, 3) := by decide +kernel
theorem d_Mo_accepted_223 : decode prog_12_method_32_code 223 = .ok (.iload 4, 2) := by decide +kernel
theorem d_Mo_accepted_225 : decode prog_12_method_32_code 225 = .ok (.iload 8, 2) := by decide +kernel
theorem d_Mo_accepted_227 : decode prog_12_method_32_code 227 = .ok (.iadd, 1) := by decide +kernel
theorem d_Mo_accepted_228 : decode prog_12_method_32_code 228 = .ok (.iaload, 1) := by decide +kernel
theorem d_Mo_accepted_229 : decode prog_12_method_32_code 229 = .ok (.invokevirtual 102, 3) := by decide +kernel
theorem d_Mo_accepted_232 : decode prog_12_method_32_code 232 = .ok (.istore 7, 2) := by decide +kernel
theorem d_Mo_accepted_234 : decode prog_12_method_32_code 234 = .ok (.iinc 8 (-1), 3) := by decide +kernel
theorem d_Mo_accepted_237 : decode prog_12_method_32_code 237 = .ok (.goto (-114), 3) := by decide +kernel
theorem d_Mo_accepted_240 : decode prog_12_method_32_code 240 = .ok (.iload 7, 2) := by decide +kernel
theorem d_Mo_accepted_242 : decode prog_12_method_32_code 242 = .ok (.iload_n 3, 1) := by decide +kernel
theorem d_Mo_accepted_243 : decode prog_12_method_32_code 243 = .ok (.if_icmp .ne 7, 3) := by decide +kernel
theorem d_Mo_accepted_246 : decode prog_12_method_32_code 246 = .ok (.iconst 1, 1) := by decide +kernel
theorem d_Mo_accepted_247 : decode prog_12_method_32_code 247 = .ok (.goto 4, 3) := by decide +kernel
theorem d_Mo_accepted_250 : decode prog_12_method_32_code 250 = .ok (.iconst 0, 1) := by decide +kernel
theorem d_Mo_accepted_251 : decode prog_12_method_32_code 251 = .ok (.ireturn, 1) := by decide +kernel
theorem d_Mo_says_0 : decode prog_12_method_33_code 0 = .ok (.aload_n 0, 1) := by decide +kernel
theorem d_Mo_says_1 : decode prog_12_method_33_code 1 = .ok (.getfield 53, 3) := by decide +kernel
theorem d_Mo_says_4 : decode prog_12_method_33_code 4 = .ok (.bipush 30, 2) := by decide +kernel
theorem d_Mo_says_6 : decode prog_12_method_33_code 6 = .ok (.iload_n 1, 1) := by decide +kernel
theorem d_Mo_says_7 : decode prog_12_method_33_code 7 = .ok (.imul, 1) := by decide +kernel
theorem d_Mo_says_8 : decode prog_12_method_33_code 8 = .ok (.iconst 1, 1) := by decide +kernel
theorem d_Mo_says_9 : decode prog_12_method_33_code 9 = .ok (.iadd, 1) := by decide +kernel
theorem d_Mo_says_10 : decode prog_12_method_33_code 10 = .ok (.iaload, 1) := by decide +kernel
theorem d_Mo_says_11 : decode prog_12_method_33_code 11 = .ok (.iload_n 2, 1) := by decide +kernel
theorem d_Mo_says_12 : decode prog_12_method_33_code 12 = .ok (.if_icmp .ne 17, 3) := by decide +kernel
theorem d_Mo_says_15 : decode prog_12_method_33_code 15 = .ok (.aload_n 0, 1) := by decide +kernel
theorem d_Mo_says_16 : decode prog_12_method_33_code 16 = .ok (.getfield 53, 3) := by decide +kernel
theorem d_Mo_says_19 : decode prog_12_method_33_code 19 = .ok (.bipush 30, 2) := by decide +kernel
theorem d_Mo_says_21 : decode prog_12_method_33_code 21 = .ok (.iload_n 1, 1) := by decide +kernel
theorem d_Mo_says_22 : decode prog_12_method_33_code 22 = .ok (.imul, 1) := by decide +kernel
theorem d_Mo_says_23 : decode prog_12_method_33_code 23 = .ok (.iconst 2, 1) := by decide +kernel
theorem d_Mo_says_24 : decode prog_12_method_33_code 24 = .ok (.iadd, 1) := by decide +kernel
theorem d_Mo_says_25 : decode prog_12_method_33_code 25 = .ok (.iaload, 1) := by decide +kernel
theorem d_Mo_says_26 : decode prog_12_method_33_code 26 = .ok (.goto 4, 3) := by decide +kernel
theorem d_Mo_says_29 : decode prog_12_method_33_code 29 = .ok (.iconst 0, 1) := by decide +kernel
theorem d_Mo_says_30 : decode prog_12_method_33_code 30 = .ok (.ireturn, 1) := by decide +kernel
theorem d_Mo_check_0 : decode prog_12_method_34_code 0 = .ok (.aload_n 0, 1) := by decide +kernel
theorem d_Mo_check_1 : decode prog_12_method_34_code 1 = .ok (.iload_n 1, 1) := by decide +kernel
theorem d_Mo_check_2 : decode prog_12_method_34_code 2 = .ok (.iload_n 2, 1) := by decide +kernel
theorem d_Mo_check_3 : decode prog_12_method_34_code 3 = .ok (.iload_n 3, 1) := by decide +kernel
theorem d_Mo_check_4 : decode prog_12_method_34_code 4 = .ok (.iconst 0, 1) := by decide +kernel
theorem d_Mo_check_5 : decode prog_12_method_34_code 5 = .ok (.invokevirtual 197, 3) := by decide +kernel
theorem d_Mo_check_8 : decode prog_12_method_34_code 8 = .ok (.ifCond .eq 12, 3) := by decide +kernel
theorem d_Mo_check_11 : decode prog_12_method_34_code 11 = .ok (.aload_n 0, 1) := by decide +kernel
theorem d_Mo_check_12 : decode prog_12_method_34_code 12 = .ok (.iload_n 1, 1) := by decide +kernel
theorem d_Mo_check_13 : decode prog_12_method_34_code 13 = .ok (.iload_n 2, 1) := by decide +kernel
theorem d_Mo_check_14 : decode prog_12_method_34_code 14 = .ok (.invokevirtual 201, 3) := by decide +kernel
theorem d_Mo_check_17 : decode prog_12_method_34_code 17 = .ok (.goto 4, 3) := by decide +kernel
theorem d_Mo_check_20 : decode prog_12_method_34_code 20 = .ok (.iconst (-1), 1) := by decide +kernel
theorem d_Mo_check_21 : decode prog_12_method_34_code 21 = .ok (.ireturn, 1) := by decide +kernel
theorem d_Mo_inOrder_0 : decode prog_12_method_35_code 0 = .ok (.iload_n 1, 1) := by decide +kernel
theorem d_Mo_inOrder_1 : decode prog_12_method_35_code 1 = .ok (.ifCond .lt 27, 3) := by decide +kernel
theorem d_Mo_inOrder_4 : decode prog_12_method_35_code 4 = .ok (.iload_n 1, 1) := by decide +kernel
theorem d_Mo_inOrder_5 : decode prog_12_method_35_code 5 = .ok (.iconst 3, 1) := by decide +kernel
theorem d_Mo_inOrder_6 : decode prog_12_method_35_code 6 = .ok (.if_icmp .gt 22, 3) := by decide +kernel
theorem d_Mo_inOrder_9 : decode prog_12_method_35_code 9 = .ok (.iload_n 2, 1) := by decide +kernel
theorem d_Mo_inOrder_10 : decode prog_12_method_35_code 10 = .ok (.ifCond .lt 18, 3) := by decide +kernel
theorem d_Mo_inOrder_13 : decode prog_12_method_35_code 13 = .ok (.iload_n 2, 1) := by decide +kernel
theorem d_Mo_inOrder_14 : decode prog_12_method_35_code 14 = .ok (.iload_n 3, 1) := by decide +kernel
theorem d_Mo_inOrder_15 : decode prog_12_method_35_code 15 = .ok (.if_icmp .gt 13, 3) := by decide +kernel
theorem d_Mo_inOrder_18 : decode prog_12_method_35_code 18 = .ok (.iload_n 3, 1) := by decide +kernel
theorem d_Mo_inOrder_19 : decode prog_12_method_35_code 19 = .ok (.bipush 40, 2) := by decide +kernel
theorem d_Mo_inOrder_21 : decode prog_12_method_35_code 21 = .ok (.if_icmp .ge 7, 3) := by decide +kernel
theorem d_Mo_inOrder_24 : decode prog_12_method_35_code 24 = .ok (.iconst 1, 1) := by decide +kernel
theorem d_Mo_inOrder_25 : decode prog_12_method_35_code 25 = .ok (.goto 4, 3) := by decide +kernel
theorem d_Mo_inOrder_28 : decode prog_12_method_35_code 28 = .ok (.iconst 0, 1) := by decide +kernel
theorem d_Mo_inOrder_29 : decode prog_12_method_35_code 29 = .ok (.ireturn, 1) := by decide +kernel
theorem d_Mo_included_0 : decode prog_12_method_36_code 0 = .ok (.aload_n 0, 1) := by decide +kernel
theorem d_Mo_included_1 : decode prog_12_method_36_code 1 = .ok (.iload_n 1, 1) := by decide +kernel
theorem d_Mo_included_2 : decode prog_12_method_36_code 2 = .ok (.iload_n 2, 1) := by decide +kernel
theorem d_Mo_included_3 : decode prog_12_method_36_code 3 = .ok (.iload_n 3, 1) := by decide +kernel
theorem d_Mo_included_4 : decode prog_12_method_36_code 4 = .ok (.invokevirtual 204, 3) := by decide +kernel
theorem d_Mo_included_7 : decode prog_12_method_36_code 7 = .ok (.ifCond .ne 5, 3) := by decide +kernel
theorem d_Mo_included_10 : decode prog_12_method_36_code 10 = .ok (.iconst 0, 1) := by decide +kernel
theorem d_Mo_included_11 : decode prog_12_method_36_code 11 = .ok (.ireturn, 1) := by decide +kernel
theorem d_Mo_included_12 : decode prog_12_method_36_code 12 = .ok (.aload_n 0, 1) := by decide +kernel
theorem d_Mo_included_13 : decode prog_12_method_36_code 13 = .ok (.iload_n 2, 1) := by decide +kernel
theorem d_Mo_included_14 : decode prog_12_method_36_code 14 = .ok (.iload_n 3, 1) := by decide +kernel
theorem d_Mo_included_15 : decode prog_12_method_36_code 15 = .ok (.iconst 0, 1) := by decide +kernel
theorem d_Mo_included_16 : decode prog_12_method_36_code 16 = .ok (.invokevirtual 187, 3) := by decide +kernel
theorem d_Mo_included_19 : decode prog_12_method_36_code 19 = .ok (.aload_n 0, 1) := by decide +kernel
theorem d_Mo_included_20 : decode prog_12_method_36_code 20 = .ok (.getfield 56, 3) := by decide +kernel
theorem d_Mo_included_23 : decode prog_12_method_36_code 23 = .ok (.iload_n 1, 1) := by decide +kernel
theorem d_Mo_included_24 : decode prog_12_method_36_code 24 = .ok (.iaload, 1) := by decide +kernel
theorem d_Mo_included_25 : decode prog_12_method_36_code 25 = .ok (.aload_n 0, 1) := by decide +kernel
theorem d_Mo_included_26 : decode prog_12_method_36_code 26 = .ok (.getfield 165, 3) := by decide +kernel
theorem d_Mo_included_29 : decode prog_12_method_36_code 29 = .ok (.if_icmp .eq 5, 3) := by decide +kernel
theorem d_Mo_included_32 : decode prog_12_method_36_code 32 = .ok (.iconst 0, 1) := by decide +kernel
theorem d_Mo_included_33 : decode prog_12_method_36_code 33 = .ok (.ireturn, 1) := by decide +kernel
theorem d_Mo_included_34 : decode prog_12_method_36_code 34 = .ok (.aload_n 0, 1) := by decide +kernel
theorem d_Mo_included_35 : decode prog_12_method_36_code 35 = .ok (.iconst 3, 1) := by decide +kernel
theorem d_Mo_included_36 : decode prog_12_method_36_code 36 = .ok (.iload 4, 2) := by decide +kernel
theorem d_Mo_included_38 : decode prog_12_method_36_code 38 = .ok (.iload_n 2, 1) := by decide +kernel
theorem d_Mo_included_39 : decode prog_12_method_36_code 39 = .ok (.invokevirtual 102, 3) := by decide +kernel
theorem d_Mo_included_42 : decode prog_12_method_36_code 42 = .ok (.istore 6, 2) := by decide +kernel
theorem d_Mo_included_44 : decode prog_12_method_36_code 44 = .ok (.iconst 0, 1) := by decide +kernel
theorem d_Mo_included_45 : decode prog_12_method_36_code 45 = .ok (.istore 7, 2) := by decide +kernel
theorem d_Mo_included_47 : decode prog_12_method_36_code 47 = .ok (.iload 7, 2) := by decide +kernel
theorem d_Mo_included_49 : decode prog_12_method_36_code 49 = .ok (.aload_n 0, 1) := by decide +kernel
theorem d_Mo_included_50 : decode prog_12_method_36_code 50 = .ok (.getfield 165, 3) := by decide +kernel
theorem d_Mo_included_53 : decode prog_12_method_36_code 53 = .ok (.if_icmp .ge 63, 3) := by decide +kernel
theorem d_Mo_included_56 : decode prog_12_method_36_code 56 = .ok (.aload_n 0, 1) := by decide +kernel
theorem d_Mo_included_57 : decode prog_12_method_36_code 57 = .ok (.getfield 53, 3) := by decide +kernel
theorem d_Mo_included_60 : decode prog_12_method_36_code 60 = .ok (.bipush 30, 2) := by decide +kernel
theorem d_Mo_included_62 : decode prog_12_method_36_code 62 = .ok (.iload_n 1, 1) := by decide +kernel
theorem d_Mo_included_63 : decode prog_12_method_36_code 63 = .ok (.imul, 1) := by decide +kernel
theorem d_Mo_included_64 : decode prog_12_method_36_code 64 = .ok (.iload 7, 2) := by decide +kernel
theorem d_Mo_included_66 : decode prog_12_method_36_code 66 = .ok (.iadd, 1) := by decide +kernel
theorem d_Mo_included_67 : decode prog_12_method_36_code 67 = .ok (.iaload, 1) := by decide +kernel
theorem d_Mo_included_68 : decode prog_12_method_36_code 68 = .ok (.istore 8, 2) := by decide +kernel
theorem d_Mo_included_70 : decode prog_12_method_36_code 70 = .ok (.aload_n 0, 1) := by decide +kernel
theorem d_Mo_included_71 : decode prog_12_method_36_code 71 = .ok (.getfield 65, 3) := by decide +kernel
theorem d_Mo_included_74 : decode prog_12_method_36_code 74 = .ok (.aload_n 0, 1) := by decide +kernel
theorem d_Mo_included_75 : decode prog_12_method_36_code 75 = .ok (.getfield 165, 3) := by decide +kernel
theorem d_Mo_included_78 : decode prog_12_method_36_code 78 = .ok (.iconst 1, 1) := by decide +kernel
theorem d_Mo_included_79 : decode prog_12_method_36_code 79 = .ok (.isub, 1) := by decide +kernel
theorem d_Mo_included_80 : decode prog_12_method_36_code 80 = .ok (.iload 7, 2) := by decide +kernel
theorem d_Mo_included_82 : decode prog_12_method_36_code 82 = .ok (.isub, 1) := by decide +kernel
theorem d_Mo_included_83 : decode prog_12_method_36_code 83 = .ok (.baload, 1) := by decide +kernel
theorem d_Mo_included_84 : decode prog_12_method_36_code 84 = .ok (.ifCond .eq 15, 3) := by decide +kernel
theorem d_Mo_included_87 : decode prog_12_method_36_code 87 = .ok (.aload_n 0, 1) := by decide +kernel
theorem d_Mo_included_88 : decode prog_12_method_36_code 88 = .ok (.iconst 4, 1) := by decide +kernel
theorem d_Mo_included_89 : decode prog_12_method_36_code 89 = .ok (.iload 8, 2) := by decide +kernel
theorem d_Mo_included_91 : decode prog_12_method_36_code 91 = .ok (.iload 6, 2) := by decide +kernel
theorem d_Mo_included_93 : decode prog_12_method_36_code 93 = .ok (.invokevirtual 102, 3) := by decide +kernel
theorem d_Mo_included_96 : decode prog_12_method_36_code 96 = .ok (.goto 12, 3) := by decide +kernel
theorem d_Mo_included_99 : decode prog_12_method_36_code 99 = .ok (.aload_n 0, 1) := by decide +kernel
theorem d_Mo_included_100 : decode prog_12_method_36_code 100 = .ok (.iconst 4, 1) := by decide +kernel
theorem d_Mo_included_101 : decode prog_12_method_36_code 101 = .ok (.iload 6, 2) := by decide +kernel
theorem d_Mo_included_103 : decode prog_12_method_36_code 103 = .ok (.iload 8, 2) := by decide +kernel
theorem d_Mo_included_105 : decode prog_12_method_36_code 105 = .ok (.invokevirtual 102, 3) := by decide +kernel
theorem d_Mo_included_108 : decode prog_12_method_36_code 108 = .ok (.istore 6, 2) := by decide +kernel
theorem d_Mo_included_110 : decode prog_12_method_36_code 110 = .ok (.iinc 7 1, 3) := by decide +kernel
theorem d_Mo_included_113 : decode prog_12_method_36_code 113 = .ok (.goto (-66), 3) := by decide +kernel
theorem d_Mo_included_116 : decode prog_12_method_36_code 116 = .ok (.iload 6, 2) := by decide +kernel
theorem d_Mo_included_118 : decode prog_12_method_36_code 118 = .ok (.iload 5, 2) := by decide +kernel
theorem d_Mo_included_120 : decode prog_12_method_36_code 120 = .ok (.if_icmp .ne 7, 3) := by decide +kernel
theorem d_Mo_included_123 : decode prog_12_method_36_code 123 = .ok (.iconst 1, 1) := by decide +kernel
theorem d_Mo_included_124 : decode prog_12_method_36_code 124 = .ok (.goto 4, 3) := by decide +kernel
theorem d_Mo_included_127 : decode prog_12_method_36_code 127 = .ok (.iconst 0, 1) := by decide +kernel
theorem d_Mo_included_128 : decode prog_12_method_36_code 128 = .ok (.ireturn, 1) := by decide +kernel
theorem d_Mo_consistent_0 : decode prog_12_method_37_code 0 = .ok (.aload_n 0, 1) := by decide +kernel
theorem d_Mo_consistent_1 : decode prog_12_method_37_code 1 = .ok (.iload_n 1, 1) := by decide +kernel
theorem d_Mo_consistent_2 : decode prog_12_method_37_code 2 = .ok (.iload_n 2, 1) := by decide +kernel
theorem d_Mo_consistent_3 : decode prog_12_method_37_code 3 = .ok (.iload_n 3, 1) := by decide +kernel
theorem d_Mo_consistent_4 : decode prog_12_method_37_code 4 = .ok (.invokevirtual 204, 3) := by decide +kernel
theorem d_Mo_consistent_7 : decode prog_12_method_37_code 7 = .ok (.ifCond .ne 5, 3) := by decide +kernel
theorem d_Mo_consistent_10 : decode prog_12_method_37_code 10 = .ok (.iconst 0, 1) := by decide +kernel
theorem d_Mo_consistent_11 : decode prog_12_method_37_code 11 = .ok (.ireturn, 1) := by decide +kernel
theorem d_Mo_consistent_12 : decode prog_12_method_37_code 12 = .ok (.aload_n 0, 1) := by decide +kernel
theorem d_Mo_consistent_13 : decode prog_12_method_37_code 13 = .ok (.iload_n 2, 1) := by decide +kernel
theorem d_Mo_consistent_14 : decode prog_12_method_37_code 14 = .ok (.iload_n 3, 1) := by decide +kernel
theorem d_Mo_consistent_15 : decode prog_12_method_37_code 15 = .ok (.iconst 1, 1) := by decide +kernel
theorem d_Mo_consistent_16 : decode prog_12_method_37_code 16 = .ok (.invokevirtual 187, 3) := by decide +kernel
theorem d_Mo_consistent_19 : decode prog_12_method_37_code 19 = .ok (.aload_n 0, 1) := by decide +kernel
theorem d_Mo_consistent_20 : decode prog_12_method_37_code 20 = .ok (.getfield 168, 3) := by decide +kernel
theorem d_Mo_consistent_23 : decode prog_12_method_37_code 23 = .ok (.ifCond .le 7, 3) := by decide +kernel
theorem d_Mo_consistent_26 : decode prog_12_method_37_code 26 = .ok (.iconst 1, 1) := by decide +kernel
theorem d_Mo_consistent_27 : decode prog_12_method_37_code 27 = .ok (.goto 4, 3) := by decide +kernel
theorem d_Mo_consistent_30 : decode prog_12_method_37_code 30 = .ok (.iconst 0, 1) := by decide +kernel
theorem d_Mo_consistent_31 : decode prog_12_method_37_code 31 = .ok (.istore 6, 2) := by decide +kernel
theorem d_Mo_consistent_33 : decode prog_12_method_37_code 33 = .ok (.aload_n 0, 1) := by decide +kernel
theorem d_Mo_consistent_34 : decode prog_12_method_37_code 34 = .ok (.getfield 56, 3) := by decide +kernel
theorem d_Mo_consistent_37 : decode prog_12_method_37_code 37 = .ok (.iload_n 1, 1) := by decide +kernel
theorem d_Mo_consistent_38 : decode prog_12_method_37_code 38 = .ok (.iaload, 1) := by decide +kernel
theorem d_Mo_consistent_39 : decode prog_12_method_37_code 39 = .ok (.aload_n 0, 1) := by decide +kernel
theorem d_Mo_consistent_40 : decode prog_12_method_37_code 40 = .ok (.getfield 165, 3) := by decide +kernel
theorem d_Mo_consistent_43 : decode prog_12_method_37_code 43 = .ok (.iload 6, 2) := by decide +kernel
theorem d_Mo_consistent_45 : decode prog_12_method_37_code 45 = .ok (.iadd, 1) := by decide +kernel
theorem d_Mo_consistent_46 : decode prog_12_method_37_code 46 = .ok (.if_icmp .eq 5, 3) := by decide +kernel
theorem d_Mo_consistent_49 : decode prog_12_method_37_code 49 = .ok (.iconst 0, 1) := by decide +kernel
theorem d_Mo_consistent_50 : decode prog_12_method_37_code 50 = .ok (.ireturn, 1) := by decide +kernel
theorem d_Mo_consistent_51 : decode prog_12_method_37_code 51 = .ok (.iload 6, 2) := by decide +kernel
theorem d_Mo_consistent_53 : decode prog_12_method_37_code 53 = .ok (.iconst 1, 1) := by decide +kernel
theorem d_Mo_consistent_54 : decode prog_12_method_37_code 54 = .ok (.if_icmp .ne 15, 3) := by decide +kernel
theorem d_Mo_consistent_57 : decode prog_12_method_37_code 57 = .ok (.aload_n 0, 1) := by decide +kernel
theorem d_Mo_consistent_58 : decode prog_12_method_37_code 58 = .ok (.getfield 53, 3) := by decide +kernel
theorem d_Mo_consistent_61 : decode prog_12_method_37_code 61 = .ok (.bipush 30, 2) := by decide +kernel
theorem d_Mo_consistent_63 : decode prog_12_method_37_code 63 = .ok (.iload_n 1, 1) := by decide +kernel
theorem d_Mo_consistent_64 : decode prog_12_method_37_code 64 = .ok (.imul, 1) := by decide +kernel
theorem d_Mo_consistent_65 : decode prog_12_method_37_code 65 = .ok (.iaload, 1) := by decide +kernel
theorem d_Mo_consistent_66 : decode prog_12_method_37_code 66 = .ok (.goto 5, 3) := by decide +kernel
theorem d_Mo_consistent_69 : decode prog_12_method_37_code 69 = .ok (.iload 4, 2) := by decide +kernel
theorem d_Mo_consistent_71 : decode prog_12_method_37_code 71 = .ok (.istore 7, 2) := by decide +kernel
theorem d_Mo_consistent_73 : decode prog_12_method_37_code 73 = .ok (.iload 7, 2) := by decide +kernel
theorem d_Mo_consistent_75 : decode prog_12_method_37_code 75 = .ok (.istore 8, 2) := by decide +kernel
theorem d_Mo_consistent_77 : decode prog_12_method_37_code 77 = .ok (.iconst 0, 1) := by decide +kernel
theorem d_Mo_consistent_78 : decode prog_12_method_37_code 78 = .ok (.istore 9, 2) := by decide +kernel
theorem d_Mo_consistent_80 : decode prog_12_method_37_code 80 = .ok (.iload 9, 2) := by decide +kernel
theorem d_Mo_consistent_82 : decode prog_12_method_37_code 82 = .ok (.aload_n 0, 1) := by decide +kernel
theorem d_Mo_consistent_83 : decode prog_12_method_37_code 83 = .ok (.getfield 165, 3) := by decide +kernel
theorem d_Mo_consistent_86 : decode prog_12_method_37_code 86 = .ok (.if_icmp .ge 91, 3) := by decide +kernel
theorem d_Mo_consistent_89 : decode prog_12_method_37_code 89 = .ok (.aload_n 0, 1) := by decide +kernel
theorem d_Mo_consistent_90 : decode prog_12_method_37_code 90 = .ok (.getfield 53, 3) := by decide +kernel
theorem d_Mo_consistent_93 : decode prog_12_method_37_code 93 = .ok (.bipush 30, 2) := by decide +kernel
theorem d_Mo_consistent_95 : decode prog_12_method_37_code 95 = .ok (.iload_n 1, 1) := by decide +kernel
theorem d_Mo_consistent_96 : decode prog_12_method_37_code 96 = .ok (.imul, 1) := by decide +kernel
theorem d_Mo_consistent_97 : decode prog_12_method_37_code 97 = .ok (.iload 6, 2) := by decide +kernel
theorem d_Mo_consistent_99 : decode prog_12_method_37_code 99 = .ok (.iadd, 1) := by decide +kernel
theorem d_Mo_consistent_100 : decode prog_12_method_37_code 100 = .ok (.iload 9, 2) := by decide +kernel
theorem d_Mo_consistent_102 : decode prog_12_method_37_code 102 = .ok (.iadd, 1) := by decide +kernel
theorem d_Mo_consistent_103 : decode prog_12_method_37_code 103 = .ok (.iaload, 1) := by decide +kernel
theorem d_Mo_consistent_104 : decode prog_12_method_37_code 104 = .ok (.istore 10, 2) := by decide +kernel
