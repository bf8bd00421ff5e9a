theorem d_ED_closeEpoch_31 : decode prog_1_method_28_code 31 = .ok (.getfield 30, 3) := by decide +kernel
theorem d_ED_closeEpoch_34 : decode prog_1_method_28_code 34 = .ok (.iload_n 1, 1) := by decide +kernel
theorem d_ED_closeEpoch_35 : decode prog_1_method_28_code 35 = .ok (.invokevirtual 241, 3) := by decide +kernel
theorem d_ED_closeEpoch_38 : decode prog_1_method_28_code 38 = .ok (.invokevirtual 244, 3) := by decide +kernel
theorem d_ED_closeEpoch_41 : decode prog_1_method_28_code 41 = .ok (.aload_n 0, 1) := by decide +kernel
theorem d_ED_closeEpoch_42 : decode prog_1_method_28_code 42 = .ok (.getfield 21, 3) := by decide +kernel
theorem d_ED_closeEpoch_45 : decode prog_1_method_28_code 45 = .ok (.invokevirtual 247, 3) := by decide +kernel
theorem d_ED_closeEpoch_48 : decode prog_1_method_28_code 48 = .ok (.return_, 1) := by decide +kernel
theorem d_ED_burnFuse_0 : decode prog_1_method_29_code 0 = .ok (.aload_n 0, 1) := by decide +kernel
theorem d_ED_burnFuse_1 : decode prog_1_method_29_code 1 = .ok (.getfield 129, 3) := by decide +kernel
theorem d_ED_burnFuse_4 : decode prog_1_method_29_code 4 = .ok (.ifCond .ne 4, 3) := by decide +kernel
theorem d_ED_burnFuse_7 : decode prog_1_method_29_code 7 = .ok (.return_, 1) := by decide +kernel
theorem d_ED_burnFuse_8 : decode prog_1_method_29_code 8 = .ok (.aload_n 0, 1) := by decide +kernel
theorem d_ED_burnFuse_9 : decode prog_1_method_29_code 9 = .ok (.dup, 1) := by decide +kernel
theorem d_ED_burnFuse_10 : decode prog_1_method_29_code 10 = .ok (.getfield 129, 3) := by decide +kernel
theorem d_ED_burnFuse_13 : decode prog_1_method_29_code 13 = .ok (.iconst 1, 1) := by decide +kernel
theorem d_ED_burnFuse_14 : decode prog_1_method_29_code 14 = .ok (.isub, 1) := by decide +kernel
theorem d_ED_burnFuse_15 : decode prog_1_method_29_code 15 = .ok (.putfield 129, 3) := by decide +kernel
theorem d_ED_burnFuse_18 : decode prog_1_method_29_code 18 = .ok (.aload_n 0, 1) := by decide +kernel
theorem d_ED_burnFuse_19 : decode prog_1_method_29_code 19 = .ok (.getfield 129, 3) := by decide +kernel
theorem d_ED_burnFuse_22 : decode prog_1_method_29_code 22 = .ok (.ifCond .ne 15, 3) := by decide +kernel
theorem d_ED_burnFuse_25 : decode prog_1_method_29_code 25 = .ok (.aload_n 0, 1) := by decide +kernel
theorem d_ED_burnFuse_26 : decode prog_1_method_29_code 26 = .ok (.iconst 1, 1) := by decide +kernel
theorem d_ED_burnFuse_27 : decode prog_1_method_29_code 27 = .ok (.putfield 87, 3) := by decide +kernel
theorem d_ED_burnFuse_30 : decode prog_1_method_29_code 30 = .ok (.aload_n 0, 1) := by decide +kernel
theorem d_ED_burnFuse_31 : decode prog_1_method_29_code 31 = .ok (.getfield 21, 3) := by decide +kernel
theorem d_ED_burnFuse_34 : decode prog_1_method_29_code 34 = .ok (.invokevirtual 250, 3) := by decide +kernel
theorem d_ED_burnFuse_37 : decode prog_1_method_29_code 37 = .ok (.return_, 1) := by decide +kernel
theorem d_ED_proveLookup_0 : decode prog_1_method_30_code 0 = .ok (.iload_n 2, 1) := by decide +kernel
theorem d_ED_proveLookup_1 : decode prog_1_method_30_code 1 = .ok (.invokestatic 253, 3) := by decide +kernel
theorem d_ED_proveLookup_4 : decode prog_1_method_30_code 4 = .ok (.istore 4, 2) := by decide +kernel
theorem d_ED_proveLookup_6 : decode prog_1_method_30_code 6 = .ok (.aload_n 0, 1) := by decide +kernel
theorem d_ED_proveLookup_7 : decode prog_1_method_30_code 7 = .ok (.getfield 44, 3) := by decide +kernel
theorem d_ED_proveLookup_10 : decode prog_1_method_30_code 10 = .ok (.getfield 256, 3) := by decide +kernel
theorem d_ED_proveLookup_13 : decode prog_1_method_30_code 13 = .ok (.iload_n 3, 1) := by decide +kernel
theorem d_ED_proveLookup_14 : decode prog_1_method_30_code 14 = .ok (.iaload, 1) := by decide +kernel
theorem d_ED_proveLookup_15 : decode prog_1_method_30_code 15 = .ok (.istore 5, 2) := by decide +kernel
theorem d_ED_proveLookup_17 : decode prog_1_method_30_code 17 = .ok (.iconst 0, 1) := by decide +kernel
theorem d_ED_proveLookup_18 : decode prog_1_method_30_code 18 = .ok (.istore 6, 2) := by decide +kernel
theorem d_ED_proveLookup_20 : decode prog_1_method_30_code 20 = .ok (.aload_n 1, 1) := by decide +kernel
theorem d_ED_proveLookup_21 : decode prog_1_method_30_code 21 = .ok (.iconst 3, 1) := by decide +kernel
theorem d_ED_proveLookup_22 : decode prog_1_method_30_code 22 = .ok (.invokevirtual 259, 3) := by decide +kernel
theorem d_ED_proveLookup_25 : decode prog_1_method_30_code 25 = .ok (.iload 6, 2) := by decide +kernel
theorem d_ED_proveLookup_27 : decode prog_1_method_30_code 27 = .ok (.bipush 6, 2) := by decide +kernel
theorem d_ED_proveLookup_29 : decode prog_1_method_30_code 29 = .ok (.if_icmp .ge 68, 3) := by decide +kernel
theorem d_ED_proveLookup_32 : decode prog_1_method_30_code 32 = .ok (.aload_n 0, 1) := by decide +kernel
theorem d_ED_proveLookup_33 : decode prog_1_method_30_code 33 = .ok (.getfield 30, 3) := by decide +kernel
theorem d_ED_proveLookup_36 : decode prog_1_method_30_code 36 = .ok (.iload 5, 2) := by decide +kernel
theorem d_ED_proveLookup_38 : decode prog_1_method_30_code 38 = .ok (.iconst 2, 1) := by decide +kernel
theorem d_ED_proveLookup_39 : decode prog_1_method_30_code 39 = .ok (.invokevirtual 262, 3) := by decide +kernel
theorem d_ED_proveLookup_42 : decode prog_1_method_30_code 42 = .ok (.ifCond .eq 55, 3) := by decide +kernel
theorem d_ED_proveLookup_45 : decode prog_1_method_30_code 45 = .ok (.iload 4, 2) := by decide +kernel
theorem d_ED_proveLookup_47 : decode prog_1_method_30_code 47 = .ok (.iload 6, 2) := by decide +kernel
theorem d_ED_proveLookup_49 : decode prog_1_method_30_code 49 = .ok (.invokestatic 265, 3) := by decide +kernel
theorem d_ED_proveLookup_52 : decode prog_1_method_30_code 52 = .ok (.istore 7, 2) := by decide +kernel
theorem d_ED_proveLookup_54 : decode prog_1_method_30_code 54 = .ok (.aload_n 1, 1) := by decide +kernel
theorem d_ED_proveLookup_55 : decode prog_1_method_30_code 55 = .ok (.aload_n 0, 1) := by decide +kernel
theorem d_ED_proveLookup_56 : decode prog_1_method_30_code 56 = .ok (.getfield 30, 3) := by decide +kernel
theorem d_ED_proveLookup_59 : decode prog_1_method_30_code 59 = .ok (.aload_n 0, 1) := by decide +kernel
theorem d_ED_proveLookup_60 : decode prog_1_method_30_code 60 = .ok (.getfield 30, 3) := by decide +kernel
theorem d_ED_proveLookup_63 : decode prog_1_method_30_code 63 = .ok (.iload 5, 2) := by decide +kernel
theorem d_ED_proveLookup_65 : decode prog_1_method_30_code 65 = .ok (.iconst 1, 1) := by decide +kernel
theorem d_ED_proveLookup_66 : decode prog_1_method_30_code 66 = .ok (.iload 7, 2) := by decide +kernel
theorem d_ED_proveLookup_68 : decode prog_1_method_30_code 68 = .ok (.isub, 1) := by decide +kernel
theorem d_ED_proveLookup_69 : decode prog_1_method_30_code 69 = .ok (.invokevirtual 269, 3) := by decide +kernel
theorem d_ED_proveLookup_72 : decode prog_1_method_30_code 72 = .ok (.invokevirtual 241, 3) := by decide +kernel
theorem d_ED_proveLookup_75 : decode prog_1_method_30_code 75 = .ok (.invokevirtual 272, 3) := by decide +kernel
theorem d_ED_proveLookup_78 : decode prog_1_method_30_code 78 = .ok (.aload_n 0, 1) := by decide +kernel
theorem d_ED_proveLookup_79 : decode prog_1_method_30_code 79 = .ok (.getfield 30, 3) := by decide +kernel
theorem d_ED_proveLookup_82 : decode prog_1_method_30_code 82 = .ok (.iload 5, 2) := by decide +kernel
theorem d_ED_proveLookup_84 : decode prog_1_method_30_code 84 = .ok (.iload 7, 2) := by decide +kernel
theorem d_ED_proveLookup_86 : decode prog_1_method_30_code 86 = .ok (.invokevirtual 269, 3) := by decide +kernel
theorem d_ED_proveLookup_89 : decode prog_1_method_30_code 89 = .ok (.istore 5, 2) := by decide +kernel
theorem d_ED_proveLookup_91 : decode prog_1_method_30_code 91 = .ok (.iinc 6 1, 3) := by decide +kernel
theorem d_ED_proveLookup_94 : decode prog_1_method_30_code 94 = .ok (.goto (-69), 3) := by decide +kernel
theorem d_ED_proveLookup_97 : decode prog_1_method_30_code 97 = .ok (.aload_n 0, 1) := by decide +kernel
theorem d_ED_proveLookup_98 : decode prog_1_method_30_code 98 = .ok (.getfield 30, 3) := by decide +kernel
theorem d_ED_proveLookup_101 : decode prog_1_method_30_code 101 = .ok (.iload 5, 2) := by decide +kernel
theorem d_ED_proveLookup_103 : decode prog_1_method_30_code 103 = .ok (.iconst 1, 1) := by decide +kernel
theorem d_ED_proveLookup_104 : decode prog_1_method_30_code 104 = .ok (.invokevirtual 262, 3) := by decide +kernel
theorem d_ED_proveLookup_107 : decode prog_1_method_30_code 107 = .ok (.istore 7, 2) := by decide +kernel
theorem d_ED_proveLookup_109 : decode prog_1_method_30_code 109 = .ok (.iload 7, 2) := by decide +kernel
theorem d_ED_proveLookup_111 : decode prog_1_method_30_code 111 = .ok (.ifCond .eq 16, 3) := by decide +kernel
theorem d_ED_proveLookup_114 : decode prog_1_method_30_code 114 = .ok (.aload_n 0, 1) := by decide +kernel
theorem d_ED_proveLookup_115 : decode prog_1_method_30_code 115 = .ok (.getfield 30, 3) := by decide +kernel
theorem d_ED_proveLookup_118 : decode prog_1_method_30_code 118 = .ok (.getfield 151, 3) := by decide +kernel
theorem d_ED_proveLookup_121 : decode prog_1_method_30_code 121 = .ok (.iload 5, 2) := by decide +kernel
theorem d_ED_proveLookup_123 : decode prog_1_method_30_code 123 = .ok (.iaload, 1) := by decide +kernel
theorem d_ED_proveLookup_124 : decode prog_1_method_30_code 124 = .ok (.goto 4, 3) := by decide +kernel
theorem d_ED_proveLookup_127 : decode prog_1_method_30_code 127 = .ok (.iconst (-1), 1) := by decide +kernel
theorem d_ED_proveLookup_128 : decode prog_1_method_30_code 128 = .ok (.istore 8, 2) := by decide +kernel
theorem d_ED_proveLookup_130 : decode prog_1_method_30_code 130 = .ok (.iload 7, 2) := by decide +kernel
theorem d_ED_proveLookup_132 : decode prog_1_method_30_code 132 = .ok (.ifCond .eq 16, 3) := by decide +kernel
theorem d_ED_proveLookup_135 : decode prog_1_method_30_code 135 = .ok (.aload_n 0, 1) := by decide +kernel
theorem d_ED_proveLookup_136 : decode prog_1_method_30_code 136 = .ok (.getfield 30, 3) := by decide +kernel
theorem d_ED_proveLookup_139 : decode prog_1_method_30_code 139 = .ok (.getfield 154, 3) := by decide +kernel
theorem d_ED_proveLookup_142 : decode prog_1_method_30_code 142 = .ok (.iload 5, 2) := by decide +kernel
theorem d_ED_proveLookup_144 : decode prog_1_method_30_code 144 = .ok (.iaload, 1) := by decide +kernel
theorem d_ED_proveLookup_145 : decode prog_1_method_30_code 145 = .ok (.goto 4, 3) := by decide +kernel
theorem d_ED_proveLookup_148 : decode prog_1_method_30_code 148 = .ok (.iconst 0, 1) := by decide +kernel
theorem d_ED_proveLookup_149 : decode prog_1_method_30_code 149 = .ok (.istore 9, 2) := by decide +kernel
theorem d_ED_proveLookup_151 : decode prog_1_method_30_code 151 = .ok (.aload_n 1, 1) := by decide +kernel
theorem d_ED_proveLookup_152 : decode prog_1_method_30_code 152 = .ok (.getfield 179, 3) := by decide +kernel
theorem d_ED_proveLookup_155 : decode prog_1_method_30_code 155 = .ok (.iconst 0, 1) := by decide +kernel
theorem d_ED_proveLookup_156 : decode prog_1_method_30_code 156 = .ok (.iload 6, 2) := by decide +kernel
theorem d_ED_proveLookup_158 : decode prog_1_method_30_code 158 = .ok (.iastore, 1) := by decide +kernel
theorem d_ED_proveLookup_159 : decode prog_1_method_30_code 159 = .ok (.aload_n 1, 1) := by decide +kernel
theorem d_ED_proveLookup_160 : decode prog_1_method_30_code 160 = .ok (.getfield 179, 3) := by decide +kernel
theorem d_ED_proveLookup_163 : decode prog_1_method_30_code 163 = .ok (.iconst 1, 1) := by decide +kernel
theorem d_ED_proveLookup_164 : decode prog_1_method_30_code 164 = .ok (.iload 8, 2) := by decide +kernel
theorem d_ED_proveLookup_166 : decode prog_1_method_30_code 166 = .ok (.iastore, 1) := by decide +kernel
theorem d_ED_proveLookup_167 : decode prog_1_method_30_code 167 = .ok (.aload_n 1, 1) := by decide +kernel
theorem d_ED_proveLookup_168 : decode prog_1_method_30_code 168 = .ok (.getfield 179, 3) := by decide +kernel
theorem d_ED_proveLookup_171 : decode prog_1_method_30_code 171 = .ok (.iconst 2, 1) := by decide +kernel
theorem d_ED_proveLookup_172 : decode prog_1_method_30_code 172 = .ok (.iload 9, 2) := by decide +kernel
theorem d_ED_proveLookup_174 : decode prog_1_method_30_code 174 = .ok (.iastore, 1) := by decide +kernel
theorem d_ED_proveLookup_175 : decode prog_1_method_30_code 175 = .ok (.aload_n 0, 1) := by decide +kernel
theorem d_ED_proveLookup_176 : decode prog_1_method_30_code 176 = .ok (.aload_n 1, 1) := by decide +kernel
theorem d_ED_proveLookup_177 : decode prog_1_method_30_code 177 = .ok (.getfield 178, 3) := by decide +kernel
theorem d_ED_proveLookup_180 : decode prog_1_method_30_code 180 = .ok (.putfield 160, 3) := by decide +kernel
theorem d_ED_proveLookup_183 : decode prog_1_method_30_code 183 = .ok (.aload_n 0, 1) := by decide +kernel
theorem d_ED_proveLookup_184 : decode prog_1_method_30_code 184 = .ok (.iload 7, 2) := by decide +kernel
theorem d_ED_proveLookup_186 : decode prog_1_method_30_code 186 = .ok (.ifCond .eq 10, 3) := by decide +kernel
theorem d_ED_proveLookup_189 : decode prog_1_method_30_code 189 = .ok (.iload 6, 2) := by decide +kernel
theorem d_ED_proveLookup_191 : decode prog_1_method_30_code 191 = .ok (.iconst 1, 1) := by decide +kernel
theorem d_ED_proveLookup_192 : decode prog_1_method_30_code 192 = .ok (.iadd, 1) := by decide +kernel
theorem d_ED_proveLookup_193 : decode prog_1_method_30_code 193 = .ok (.goto 5, 3) := by decide +kernel
theorem d_ED_proveLookup_196 : decode prog_1_method_30_code 196 = .ok (.iload 6, 2) := by decide +kernel
theorem d_ED_proveLookup_198 : decode prog_1_method_30_code 198 = .ok (.putfield 163, 3) := by decide +kernel
theorem d_ED_proveLookup_201 : decode prog_1_method_30_code 201 = .ok (.iload 8, 2) := by decide +kernel
theorem d_ED_proveLookup_203 : decode prog_1_method_30_code 203 = .ok (.iload_n 2, 1) := by decide +kernel
theorem d_ED_proveLookup_204 : decode prog_1_method_30_code 204 = .ok (.if_icmp .ne 8, 3) := by decide +kernel
theorem d_ED_proveLookup_207 : decode prog_1_method_30_code 207 = .ok (.iload 9, 2) := by decide +kernel
theorem d_ED_proveLookup_209 : decode prog_1_method_30_code 209 = .ok (.goto 4, 3) := by decide +kernel
theorem d_ED_proveLookup_212 : decode prog_1_method_30_code 212 = .ok (.iconst 0, 1) := by decide +kernel
theorem d_ED_proveLookup_213 : decode prog_1_method_30_code 213 = .ok (.ireturn, 1) := by decide +kernel
theorem d_ED_proveHistory_0 : decode prog_1_method_31_code 0 = .ok (.aload_n 0, 1) := by decide +kernel
theorem d_ED_proveHistory_1 : decode prog_1_method_31_code 1 = .ok (.getfield 51, 3) := by decide +kernel
theorem d_ED_proveHistory_4 : decode prog_1_method_31_code 4 = .ok (.iload_n 3, 1) := by decide +kernel
theorem d_ED_proveHistory_5 : decode prog_1_method_31_code 5 = .ok (.iload 4, 2) := by decide +kernel
theorem d_ED_proveHistory_7 : decode prog_1_method_31_code 7 = .ok (.iload_n 2, 1) := by decide +kernel
theorem d_ED_proveHistory_8 : decode prog_1_method_31_code 8 = .ok (.iconst 1, 1) := by decide +kernel
theorem d_ED_proveHistory_9 : decode prog_1_method_31_code 9 = .ok (.if_icmp .ne 7, 3) := by decide +kernel
theorem d_ED_proveHistory_12 : decode prog_1_method_31_code 12 = .ok (.iconst 1, 1) := by decide +kernel
theorem d_ED_proveHistory_13 : decode prog_1_method_31_code 13 = .ok (.goto 4, 3) := by decide +kernel
theorem d_ED_proveHistory_16 : decode prog_1_method_31_code 16 = .ok (.iconst 0, 1) := by decide +kernel
theorem d_ED_proveHistory_17 : decode prog_1_method_31_code 17 = .ok (.invokevirtual 275, 3) := by decide +kernel
theorem d_ED_proveHistory_20 : decode prog_1_method_31_code 20 = .ok (.aload_n 1, 1) := by decide +kernel
theorem d_ED_proveHistory_21 : decode prog_1_method_31_code 21 = .ok (.iconst 0, 1) := by decide +kernel
theorem d_ED_proveHistory_22 : decode prog_1_method_31_code 22 = .ok (.invokevirtual 259, 3) := by decide +kernel
theorem d_ED_proveHistory_25 : decode prog_1_method_31_code 25 = .ok (.iload_n 2, 1) := by decide +kernel
theorem d_ED_proveHistory_26 : decode prog_1_method_31_code 26 = .ok (.iconst 2, 1) := by decide +kernel
theorem d_ED_proveHistory_27 : decode prog_1_method_31_code 27 = .ok (.if_icmp .ne 38, 3) := by decide +kernel
theorem d_ED_proveHistory_30 : decode prog_1_method_31_code 30 = .ok (.aload_n 0, 1) := by decide +kernel
theorem d_ED_proveHistory_31 : decode prog_1_method_31_code 31 = .ok (.getfield 51, 3) := by decide +kernel
theorem d_ED_proveHistory_34 : decode prog_1_method_31_code 34 = .ok (.getfield 279, 3) := by decide +kernel
theorem d_ED_proveHistory_37 : decode prog_1_method_31_code 37 = .ok (.ifCond .le 28, 3) := by decide +kernel
theorem d_ED_proveHistory_40 : decode prog_1_method_31_code 40 = .ok (.aload_n 1, 1) := by decide +kernel
theorem d_ED_proveHistory_41 : decode prog_1_method_31_code 41 = .ok (.aload_n 0, 1) := by decide +kernel
theorem d_ED_proveHistory_42 : decode prog_1_method_31_code 42 = .ok (.getfield 44, 3) := by decide +kernel
theorem d_ED_proveHistory_45 : decode prog_1_method_31_code 45 = .ok (.aload_n 0, 1) := by decide +kernel
theorem d_ED_proveHistory_46 : decode prog_1_method_31_code 46 = .ok (.getfield 51, 3) := by decide +kernel
theorem d_ED_proveHistory_49 : decode prog_1_method_31_code 49 = .ok (.getfield 279, 3) := by decide +kernel
theorem d_ED_proveHistory_52 : decode prog_1_method_31_code 52 = .ok (.aload_n 0, 1) := by decide +kernel
theorem d_ED_proveHistory_53 : decode prog_1_method_31_code 53 = .ok (.getfield 51, 3) := by decide +kernel
theorem d_ED_proveHistory_56 : decode prog_1_method_31_code 56 = .ok (.getfield 282, 3) := by decide +kernel
theorem d_ED_proveHistory_59 : decode prog_1_method_31_code 59 = .ok (.invokevirtual 285, 3) := by decide +kernel
theorem d_ED_proveHistory_62 : decode prog_1_method_31_code 62 = .ok (.invokevirtual 272, 3) := by decide +kernel
theorem d_ED_proveHistory_65 : decode prog_1_method_31_code 65 = .ok (.aload_n 0, 1) := by decide +kernel
theorem d_ED_proveHistory_66 : decode prog_1_method_31_code 66 = .ok (.getfield 51, 3) := by decide +kernel
theorem d_ED_proveHistory_69 : decode prog_1_method_31_code 69 = .ok (.getfield 288, 3) := by decide +kernel
theorem d_ED_proveHistory_72 : decode prog_1_method_31_code 72 = .ok (.iconst 1, 1) := by decide +kernel
theorem d_ED_proveHistory_73 : decode prog_1_method_31_code 73 = .ok (.isub, 1) := by decide +kernel
theorem d_ED_proveHistory_74 : decode prog_1_method_31_code 74 = .ok (.istore 5, 2) := by decide +kernel
theorem d_ED_proveHistory_76 : decode prog_1_method_31_code 76 = .ok (.iload 5, 2) := by decide +kernel
theorem d_ED_proveHistory_78 : decode prog_1_method_31_code 78 = .ok (.ifCond .lt 40, 3) := by decide +kernel
theorem d_ED_proveHistory_81 : decode prog_1_method_31_code 81 = .ok (.aload_n 1, 1) := by decide +kernel
theorem d_ED_proveHistory_82 : decode prog_1_method_31_code 82 = .ok (.aload_n 0, 1) := by decide +kernel
theorem d_ED_proveHistory_83 : decode prog_1_method_31_code 83 = .ok (.getfield 44, 3) := by decide +kernel
theorem d_ED_proveHistory_86 : decode prog_1_method_31_code 86 = .ok (.aload_n 0, 1) := by decide +kernel
theorem d_ED_proveHistory_87 : decode prog_1_method_31_code 87 = .ok (.getfield 51, 3) := by decide +kernel
theorem d_ED_proveHistory_90 : decode prog_1_method_31_code 90 = .ok (.getfield 289, 3) := by decide +kernel
theorem d_ED_proveHistory_93 : decode prog_1_method_31_code 93 = .ok (.iload 5, 2) := by decide +kernel
theorem d_ED_proveHistory_95 : decode prog_1_method_31_code 95 = .ok (.iaload, 1) := by decide +kernel
theorem d_ED_proveHistory_96 : decode prog_1_method_31_code 96 = .ok (.aload_n 0, 1) := by decide +kernel
theorem d_ED_proveHistory_97 : decode prog_1_method_31_code 97 = .ok (.getfield 51, 3) := by decide +kernel
theorem d_ED_proveHistory_100 : decode prog_1_method_31_code 100 = .ok (.getfield 292, 3) := by decide +kernel
theorem d_ED_proveHistory_103 : decode prog_1_method_31_code 103 = .ok (.iload 5, 2) := by decide +kernel
theorem d_ED_proveHistory_105 : decode prog_1_method_31_code 105 = .ok (.iaload, 1) := by decide +kernel
theorem d_ED_proveHistory_106 : decode prog_1_method_31_code 106 = .ok (.invokevirtual 285, 3) := by decide +kernel
theorem d_ED_proveHistory_109 : decode prog_1_method_31_code 109 = .ok (.invokevirtual 272, 3) := by decide +kernel
theorem d_ED_proveHistory_112 : decode prog_1_method_31_code 112 = .ok (.iinc 5 (-1), 3) := by decide +kernel
theorem d_ED_proveHistory_115 : decode prog_1_method_31_code 115 = .ok (.goto (-39), 3) := by decide +kernel
theorem d_ED_proveHistory_118 : decode prog_1_method_31_code 118 = .ok (.aload_n 0, 1) := by decide +kernel
theorem d_ED_proveHistory_119 : decode prog_1_method_31_code 119 = .ok (.aload_n 1, 1) := by decide +kernel
theorem d_ED_proveHistory_120 : decode prog_1_method_31_code 120 = .ok (.getfield 178, 3) := by decide +kernel
theorem d_ED_proveHistory_123 : decode prog_1_method_31_code 123 = .ok (.putfield 160, 3) := by decide +kernel
theorem d_ED_proveHistory_126 : decode prog_1_method_31_code 126 = .ok (.aload_n 1, 1) := by decide +kernel
theorem d_ED_proveHistory_127 : decode prog_1_method_31_code 127 = .ok (.getfield 178, 3) := by decide +kernel
theorem d_ED_proveHistory_130 : decode prog_1_method_31_code 130 = .ok (.ireturn, 1) := by decide +kernel
theorem d_ED_takeOutFirstDifference_0 : decode prog_1_method_32_code 0 = .ok (.aload_n 0, 1) := by decide +kernel
theorem d_ED_takeOutFirstDifference_1 : decode prog_1_method_32_code 1 = .ok (.getfield 65, 3) := by decide +kernel
theorem d_ED_takeOutFirstDifference_4 : decode prog_1_method_32_code 4 = .ok (.getfield 295, 3) := by decide +kernel
theorem d_ED_takeOutFirstDifference_7 : decode prog_1_method_32_code 7 = .ok (.aload_n 0, 1) := by decide +kernel
theorem d_ED_takeOutFirstDifference_8 : decode prog_1_method_32_code 8 = .ok (.getfield 69, 3) := by decide +kernel
theorem d_ED_takeOutFirstDifference_11 : decode prog_1_method_32_code 11 = .ok (.getfield 295, 3) := by decide +kernel
theorem d_ED_takeOutFirstDifference_14 : decode prog_1_method_32_code 14 = .ok (.invokestatic 298, 3) := by decide +kernel
theorem d_ED_takeOutFirstDifference_17 : decode prog_1_method_32_code 17 = .ok (.istore_n 1, 1) := by decide +kernel
theorem d_ED_takeOutFirstDifference_18 : decode prog_1_method_32_code 18 = .ok (.iconst 0, 1) := by decide +kernel
theorem d_ED_takeOutFirstDifference_19 : decode prog_1_method_32_code 19 = .ok (.istore_n 2, 1) := by decide +kernel
theorem d_ED_takeOutFirstDifference_20 : decode prog_1_method_32_code 20 = .ok (.iload_n 2, 1) := by decide +kernel
theorem d_ED_takeOutFirstDifference_21 : decode prog_1_method_32_code 21 = .ok (.iload_n 1, 1) := by decide +kernel
theorem d_ED_takeOutFirstDifference_22 : decode prog_1_method_32_code 22 = .ok (.if_icmp .gt 52, 3) := by decide +kernel
theorem d_ED_takeOutFirstDifference_25 : decode prog_1_method_32_code 25 = .ok (.aload_n 0, 1) := by decide +kernel
theorem d_ED_takeOutFirstDifference_26 : decode prog_1_method_32_code 26 = .ok (.getfield 65, 3) := by decide +kernel
theorem d_ED_takeOutFirstDifference_29 : decode prog_1_method_32_code 29 = .ok (.aload_n 0, 1) := by decide +kernel
theorem d_ED_takeOutFirstDifference_30 : decode prog_1_method_32_code 30 = .ok (.getfield 69, 3) := by decide +kernel
theorem d_ED_takeOutFirstDifference_33 : decode prog_1_method_32_code 33 = .ok (.iload_n 2, 1) := by decide +kernel
theorem d_ED_takeOutFirstDifference_34 : decode prog_1_method_32_code 34 = .ok (.invokevirtual 303, 3) := by decide +kernel
theorem d_ED_takeOutFirstDifference_37 : decode prog_1_method_32_code 37 = .ok (.ifCond .eq 31, 3) := by decide +kernel
theorem d_ED_takeOutFirstDifference_40 : decode prog_1_method_32_code 40 = .ok (.aload_n 0, 1) := by decide +kernel
theorem d_ED_takeOutFirstDifference_41 : decode prog_1_method_32_code 41 = .ok (.getfield 65, 3) := by decide +kernel
theorem d_ED_takeOutFirstDifference_44 : decode prog_1_method_32_code 44 = .ok (.iload_n 2, 1) := by decide +kernel
theorem d_ED_takeOutFirstDifference_45 : decode prog_1_method_32_code 45 = .ok (.aload_n 0, 1) := by decide +kernel
theorem d_ED_takeOutFirstDifference_46 : decode prog_1_method_32_code 46 = .ok (.getfield 79, 3) := by decide +kernel
theorem d_ED_takeOutFirstDifference_49 : decode prog_1_method_32_code 49 = .ok (.iconst 0, 1) := by decide +kernel
theorem d_ED_takeOutFirstDifference_50 : decode prog_1_method_32_code 50 = .ok (.invokevirtual 307, 3) := by decide +kernel
theorem d_ED_takeOutFirstDifference_53 : decode prog_1_method_32_code 53 = .ok (.aload_n 0, 1) := by decide +kernel
theorem d_ED_takeOutFirstDifference_54 : decode prog_1_method_32_code 54 = .ok (.getfield 69, 3) := by decide +kernel
theorem d_ED_takeOutFirstDifference_57 : decode prog_1_method_32_code 57 = .ok (.iload_n 2, 1) := by decide +kernel
theorem d_ED_takeOutFirstDifference_58 : decode prog_1_method_32_code 58 = .ok (.aload_n 0, 1) := by decide +kernel
theorem d_ED_takeOutFirstDifference_59 : decode prog_1_method_32_code 59 = .ok (.getfield 79, 3) := by decide +kernel
theorem d_ED_takeOutFirstDifference_62 : decode prog_1_method_32_code 62 = .ok (.iconst 3, 1) := by decide +kernel
theorem d_ED_takeOutFirstDifference_63 : decode prog_1_method_32_code 63 = .ok (.invokevirtual 307, 3) := by decide +kernel
theorem d_ED_takeOutFirstDifference_66 : decode prog_1_method_32_code 66 = .ok (.iconst 1, 1) := by decide +kernel
theorem d_ED_takeOutFirstDifference_67 : decode prog_1_method_32_code 67 = .ok (.ireturn, 1) := by decide +kernel
theorem d_ED_takeOutFirstDifference_68 : decode prog_1_method_32_code 68 = .ok (.iinc 2 1, 3) := by decide +kernel
theorem d_ED_takeOutFirstDifference_71 : decode prog_1_method_32_code 71 = .ok (.goto (-51), 3) := by decide +kernel
theorem d_ED_takeOutFirstDifference_74 : decode prog_1_method_32_code 74 = .ok (.iconst 0, 1) := by decide +kernel
theorem d_ED_takeOutFirstDifference_75 : decode prog_1_method_32_code 75 = .ok (.ireturn, 1) := by decide +kernel
theorem d_Bu_startWith_0 : decode prog_2_method_2_code 0 = .ok (.aload_n 0, 1) := by decide +kernel
theorem d_Bu_startWith_1 : decode prog_2_method_2_code 1 = .ok (.iload_n 1, 1) := by decide +kernel
theorem d_Bu_startWith_2 : decode prog_2_method_2_code 2 = .ok (.putfield 15, 3) := by decide +kernel
theorem d_Bu_startWith_5 : decode prog_2_method_2_code 5 = .ok (.return_, 1) := by decide +kernel
theorem d_Bu_append_0 : decode prog_2_method_3_code 0 = .ok (.aload_n 0, 1) := by decide +kernel
theorem d_Bu_append_1 : decode prog_2_method_3_code 1 = .ok (.aload_n 0, 1) := by decide +kernel
theorem d_Bu_append_2 : decode prog_2_method_3_code 2 = .ok (.getfield 15, 3) := by decide +kernel
theorem d_Bu_append_5 : decode prog_2_method_3_code 5 = .ok (.iload_n 1, 1) := by decide +kernel
theorem d_Bu_append_6 : decode prog_2_method_3_code 6 = .ok (.invokevirtual 19, 3) := by decide +kernel
theorem d_Bu_append_9 : decode prog_2_method_3_code 9 = .ok (.pop, 1) := by decide +kernel
theorem d_Bu_append_10 : decode prog_2_method_3_code 10 = .ok (.return_, 1) := by decide +kernel
theorem d_Bu_replaceOrAppend_0 : decode prog_2_method_4_code 0 = .ok (.iload_n 1, 1) := by decide +kernel
theorem d_Bu_replaceOrAppend_1 : decode prog_2_method_4_code 1 = .ok (.ifCond .lt 17, 3) := by decide +kernel
theorem d_Bu_replaceOrAppend_4 : decode prog_2_method_4_code 4 = .ok (.iload_n 1, 1) := by decide +kernel
theorem d_Bu_replaceOrAppend_5 : decode prog_2_method_4_code 5 = .ok (.aload_n 0, 1) := by decide +kernel
theorem d_Bu_replaceOrAppend_6 : decode prog_2_method_4_code 6 = .ok (.getfield 15, 3) := by decide +kernel
theorem d_Bu_replaceOrAppend_9 : decode prog_2_method_4_code 9 = .ok (.if_icmp .gt 9, 3) := by decide +kernel
theorem d_Bu_replaceOrAppend_12 : decode prog_2_method_4_code 12 = .ok (.iload_n 1, 1) := by decide +kernel
theorem d_Bu_replaceOrAppend_13 : decode prog_2_method_4_code 13 = .ok (.bipush 30, 2) := by decide +kernel
theorem d_Bu_replaceOrAppend_15 : decode prog_2_method_4_code 15 = .ok (.if_icmp .lt 5, 3) := by decide +kernel
theorem d_Bu_replaceOrAppend_18 : decode prog_2_method_4_code 18 = .ok (.iconst 0, 1) := by decide +kernel
theorem d_Bu_replaceOrAppend_19 : decode prog_2_method_4_code 19 = .ok (.ireturn, 1) := by decide +kernel
theorem d_Bu_replaceOrAppend_20 : decode prog_2_method_4_code 20 = .ok (.aload_n 0, 1) := by decide +kernel
theorem d_Bu_replaceOrAppend_21 : decode prog_2_method_4_code 21 = .ok (.getfield 9, 3) := by decide +kernel
theorem d_Bu_replaceOrAppend_24 : decode prog_2_method_4_code 24 = .ok (.iload_n 1, 1) := by decide +kernel
theorem d_Bu_replaceOrAppend_25 : decode prog_2_method_4_code 25 = .ok (.iload_n 2, 1) := by decide +kernel
theorem d_Bu_replaceOrAppend_26 : decode prog_2_method_4_code 26 = .ok (.iastore, 1) := by decide +kernel
theorem d_Bu_replaceOrAppend_27 : decode prog_2_method_4_code 27 = .ok (.aload_n 0, 1) := by decide +kernel
theorem d_Bu_replaceOrAppend_28 : decode prog_2_method_4_code 28 = .ok (.aload_n 0, 1) := by decide +kernel
theorem d_Bu_replaceOrAppend_29 : decode prog_2_method_4_code 29 = .ok (.getfield 15, 3) := by decide +kernel
theorem d_Bu_replaceOrAppend_32 : decode prog_2_method_4_code 32 = .ok (.iload_n 1, 1) := by decide +kernel
theorem d_Bu_replaceOrAppend_33 : decode prog_2_method_4_code 33 = .ok (.iconst 1, 1) := by decide +kernel
theorem d_Bu_replaceOrAppend_34 : decode prog_2_method_4_code 34 = .ok (.iadd, 1) := by decide +kernel
theorem d_Bu_replaceOrAppend_35 : decode prog_2_method_4_code 35 = .ok (.invokestatic 23, 3) := by decide +kernel
theorem d_Bu_replaceOrAppend_38 : decode prog_2_method_4_code 38 = .ok (.putfield 15, 3) := by decide +kernel
theorem d_Bu_replaceOrAppend_41 : decode prog_2_method_4_code 41 = .ok (.iconst 1, 1) := by decide +kernel
theorem d_Bu_replaceOrAppend_42 : decode prog_2_method_4_code 42 = .ok (.ireturn, 1) := by decide +kernel
theorem d_Dg_digest_0 : decode prog_3_method_2_code 0 = .ok (.iload_n 1, 1) := by decide +kernel
theorem d_Dg_digest_1 : decode prog_3_method_2_code 1 = .ok (.ldc 22, 2) := by decide +kernel
theorem d_Dg_digest_3 : decode prog_3_method_2_code 3 = .ok (.imul, 1) := by decide +kernel
theorem d_Dg_digest_4 : decode prog_3_method_2_code 4 = .ok (.iload_n 2, 1) := by decide +kernel
theorem d_Dg_digest_5 : decode prog_3_method_2_code 5 = .ok (.iadd, 1) := by decide +kernel
theorem d_Dg_digest_6 : decode prog_3_method_2_code 6 = .ok (.istore 4, 2) := by decide +kernel
theorem d_Dg_digest_8 : decode prog_3_method_2_code 8 = .ok (.iload 4, 2) := by decide +kernel
theorem d_Dg_digest_10 : decode prog_3_method_2_code 10 = .ok (.iload 4, 2) := by decide +kernel
theorem d_Dg_digest_12 : decode prog_3_method_2_code 12 = .ok (.bipush 16, 2) := by decide +kernel
theorem d_Dg_digest_14 : decode prog_3_method_2_code 14 = .ok (.iushr, 1) := by decide +kernel
theorem d_Dg_digest_15 : decode prog_3_method_2_code 15 = .ok (.ixor, 1) := by decide +kernel
theorem d_Dg_digest_16 : decode prog_3_method_2_code 16 = .ok (.ldc 22, 2) := by decide +kernel
theorem d_Dg_digest_18 : decode prog_3_method_2_code 18 = .ok (.imul, 1) := by decide +kernel
theorem d_Dg_digest_19 : decode prog_3_method_2_code 19 = .ok (.iload_n 3, 1) := by decide +kernel
theorem d_Dg_digest_20 : decode prog_3_method_2_code 20 = .ok (.iadd, 1) := by decide +kernel
theorem d_Dg_digest_21 : decode prog_3_method_2_code 21 = .ok (.istore 4, 2) := by decide +kernel
theorem d_Dg_digest_23 : decode prog_3_method_2_code 23 = .ok (.iload 4, 2) := by decide +kernel
theorem d_Dg_digest_25 : decode prog_3_method_2_code 25 = .ok (.iload 4, 2) := by decide +kernel
theorem d_Dg_digest_27 : decode prog_3_method_2_code 27 = .ok (.bipush 16, 2) := by decide +kernel
theorem d_Dg_digest_29 : decode prog_3_method_2_code 29 = .ok (.iushr, 1) := by decide +kernel
theorem d_Dg_digest_30 : decode prog_3_method_2_code 30 = .ok (.ixor, 1) := by decide +kernel
theorem d_Dg_digest_31 : decode prog_3_method_2_code 31 = .ok (.ldc 22, 2) := by decide +kernel
theorem d_Dg_digest_33 : decode prog_3_method_2_code 33 = .ok (.imul, 1) := by decide +kernel
theorem d_Dg_digest_34 : decode prog_3_method_2_code 34 = .ok (.istore 4, 2) := by decide +kernel
theorem d_Dg_digest_36 : decode prog_3_method_2_code 36 = .ok (.iload 4, 2) := by decide +kernel
theorem d_Dg_digest_38 : decode prog_3_method_2_code 38 = .ok (.iload 4, 2) := by decide +kernel
theorem d_Dg_digest_40 : decode prog_3_method_2_code 40 = .ok (.bipush 16, 2) := by decide +kernel
theorem d_Dg_digest_42 : decode prog_3_method_2_code 42 = .ok (.iushr, 1) := by decide +kernel
theorem d_Dg_digest_43 : decode prog_3_method_2_code 43 = .ok (.ixor, 1) := by decide +kernel
theorem d_Dg_digest_44 : decode prog_3_method_2_code 44 = .ok (.istore 4, 2) := by decide +kernel
theorem d_Dg_digest_46 : decode prog_3_method_2_code 46 = .ok (.iload 4, 2) := by decide +kernel
theorem d_Dg_digest_48 : decode prog_3_method_2_code 48 = .ok (.aload_n 0, 1) := by decide +kernel
theorem d_Dg_digest_49 : decode prog_3_method_2_code 49 = .ok (.getfield 18, 3) := by decide +kernel
theorem d_Dg_digest_52 : decode prog_3_method_2_code 52 = .ok (.iushr, 1) := by decide +kernel
theorem d_Dg_digest_53 : decode prog_3_method_2_code 53 = .ok (.istore 5, 2) := by decide +kernel
theorem d_Dg_digest_55 : decode prog_3_method_2_code 55 = .ok (.iload 5, 2) := by decide +kernel
theorem d_Dg_digest_57 : decode prog_3_method_2_code 57 = .ok (.ifCond .ne 7, 3) := by decide +kernel
theorem d_Dg_digest_60 : decode prog_3_method_2_code 60 = .ok (.iconst 1, 1) := by decide +kernel
theorem d_Dg_digest_61 : decode prog_3_method_2_code 61 = .ok (.goto 5, 3) := by decide +kernel
theorem d_Dg_digest_64 : decode prog_3_method_2_code 64 = .ok (.iload 5, 2) := by decide +kernel
theorem d_Dg_digest_66 : decode prog_3_method_2_code 66 = .ok (.ireturn, 1) := by decide +kernel
theorem d_Hi_isClosed_0 : decode prog_4_method_2_code 0 = .ok (.iload_n 1, 1) := by decide +kernel
theorem d_Hi_isClosed_1 : decode prog_4_method_2_code 1 = .ok (.ifCond .lt 15, 3) := by decide +kernel
theorem d_Hi_isClosed_4 : decode prog_4_method_2_code 4 = .ok (.iload_n 1, 1) := by decide +kernel
theorem d_Hi_isClosed_5 : decode prog_4_method_2_code 5 = .ok (.aload_n 0, 1) := by decide +kernel
theorem d_Hi_isClosed_6 : decode prog_4_method_2_code 6 = .ok (.getfield 31, 3) := by decide +kernel
theorem d_Hi_isClosed_9 : decode prog_4_method_2_code 9 = .ok (.if_icmp .ge 7, 3) := by decide +kernel
theorem d_Hi_isClosed_12 : decode prog_4_method_2_code 12 = .ok (.iconst 1, 1) := by decide +kernel
theorem d_Hi_isClosed_13 : decode prog_4_method_2_code 13 = .ok (.goto 4, 3) := by decide +kernel
theorem d_Hi_isClosed_16 : decode prog_4_method_2_code 16 = .ok (.iconst 0, 1) := by decide +kernel
theorem d_Hi_isClosed_17 : decode prog_4_method_2_code 17 = .ok (.ireturn, 1) := by decide +kernel
theorem d_Hi_add_0 : decode prog_4_method_3_code 0 = .ok (.aload_n 0, 1) := by decide +kernel
theorem d_Hi_add_1 : decode prog_4_method_3_code 1 = .ok (.getfield 31, 3) := by decide +kernel
theorem d_Hi_add_4 : decode prog_4_method_3_code 4 = .ok (.bipush 40, 2) := by decide +kernel
theorem d_Hi_add_6 : decode prog_4_method_3_code 6 = .ok (.if_icmp .lt 4, 3) := by decide +kernel
theorem d_Hi_add_9 : decode prog_4_method_3_code 9 = .ok (.return_, 1) := by decide +kernel
theorem d_Hi_add_10 : decode prog_4_method_3_code 10 = .ok (.aload_n 0, 1) := by decide +kernel
theorem d_Hi_add_11 : decode prog_4_method_3_code 11 = .ok (.getfield 9, 3) := by decide +kernel
theorem d_Hi_add_14 : decode prog_4_method_3_code 14 = .ok (.aload_n 0, 1) := by decide +kernel
theorem d_Hi_add_15 : decode prog_4_method_3_code 15 = .ok (.getfield 31, 3) := by decide +kernel
theorem d_Hi_add_18 : decode prog_4_method_3_code 18 = .ok (.iload_n 1, 1) := by decide +kernel
theorem d_Hi_add_19 : decode prog_4_method_3_code 19 = .ok (.iastore, 1) := by decide +kernel
theorem d_Hi_add_20 : decode prog_4_method_3_code 20 = .ok (.aload_n 0, 1) := by decide +kernel
theorem d_Hi_add_21 : decode prog_4_method_3_code 21 = .ok (.getfield 15, 3) := by decide +kernel
theorem d_Hi_add_24 : decode prog_4_method_3_code 24 = .ok (.aload_n 0, 1) := by decide +kernel
theorem d_Hi_add_25 : decode prog_4_method_3_code 25 = .ok (.getfield 31, 3) := by decide +kernel
theorem d_Hi_add_28 : decode prog_4_method_3_code 28 = .ok (.iload_n 2, 1) := by decide +kernel
theorem d_Hi_add_29 : decode prog_4_method_3_code 29 = .ok (.iastore, 1) := by decide +kernel
theorem d_Hi_add_30 : decode prog_4_method_3_code 30 = .ok (.aload_n 0, 1) := by decide +kernel
theorem d_Hi_add_31 : decode prog_4_method_3_code 31 = .ok (.getfield 18, 3) := by decide +kernel
theorem d_Hi_add_34 : decode prog_4_method_3_code 34 = .ok (.aload_n 0, 1) := by decide +kernel
theorem d_Hi_add_35 : decode prog_4_method_3_code 35 = .ok (.getfield 31, 3) := by decide +kernel
theorem d_Hi_add_38 : decode prog_4_method_3_code 38 = .ok (.aload_n 0, 1) := by decide +kernel
theorem d_Hi_add_39 : decode prog_4_method_3_code 39 = .ok (.getfield 27, 3) := by decide +kernel
theorem d_Hi_add_42 : decode prog_4_method_3_code 42 = .ok (.iconst 3, 1) := by decide +kernel
theorem d_Hi_add_43 : decode prog_4_method_3_code 43 = .ok (.iload_n 2, 1) := by decide +kernel
theorem d_Hi_add_44 : decode prog_4_method_3_code 44 = .ok (.aload_n 0, 1) := by decide +kernel
theorem d_Hi_add_45 : decode prog_4_method_3_code 45 = .ok (.getfield 31, 3) := by decide +kernel
theorem d_Hi_add_48 : decode prog_4_method_3_code 48 = .ok (.invokevirtual 35, 3) := by decide +kernel
theorem d_Hi_add_51 : decode prog_4_method_3_code 51 = .ok (.iastore, 1) := by decide +kernel
theorem d_Hi_add_52 : decode prog_4_method_3_code 52 = .ok (.aload_n 0, 1) := by decide +kernel
theorem d_Hi_add_53 : decode prog_4_method_3_code 53 = .ok (.getfield 21, 3) := by decide +kernel
theorem d_Hi_add_56 : decode prog_4_method_3_code 56 = .ok (.aload_n 0, 1) := by decide +kernel
theorem d_Hi_add_57 : decode prog_4_method_3_code 57 = .ok (.getfield 31, 3) := by decide +kernel
theorem d_Hi_add_60 : decode prog_4_method_3_code 60 = .ok (.aload_n 0, 1) := by decide +kernel
theorem d_Hi_add_61 : decode prog_4_method_3_code 61 = .ok (.iconst 0, 1) := by decide +kernel
theorem d_Hi_add_62 : decode prog_4_method_3_code 62 = .ok (.aload_n 0, 1) := by decide +kernel
theorem d_Hi_add_63 : decode prog_4_method_3_code 63 = .ok (.getfield 31, 3) := by decide +kernel
theorem d_Hi_add_66 : decode prog_4_method_3_code 66 = .ok (.iconst 1, 1) := by decide +kernel
theorem d_Hi_add_67 : decode prog_4_method_3_code 67 = .ok (.iadd, 1) := by decide +kernel
theorem d_Hi_add_68 : decode prog_4_method_3_code 68 = .ok (.invokevirtual 41, 3) := by decide +kernel
theorem d_Hi_add_71 : decode prog_4_method_3_code 71 = .ok (.iastore, 1) := by decide +kernel
theorem d_Hi_add_72 : decode prog_4_method_3_code 72 = .ok (.aload_n 0, 1) := by decide +kernel
theorem d_Hi_add_73 : decode prog_4_method_3_code 73 = .ok (.dup, 1) := by decide +kernel
theorem d_Hi_add_74 : decode prog_4_method_3_code 74 = .ok (.getfield 31, 3) := by decide +kernel
theorem d_Hi_add_77 : decode prog_4_method_3_code 77 = .ok (.iconst 1, 1) := by decide +kernel
theorem d_Hi_add_78 : decode prog_4_method_3_code 78 = .ok (.iadd, 1) := by decide +kernel
theorem d_Hi_add_79 : decode prog_4_method_3_code 79 = .ok (.putfield 31, 3) := by decide +kernel
theorem d_Hi_add_82 : decode prog_4_method_3_code 82 = .ok (.return_, 1) := by decide +kernel
theorem d_Hi_rowDigest_0 : decode prog_4_method_4_code 0 = .ok (.iload_n 2, 1) := by decide +kernel
theorem d_Hi_rowDigest_1 : decode prog_4_method_4_code 1 = .ok (.iload_n 1, 1) := by decide +kernel
theorem d_Hi_rowDigest_2 : decode prog_4_method_4_code 2 = .ok (.isub, 1) := by decide +kernel
theorem d_Hi_rowDigest_3 : decode prog_4_method_4_code 3 = .ok (.istore_n 3, 1) := by decide +kernel
theorem d_Hi_rowDigest_4 : decode prog_4_method_4_code 4 = .ok (.iconst 0, 1) := by decide +kernel
theorem d_Hi_rowDigest_5 : decode prog_4_method_4_code 5 = .ok (.istore 4, 2) := by decide +kernel
theorem d_Hi_rowDigest_7 : decode prog_4_method_4_code 7 = .ok (.iload 4, 2) := by decide +kernel
theorem d_Hi_rowDigest_9 : decode prog_4_method_4_code 9 = .ok (.iload_n 3, 1) := by decide +kernel
theorem d_Hi_rowDigest_10 : decode prog_4_method_4_code 10 = .ok (.if_icmp .ge 25, 3) := by decide +kernel
theorem d_Hi_rowDigest_13 : decode prog_4_method_4_code 13 = .ok (.aload_n 0, 1) := by decide +kernel
theorem d_Hi_rowDigest_14 : decode prog_4_method_4_code 14 = .ok (.getfield 24, 3) := by decide +kernel
theorem d_Hi_rowDigest_17 : decode prog_4_method_4_code 17 = .ok (.iload 4, 2) := by decide +kernel
theorem d_Hi_rowDigest_19 : decode prog_4_method_4_code 19 = .ok (.aload_n 0, 1) := by decide +kernel
theorem d_Hi_rowDigest_20 : decode prog_4_method_4_code 20 = .ok (.getfield 18, 3) := by decide +kernel
theorem d_Hi_rowDigest_23 : decode prog_4_method_4_code 23 = .ok (.iload_n 1, 1) := by decide +kernel
theorem d_Hi_rowDigest_24 : decode prog_4_method_4_code 24 = .ok (.iload 4, 2) := by decide +kernel
theorem d_Hi_rowDigest_26 : decode prog_4_method_4_code 26 = .ok (.iadd, 1) := by decide +kernel
theorem d_Hi_rowDigest_27 : decode prog_4_method_4_code 27 = .ok (.iaload, 1) := by decide +kernel
theorem d_Hi_rowDigest_28 : decode prog_4_method_4_code 28 = .ok (.iastore, 1) := by decide +kernel
theorem d_Hi_rowDigest_29 : decode prog_4_method_4_code 29 = .ok (.iinc 4 1, 3) := by decide +kernel
theorem d_Hi_rowDigest_32 : decode prog_4_method_4_code 32 = .ok (.goto (-25), 3) := by decide +kernel
theorem d_Hi_rowDigest_35 : decode prog_4_method_4_code 35 = .ok (.iload_n 3, 1) := by decide +kernel
theorem d_Hi_rowDigest_36 : decode prog_4_method_4_code 36 = .ok (.iconst 1, 1) := by decide +kernel
theorem d_Hi_rowDigest_37 : decode prog_4_method_4_code 37 = .ok (.if_icmp .le 89, 3) := by decide +kernel
theorem d_Hi_rowDigest_40 : decode prog_4_method_4_code 40 = .ok (.iload_n 3, 1) := by decide +kernel
theorem d_Hi_rowDigest_41 : decode prog_4_method_4_code 41 = .ok (.iconst 2, 1) := by decide +kernel
theorem d_Hi_rowDigest_42 : decode prog_4_method_4_code 42 = .ok (.idiv, 1) := by decide +kernel
theorem d_Hi_rowDigest_43 : decode prog_4_method_4_code 43 = .ok (.istore 4, 2) := by decide +kernel
theorem d_Hi_rowDigest_45 : decode prog_4_method_4_code 45 = .ok (.iconst 0, 1) := by decide +kernel
theorem d_Hi_rowDigest_46 : decode prog_4_method_4_code 46 = .ok (.istore 5, 2) := by decide +kernel
theorem d_Hi_rowDigest_48 : decode prog_4_method_4_code 48 = .ok (.iload 5, 2) := by decide +kernel
theorem d_Hi_rowDigest_50 : decode prog_4_method_4_code 50 = .ok (.iload 4, 2) := by decide +kernel
theorem d_Hi_rowDigest_52 : decode prog_4_method_4_code 52 = .ok (.if_icmp .ge 44, 3) := by decide +kernel
theorem d_Hi_rowDigest_55 : decode prog_4_method_4_code 55 = .ok (.aload_n 0, 1) := by decide +kernel
theorem d_Hi_rowDigest_56 : decode prog_4_method_4_code 56 = .ok (.getfield 24, 3) := by decide +kernel
theorem d_Hi_rowDigest_59 : decode prog_4_method_4_code 59 = .ok (.iload 5, 2) := by decide +kernel
theorem d_Hi_rowDigest_61 : decode prog_4_method_4_code 61 = .ok (.aload_n 0, 1) := by decide +kernel
theorem d_Hi_rowDigest_62 : decode prog_4_method_4_code 62 = .ok (.getfield 27, 3) := by decide +kernel
theorem d_Hi_rowDigest_65 : decode prog_4_method_4_code 65 = .ok (.iconst 4, 1) := by decide +kernel
theorem d_Hi_rowDigest_66 : decode prog_4_method_4_code 66 = .ok (.aload_n 0, 1) := by decide +kernel
theorem d_Hi_rowDigest_67 : decode prog_4_method_4_code 67 = .ok (.getfield 24, 3) := by decide +kernel
theorem d_Hi_rowDigest_70 : decode prog_4_method_4_code 70 = .ok (.iconst 2, 1) := by decide +kernel
theorem d_Hi_rowDigest_71 : decode prog_4_method_4_code 71 = .ok (.iload 5, 2) := by decide +kernel
theorem d_Hi_rowDigest_73 : decode prog_4_method_4_code 73 = .ok (.imul, 1) := by decide +kernel
theorem d_Hi_rowDigest_74 : decode prog_4_method_4_code 74 = .ok (.iaload, 1) := by decide +kernel
theorem d_Hi_rowDigest_75 : decode prog_4_method_4_code 75 = .ok (.aload_n 0, 1) := by decide +kernel
theorem d_Hi_rowDigest_76 : decode prog_4_method_4_code 76 = .ok (.getfield 24, 3) := by decide +kernel
theorem d_Hi_rowDigest_79 : decode prog_4_method_4_code 79 = .ok (.iconst 2, 1) := by decide +kernel
theorem d_Hi_rowDigest_80 : decode prog_4_method_4_code 80 = .ok (.iload 5, 2) := by decide +kernel
theorem d_Hi_rowDigest_82 : decode prog_4_method_4_code 82 = .ok (.imul, 1) := by decide +kernel
theorem d_Hi_rowDigest_83 : decode prog_4_method_4_code 83 = .ok (.iconst 1, 1) := by decide +kernel
theorem d_Hi_rowDigest_84 : decode prog_4_method_4_code 84 = .ok (.iadd, 1) := by decide +kernel
theorem d_Hi_rowDigest_85 : decode prog_4_method_4_code 85 = .ok (.iaload, 1) := by decide +kernel
theorem d_Hi_rowDigest_86 : decode prog_4_method_4_code 86 = .ok (.invokevirtual 35, 3) := by decide +kernel
theorem d_Hi_rowDigest_89 : decode prog_4_method_4_code 89 = .ok (.iastore, 1) := by decide +kernel
theorem d_Hi_rowDigest_90 : decode prog_4_method_4_code 90 = .ok (.iinc 5 1, 3) := by decide +kernel
theorem d_Hi_rowDigest_93 : decode prog_4_method_4_code 93 = .ok (.goto (-45), 3) := by decide +kernel
theorem d_Hi_rowDigest_96 : decode prog_4_method_4_code 96 = .ok (.iload_n 3, 1) := by decide +kernel
theorem d_Hi_rowDigest_97 : decode prog_4_method_4_code 97 = .ok (.iconst 2, 1) := by decide +kernel
theorem d_Hi_rowDigest_98 : decode prog_4_method_4_code 98 = .ok (.irem, 1) := by decide +kernel
theorem d_Hi_rowDigest_99 : decode prog_4_method_4_code 99 = .ok (.iconst 1, 1) := by decide +kernel
theorem d_Hi_rowDigest_100 : decode prog_4_method_4_code 100 = .ok (.if_icmp .ne 18, 3) := by decide +kernel
theorem d_Hi_rowDigest_103 : decode prog_4_method_4_code 103 = .ok (.aload_n 0, 1) := by decide +kernel
theorem d_Hi_rowDigest_104 : decode prog_4_method_4_code 104 = .ok (.getfield 24, 3) := by decide +kernel
theorem d_Hi_rowDigest_107 : decode prog_4_method_4_code 107 = .ok (.iload 4, 2) := by decide +kernel
theorem d_Hi_rowDigest_109 : decode prog_4_method_4_code 109 = .ok (.aload_n 0, 1) := by decide +kernel
theorem d_Hi_rowDigest_110 : decode prog_4_method_4_code 110 = .ok (.getfield 24, 3) := by decide +kernel
theorem d_Hi_rowDigest_113 : decode prog_4_method_4_code 113 = .ok (.iload_n 3, 1) := by decide +kernel
theorem d_Hi_rowDigest_114 : decode prog_4_method_4_code 114 = .ok (.iconst 1, 1) := by decide +kernel
theorem d_Hi_rowDigest_115 : decode prog_4_method_4_code 115 = .ok (.isub, 1) := by decide +kernel
theorem d_Hi_rowDigest_116 : decode prog_4_method_4_code 116 = .ok (.iaload, 1) := by decide +kernel
theorem d_Hi_rowDigest_117 : decode prog_4_method_4_code 117 = .ok (.iastore, 1) := by decide +kernel
theorem d_Hi_rowDigest_118 : decode prog_4_method_4_code 118 = .ok (.iload_n 3, 1) := by decide +kernel
theorem d_Hi_rowDigest_119 : decode prog_4_method_4_code 119 = .ok (.iload 4, 2) := by decide +kernel
theorem d_Hi_rowDigest_121 : decode prog_4_method_4_code 121 = .ok (.isub, 1) := by decide +kernel
theorem d_Hi_rowDigest_122 : decode prog_4_method_4_code 122 = .ok (.istore_n 3, 1) := by decide +kernel
theorem d_Hi_rowDigest_123 : decode prog_4_method_4_code 123 = .ok (.goto (-88), 3) := by decide +kernel
theorem d_Hi_rowDigest_126 : decode prog_4_method_4_code 126 = .ok (.aload_n 0, 1) := by decide +kernel
theorem d_Hi_rowDigest_127 : decode prog_4_method_4_code 127 = .ok (.getfield 24, 3) := by decide +kernel
theorem d_Hi_rowDigest_130 : decode prog_4_method_4_code 130 = .ok (.iconst 0, 1) := by decide +kernel
theorem d_Hi_rowDigest_131 : decode prog_4_method_4_code 131 = .ok (.iaload, 1) := by decide +kernel
theorem d_Hi_rowDigest_132 : decode prog_4_method_4_code 132 = .ok (.ireturn, 1) := by decide +kernel
theorem d_HC_acceptsInclusion_0 : decode prog_5_method_2_code 0 = .ok (.iload_n 2, 1) := by decide +kernel
theorem d_HC_acceptsInclusion_1 : decode prog_5_method_2_code 1 = .ok (.iload_n 3, 1) := by decide +kernel
theorem d_HC_acceptsInclusion_2 : decode prog_5_method_2_code 2 = .ok (.invokestatic 22, 3) := by decide +kernel
theorem d_HC_acceptsInclusion_5 : decode prog_5_method_2_code 5 = .ok (.ifCond .ne 5, 3) := by decide +kernel
theorem d_HC_acceptsInclusion_8 : decode prog_5_method_2_code 8 = .ok (.iconst 0, 1) := by decide +kernel
theorem d_HC_acceptsInclusion_9 : decode prog_5_method_2_code 9 = .ok (.ireturn, 1) := by decide +kernel
theorem d_HC_acceptsInclusion_10 : decode prog_5_method_2_code 10 = .ok (.aload_n 0, 1) := by decide +kernel
theorem d_HC_acceptsInclusion_11 : decode prog_5_method_2_code 11 = .ok (.getfield 12, 3) := by decide +kernel
theorem d_HC_acceptsInclusion_14 : decode prog_5_method_2_code 14 = .ok (.iload_n 2, 1) := by decide +kernel
theorem d_HC_acceptsInclusion_15 : decode prog_5_method_2_code 15 = .ok (.iload_n 3, 1) := by decide +kernel
theorem d_HC_acceptsInclusion_16 : decode prog_5_method_2_code 16 = .ok (.iconst 1, 1) := by decide +kernel
theorem d_HC_acceptsInclusion_17 : decode prog_5_method_2_code 17 = .ok (.invokevirtual 26, 3) := by decide +kernel
theorem d_HC_acceptsInclusion_20 : decode prog_5_method_2_code 20 = .ok (.aload_n 1, 1) := by decide +kernel
theorem d_HC_acceptsInclusion_21 : decode prog_5_method_2_code 21 = .ok (.getfield 30, 3) := by decide +kernel
theorem d_HC_acceptsInclusion_24 : decode prog_5_method_2_code 24 = .ok (.aload_n 0, 1) := by decide +kernel
theorem d_HC_acceptsInclusion_25 : decode prog_5_method_2_code 25 = .ok (.getfield 12, 3) := by decide +kernel
theorem d_HC_acceptsInclusion_28 : decode prog_5_method_2_code 28 = .ok (.getfield 36, 3) := by decide +kernel
theorem d_HC_acceptsInclusion_31 : decode prog_5_method_2_code 31 = .ok (.if_icmp .eq 5, 3) := by decide +kernel
theorem d_HC_acceptsInclusion_34 : decode prog_5_method_2_code 34 = .ok (.iconst 0, 1) := by decide +kernel
theorem d_HC_acceptsInclusion_35 : decode prog_5_method_2_code 35 = .ok (.ireturn, 1) := by decide +kernel
theorem d_HC_acceptsInclusion_36 : decode prog_5_method_2_code 36 = .ok (.aload_n 0, 1) := by decide +kernel
theorem d_HC_acceptsInclusion_37 : decode prog_5_method_2_code 37 = .ok (.getfield 18, 3) := by decide +kernel
theorem d_HC_acceptsInclusion_40 : decode prog_5_method_2_code 40 = .ok (.iconst 3, 1) := by decide +kernel
theorem d_HC_acceptsInclusion_41 : decode prog_5_method_2_code 41 = .ok (.iload 4, 2) := by decide +kernel
theorem d_HC_acceptsInclusion_43 : decode prog_5_method_2_code 43 = .ok (.iload_n 2, 1) := by decide +kernel
theorem d_HC_acceptsInclusion_44 : decode prog_5_method_2_code 44 = .ok (.invokevirtual 39, 3) := by decide +kernel
theorem d_HC_acceptsInclusion_47 : decode prog_5_method_2_code 47 = .ok (.istore 6, 2) := by decide +kernel
theorem d_HC_acceptsInclusion_49 : decode prog_5_method_2_code 49 = .ok (.iconst 0, 1) := by decide +kernel
theorem d_HC_acceptsInclusion_50 : decode prog_5_method_2_code 50 = .ok (.istore 7, 2) := by decide +kernel
theorem d_HC_acceptsInclusion_52 : decode prog_5_method_2_code 52 = .ok (.iload 7, 2) := by decide +kernel
theorem d_HC_acceptsInclusion_54 : decode prog_5_method_2_code 54 = .ok (.aload_n 0, 1) := by decide +kernel
theorem d_HC_acceptsInclusion_55 : decode prog_5_method_2_code 55 = .ok (.getfield 12, 3) := by decide +kernel
theorem d_HC_acceptsInclusion_58 : decode prog_5_method_2_code 58 = .ok (.getfield 36, 3) := by decide +kernel
theorem d_HC_acceptsInclusion_61 : decode prog_5_method_2_code 61 = .ok (.if_icmp .ge 36, 3) := by decide +kernel
theorem d_HC_acceptsInclusion_64 : decode prog_5_method_2_code 64 = .ok (.aload_n 0, 1) := by decide +kernel
theorem d_HC_acceptsInclusion_65 : decode prog_5_method_2_code 65 = .ok (.iload 6, 2) := by decide +kernel
theorem d_HC_acceptsInclusion_67 : decode prog_5_method_2_code 67 = .ok (.aload_n 1, 1) := by decide +kernel
theorem d_HC_acceptsInclusion_68 : decode prog_5_method_2_code 68 = .ok (.getfield 45, 3) := by decide +kernel
theorem d_HC_acceptsInclusion_71 : decode prog_5_method_2_code 71 = .ok (.iload 7, 2) := by decide +kernel
theorem d_HC_acceptsInclusion_73 : decode prog_5_method_2_code 73 = .ok (.iaload, 1) := by decide +kernel
theorem d_HC_acceptsInclusion_74 : decode prog_5_method_2_code 74 = .ok (.aload_n 0, 1) := by decide +kernel
theorem d_HC_acceptsInclusion_75 : decode prog_5_method_2_code 75 = .ok (.getfield 12, 3) := by decide +kernel
theorem d_HC_acceptsInclusion_78 : decode prog_5_method_2_code 78 = .ok (.getfield 36, 3) := by decide +kernel
theorem d_HC_acceptsInclusion_81 : decode prog_5_method_2_code 81 = .ok (.iconst 1, 1) := by decide +kernel
theorem d_HC_acceptsInclusion_82 : decode prog_5_method_2_code 82 = .ok (.isub, 1) := by decide +kernel
theorem d_HC_acceptsInclusion_83 : decode prog_5_method_2_code 83 = .ok (.iload 7, 2) := by decide +kernel
theorem d_HC_acceptsInclusion_85 : decode prog_5_method_2_code 85 = .ok (.isub, 1) := by decide +kernel
theorem d_HC_acceptsInclusion_86 : decode prog_5_method_2_code 86 = .ok (.invokevirtual 49, 3) := by decide +kernel
theorem d_HC_acceptsInclusion_89 : decode prog_5_method_2_code 89 = .ok (.istore 6, 2) := by decide +kernel
theorem d_HC_acceptsInclusion_91 : decode prog_5_method_2_code 91 = .ok (.iinc 7 1, 3) := by decide +kernel
theorem d_HC_acceptsInclusion_94 : decode prog_5_method_2_code 94 = .ok (.goto (-42), 3) := by decide +kernel
theorem d_HC_acceptsInclusion_97 : decode prog_5_method_2_code 97 = .ok (.iload 6, 2) := by decide +kernel
theorem d_HC_acceptsInclusion_99 : decode prog_5_method_2_code 99 = .ok (.iload 5, 2) := by decide +kernel
theorem d_HC_acceptsInclusion_101 : decode prog_5_method_2_code 101 = .ok (.if_icmp .ne 7, 3) := by decide +kernel
theorem d_HC_acceptsInclusion_104 : decode prog_5_method_2_code 104 = .ok (.iconst 1, 1) := by decide +kernel
theorem d_HC_acceptsInclusion_105 : decode prog_5_method_2_code 105 = .ok (.goto 4, 3) := by decide +kernel
theorem d_HC_acceptsInclusion_108 : decode prog_5_method_2_code 108 = .ok (.iconst 0, 1) := by decide +kernel
theorem d_HC_acceptsInclusion_109 : decode prog_5_method_2_code 109 = .ok (.ireturn, 1) := by decide +kernel
theorem d_HC_acceptsConsistency_0 : decode prog_5_method_3_code 0 = .ok (.iload_n 2, 1) := by decide +kernel
theorem d_HC_acceptsConsistency_1 : decode prog_5_method_3_code 1 = .ok (.iload_n 3, 1) := by decide +kernel
theorem d_HC_acceptsConsistency_2 : decode prog_5_method_3_code 2 = .ok (.invokestatic 22, 3) := by decide +kernel
theorem d_HC_acceptsConsistency_5 : decode prog_5_method_3_code 5 = .ok (.ifCond .ne 5, 3) := by decide +kernel
theorem d_HC_acceptsConsistency_8 : decode prog_5_method_3_code 8 = .ok (.iconst 0, 1) := by decide +kernel
theorem d_HC_acceptsConsistency_9 : decode prog_5_method_3_code 9 = .ok (.ireturn, 1) := by decide +kernel
theorem d_HC_acceptsConsistency_10 : decode prog_5_method_3_code 10 = .ok (.aload_n 0, 1) := by decide +kernel
theorem d_HC_acceptsConsistency_11 : decode prog_5_method_3_code 11 = .ok (.getfield 12, 3) := by decide +kernel
theorem d_HC_acceptsConsistency_14 : decode prog_5_method_3_code 14 = .ok (.iload_n 2, 1) := by decide +kernel
theorem d_HC_acceptsConsistency_15 : decode prog_5_method_3_code 15 = .ok (.iload_n 3, 1) := by decide +kernel
theorem d_HC_acceptsConsistency_16 : decode prog_5_method_3_code 16 = .ok (.iconst 0, 1) := by decide +kernel
theorem d_HC_acceptsConsistency_17 : decode prog_5_method_3_code 17 = .ok (.invokevirtual 26, 3) := by decide +kernel
theorem d_HC_acceptsConsistency_20 : decode prog_5_method_3_code 20 = .ok (.aload_n 0, 1) := by decide +kernel
theorem d_HC_acceptsConsistency_21 : decode prog_5_method_3_code 21 = .ok (.getfield 12, 3) := by decide +kernel
theorem d_HC_acceptsConsistency_24 : decode prog_5_method_3_code 24 = .ok (.getfield 52, 3) := by decide +kernel
theorem d_HC_acceptsConsistency_27 : decode prog_5_method_3_code 27 = .ok (.ifCond .le 7, 3) := by decide +kernel
theorem d_HC_acceptsConsistency_30 : decode prog_5_method_3_code 30 = .ok (.iconst 1, 1) := by decide +kernel
theorem d_HC_acceptsConsistency_31 : decode prog_5_method_3_code 31 = .ok (.goto 4, 3) := by decide +kernel
theorem d_HC_acceptsConsistency_34 : decode prog_5_method_3_code 34 = .ok (.iconst 0, 1) := by decide +kernel
theorem d_HC_acceptsConsistency_35 : decode prog_5_method_3_code 35 = .ok (.istore 6, 2) := by decide +kernel
theorem d_HC_acceptsConsistency_37 : decode prog_5_method_3_code 37 = .ok (.aload_n 1, 1) := by decide +kernel
theorem d_HC_acceptsConsistency_38 : decode prog_5_method_3_code 38 = .ok (.getfield 30, 3) := by decide +kernel
theorem d_HC_acceptsConsistency_41 : decode prog_5_method_3_code 41 = .ok (.iload 6, 2) := by decide +kernel
theorem d_HC_acceptsConsistency_43 : decode prog_5_method_3_code 43 = .ok (.aload_n 0, 1) := by decide +kernel
theorem d_HC_acceptsConsistency_44 : decode prog_5_method_3_code 44 = .ok (.getfield 12, 3) := by decide +kernel
theorem d_HC_acceptsConsistency_47 : decode prog_5_method_3_code 47 = .ok (.getfield 36, 3) := by decide +kernel
theorem d_HC_acceptsConsistency_50 : decode prog_5_method_3_code 50 = .ok (.iadd, 1) := by decide +kernel
theorem d_HC_acceptsConsistency_51 : decode prog_5_method_3_code 51 = .ok (.if_icmp .eq 5, 3) := by decide +kernel
theorem d_HC_acceptsConsistency_54 : decode prog_5_method_3_code 54 = .ok (.iconst 0, 1) := by decide +kernel
theorem d_HC_acceptsConsistency_55 : decode prog_5_method_3_code 55 = .ok (.ireturn, 1) := by decide +kernel
theorem d_HC_acceptsConsistency_56 : decode prog_5_method_3_code 56 = .ok (.iload 6, 2) := by decide +kernel
theorem d_HC_acceptsConsistency_58 : decode prog_5_method_3_code 58 = .ok (.iconst 1, 1) := by decide +kernel
theorem d_HC_acceptsConsistency_59 : decode prog_5_method_3_code 59 = .ok (.if_icmp .ne 12, 3) := by decide +kernel
theorem d_HC_acceptsConsistency_62 : decode prog_5_method_3_code 62 = .ok (.aload_n 1, 1) := by decide +kernel
theorem d_HC_acceptsConsistency_63 : decode prog_5_method_3_code 63 = .ok (.getfield 45, 3) := by decide +kernel
theorem d_HC_acceptsConsistency_66 : decode prog_5_method_3_code 66 = .ok (.iconst 0, 1) := by decide +kernel
theorem d_HC_acceptsConsistency_67 : decode prog_5_method_3_code 67 = .ok (.iaload, 1) := by decide +kernel
theorem d_HC_acceptsConsistency_68 : decode prog_5_method_3_code 68 = .ok (.goto 5, 3) := by decide +kernel
theorem d_HC_acceptsConsistency_71 : decode prog_5_method_3_code 71 = .ok (.iload 4, 2) := by decide +kernel
theorem d_HC_acceptsConsistency_73 : decode prog_5_method_3_code 73 = .ok (.istore 7, 2) := by decide +kernel
theorem d_HC_acceptsConsistency_75 : decode prog_5_method_3_code 75 = .ok (.iload 7, 2) := by decide +kernel
theorem d_HC_acceptsConsistency_77 : decode prog_5_method_3_code 77 = .ok (.istore 8, 2) := by decide +kernel
theorem d_HC_acceptsConsistency_79 : decode prog_5_method_3_code 79 = .ok (.iconst 0, 1) := by decide +kernel
theorem d_HC_acceptsConsistency_80 : decode prog_5_method_3_code 80 = .ok (.istore 9, 2) := by decide +kernel
theorem d_HC_acceptsConsistency_82 : decode prog_5_method_3_code 82 = .ok (.iload 9, 2) := by decide +kernel
theorem d_HC_acceptsConsistency_84 : decode prog_5_method_3_code 84 = .ok (.aload_n 0, 1) := by decide +kernel
theorem d_HC_acceptsConsistency_85 : decode prog_5_method_3_code 85 = .ok (.getfield 12, 3) := by decide +kernel
theorem d_HC_acceptsConsistency_88 : decode prog_5_method_3_code 88 = .ok (.getfield 36, 3) := by decide +kernel
theorem d_HC_acceptsConsistency_91 : decode prog_5_method_3_code 91 = .ok (.if_icmp .ge 76, 3) := by decide +kernel
theorem d_HC_acceptsConsistency_94 : decode prog_5_method_3_code 94 = .ok (.aload_n 0, 1) := by decide +kernel
theorem d_HC_acceptsConsistency_95 : decode prog_5_method_3_code 95 = .ok (.getfield 12, 3) := by decide +kernel
theorem d_HC_acceptsConsistency_98 : decode prog_5_method_3_code 98 = .ok (.getfield 36, 3) := by decide +kernel
theorem d_HC_acceptsConsistency_101 : decode prog_5_method_3_code 101 = .ok (.iconst 1, 1) := by decide +kernel
theorem d_HC_acceptsConsistency_102 : decode prog_5_method_3_code 102 = .ok (.isub, 1) := by decide +kernel
theorem d_HC_acceptsConsistency_103 : decode prog_5_method_3_code 103 = .ok (.iload 9, 2) := by decide +kernel
theorem d_HC_acceptsConsistency_105 : decode prog_5_method_3_code 105 = .ok (.isub, 1) := by decide +kernel
theorem d_HC_acceptsConsistency_106 : decode prog_5_method_3_code 106 = .ok (.istore 10, 2) := by decide +kernel
theorem d_HC_acceptsConsistency_108 : decode prog_5_method_3_code 108 = .ok (.aload_n 1, 1) := by decide +kernel
theorem d_HC_acceptsConsistency_109 : decode prog_5_method_3_code 109 = .ok (.getfield 45, 3) := by decide +kernel
theorem d_HC_acceptsConsistency_112 : decode prog_5_method_3_code 112 = .ok (.iload 6, 2) := by decide +kernel
theorem d_HC_acceptsConsistency_114 : decode prog_5_method_3_code 114 = .ok (.iload 9, 2) := by decide +kernel
theorem d_HC_acceptsConsistency_116 : decode prog_5_method_3_code 116 = .ok (.iadd, 1) := by decide +kernel
theorem d_HC_acceptsConsistency_117 : decode prog_5_method_3_code 117 = .ok (.iaload, 1) := by decide +kernel
theorem d_HC_acceptsConsistency_118 : decode prog_5_method_3_code 118 = .ok (.istore 11, 2) := by decide +kernel
theorem d_HC_acceptsConsistency_120 : decode prog_5_method_3_code 120 = .ok (.aload_n 0, 1) := by decide +kernel
theorem d_HC_acceptsConsistency_121 : decode prog_5_method_3_code 121 = .ok (.iload 7, 2) := by decide +kernel
theorem d_HC_acceptsConsistency_123 : decode prog_5_method_3_code 123 = .ok (.iload 11, 2) := by decide +kernel
theorem d_HC_acceptsConsistency_125 : decode prog_5_method_3_code 125 = .ok (.iload 10, 2) := by decide +kernel
theorem d_HC_acceptsConsistency_127 : decode prog_5_method_3_code 127 = .ok (.invokevirtual 49, 3) := by decide +kernel
theorem d_HC_acceptsConsistency_130 : decode prog_5_method_3_code 130 = .ok (.istore 7, 2) := by decide +kernel
theorem d_HC_acceptsConsistency_132 : decode prog_5_method_3_code 132 = .ok (.aload_n 0, 1) := by decide +kernel
theorem d_HC_acceptsConsistency_133 : decode prog_5_method_3_code 133 = .ok (.getfield 12, 3) := by decide +kernel
theorem d_HC_acceptsConsistency_136 : decode prog_5_method_3_code 136 = .ok (.iload 10, 2) := by decide +kernel
theorem d_HC_acceptsConsistency_138 : decode prog_5_method_3_code 138 = .ok (.invokevirtual 55, 3) := by decide +kernel
theorem d_HC_acceptsConsistency_141 : decode prog_5_method_3_code 141 = .ok (.ifCond .eq 16, 3) := by decide +kernel
theorem d_HC_acceptsConsistency_144 : decode prog_5_method_3_code 144 = .ok (.aload_n 0, 1) := by decide +kernel
theorem d_HC_acceptsConsistency_145 : decode prog_5_method_3_code 145 = .ok (.iload 8, 2) := by decide +kernel
theorem d_HC_acceptsConsistency_147 : decode prog_5_method_3_code 147 = .ok (.iload 11, 2) := by decide +kernel
theorem d_HC_acceptsConsistency_149 : decode prog_5_method_3_code 149 = .ok (.iload 10, 2) := by decide +kernel
theorem d_HC_acceptsConsistency_151 : decode prog_5_method_3_code 151 = .ok (.invokevirtual 49, 3) := by decide +kernel
theorem d_HC_acceptsConsistency_154 : decode prog_5_method_3_code 154 = .ok (.goto 5, 3) := by decide +kernel
theorem d_HC_acceptsConsistency_157 : decode prog_5_method_3_code 157 = .ok (.iload 8, 2) := by decide +kernel
theorem d_HC_acceptsConsistency_159 : decode prog_5_method_3_code 159 = .ok (.istore 8, 2) := by decide +kernel
theorem d_HC_acceptsConsistency_161 : decode prog_5_method_3_code 161 = .ok (.iinc 9 1, 3) := by decide +kernel
