theorem d_Mo_hash_0 : decode prog_12_method_2_code 0 = .ok (.ldc 96, 2) := by decide +kernel
theorem d_Mo_hash_2 : decode prog_12_method_2_code 2 = .ok (.istore 4, 2) := by decide +kernel
theorem d_Mo_hash_4 : decode prog_12_method_2_code 4 = .ok (.iload_n 1, 1) := by decide +kernel
theorem d_Mo_hash_5 : decode prog_12_method_2_code 5 = .ok (.iload 4, 2) := by decide +kernel
theorem d_Mo_hash_7 : decode prog_12_method_2_code 7 = .ok (.imul, 1) := by decide +kernel
theorem d_Mo_hash_8 : decode prog_12_method_2_code 8 = .ok (.iload_n 2, 1) := by decide +kernel
theorem d_Mo_hash_9 : decode prog_12_method_2_code 9 = .ok (.iadd, 1) := by decide +kernel
theorem d_Mo_hash_10 : decode prog_12_method_2_code 10 = .ok (.istore 5, 2) := by decide +kernel
theorem d_Mo_hash_12 : decode prog_12_method_2_code 12 = .ok (.iload 5, 2) := by decide +kernel
theorem d_Mo_hash_14 : decode prog_12_method_2_code 14 = .ok (.iload 5, 2) := by decide +kernel
theorem d_Mo_hash_16 : decode prog_12_method_2_code 16 = .ok (.bipush 16, 2) := by decide +kernel
theorem d_Mo_hash_18 : decode prog_12_method_2_code 18 = .ok (.iushr, 1) := by decide +kernel
theorem d_Mo_hash_19 : decode prog_12_method_2_code 19 = .ok (.ixor, 1) := by decide +kernel
theorem d_Mo_hash_20 : decode prog_12_method_2_code 20 = .ok (.iload 4, 2) := by decide +kernel
theorem d_Mo_hash_22 : decode prog_12_method_2_code 22 = .ok (.imul, 1) := by decide +kernel
theorem d_Mo_hash_23 : decode prog_12_method_2_code 23 = .ok (.iload_n 3, 1) := by decide +kernel
theorem d_Mo_hash_24 : decode prog_12_method_2_code 24 = .ok (.iadd, 1) := by decide +kernel
theorem d_Mo_hash_25 : decode prog_12_method_2_code 25 = .ok (.istore 5, 2) := by decide +kernel
theorem d_Mo_hash_27 : decode prog_12_method_2_code 27 = .ok (.iload 5, 2) := by decide +kernel
theorem d_Mo_hash_29 : decode prog_12_method_2_code 29 = .ok (.iload 5, 2) := by decide +kernel
theorem d_Mo_hash_31 : decode prog_12_method_2_code 31 = .ok (.bipush 16, 2) := by decide +kernel
theorem d_Mo_hash_33 : decode prog_12_method_2_code 33 = .ok (.iushr, 1) := by decide +kernel
theorem d_Mo_hash_34 : decode prog_12_method_2_code 34 = .ok (.ixor, 1) := by decide +kernel
theorem d_Mo_hash_35 : decode prog_12_method_2_code 35 = .ok (.iload 4, 2) := by decide +kernel
theorem d_Mo_hash_37 : decode prog_12_method_2_code 37 = .ok (.imul, 1) := by decide +kernel
theorem d_Mo_hash_38 : decode prog_12_method_2_code 38 = .ok (.istore 5, 2) := by decide +kernel
theorem d_Mo_hash_40 : decode prog_12_method_2_code 40 = .ok (.iload 5, 2) := by decide +kernel
theorem d_Mo_hash_42 : decode prog_12_method_2_code 42 = .ok (.iload 5, 2) := by decide +kernel
theorem d_Mo_hash_44 : decode prog_12_method_2_code 44 = .ok (.bipush 16, 2) := by decide +kernel
theorem d_Mo_hash_46 : decode prog_12_method_2_code 46 = .ok (.iushr, 1) := by decide +kernel
theorem d_Mo_hash_47 : decode prog_12_method_2_code 47 = .ok (.ixor, 1) := by decide +kernel
theorem d_Mo_hash_48 : decode prog_12_method_2_code 48 = .ok (.istore 5, 2) := by decide +kernel
theorem d_Mo_hash_50 : decode prog_12_method_2_code 50 = .ok (.iload 5, 2) := by decide +kernel
theorem d_Mo_hash_52 : decode prog_12_method_2_code 52 = .ok (.bipush 32, 2) := by decide +kernel
theorem d_Mo_hash_54 : decode prog_12_method_2_code 54 = .ok (.aload_n 0, 1) := by decide +kernel
theorem d_Mo_hash_55 : decode prog_12_method_2_code 55 = .ok (.getfield 86, 3) := by decide +kernel
theorem d_Mo_hash_58 : decode prog_12_method_2_code 58 = .ok (.isub, 1) := by decide +kernel
theorem d_Mo_hash_59 : decode prog_12_method_2_code 59 = .ok (.iushr, 1) := by decide +kernel
theorem d_Mo_hash_60 : decode prog_12_method_2_code 60 = .ok (.istore 6, 2) := by decide +kernel
theorem d_Mo_hash_62 : decode prog_12_method_2_code 62 = .ok (.iload 6, 2) := by decide +kernel
theorem d_Mo_hash_64 : decode prog_12_method_2_code 64 = .ok (.ifCond .ne 7, 3) := by decide +kernel
theorem d_Mo_hash_67 : decode prog_12_method_2_code 67 = .ok (.iconst 1, 1) := by decide +kernel
theorem d_Mo_hash_68 : decode prog_12_method_2_code 68 = .ok (.goto 5, 3) := by decide +kernel
theorem d_Mo_hash_71 : decode prog_12_method_2_code 71 = .ok (.iload 6, 2) := by decide +kernel
theorem d_Mo_hash_73 : decode prog_12_method_2_code 73 = .ok (.ireturn, 1) := by decide +kernel
theorem d_Mo_isName_0 : decode prog_12_method_3_code 0 = .ok (.iload_n 0, 1) := by decide +kernel
theorem d_Mo_isName_1 : decode prog_12_method_3_code 1 = .ok (.ifCond .lt 13, 3) := by decide +kernel
theorem d_Mo_isName_4 : decode prog_12_method_3_code 4 = .ok (.iload_n 0, 1) := by decide +kernel
theorem d_Mo_isName_5 : decode prog_12_method_3_code 5 = .ok (.bipush 64, 2) := by decide +kernel
theorem d_Mo_isName_7 : decode prog_12_method_3_code 7 = .ok (.if_icmp .ge 7, 3) := by decide +kernel
theorem d_Mo_isName_10 : decode prog_12_method_3_code 10 = .ok (.iconst 1, 1) := by decide +kernel
theorem d_Mo_isName_11 : decode prog_12_method_3_code 11 = .ok (.goto 4, 3) := by decide +kernel
theorem d_Mo_isName_14 : decode prog_12_method_3_code 14 = .ok (.iconst 0, 1) := by decide +kernel
theorem d_Mo_isName_15 : decode prog_12_method_3_code 15 = .ok (.ireturn, 1) := by decide +kernel
theorem d_Mo_isKey_0 : decode prog_12_method_4_code 0 = .ok (.iload_n 0, 1) := by decide +kernel
theorem d_Mo_isKey_1 : decode prog_12_method_4_code 1 = .ok (.iconst 1, 1) := by decide +kernel
theorem d_Mo_isKey_2 : decode prog_12_method_4_code 2 = .ok (.if_icmp .lt 13, 3) := by decide +kernel
theorem d_Mo_isKey_5 : decode prog_12_method_4_code 5 = .ok (.iload_n 0, 1) := by decide +kernel
theorem d_Mo_isKey_6 : decode prog_12_method_4_code 6 = .ok (.ldc 97, 2) := by decide +kernel
theorem d_Mo_isKey_8 : decode prog_12_method_4_code 8 = .ok (.if_icmp .gt 7, 3) := by decide +kernel
theorem d_Mo_isKey_11 : decode prog_12_method_4_code 11 = .ok (.iconst 1, 1) := by decide +kernel
theorem d_Mo_isKey_12 : decode prog_12_method_4_code 12 = .ok (.goto 4, 3) := by decide +kernel
theorem d_Mo_isKey_15 : decode prog_12_method_4_code 15 = .ok (.iconst 0, 1) := by decide +kernel
theorem d_Mo_isKey_16 : decode prog_12_method_4_code 16 = .ok (.ireturn, 1) := by decide +kernel
theorem d_Mo_indexOf_0 : decode prog_12_method_5_code 0 = .ok (.bipush 37, 2) := by decide +kernel
theorem d_Mo_indexOf_2 : decode prog_12_method_5_code 2 = .ok (.iload_n 0, 1) := by decide +kernel
theorem d_Mo_indexOf_3 : decode prog_12_method_5_code 3 = .ok (.imul, 1) := by decide +kernel
theorem d_Mo_indexOf_4 : decode prog_12_method_5_code 4 = .ok (.bipush 11, 2) := by decide +kernel
theorem d_Mo_indexOf_6 : decode prog_12_method_5_code 6 = .ok (.iadd, 1) := by decide +kernel
theorem d_Mo_indexOf_7 : decode prog_12_method_5_code 7 = .ok (.bipush 64, 2) := by decide +kernel
theorem d_Mo_indexOf_9 : decode prog_12_method_5_code 9 = .ok (.irem, 1) := by decide +kernel
theorem d_Mo_indexOf_10 : decode prog_12_method_5_code 10 = .ok (.ireturn, 1) := by decide +kernel
theorem d_Mo_bit_0 : decode prog_12_method_6_code 0 = .ok (.iload_n 0, 1) := by decide +kernel
theorem d_Mo_bit_1 : decode prog_12_method_6_code 1 = .ok (.invokestatic 98, 3) := by decide +kernel
theorem d_Mo_bit_4 : decode prog_12_method_6_code 4 = .ok (.iconst 5, 1) := by decide +kernel
theorem d_Mo_bit_5 : decode prog_12_method_6_code 5 = .ok (.iload_n 1, 1) := by decide +kernel
theorem d_Mo_bit_6 : decode prog_12_method_6_code 6 = .ok (.isub, 1) := by decide +kernel
theorem d_Mo_bit_7 : decode prog_12_method_6_code 7 = .ok (.ishr, 1) := by decide +kernel
theorem d_Mo_bit_8 : decode prog_12_method_6_code 8 = .ok (.iconst 1, 1) := by decide +kernel
theorem d_Mo_bit_9 : decode prog_12_method_6_code 9 = .ok (.iand, 1) := by decide +kernel
theorem d_Mo_bit_10 : decode prog_12_method_6_code 10 = .ok (.ireturn, 1) := by decide +kernel
theorem d_Mo_grow_0 : decode prog_12_method_7_code 0 = .ok (.iconst 0, 1) := by decide +kernel
theorem d_Mo_grow_1 : decode prog_12_method_7_code 1 = .ok (.istore_n 2, 1) := by decide +kernel
theorem d_Mo_grow_2 : decode prog_12_method_7_code 2 = .ok (.iload_n 2, 1) := by decide +kernel
theorem d_Mo_grow_3 : decode prog_12_method_7_code 3 = .ok (.sipush 128, 3) := by decide +kernel
theorem d_Mo_grow_6 : decode prog_12_method_7_code 6 = .ok (.if_icmp .ge 30, 3) := by decide +kernel
theorem d_Mo_grow_9 : decode prog_12_method_7_code 9 = .ok (.aload_n 0, 1) := by decide +kernel
theorem d_Mo_grow_10 : decode prog_12_method_7_code 10 = .ok (.getfield 23, 3) := by decide +kernel
theorem d_Mo_grow_13 : decode prog_12_method_7_code 13 = .ok (.iload_n 2, 1) := by decide +kernel
theorem d_Mo_grow_14 : decode prog_12_method_7_code 14 = .ok (.iconst 0, 1) := by decide +kernel
theorem d_Mo_grow_15 : decode prog_12_method_7_code 15 = .ok (.iastore, 1) := by decide +kernel
theorem d_Mo_grow_16 : decode prog_12_method_7_code 16 = .ok (.aload_n 0, 1) := by decide +kernel
theorem d_Mo_grow_17 : decode prog_12_method_7_code 17 = .ok (.getfield 26, 3) := by decide +kernel
theorem d_Mo_grow_20 : decode prog_12_method_7_code 20 = .ok (.iload_n 2, 1) := by decide +kernel
theorem d_Mo_grow_21 : decode prog_12_method_7_code 21 = .ok (.iconst 0, 1) := by decide +kernel
theorem d_Mo_grow_22 : decode prog_12_method_7_code 22 = .ok (.iastore, 1) := by decide +kernel
theorem d_Mo_grow_23 : decode prog_12_method_7_code 23 = .ok (.aload_n 0, 1) := by decide +kernel
theorem d_Mo_grow_24 : decode prog_12_method_7_code 24 = .ok (.getfield 29, 3) := by decide +kernel
theorem d_Mo_grow_27 : decode prog_12_method_7_code 27 = .ok (.iload_n 2, 1) := by decide +kernel
theorem d_Mo_grow_28 : decode prog_12_method_7_code 28 = .ok (.iconst (-1), 1) := by decide +kernel
theorem d_Mo_grow_29 : decode prog_12_method_7_code 29 = .ok (.iastore, 1) := by decide +kernel
theorem d_Mo_grow_30 : decode prog_12_method_7_code 30 = .ok (.iinc 2 1, 3) := by decide +kernel
theorem d_Mo_grow_33 : decode prog_12_method_7_code 33 = .ok (.goto (-31), 3) := by decide +kernel
theorem d_Mo_grow_36 : decode prog_12_method_7_code 36 = .ok (.iconst 0, 1) := by decide +kernel
theorem d_Mo_grow_37 : decode prog_12_method_7_code 37 = .ok (.istore_n 2, 1) := by decide +kernel
theorem d_Mo_grow_38 : decode prog_12_method_7_code 38 = .ok (.iload_n 2, 1) := by decide +kernel
theorem d_Mo_grow_39 : decode prog_12_method_7_code 39 = .ok (.bipush 64, 2) := by decide +kernel
theorem d_Mo_grow_41 : decode prog_12_method_7_code 41 = .ok (.if_icmp .ge 74, 3) := by decide +kernel
theorem d_Mo_grow_44 : decode prog_12_method_7_code 44 = .ok (.iload_n 1, 1) := by decide +kernel
theorem d_Mo_grow_45 : decode prog_12_method_7_code 45 = .ok (.ifCond .ge 12, 3) := by decide +kernel
theorem d_Mo_grow_48 : decode prog_12_method_7_code 48 = .ok (.aload_n 0, 1) := by decide +kernel
theorem d_Mo_grow_49 : decode prog_12_method_7_code 49 = .ok (.getfield 13, 3) := by decide +kernel
theorem d_Mo_grow_52 : decode prog_12_method_7_code 52 = .ok (.iload_n 2, 1) := by decide +kernel
theorem d_Mo_grow_53 : decode prog_12_method_7_code 53 = .ok (.iaload, 1) := by decide +kernel
theorem d_Mo_grow_54 : decode prog_12_method_7_code 54 = .ok (.goto 11, 3) := by decide +kernel
theorem d_Mo_grow_57 : decode prog_12_method_7_code 57 = .ok (.aload_n 0, 1) := by decide +kernel
theorem d_Mo_grow_58 : decode prog_12_method_7_code 58 = .ok (.getfield 7, 3) := by decide +kernel
theorem d_Mo_grow_61 : decode prog_12_method_7_code 61 = .ok (.iload_n 1, 1) := by decide +kernel
theorem d_Mo_grow_62 : decode prog_12_method_7_code 62 = .ok (.iload_n 2, 1) := by decide +kernel
theorem d_Mo_grow_63 : decode prog_12_method_7_code 63 = .ok (.iadd, 1) := by decide +kernel
theorem d_Mo_grow_64 : decode prog_12_method_7_code 64 = .ok (.iaload, 1) := by decide +kernel
theorem d_Mo_grow_65 : decode prog_12_method_7_code 65 = .ok (.istore_n 3, 1) := by decide +kernel
theorem d_Mo_grow_66 : decode prog_12_method_7_code 66 = .ok (.iload_n 3, 1) := by decide +kernel
theorem d_Mo_grow_67 : decode prog_12_method_7_code 67 = .ok (.ifCond .eq 42, 3) := by decide +kernel
theorem d_Mo_grow_70 : decode prog_12_method_7_code 70 = .ok (.bipush 64, 2) := by decide +kernel
theorem d_Mo_grow_72 : decode prog_12_method_7_code 72 = .ok (.iload_n 2, 1) := by decide +kernel
theorem d_Mo_grow_73 : decode prog_12_method_7_code 73 = .ok (.invokestatic 98, 3) := by decide +kernel
theorem d_Mo_grow_76 : decode prog_12_method_7_code 76 = .ok (.iadd, 1) := by decide +kernel
theorem d_Mo_grow_77 : decode prog_12_method_7_code 77 = .ok (.istore 4, 2) := by decide +kernel
theorem d_Mo_grow_79 : decode prog_12_method_7_code 79 = .ok (.aload_n 0, 1) := by decide +kernel
theorem d_Mo_grow_80 : decode prog_12_method_7_code 80 = .ok (.getfield 23, 3) := by decide +kernel
theorem d_Mo_grow_83 : decode prog_12_method_7_code 83 = .ok (.iload 4, 2) := by decide +kernel
theorem d_Mo_grow_85 : decode prog_12_method_7_code 85 = .ok (.iconst 1, 1) := by decide +kernel
theorem d_Mo_grow_86 : decode prog_12_method_7_code 86 = .ok (.iastore, 1) := by decide +kernel
theorem d_Mo_grow_87 : decode prog_12_method_7_code 87 = .ok (.aload_n 0, 1) := by decide +kernel
theorem d_Mo_grow_88 : decode prog_12_method_7_code 88 = .ok (.getfield 26, 3) := by decide +kernel
theorem d_Mo_grow_91 : decode prog_12_method_7_code 91 = .ok (.iload 4, 2) := by decide +kernel
theorem d_Mo_grow_93 : decode prog_12_method_7_code 93 = .ok (.aload_n 0, 1) := by decide +kernel
theorem d_Mo_grow_94 : decode prog_12_method_7_code 94 = .ok (.iconst 1, 1) := by decide +kernel
theorem d_Mo_grow_95 : decode prog_12_method_7_code 95 = .ok (.iload_n 2, 1) := by decide +kernel
theorem d_Mo_grow_96 : decode prog_12_method_7_code 96 = .ok (.iload_n 3, 1) := by decide +kernel
theorem d_Mo_grow_97 : decode prog_12_method_7_code 97 = .ok (.invokevirtual 102, 3) := by decide +kernel
theorem d_Mo_grow_100 : decode prog_12_method_7_code 100 = .ok (.iastore, 1) := by decide +kernel
theorem d_Mo_grow_101 : decode prog_12_method_7_code 101 = .ok (.aload_n 0, 1) := by decide +kernel
theorem d_Mo_grow_102 : decode prog_12_method_7_code 102 = .ok (.getfield 29, 3) := by decide +kernel
theorem d_Mo_grow_105 : decode prog_12_method_7_code 105 = .ok (.iload 4, 2) := by decide +kernel
theorem d_Mo_grow_107 : decode prog_12_method_7_code 107 = .ok (.iload_n 2, 1) := by decide +kernel
theorem d_Mo_grow_108 : decode prog_12_method_7_code 108 = .ok (.iastore, 1) := by decide +kernel
theorem d_Mo_grow_109 : decode prog_12_method_7_code 109 = .ok (.iinc 2 1, 3) := by decide +kernel
theorem d_Mo_grow_112 : decode prog_12_method_7_code 112 = .ok (.goto (-74), 3) := by decide +kernel
theorem d_Mo_grow_115 : decode prog_12_method_7_code 115 = .ok (.bipush 63, 2) := by decide +kernel
theorem d_Mo_grow_117 : decode prog_12_method_7_code 117 = .ok (.istore_n 2, 1) := by decide +kernel
theorem d_Mo_grow_118 : decode prog_12_method_7_code 118 = .ok (.iload_n 2, 1) := by decide +kernel
theorem d_Mo_grow_119 : decode prog_12_method_7_code 119 = .ok (.ifCond .le 127, 3) := by decide +kernel
theorem d_Mo_grow_122 : decode prog_12_method_7_code 122 = .ok (.iconst 2, 1) := by decide +kernel
theorem d_Mo_grow_123 : decode prog_12_method_7_code 123 = .ok (.iload_n 2, 1) := by decide +kernel
theorem d_Mo_grow_124 : decode prog_12_method_7_code 124 = .ok (.imul, 1) := by decide +kernel
theorem d_Mo_grow_125 : decode prog_12_method_7_code 125 = .ok (.istore_n 3, 1) := by decide +kernel
theorem d_Mo_grow_126 : decode prog_12_method_7_code 126 = .ok (.iconst 2, 1) := by decide +kernel
theorem d_Mo_grow_127 : decode prog_12_method_7_code 127 = .ok (.iload_n 2, 1) := by decide +kernel
theorem d_Mo_grow_128 : decode prog_12_method_7_code 128 = .ok (.imul, 1) := by decide +kernel
theorem d_Mo_grow_129 : decode prog_12_method_7_code 129 = .ok (.iconst 1, 1) := by decide +kernel
theorem d_Mo_grow_130 : decode prog_12_method_7_code 130 = .ok (.iadd, 1) := by decide +kernel
theorem d_Mo_grow_131 : decode prog_12_method_7_code 131 = .ok (.istore 4, 2) := by decide +kernel
theorem d_Mo_grow_133 : decode prog_12_method_7_code 133 = .ok (.aload_n 0, 1) := by decide +kernel
theorem d_Mo_grow_134 : decode prog_12_method_7_code 134 = .ok (.getfield 23, 3) := by decide +kernel
theorem d_Mo_grow_137 : decode prog_12_method_7_code 137 = .ok (.iload_n 2, 1) := by decide +kernel
theorem d_Mo_grow_138 : decode prog_12_method_7_code 138 = .ok (.aload_n 0, 1) := by decide +kernel
theorem d_Mo_grow_139 : decode prog_12_method_7_code 139 = .ok (.getfield 23, 3) := by decide +kernel
theorem d_Mo_grow_142 : decode prog_12_method_7_code 142 = .ok (.iload_n 3, 1) := by decide +kernel
theorem d_Mo_grow_143 : decode prog_12_method_7_code 143 = .ok (.iaload, 1) := by decide +kernel
theorem d_Mo_grow_144 : decode prog_12_method_7_code 144 = .ok (.aload_n 0, 1) := by decide +kernel
theorem d_Mo_grow_145 : decode prog_12_method_7_code 145 = .ok (.getfield 23, 3) := by decide +kernel
theorem d_Mo_grow_148 : decode prog_12_method_7_code 148 = .ok (.iload 4, 2) := by decide +kernel
theorem d_Mo_grow_150 : decode prog_12_method_7_code 150 = .ok (.iaload, 1) := by decide +kernel
theorem d_Mo_grow_151 : decode prog_12_method_7_code 151 = .ok (.iadd, 1) := by decide +kernel
theorem d_Mo_grow_152 : decode prog_12_method_7_code 152 = .ok (.iastore, 1) := by decide +kernel
theorem d_Mo_grow_153 : decode prog_12_method_7_code 153 = .ok (.aload_n 0, 1) := by decide +kernel
theorem d_Mo_grow_154 : decode prog_12_method_7_code 154 = .ok (.getfield 29, 3) := by decide +kernel
theorem d_Mo_grow_157 : decode prog_12_method_7_code 157 = .ok (.iload_n 2, 1) := by decide +kernel
theorem d_Mo_grow_158 : decode prog_12_method_7_code 158 = .ok (.aload_n 0, 1) := by decide +kernel
theorem d_Mo_grow_159 : decode prog_12_method_7_code 159 = .ok (.getfield 23, 3) := by decide +kernel
theorem d_Mo_grow_162 : decode prog_12_method_7_code 162 = .ok (.iload_n 2, 1) := by decide +kernel
theorem d_Mo_grow_163 : decode prog_12_method_7_code 163 = .ok (.iaload, 1) := by decide +kernel
theorem d_Mo_grow_164 : decode prog_12_method_7_code 164 = .ok (.iconst 1, 1) := by decide +kernel
theorem d_Mo_grow_165 : decode prog_12_method_7_code 165 = .ok (.if_icmp .ne 22, 3) := by decide +kernel
theorem d_Mo_grow_168 : decode prog_12_method_7_code 168 = .ok (.aload_n 0, 1) := by decide +kernel
theorem d_Mo_grow_169 : decode prog_12_method_7_code 169 = .ok (.getfield 29, 3) := by decide +kernel
theorem d_Mo_grow_172 : decode prog_12_method_7_code 172 = .ok (.iload_n 3, 1) := by decide +kernel
theorem d_Mo_grow_173 : decode prog_12_method_7_code 173 = .ok (.iaload, 1) := by decide +kernel
theorem d_Mo_grow_174 : decode prog_12_method_7_code 174 = .ok (.aload_n 0, 1) := by decide +kernel
theorem d_Mo_grow_175 : decode prog_12_method_7_code 175 = .ok (.getfield 29, 3) := by decide +kernel
theorem d_Mo_grow_178 : decode prog_12_method_7_code 178 = .ok (.iload 4, 2) := by decide +kernel
theorem d_Mo_grow_180 : decode prog_12_method_7_code 180 = .ok (.iaload, 1) := by decide +kernel
theorem d_Mo_grow_181 : decode prog_12_method_7_code 181 = .ok (.iadd, 1) := by decide +kernel
theorem d_Mo_grow_182 : decode prog_12_method_7_code 182 = .ok (.iconst 1, 1) := by decide +kernel
theorem d_Mo_grow_183 : decode prog_12_method_7_code 183 = .ok (.iadd, 1) := by decide +kernel
theorem d_Mo_grow_184 : decode prog_12_method_7_code 184 = .ok (.goto 4, 3) := by decide +kernel
theorem d_Mo_grow_187 : decode prog_12_method_7_code 187 = .ok (.iconst (-1), 1) := by decide +kernel
theorem d_Mo_grow_188 : decode prog_12_method_7_code 188 = .ok (.iastore, 1) := by decide +kernel
theorem d_Mo_grow_189 : decode prog_12_method_7_code 189 = .ok (.aload_n 0, 1) := by decide +kernel
theorem d_Mo_grow_190 : decode prog_12_method_7_code 190 = .ok (.getfield 26, 3) := by decide +kernel
theorem d_Mo_grow_193 : decode prog_12_method_7_code 193 = .ok (.iload_n 2, 1) := by decide +kernel
theorem d_Mo_grow_194 : decode prog_12_method_7_code 194 = .ok (.aload_n 0, 1) := by decide +kernel
theorem d_Mo_grow_195 : decode prog_12_method_7_code 195 = .ok (.getfield 23, 3) := by decide +kernel
theorem d_Mo_grow_198 : decode prog_12_method_7_code 198 = .ok (.iload_n 2, 1) := by decide +kernel
theorem d_Mo_grow_199 : decode prog_12_method_7_code 199 = .ok (.iaload, 1) := by decide +kernel
theorem d_Mo_grow_200 : decode prog_12_method_7_code 200 = .ok (.iconst 1, 1) := by decide +kernel
theorem d_Mo_grow_201 : decode prog_12_method_7_code 201 = .ok (.if_icmp .le 24, 3) := by decide +kernel
theorem d_Mo_grow_204 : decode prog_12_method_7_code 204 = .ok (.aload_n 0, 1) := by decide +kernel
theorem d_Mo_grow_205 : decode prog_12_method_7_code 205 = .ok (.iconst 2, 1) := by decide +kernel
theorem d_Mo_grow_206 : decode prog_12_method_7_code 206 = .ok (.aload_n 0, 1) := by decide +kernel
theorem d_Mo_grow_207 : decode prog_12_method_7_code 207 = .ok (.getfield 26, 3) := by decide +kernel
theorem d_Mo_grow_210 : decode prog_12_method_7_code 210 = .ok (.iload_n 3, 1) := by decide +kernel
theorem d_Mo_grow_211 : decode prog_12_method_7_code 211 = .ok (.iaload, 1) := by decide +kernel
theorem d_Mo_grow_212 : decode prog_12_method_7_code 212 = .ok (.aload_n 0, 1) := by decide +kernel
theorem d_Mo_grow_213 : decode prog_12_method_7_code 213 = .ok (.getfield 26, 3) := by decide +kernel
theorem d_Mo_grow_216 : decode prog_12_method_7_code 216 = .ok (.iload 4, 2) := by decide +kernel
theorem d_Mo_grow_218 : decode prog_12_method_7_code 218 = .ok (.iaload, 1) := by decide +kernel
theorem d_Mo_grow_219 : decode prog_12_method_7_code 219 = .ok (.invokevirtual 102, 3) := by decide +kernel
theorem d_Mo_grow_222 : decode prog_12_method_7_code 222 = .ok (.goto 17, 3) := by decide +kernel
theorem d_Mo_grow_225 : decode prog_12_method_7_code 225 = .ok (.aload_n 0, 1) := by decide +kernel
theorem d_Mo_grow_226 : decode prog_12_method_7_code 226 = .ok (.getfield 26, 3) := by decide +kernel
theorem d_Mo_grow_229 : decode prog_12_method_7_code 229 = .ok (.iload_n 3, 1) := by decide +kernel
theorem d_Mo_grow_230 : decode prog_12_method_7_code 230 = .ok (.iaload, 1) := by decide +kernel
theorem d_Mo_grow_231 : decode prog_12_method_7_code 231 = .ok (.aload_n 0, 1) := by decide +kernel
theorem d_Mo_grow_232 : decode prog_12_method_7_code 232 = .ok (.getfield 26, 3) := by decide +kernel
theorem d_Mo_grow_235 : decode prog_12_method_7_code 235 = .ok (.iload 4, 2) := by decide +kernel
theorem d_Mo_grow_237 : decode prog_12_method_7_code 237 = .ok (.iaload, 1) := by decide +kernel
theorem d_Mo_grow_238 : decode prog_12_method_7_code 238 = .ok (.iadd, 1) := by decide +kernel
theorem d_Mo_grow_239 : decode prog_12_method_7_code 239 = .ok (.iastore, 1) := by decide +kernel
theorem d_Mo_grow_240 : decode prog_12_method_7_code 240 = .ok (.iinc 2 (-1), 3) := by decide +kernel
theorem d_Mo_grow_243 : decode prog_12_method_7_code 243 = .ok (.goto (-125), 3) := by decide +kernel
theorem d_Mo_grow_246 : decode prog_12_method_7_code 246 = .ok (.return_, 1) := by decide +kernel
theorem d_Mo_isNode_0 : decode prog_12_method_8_code 0 = .ok (.aload_n 0, 1) := by decide +kernel
theorem d_Mo_isNode_1 : decode prog_12_method_8_code 1 = .ok (.getfield 23, 3) := by decide +kernel
theorem d_Mo_isNode_4 : decode prog_12_method_8_code 4 = .ok (.iload_n 1, 1) := by decide +kernel
theorem d_Mo_isNode_5 : decode prog_12_method_8_code 5 = .ok (.iaload, 1) := by decide +kernel
theorem d_Mo_isNode_6 : decode prog_12_method_8_code 6 = .ok (.iconst 1, 1) := by decide +kernel
theorem d_Mo_isNode_7 : decode prog_12_method_8_code 7 = .ok (.if_icmp .gt 30, 3) := by decide +kernel
theorem d_Mo_isNode_10 : decode prog_12_method_8_code 10 = .ok (.aload_n 0, 1) := by decide +kernel
theorem d_Mo_isNode_11 : decode prog_12_method_8_code 11 = .ok (.getfield 23, 3) := by decide +kernel
theorem d_Mo_isNode_14 : decode prog_12_method_8_code 14 = .ok (.iload_n 1, 1) := by decide +kernel
theorem d_Mo_isNode_15 : decode prog_12_method_8_code 15 = .ok (.iaload, 1) := by decide +kernel
theorem d_Mo_isNode_16 : decode prog_12_method_8_code 16 = .ok (.iconst 1, 1) := by decide +kernel
theorem d_Mo_isNode_17 : decode prog_12_method_8_code 17 = .ok (.if_icmp .ne 24, 3) := by decide +kernel
theorem d_Mo_isNode_20 : decode prog_12_method_8_code 20 = .ok (.iload_n 1, 1) := by decide +kernel
theorem d_Mo_isNode_21 : decode prog_12_method_8_code 21 = .ok (.iconst 1, 1) := by decide +kernel
theorem d_Mo_isNode_22 : decode prog_12_method_8_code 22 = .ok (.if_icmp .eq 15, 3) := by decide +kernel
theorem d_Mo_isNode_25 : decode prog_12_method_8_code 25 = .ok (.aload_n 0, 1) := by decide +kernel
theorem d_Mo_isNode_26 : decode prog_12_method_8_code 26 = .ok (.getfield 23, 3) := by decide +kernel
theorem d_Mo_isNode_29 : decode prog_12_method_8_code 29 = .ok (.iload_n 1, 1) := by decide +kernel
theorem d_Mo_isNode_30 : decode prog_12_method_8_code 30 = .ok (.iconst 2, 1) := by decide +kernel
theorem d_Mo_isNode_31 : decode prog_12_method_8_code 31 = .ok (.idiv, 1) := by decide +kernel
theorem d_Mo_isNode_32 : decode prog_12_method_8_code 32 = .ok (.iaload, 1) := by decide +kernel
theorem d_Mo_isNode_33 : decode prog_12_method_8_code 33 = .ok (.iconst 1, 1) := by decide +kernel
theorem d_Mo_isNode_34 : decode prog_12_method_8_code 34 = .ok (.if_icmp .le 7, 3) := by decide +kernel
theorem d_Mo_isNode_37 : decode prog_12_method_8_code 37 = .ok (.iconst 1, 1) := by decide +kernel
theorem d_Mo_isNode_38 : decode prog_12_method_8_code 38 = .ok (.goto 4, 3) := by decide +kernel
theorem d_Mo_isNode_41 : decode prog_12_method_8_code 41 = .ok (.iconst 0, 1) := by decide +kernel
theorem d_Mo_isNode_42 : decode prog_12_method_8_code 42 = .ok (.ireturn, 1) := by decide +kernel
theorem d_Mo_put_0 : decode prog_12_method_9_code 0 = .ok (.aload_n 0, 1) := by decide +kernel
theorem d_Mo_put_1 : decode prog_12_method_9_code 1 = .ok (.getfield 106, 3) := by decide +kernel
theorem d_Mo_put_4 : decode prog_12_method_9_code 4 = .ok (.ifCond .eq 6, 3) := by decide +kernel
theorem d_Mo_put_7 : decode prog_12_method_9_code 7 = .ok (.bipush (-9), 2) := by decide +kernel
theorem d_Mo_put_9 : decode prog_12_method_9_code 9 = .ok (.ireturn, 1) := by decide +kernel
theorem d_Mo_put_10 : decode prog_12_method_9_code 10 = .ok (.iload_n 1, 1) := by decide +kernel
theorem d_Mo_put_11 : decode prog_12_method_9_code 11 = .ok (.invokestatic 110, 3) := by decide +kernel
theorem d_Mo_put_14 : decode prog_12_method_9_code 14 = .ok (.ifCond .eq 10, 3) := by decide +kernel
theorem d_Mo_put_17 : decode prog_12_method_9_code 17 = .ok (.iload_n 2, 1) := by decide +kernel
theorem d_Mo_put_18 : decode prog_12_method_9_code 18 = .ok (.invokestatic 114, 3) := by decide +kernel
theorem d_Mo_put_21 : decode prog_12_method_9_code 21 = .ok (.ifCond .ne 5, 3) := by decide +kernel
theorem d_Mo_put_24 : decode prog_12_method_9_code 24 = .ok (.iconst (-1), 1) := by decide +kernel
theorem d_Mo_put_25 : decode prog_12_method_9_code 25 = .ok (.ireturn, 1) := by decide +kernel
theorem d_Mo_put_26 : decode prog_12_method_9_code 26 = .ok (.aload_n 0, 1) := by decide +kernel
theorem d_Mo_put_27 : decode prog_12_method_9_code 27 = .ok (.getfield 13, 3) := by decide +kernel
theorem d_Mo_put_30 : decode prog_12_method_9_code 30 = .ok (.iload_n 1, 1) := by decide +kernel
theorem d_Mo_put_31 : decode prog_12_method_9_code 31 = .ok (.iload_n 2, 1) := by decide +kernel
theorem d_Mo_put_32 : decode prog_12_method_9_code 32 = .ok (.iastore, 1) := by decide +kernel
theorem d_Mo_put_33 : decode prog_12_method_9_code 33 = .ok (.aload_n 0, 1) := by decide +kernel
theorem d_Mo_put_34 : decode prog_12_method_9_code 34 = .ok (.getfield 16, 3) := by decide +kernel
theorem d_Mo_put_37 : decode prog_12_method_9_code 37 = .ok (.iload_n 1, 1) := by decide +kernel
theorem d_Mo_put_38 : decode prog_12_method_9_code 38 = .ok (.iconst 1, 1) := by decide +kernel
theorem d_Mo_put_39 : decode prog_12_method_9_code 39 = .ok (.bastore, 1) := by decide +kernel
theorem d_Mo_put_40 : decode prog_12_method_9_code 40 = .ok (.aload_n 0, 1) := by decide +kernel
theorem d_Mo_put_41 : decode prog_12_method_9_code 41 = .ok (.invokevirtual 117, 3) := by decide +kernel
theorem d_Mo_put_44 : decode prog_12_method_9_code 44 = .ok (.ireturn, 1) := by decide +kernel
theorem d_Mo_names_0 : decode prog_12_method_10_code 0 = .ok (.iconst 0, 1) := by decide +kernel
theorem d_Mo_names_1 : decode prog_12_method_10_code 1 = .ok (.istore_n 1, 1) := by decide +kernel
theorem d_Mo_names_2 : decode prog_12_method_10_code 2 = .ok (.iconst 0, 1) := by decide +kernel
theorem d_Mo_names_3 : decode prog_12_method_10_code 3 = .ok (.istore_n 2, 1) := by decide +kernel
theorem d_Mo_names_4 : decode prog_12_method_10_code 4 = .ok (.iload_n 2, 1) := by decide +kernel
theorem d_Mo_names_5 : decode prog_12_method_10_code 5 = .ok (.bipush 64, 2) := by decide +kernel
theorem d_Mo_names_7 : decode prog_12_method_10_code 7 = .ok (.if_icmp .ge 26, 3) := by decide +kernel
theorem d_Mo_names_10 : decode prog_12_method_10_code 10 = .ok (.aload_n 0, 1) := by decide +kernel
theorem d_Mo_names_11 : decode prog_12_method_10_code 11 = .ok (.getfield 16, 3) := by decide +kernel
theorem d_Mo_names_14 : decode prog_12_method_10_code 14 = .ok (.iload_n 2, 1) := by decide +kernel
theorem d_Mo_names_15 : decode prog_12_method_10_code 15 = .ok (.baload, 1) := by decide +kernel
theorem d_Mo_names_16 : decode prog_12_method_10_code 16 = .ok (.ifCond .eq 9, 3) := by decide +kernel
theorem d_Mo_names_19 : decode prog_12_method_10_code 19 = .ok (.iload_n 1, 1) := by decide +kernel
theorem d_Mo_names_20 : decode prog_12_method_10_code 20 = .ok (.iconst 1, 1) := by decide +kernel
theorem d_Mo_names_21 : decode prog_12_method_10_code 21 = .ok (.iadd, 1) := by decide +kernel
theorem d_Mo_names_22 : decode prog_12_method_10_code 22 = .ok (.goto 4, 3) := by decide +kernel
theorem d_Mo_names_25 : decode prog_12_method_10_code 25 = .ok (.iload_n 1, 1) := by decide +kernel
theorem d_Mo_names_26 : decode prog_12_method_10_code 26 = .ok (.istore_n 1, 1) := by decide +kernel
theorem d_Mo_names_27 : decode prog_12_method_10_code 27 = .ok (.iinc 2 1, 3) := by decide +kernel
theorem d_Mo_names_30 : decode prog_12_method_10_code 30 = .ok (.goto (-26), 3) := by decide +kernel
theorem d_Mo_names_33 : decode prog_12_method_10_code 33 = .ok (.iload_n 1, 1) := by decide +kernel
theorem d_Mo_names_34 : decode prog_12_method_10_code 34 = .ok (.ireturn, 1) := by decide +kernel
theorem d_Mo_write_0 : decode prog_12_method_11_code 0 = .ok (.aload_n 0, 1) := by decide +kernel
theorem d_Mo_write_1 : decode prog_12_method_11_code 1 = .ok (.getfield 32, 3) := by decide +kernel
theorem d_Mo_write_4 : decode prog_12_method_11_code 4 = .ok (.aload_n 0, 1) := by decide +kernel
theorem d_Mo_write_5 : decode prog_12_method_11_code 5 = .ok (.getfield 121, 3) := by decide +kernel
theorem d_Mo_write_8 : decode prog_12_method_11_code 8 = .ok (.iload_n 1, 1) := by decide +kernel
theorem d_Mo_write_9 : decode prog_12_method_11_code 9 = .ok (.iastore, 1) := by decide +kernel
theorem d_Mo_write_10 : decode prog_12_method_11_code 10 = .ok (.aload_n 0, 1) := by decide +kernel
theorem d_Mo_write_11 : decode prog_12_method_11_code 11 = .ok (.getfield 35, 3) := by decide +kernel
theorem d_Mo_write_14 : decode prog_12_method_11_code 14 = .ok (.aload_n 0, 1) := by decide +kernel
theorem d_Mo_write_15 : decode prog_12_method_11_code 15 = .ok (.getfield 121, 3) := by decide +kernel
theorem d_Mo_write_18 : decode prog_12_method_11_code 18 = .ok (.iload_n 2, 1) := by decide +kernel
theorem d_Mo_write_19 : decode prog_12_method_11_code 19 = .ok (.iastore, 1) := by decide +kernel
theorem d_Mo_write_20 : decode prog_12_method_11_code 20 = .ok (.aload_n 0, 1) := by decide +kernel
theorem d_Mo_write_21 : decode prog_12_method_11_code 21 = .ok (.getfield 38, 3) := by decide +kernel
theorem d_Mo_write_24 : decode prog_12_method_11_code 24 = .ok (.aload_n 0, 1) := by decide +kernel
theorem d_Mo_write_25 : decode prog_12_method_11_code 25 = .ok (.getfield 121, 3) := by decide +kernel
theorem d_Mo_write_28 : decode prog_12_method_11_code 28 = .ok (.iload_n 3, 1) := by decide +kernel
theorem d_Mo_write_29 : decode prog_12_method_11_code 29 = .ok (.iastore, 1) := by decide +kernel
theorem d_Mo_write_30 : decode prog_12_method_11_code 30 = .ok (.aload_n 0, 1) := by decide +kernel
theorem d_Mo_write_31 : decode prog_12_method_11_code 31 = .ok (.dup, 1) := by decide +kernel
theorem d_Mo_write_32 : decode prog_12_method_11_code 32 = .ok (.getfield 121, 3) := by decide +kernel
theorem d_Mo_write_35 : decode prog_12_method_11_code 35 = .ok (.iconst 1, 1) := by decide +kernel
theorem d_Mo_write_36 : decode prog_12_method_11_code 36 = .ok (.iadd, 1) := by decide +kernel
theorem d_Mo_write_37 : decode prog_12_method_11_code 37 = .ok (.putfield 121, 3) := by decide +kernel
theorem d_Mo_write_40 : decode prog_12_method_11_code 40 = .ok (.aload_n 0, 1) := by decide +kernel
theorem d_Mo_write_41 : decode prog_12_method_11_code 41 = .ok (.aload_n 0, 1) := by decide +kernel
theorem d_Mo_write_42 : decode prog_12_method_11_code 42 = .ok (.getfield 124, 3) := by decide +kernel
theorem d_Mo_write_45 : decode prog_12_method_11_code 45 = .ok (.iconst 1, 1) := by decide +kernel
theorem d_Mo_write_46 : decode prog_12_method_11_code 46 = .ok (.if_icmp .ne 7, 3) := by decide +kernel
theorem d_Mo_write_49 : decode prog_12_method_11_code 49 = .ok (.iconst 1, 1) := by decide +kernel
theorem d_Mo_write_50 : decode prog_12_method_11_code 50 = .ok (.goto 4, 3) := by decide +kernel
theorem d_Mo_write_53 : decode prog_12_method_11_code 53 = .ok (.iconst 0, 1) := by decide +kernel
theorem d_Mo_write_54 : decode prog_12_method_11_code 54 = .ok (.putfield 106, 3) := by decide +kernel
theorem d_Mo_write_57 : decode prog_12_method_11_code 57 = .ok (.aload_n 0, 1) := by decide +kernel
theorem d_Mo_write_58 : decode prog_12_method_11_code 58 = .ok (.aload_n 0, 1) := by decide +kernel
theorem d_Mo_write_59 : decode prog_12_method_11_code 59 = .ok (.getfield 124, 3) := by decide +kernel
theorem d_Mo_write_62 : decode prog_12_method_11_code 62 = .ok (.ifCond .le 12, 3) := by decide +kernel
theorem d_Mo_write_65 : decode prog_12_method_11_code 65 = .ok (.aload_n 0, 1) := by decide +kernel
theorem d_Mo_write_66 : decode prog_12_method_11_code 66 = .ok (.getfield 124, 3) := by decide +kernel
theorem d_Mo_write_69 : decode prog_12_method_11_code 69 = .ok (.iconst 1, 1) := by decide +kernel
theorem d_Mo_write_70 : decode prog_12_method_11_code 70 = .ok (.isub, 1) := by decide +kernel
theorem d_Mo_write_71 : decode prog_12_method_11_code 71 = .ok (.goto 4, 3) := by decide +kernel
theorem d_Mo_write_74 : decode prog_12_method_11_code 74 = .ok (.iconst 0, 1) := by decide +kernel
theorem d_Mo_write_75 : decode prog_12_method_11_code 75 = .ok (.putfield 124, 3) := by decide +kernel
theorem d_Mo_write_78 : decode prog_12_method_11_code 78 = .ok (.aload_n 0, 1) := by decide +kernel
theorem d_Mo_write_79 : decode prog_12_method_11_code 79 = .ok (.getfield 106, 3) := by decide +kernel
theorem d_Mo_write_82 : decode prog_12_method_11_code 82 = .ok (.ifCond .ne 7, 3) := by decide +kernel
theorem d_Mo_write_85 : decode prog_12_method_11_code 85 = .ok (.iconst 1, 1) := by decide +kernel
theorem d_Mo_write_86 : decode prog_12_method_11_code 86 = .ok (.goto 4, 3) := by decide +kernel
theorem d_Mo_write_89 : decode prog_12_method_11_code 89 = .ok (.iconst 0, 1) := by decide +kernel
theorem d_Mo_write_90 : decode prog_12_method_11_code 90 = .ok (.ireturn, 1) := by decide +kernel
theorem d_Mo_touched_0 : decode prog_12_method_12_code 0 = .ok (.iconst 0, 1) := by decide +kernel
theorem d_Mo_touched_1 : decode prog_12_method_12_code 1 = .ok (.istore_n 3, 1) := by decide +kernel
theorem d_Mo_touched_2 : decode prog_12_method_12_code 2 = .ok (.iconst 0, 1) := by decide +kernel
theorem d_Mo_touched_3 : decode prog_12_method_12_code 3 = .ok (.istore 4, 2) := by decide +kernel
theorem d_Mo_touched_5 : decode prog_12_method_12_code 5 = .ok (.iload 4, 2) := by decide +kernel
theorem d_Mo_touched_7 : decode prog_12_method_12_code 7 = .ok (.bipush 64, 2) := by decide +kernel
theorem d_Mo_touched_9 : decode prog_12_method_12_code 9 = .ok (.if_icmp .ge 46, 3) := by decide +kernel
theorem d_Mo_touched_12 : decode prog_12_method_12_code 12 = .ok (.iload_n 3, 1) := by decide +kernel
theorem d_Mo_touched_13 : decode prog_12_method_12_code 13 = .ok (.ifCond .ne 30, 3) := by decide +kernel
theorem d_Mo_touched_16 : decode prog_12_method_12_code 16 = .ok (.aload_n 0, 1) := by decide +kernel
theorem d_Mo_touched_17 : decode prog_12_method_12_code 17 = .ok (.getfield 16, 3) := by decide +kernel
theorem d_Mo_touched_20 : decode prog_12_method_12_code 20 = .ok (.iload 4, 2) := by decide +kernel
theorem d_Mo_touched_22 : decode prog_12_method_12_code 22 = .ok (.baload, 1) := by decide +kernel
theorem d_Mo_touched_23 : decode prog_12_method_12_code 23 = .ok (.ifCond .eq 24, 3) := by decide +kernel
theorem d_Mo_touched_26 : decode prog_12_method_12_code 26 = .ok (.bipush 64, 2) := by decide +kernel
theorem d_Mo_touched_28 : decode prog_12_method_12_code 28 = .ok (.iload 4, 2) := by decide +kernel
theorem d_Mo_touched_30 : decode prog_12_method_12_code 30 = .ok (.invokestatic 98, 3) := by decide +kernel
theorem d_Mo_touched_33 : decode prog_12_method_12_code 33 = .ok (.iadd, 1) := by decide +kernel
theorem d_Mo_touched_34 : decode prog_12_method_12_code 34 = .ok (.bipush 6, 2) := by decide +kernel
theorem d_Mo_touched_36 : decode prog_12_method_12_code 36 = .ok (.iload_n 2, 1) := by decide +kernel
theorem d_Mo_touched_37 : decode prog_12_method_12_code 37 = .ok (.isub, 1) := by decide +kernel
theorem d_Mo_touched_38 : decode prog_12_method_12_code 38 = .ok (.ishr, 1) := by decide +kernel
theorem d_Mo_touched_39 : decode prog_12_method_12_code 39 = .ok (.iload_n 1, 1) := by decide +kernel
theorem d_Mo_touched_40 : decode prog_12_method_12_code 40 = .ok (.if_icmp .ne 7, 3) := by decide +kernel
theorem d_Mo_touched_43 : decode prog_12_method_12_code 43 = .ok (.iconst 1, 1) := by decide +kernel
theorem d_Mo_touched_44 : decode prog_12_method_12_code 44 = .ok (.goto 4, 3) := by decide +kernel
theorem d_Mo_touched_47 : decode prog_12_method_12_code 47 = .ok (.iconst 0, 1) := by decide +kernel
theorem d_Mo_touched_48 : decode prog_12_method_12_code 48 = .ok (.istore_n 3, 1) := by decide +kernel
theorem d_Mo_touched_49 : decode prog_12_method_12_code 49 = .ok (.iinc 4 1, 3) := by decide +kernel
theorem d_Mo_touched_52 : decode prog_12_method_12_code 52 = .ok (.goto (-47), 3) := by decide +kernel
theorem d_Mo_touched_55 : decode prog_12_method_12_code 55 = .ok (.iload_n 3, 1) := by decide +kernel
theorem d_Mo_touched_56 : decode prog_12_method_12_code 56 = .ok (.ireturn, 1) := by decide +kernel
theorem d_Mo_blockOf_0 : decode prog_12_method_13_code 0 = .ok (.aload_n 0, 1) := by decide +kernel
theorem d_Mo_blockOf_1 : decode prog_12_method_13_code 1 = .ok (.getfield 23, 3) := by decide +kernel
theorem d_Mo_blockOf_4 : decode prog_12_method_13_code 4 = .ok (.iload_n 1, 1) := by decide +kernel
theorem d_Mo_blockOf_5 : decode prog_12_method_13_code 5 = .ok (.iaload, 1) := by decide +kernel
theorem d_Mo_blockOf_6 : decode prog_12_method_13_code 6 = .ok (.ifCond .ne 7, 3) := by decide +kernel
theorem d_Mo_blockOf_9 : decode prog_12_method_13_code 9 = .ok (.iconst (-1), 1) := by decide +kernel
theorem d_Mo_blockOf_10 : decode prog_12_method_13_code 10 = .ok (.goto 33, 3) := by decide +kernel
theorem d_Mo_blockOf_13 : decode prog_12_method_13_code 13 = .ok (.aload_n 0, 1) := by decide +kernel
theorem d_Mo_blockOf_14 : decode prog_12_method_13_code 14 = .ok (.getfield 23, 3) := by decide +kernel
theorem d_Mo_blockOf_17 : decode prog_12_method_13_code 17 = .ok (.iload_n 1, 1) := by decide +kernel
theorem d_Mo_blockOf_18 : decode prog_12_method_13_code 18 = .ok (.iaload, 1) := by decide +kernel
theorem d_Mo_blockOf_19 : decode prog_12_method_13_code 19 = .ok (.iconst 1, 1) := by decide +kernel
theorem d_Mo_blockOf_20 : decode prog_12_method_13_code 20 = .ok (.if_icmp .ne 17, 3) := by decide +kernel
theorem d_Mo_blockOf_23 : decode prog_12_method_13_code 23 = .ok (.aload_n 0, 1) := by decide +kernel
theorem d_Mo_blockOf_24 : decode prog_12_method_13_code 24 = .ok (.getfield 47, 3) := by decide +kernel
theorem d_Mo_blockOf_27 : decode prog_12_method_13_code 27 = .ok (.aload_n 0, 1) := by decide +kernel
theorem d_Mo_blockOf_28 : decode prog_12_method_13_code 28 = .ok (.getfield 29, 3) := by decide +kernel
theorem d_Mo_blockOf_31 : decode prog_12_method_13_code 31 = .ok (.iload_n 1, 1) := by decide +kernel
theorem d_Mo_blockOf_32 : decode prog_12_method_13_code 32 = .ok (.iaload, 1) := by decide +kernel
theorem d_Mo_blockOf_33 : decode prog_12_method_13_code 33 = .ok (.iaload, 1) := by decide +kernel
theorem d_Mo_blockOf_34 : decode prog_12_method_13_code 34 = .ok (.goto 9, 3) := by decide +kernel
theorem d_Mo_blockOf_37 : decode prog_12_method_13_code 37 = .ok (.aload_n 0, 1) := by decide +kernel
theorem d_Mo_blockOf_38 : decode prog_12_method_13_code 38 = .ok (.getfield 50, 3) := by decide +kernel
theorem d_Mo_blockOf_41 : decode prog_12_method_13_code 41 = .ok (.iload_n 1, 1) := by decide +kernel
theorem d_Mo_blockOf_42 : decode prog_12_method_13_code 42 = .ok (.iaload, 1) := by decide +kernel
theorem d_Mo_blockOf_43 : decode prog_12_method_13_code 43 = .ok (.ireturn, 1) := by decide +kernel
theorem d_Mo_nodes_0 : decode prog_12_method_14_code 0 = .ok (.iconst 0, 1) := by decide +kernel
theorem d_Mo_nodes_1 : decode prog_12_method_14_code 1 = .ok (.istore_n 2, 1) := by decide +kernel
theorem d_Mo_nodes_2 : decode prog_12_method_14_code 2 = .ok (.iconst 0, 1) := by decide +kernel
theorem d_Mo_nodes_3 : decode prog_12_method_14_code 3 = .ok (.istore_n 3, 1) := by decide +kernel
theorem d_Mo_nodes_4 : decode prog_12_method_14_code 4 = .ok (.iload_n 3, 1) := by decide +kernel
theorem d_Mo_nodes_5 : decode prog_12_method_14_code 5 = .ok (.bipush 64, 2) := by decide +kernel
theorem d_Mo_nodes_7 : decode prog_12_method_14_code 7 = .ok (.if_icmp .ge 102, 3) := by decide +kernel
theorem d_Mo_nodes_10 : decode prog_12_method_14_code 10 = .ok (.bipush 6, 2) := by decide +kernel
theorem d_Mo_nodes_12 : decode prog_12_method_14_code 12 = .ok (.istore 4, 2) := by decide +kernel
theorem d_Mo_nodes_14 : decode prog_12_method_14_code 14 = .ok (.iload 4, 2) := by decide +kernel
theorem d_Mo_nodes_16 : decode prog_12_method_14_code 16 = .ok (.ifCond .lt 87, 3) := by decide +kernel
theorem d_Mo_nodes_19 : decode prog_12_method_14_code 19 = .ok (.bipush 64, 2) := by decide +kernel
theorem d_Mo_nodes_21 : decode prog_12_method_14_code 21 = .ok (.iload_n 3, 1) := by decide +kernel
theorem d_Mo_nodes_22 : decode prog_12_method_14_code 22 = .ok (.iadd, 1) := by decide +kernel
theorem d_Mo_nodes_23 : decode prog_12_method_14_code 23 = .ok (.bipush 6, 2) := by decide +kernel
theorem d_Mo_nodes_25 : decode prog_12_method_14_code 25 = .ok (.iload 4, 2) := by decide +kernel
theorem d_Mo_nodes_27 : decode prog_12_method_14_code 27 = .ok (.isub, 1) := by decide +kernel
theorem d_Mo_nodes_28 : decode prog_12_method_14_code 28 = .ok (.ishr, 1) := by decide +kernel
theorem d_Mo_nodes_29 : decode prog_12_method_14_code 29 = .ok (.istore 5, 2) := by decide +kernel
theorem d_Mo_nodes_31 : decode prog_12_method_14_code 31 = .ok (.iload_n 3, 1) := by decide +kernel
theorem d_Mo_nodes_32 : decode prog_12_method_14_code 32 = .ok (.iconst 1, 1) := by decide +kernel
theorem d_Mo_nodes_33 : decode prog_12_method_14_code 33 = .ok (.iadd, 1) := by decide +kernel
theorem d_Mo_nodes_34 : decode prog_12_method_14_code 34 = .ok (.iconst 1, 1) := by decide +kernel
theorem d_Mo_nodes_35 : decode prog_12_method_14_code 35 = .ok (.bipush 6, 2) := by decide +kernel
theorem d_Mo_nodes_37 : decode prog_12_method_14_code 37 = .ok (.iload 4, 2) := by decide +kernel
theorem d_Mo_nodes_39 : decode prog_12_method_14_code 39 = .ok (.isub, 1) := by decide +kernel
theorem d_Mo_nodes_40 : decode prog_12_method_14_code 40 = .ok (.ishl, 1) := by decide +kernel
theorem d_Mo_nodes_41 : decode prog_12_method_14_code 41 = .ok (.irem, 1) := by decide +kernel
theorem d_Mo_nodes_42 : decode prog_12_method_14_code 42 = .ok (.ifCond .ne 7, 3) := by decide +kernel
theorem d_Mo_nodes_45 : decode prog_12_method_14_code 45 = .ok (.iconst 1, 1) := by decide +kernel
theorem d_Mo_nodes_46 : decode prog_12_method_14_code 46 = .ok (.goto 4, 3) := by decide +kernel
theorem d_Mo_nodes_49 : decode prog_12_method_14_code 49 = .ok (.iconst 0, 1) := by decide +kernel
theorem d_Mo_nodes_50 : decode prog_12_method_14_code 50 = .ok (.istore 6, 2) := by decide +kernel
theorem d_Mo_nodes_52 : decode prog_12_method_14_code 52 = .ok (.iload 6, 2) := by decide +kernel
theorem d_Mo_nodes_54 : decode prog_12_method_14_code 54 = .ok (.ifCond .eq 43, 3) := by decide +kernel
theorem d_Mo_nodes_57 : decode prog_12_method_14_code 57 = .ok (.aload_n 0, 1) := by decide +kernel
theorem d_Mo_nodes_58 : decode prog_12_method_14_code 58 = .ok (.iload 5, 2) := by decide +kernel
theorem d_Mo_nodes_60 : decode prog_12_method_14_code 60 = .ok (.invokevirtual 127, 3) := by decide +kernel
theorem d_Mo_nodes_63 : decode prog_12_method_14_code 63 = .ok (.ifCond .eq 34, 3) := by decide +kernel
theorem d_Mo_nodes_66 : decode prog_12_method_14_code 66 = .ok (.aload_n 0, 1) := by decide +kernel
theorem d_Mo_nodes_67 : decode prog_12_method_14_code 67 = .ok (.iload 5, 2) := by decide +kernel
theorem d_Mo_nodes_69 : decode prog_12_method_14_code 69 = .ok (.iload 4, 2) := by decide +kernel
theorem d_Mo_nodes_71 : decode prog_12_method_14_code 71 = .ok (.invokevirtual 130, 3) := by decide +kernel
theorem d_Mo_nodes_74 : decode prog_12_method_14_code 74 = .ok (.ifCond .eq 23, 3) := by decide +kernel
theorem d_Mo_nodes_77 : decode prog_12_method_14_code 77 = .ok (.aload_n 0, 1) := by decide +kernel
theorem d_Mo_nodes_78 : decode prog_12_method_14_code 78 = .ok (.getfield 106, 3) := by decide +kernel
theorem d_Mo_nodes_81 : decode prog_12_method_14_code 81 = .ok (.ifCond .ne 16, 3) := by decide +kernel
theorem d_Mo_nodes_84 : decode prog_12_method_14_code 84 = .ok (.iinc 2 1, 3) := by decide +kernel
theorem d_Mo_nodes_87 : decode prog_12_method_14_code 87 = .ok (.iload_n 1, 1) := by decide +kernel
theorem d_Mo_nodes_88 : decode prog_12_method_14_code 88 = .ok (.ifCond .eq 9, 3) := by decide +kernel
theorem d_Mo_nodes_91 : decode prog_12_method_14_code 91 = .ok (.aload_n 0, 1) := by decide +kernel
theorem d_Mo_nodes_92 : decode prog_12_method_14_code 92 = .ok (.iload 5, 2) := by decide +kernel
theorem d_Mo_nodes_94 : decode prog_12_method_14_code 94 = .ok (.invokevirtual 134, 3) := by decide +kernel
theorem d_Mo_nodes_97 : decode prog_12_method_14_code 97 = .ok (.iinc 4 (-1), 3) := by decide +kernel
theorem d_Mo_nodes_100 : decode prog_12_method_14_code 100 = .ok (.goto (-86), 3) := by decide +kernel
theorem d_Mo_nodes_103 : decode prog_12_method_14_code 103 = .ok (.iinc 3 1, 3) := by decide +kernel
theorem d_Mo_nodes_106 : decode prog_12_method_14_code 106 = .ok (.goto (-102), 3) := by decide +kernel
theorem d_Mo_nodes_109 : decode prog_12_method_14_code 109 = .ok (.iload_n 2, 1) := by decide +kernel
theorem d_Mo_nodes_110 : decode prog_12_method_14_code 110 = .ok (.ireturn, 1) := by decide +kernel
theorem d_Mo_writeNode_0 : decode prog_12_method_15_code 0 = .ok (.aload_n 0, 1) := by decide +kernel
theorem d_Mo_writeNode_1 : decode prog_12_method_15_code 1 = .ok (.getfield 23, 3) := by decide +kernel
theorem d_Mo_writeNode_4 : decode prog_12_method_15_code 4 = .ok (.iload_n 1, 1) := by decide +kernel
theorem d_Mo_writeNode_5 : decode prog_12_method_15_code 5 = .ok (.iaload, 1) := by decide +kernel
theorem d_Mo_writeNode_6 : decode prog_12_method_15_code 6 = .ok (.iconst 1, 1) := by decide +kernel
theorem d_Mo_writeNode_7 : decode prog_12_method_15_code 7 = .ok (.if_icmp .ne 44, 3) := by decide +kernel
theorem d_Mo_writeNode_10 : decode prog_12_method_15_code 10 = .ok (.aload_n 0, 1) := by decide +kernel
theorem d_Mo_writeNode_11 : decode prog_12_method_15_code 11 = .ok (.getfield 47, 3) := by decide +kernel
theorem d_Mo_writeNode_14 : decode prog_12_method_15_code 14 = .ok (.aload_n 0, 1) := by decide +kernel
theorem d_Mo_writeNode_15 : decode prog_12_method_15_code 15 = .ok (.getfield 29, 3) := by decide +kernel
theorem d_Mo_writeNode_18 : decode prog_12_method_15_code 18 = .ok (.iload_n 1, 1) := by decide +kernel
theorem d_Mo_writeNode_19 : decode prog_12_method_15_code 19 = .ok (.iaload, 1) := by decide +kernel
theorem d_Mo_writeNode_20 : decode prog_12_method_15_code 20 = .ok (.aload_n 0, 1) := by decide +kernel
theorem d_Mo_writeNode_21 : decode prog_12_method_15_code 21 = .ok (.getfield 121, 3) := by decide +kernel
theorem d_Mo_writeNode_24 : decode prog_12_method_15_code 24 = .ok (.iastore, 1) := by decide +kernel
theorem d_Mo_writeNode_25 : decode prog_12_method_15_code 25 = .ok (.aload_n 0, 1) := by decide +kernel
theorem d_Mo_writeNode_26 : decode prog_12_method_15_code 26 = .ok (.iconst 1, 1) := by decide +kernel
theorem d_Mo_writeNode_27 : decode prog_12_method_15_code 27 = .ok (.aload_n 0, 1) := by decide +kernel
theorem d_Mo_writeNode_28 : decode prog_12_method_15_code 28 = .ok (.getfield 29, 3) := by decide +kernel
theorem d_Mo_writeNode_31 : decode prog_12_method_15_code 31 = .ok (.iload_n 1, 1) := by decide +kernel
theorem d_Mo_writeNode_32 : decode prog_12_method_15_code 32 = .ok (.iaload, 1) := by decide +kernel
theorem d_Mo_writeNode_33 : decode prog_12_method_15_code 33 = .ok (.aload_n 0, 1) := by decide +kernel
theorem d_Mo_writeNode_34 : decode prog_12_method_15_code 34 = .ok (.getfield 13, 3) := by decide +kernel
theorem d_Mo_writeNode_37 : decode prog_12_method_15_code 37 = .ok (.aload_n 0, 1) := by decide +kernel
theorem d_Mo_writeNode_38 : decode prog_12_method_15_code 38 = .ok (.getfield 29, 3) := by decide +kernel
theorem d_Mo_writeNode_41 : decode prog_12_method_15_code 41 = .ok (.iload_n 1, 1) := by decide +kernel
theorem d_Mo_writeNode_42 : decode prog_12_method_15_code 42 = .ok (.iaload, 1) := by decide +kernel
theorem d_Mo_writeNode_43 : decode prog_12_method_15_code 43 = .ok (.iaload, 1) := by decide +kernel
theorem d_Mo_writeNode_44 : decode prog_12_method_15_code 44 = .ok (.invokevirtual 138, 3) := by decide +kernel
theorem d_Mo_writeNode_47 : decode prog_12_method_15_code 47 = .ok (.istore_n 2, 1) := by decide +kernel
theorem d_Mo_writeNode_48 : decode prog_12_method_15_code 48 = .ok (.goto 40, 3) := by decide +kernel
theorem d_Mo_writeNode_51 : decode prog_12_method_15_code 51 = .ok (.aload_n 0, 1) := by decide +kernel
theorem d_Mo_writeNode_52 : decode prog_12_method_15_code 52 = .ok (.iconst 2, 1) := by decide +kernel
theorem d_Mo_writeNode_53 : decode prog_12_method_15_code 53 = .ok (.iload_n 1, 1) := by decide +kernel
theorem d_Mo_writeNode_54 : decode prog_12_method_15_code 54 = .ok (.imul, 1) := by decide +kernel
theorem d_Mo_writeNode_55 : decode prog_12_method_15_code 55 = .ok (.invokevirtual 142, 3) := by decide +kernel
theorem d_Mo_writeNode_58 : decode prog_12_method_15_code 58 = .ok (.istore_n 2, 1) := by decide +kernel
theorem d_Mo_writeNode_59 : decode prog_12_method_15_code 59 = .ok (.aload_n 0, 1) := by decide +kernel
theorem d_Mo_writeNode_60 : decode prog_12_method_15_code 60 = .ok (.iconst 2, 1) := by decide +kernel
theorem d_Mo_writeNode_61 : decode prog_12_method_15_code 61 = .ok (.iload_n 1, 1) := by decide +kernel
theorem d_Mo_writeNode_62 : decode prog_12_method_15_code 62 = .ok (.imul, 1) := by decide +kernel
theorem d_Mo_writeNode_63 : decode prog_12_method_15_code 63 = .ok (.iconst 1, 1) := by decide +kernel
theorem d_Mo_writeNode_64 : decode prog_12_method_15_code 64 = .ok (.iadd, 1) := by decide +kernel
theorem d_Mo_writeNode_65 : decode prog_12_method_15_code 65 = .ok (.invokevirtual 142, 3) := by decide +kernel
theorem d_Mo_writeNode_68 : decode prog_12_method_15_code 68 = .ok (.istore_n 3, 1) := by decide +kernel
theorem d_Mo_writeNode_69 : decode prog_12_method_15_code 69 = .ok (.aload_n 0, 1) := by decide +kernel
theorem d_Mo_writeNode_70 : decode prog_12_method_15_code 70 = .ok (.getfield 50, 3) := by decide +kernel
theorem d_Mo_writeNode_73 : decode prog_12_method_15_code 73 = .ok (.iload_n 1, 1) := by decide +kernel
theorem d_Mo_writeNode_74 : decode prog_12_method_15_code 74 = .ok (.aload_n 0, 1) := by decide +kernel
theorem d_Mo_writeNode_75 : decode prog_12_method_15_code 75 = .ok (.getfield 121, 3) := by decide +kernel
theorem d_Mo_writeNode_78 : decode prog_12_method_15_code 78 = .ok (.iastore, 1) := by decide +kernel
theorem d_Mo_writeNode_79 : decode prog_12_method_15_code 79 = .ok (.aload_n 0, 1) := by decide +kernel
theorem d_Mo_writeNode_80 : decode prog_12_method_15_code 80 = .ok (.iconst 2, 1) := by decide +kernel
theorem d_Mo_writeNode_81 : decode prog_12_method_15_code 81 = .ok (.iload_n 2, 1) := by decide +kernel
theorem d_Mo_writeNode_82 : decode prog_12_method_15_code 82 = .ok (.iload_n 3, 1) := by decide +kernel
theorem d_Mo_writeNode_83 : decode prog_12_method_15_code 83 = .ok (.invokevirtual 138, 3) := by decide +kernel
theorem d_Mo_writeNode_86 : decode prog_12_method_15_code 86 = .ok (.istore 4, 2) := by decide +kernel
theorem d_Mo_writeNode_88 : decode prog_12_method_15_code 88 = .ok (.return_, 1) := by decide +kernel
theorem d_Mo_forget_0 : decode prog_12_method_16_code 0 = .ok (.iconst 0, 1) := by decide +kernel
theorem d_Mo_forget_1 : decode prog_12_method_16_code 1 = .ok (.istore_n 1, 1) := by decide +kernel
theorem d_Mo_forget_2 : decode prog_12_method_16_code 2 = .ok (.iload_n 1, 1) := by decide +kernel
theorem d_Mo_forget_3 : decode prog_12_method_16_code 3 = .ok (.bipush 64, 2) := by decide +kernel
theorem d_Mo_forget_5 : decode prog_12_method_16_code 5 = .ok (.if_icmp .ge 49, 3) := by decide +kernel
theorem d_Mo_forget_8 : decode prog_12_method_16_code 8 = .ok (.aload_n 0, 1) := by decide +kernel
theorem d_Mo_forget_9 : decode prog_12_method_16_code 9 = .ok (.getfield 16, 3) := by decide +kernel
theorem d_Mo_forget_12 : decode prog_12_method_16_code 12 = .ok (.iload_n 1, 1) := by decide +kernel
theorem d_Mo_forget_13 : decode prog_12_method_16_code 13 = .ok (.iconst 0, 1) := by decide +kernel
theorem d_Mo_forget_14 : decode prog_12_method_16_code 14 = .ok (.bastore, 1) := by decide +kernel
theorem d_Mo_forget_15 : decode prog_12_method_16_code 15 = .ok (.aload_n 0, 1) := by decide +kernel
theorem d_Mo_forget_16 : decode prog_12_method_16_code 16 = .ok (.getfield 13, 3) := by decide +kernel
theorem d_Mo_forget_19 : decode prog_12_method_16_code 19 = .ok (.iload_n 1, 1) := by decide +kernel
theorem d_Mo_forget_20 : decode prog_12_method_16_code 20 = .ok (.aload_n 0, 1) := by decide +kernel
theorem d_Mo_forget_21 : decode prog_12_method_16_code 21 = .ok (.getfield 145, 3) := by decide +kernel
theorem d_Mo_forget_24 : decode prog_12_method_16_code 24 = .ok (.ifCond .ne 7, 3) := by decide +kernel
theorem d_Mo_forget_27 : decode prog_12_method_16_code 27 = .ok (.iconst 0, 1) := by decide +kernel
theorem d_Mo_forget_28 : decode prog_12_method_16_code 28 = .ok (.goto 19, 3) := by decide +kernel
theorem d_Mo_forget_31 : decode prog_12_method_16_code 31 = .ok (.aload_n 0, 1) := by decide +kernel
theorem d_Mo_forget_32 : decode prog_12_method_16_code 32 = .ok (.getfield 7, 3) := by decide +kernel
theorem d_Mo_forget_35 : decode prog_12_method_16_code 35 = .ok (.bipush 64, 2) := by decide +kernel
theorem d_Mo_forget_37 : decode prog_12_method_16_code 37 = .ok (.aload_n 0, 1) := by decide +kernel
theorem d_Mo_forget_38 : decode prog_12_method_16_code 38 = .ok (.getfield 145, 3) := by decide +kernel
theorem d_Mo_forget_41 : decode prog_12_method_16_code 41 = .ok (.iconst 1, 1) := by decide +kernel
theorem d_Mo_forget_42 : decode prog_12_method_16_code 42 = .ok (.isub, 1) := by decide +kernel
theorem d_Mo_forget_43 : decode prog_12_method_16_code 43 = .ok (.imul, 1) := by decide +kernel
theorem d_Mo_forget_44 : decode prog_12_method_16_code 44 = .ok (.iload_n 1, 1) := by decide +kernel
theorem d_Mo_forget_45 : decode prog_12_method_16_code 45 = .ok (.iadd, 1) := by decide +kernel
theorem d_Mo_forget_46 : decode prog_12_method_16_code 46 = .ok (.iaload, 1) := by decide +kernel
theorem d_Mo_forget_47 : decode prog_12_method_16_code 47 = .ok (.iastore, 1) := by decide +kernel
theorem d_Mo_forget_48 : decode prog_12_method_16_code 48 = .ok (.iinc 1 1, 3) := by decide +kernel
theorem d_Mo_forget_51 : decode prog_12_method_16_code 51 = .ok (.goto (-49), 3) := by decide +kernel
theorem d_Mo_forget_54 : decode prog_12_method_16_code 54 = .ok (.return_, 1) := by decide +kernel
theorem d_Mo_close_0 : decode prog_12_method_17_code 0 = .ok (.aload_n 0, 1) := by decide +kernel
theorem d_Mo_close_1 : decode prog_12_method_17_code 1 = .ok (.getfield 106, 3) := by decide +kernel
theorem d_Mo_close_4 : decode prog_12_method_17_code 4 = .ok (.ifCond .eq 6, 3) := by decide +kernel
theorem d_Mo_close_7 : decode prog_12_method_17_code 7 = .ok (.bipush (-9), 2) := by decide +kernel
theorem d_Mo_close_9 : decode prog_12_method_17_code 9 = .ok (.ireturn, 1) := by decide +kernel
theorem d_Mo_close_10 : decode prog_12_method_17_code 10 = .ok (.aload_n 0, 1) := by decide +kernel
theorem d_Mo_close_11 : decode prog_12_method_17_code 11 = .ok (.iconst (-1), 1) := by decide +kernel
theorem d_Mo_close_12 : decode prog_12_method_17_code 12 = .ok (.invokevirtual 148, 3) := by decide +kernel
theorem d_Mo_close_15 : decode prog_12_method_17_code 15 = .ok (.aload_n 0, 1) := by decide +kernel
theorem d_Mo_close_16 : decode prog_12_method_17_code 16 = .ok (.iconst 0, 1) := by decide +kernel
theorem d_Mo_close_17 : decode prog_12_method_17_code 17 = .ok (.invokevirtual 151, 3) := by decide +kernel
theorem d_Mo_close_20 : decode prog_12_method_17_code 20 = .ok (.istore_n 1, 1) := by decide +kernel
theorem d_Mo_close_21 : decode prog_12_method_17_code 21 = .ok (.aload_n 0, 1) := by decide +kernel
theorem d_Mo_close_22 : decode prog_12_method_17_code 22 = .ok (.getfield 145, 3) := by decide +kernel
theorem d_Mo_close_25 : decode prog_12_method_17_code 25 = .ok (.bipush 40, 2) := by decide +kernel
theorem d_Mo_close_27 : decode prog_12_method_17_code 27 = .ok (.if_icmp .eq 17, 3) := by decide +kernel
theorem d_Mo_close_30 : decode prog_12_method_17_code 30 = .ok (.aload_n 0, 1) := by decide +kernel
theorem d_Mo_close_31 : decode prog_12_method_17_code 31 = .ok (.getfield 121, 3) := by decide +kernel
theorem d_Mo_close_34 : decode prog_12_method_17_code 34 = .ok (.iload_n 1, 1) := by decide +kernel
theorem d_Mo_close_35 : decode prog_12_method_17_code 35 = .ok (.iadd, 1) := by decide +kernel
theorem d_Mo_close_36 : decode prog_12_method_17_code 36 = .ok (.iconst 1, 1) := by decide +kernel
theorem d_Mo_close_37 : decode prog_12_method_17_code 37 = .ok (.iadd, 1) := by decide +kernel
theorem d_Mo_close_38 : decode prog_12_method_17_code 38 = .ok (.sipush 300, 3) := by decide +kernel
theorem d_Mo_close_41 : decode prog_12_method_17_code 41 = .ok (.if_icmp .le 6, 3) := by decide +kernel
theorem d_Mo_close_44 : decode prog_12_method_17_code 44 = .ok (.bipush (-2), 2) := by decide +kernel
theorem d_Mo_close_46 : decode prog_12_method_17_code 46 = .ok (.ireturn, 1) := by decide +kernel
theorem d_Mo_close_47 : decode prog_12_method_17_code 47 = .ok (.iconst 0, 1) := by decide +kernel
theorem d_Mo_close_48 : decode prog_12_method_17_code 48 = .ok (.istore_n 2, 1) := by decide +kernel
theorem d_Mo_close_49 : decode prog_12_method_17_code 49 = .ok (.iload_n 2, 1) := by decide +kernel
theorem d_Mo_close_50 : decode prog_12_method_17_code 50 = .ok (.sipush 128, 3) := by decide +kernel
theorem d_Mo_close_53 : decode prog_12_method_17_code 53 = .ok (.if_icmp .ge 37, 3) := by decide +kernel
theorem d_Mo_close_56 : decode prog_12_method_17_code 56 = .ok (.aload_n 0, 1) := by decide +kernel
