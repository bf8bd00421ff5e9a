theorem d_Mo_consistent_106 : decode prog_12_method_37_code 106 = .ok (.aload_n 0, 1) := by decide +kernel
theorem d_Mo_consistent_107 : decode prog_12_method_37_code 107 = .ok (.getfield 65, 3) := by decide +kernel
theorem d_Mo_consistent_110 : decode prog_12_method_37_code 110 = .ok (.aload_n 0, 1) := by decide +kernel
theorem d_Mo_consistent_111 : decode prog_12_method_37_code 111 = .ok (.getfield 165, 3) := by decide +kernel
theorem d_Mo_consistent_114 : decode prog_12_method_37_code 114 = .ok (.iconst 1, 1) := by decide +kernel
theorem d_Mo_consistent_115 : decode prog_12_method_37_code 115 = .ok (.isub, 1) := by decide +kernel
theorem d_Mo_consistent_116 : decode prog_12_method_37_code 116 = .ok (.iload 9, 2) := by decide +kernel
theorem d_Mo_consistent_118 : decode prog_12_method_37_code 118 = .ok (.isub, 1) := by decide +kernel
theorem d_Mo_consistent_119 : decode prog_12_method_37_code 119 = .ok (.baload, 1) := by decide +kernel
theorem d_Mo_consistent_120 : decode prog_12_method_37_code 120 = .ok (.istore 11, 2) := by decide +kernel
theorem d_Mo_consistent_122 : decode prog_12_method_37_code 122 = .ok (.iload 11, 2) := by decide +kernel
theorem d_Mo_consistent_124 : decode prog_12_method_37_code 124 = .ok (.ifCond .eq 15, 3) := by decide +kernel
theorem d_Mo_consistent_127 : decode prog_12_method_37_code 127 = .ok (.aload_n 0, 1) := by decide +kernel
theorem d_Mo_consistent_128 : decode prog_12_method_37_code 128 = .ok (.iconst 4, 1) := by decide +kernel
theorem d_Mo_consistent_129 : decode prog_12_method_37_code 129 = .ok (.iload 10, 2) := by decide +kernel
theorem d_Mo_consistent_131 : decode prog_12_method_37_code 131 = .ok (.iload 7, 2) := by decide +kernel
theorem d_Mo_consistent_133 : decode prog_12_method_37_code 133 = .ok (.invokevirtual 102, 3) := by decide +kernel
theorem d_Mo_consistent_136 : decode prog_12_method_37_code 136 = .ok (.goto 12, 3) := by decide +kernel
theorem d_Mo_consistent_139 : decode prog_12_method_37_code 139 = .ok (.aload_n 0, 1) := by decide +kernel
theorem d_Mo_consistent_140 : decode prog_12_method_37_code 140 = .ok (.iconst 4, 1) := by decide +kernel
theorem d_Mo_consistent_141 : decode prog_12_method_37_code 141 = .ok (.iload 7, 2) := by decide +kernel
theorem d_Mo_consistent_143 : decode prog_12_method_37_code 143 = .ok (.iload 10, 2) := by decide +kernel
theorem d_Mo_consistent_145 : decode prog_12_method_37_code 145 = .ok (.invokevirtual 102, 3) := by decide +kernel
theorem d_Mo_consistent_148 : decode prog_12_method_37_code 148 = .ok (.istore 7, 2) := by decide +kernel
theorem d_Mo_consistent_150 : decode prog_12_method_37_code 150 = .ok (.iload 11, 2) := by decide +kernel
theorem d_Mo_consistent_152 : decode prog_12_method_37_code 152 = .ok (.ifCond .eq 15, 3) := by decide +kernel
theorem d_Mo_consistent_155 : decode prog_12_method_37_code 155 = .ok (.aload_n 0, 1) := by decide +kernel
theorem d_Mo_consistent_156 : decode prog_12_method_37_code 156 = .ok (.iconst 4, 1) := by decide +kernel
theorem d_Mo_consistent_157 : decode prog_12_method_37_code 157 = .ok (.iload 10, 2) := by decide +kernel
theorem d_Mo_consistent_159 : decode prog_12_method_37_code 159 = .ok (.iload 8, 2) := by decide +kernel
theorem d_Mo_consistent_161 : decode prog_12_method_37_code 161 = .ok (.invokevirtual 102, 3) := by decide +kernel
theorem d_Mo_consistent_164 : decode prog_12_method_37_code 164 = .ok (.goto 5, 3) := by decide +kernel
theorem d_Mo_consistent_167 : decode prog_12_method_37_code 167 = .ok (.iload 8, 2) := by decide +kernel
theorem d_Mo_consistent_169 : decode prog_12_method_37_code 169 = .ok (.istore 8, 2) := by decide +kernel
theorem d_Mo_consistent_171 : decode prog_12_method_37_code 171 = .ok (.iinc 9 1, 3) := by decide +kernel
theorem d_Mo_consistent_174 : decode prog_12_method_37_code 174 = .ok (.goto (-94), 3) := by decide +kernel
theorem d_Mo_consistent_177 : decode prog_12_method_37_code 177 = .ok (.iload 7, 2) := by decide +kernel
theorem d_Mo_consistent_179 : decode prog_12_method_37_code 179 = .ok (.iload 5, 2) := by decide +kernel
theorem d_Mo_consistent_181 : decode prog_12_method_37_code 181 = .ok (.if_icmp .ne 14, 3) := by decide +kernel
theorem d_Mo_consistent_184 : decode prog_12_method_37_code 184 = .ok (.iload 8, 2) := by decide +kernel
theorem d_Mo_consistent_186 : decode prog_12_method_37_code 186 = .ok (.iload 4, 2) := by decide +kernel
theorem d_Mo_consistent_188 : decode prog_12_method_37_code 188 = .ok (.if_icmp .ne 7, 3) := by decide +kernel
theorem d_Mo_consistent_191 : decode prog_12_method_37_code 191 = .ok (.iconst 1, 1) := by decide +kernel
theorem d_Mo_consistent_192 : decode prog_12_method_37_code 192 = .ok (.goto 4, 3) := by decide +kernel
theorem d_Mo_consistent_195 : decode prog_12_method_37_code 195 = .ok (.iconst 0, 1) := by decide +kernel
theorem d_Mo_consistent_196 : decode prog_12_method_37_code 196 = .ok (.ireturn, 1) := by decide +kernel
theorem d_Mo_follow_0 : decode prog_12_method_38_code 0 = .ok (.aload_n 0, 1) := by decide +kernel
theorem d_Mo_follow_1 : decode prog_12_method_38_code 1 = .ok (.getfield 90, 3) := by decide +kernel
theorem d_Mo_follow_4 : decode prog_12_method_38_code 4 = .ok (.ifCond .ge 21, 3) := by decide +kernel
theorem d_Mo_follow_7 : decode prog_12_method_38_code 7 = .ok (.iload_n 2, 1) := by decide +kernel
theorem d_Mo_follow_8 : decode prog_12_method_38_code 8 = .ok (.ifCond .lt 13, 3) := by decide +kernel
theorem d_Mo_follow_11 : decode prog_12_method_38_code 11 = .ok (.iload_n 2, 1) := by decide +kernel
theorem d_Mo_follow_12 : decode prog_12_method_38_code 12 = .ok (.bipush 40, 2) := by decide +kernel
theorem d_Mo_follow_14 : decode prog_12_method_38_code 14 = .ok (.if_icmp .ge 7, 3) := by decide +kernel
theorem d_Mo_follow_17 : decode prog_12_method_38_code 17 = .ok (.iconst 1, 1) := by decide +kernel
theorem d_Mo_follow_18 : decode prog_12_method_38_code 18 = .ok (.goto 22, 3) := by decide +kernel
theorem d_Mo_follow_21 : decode prog_12_method_38_code 21 = .ok (.iconst 0, 1) := by decide +kernel
theorem d_Mo_follow_22 : decode prog_12_method_38_code 22 = .ok (.goto 18, 3) := by decide +kernel
theorem d_Mo_follow_25 : decode prog_12_method_38_code 25 = .ok (.aload_n 0, 1) := by decide +kernel
theorem d_Mo_follow_26 : decode prog_12_method_38_code 26 = .ok (.iload_n 1, 1) := by decide +kernel
theorem d_Mo_follow_27 : decode prog_12_method_38_code 27 = .ok (.aload_n 0, 1) := by decide +kernel
theorem d_Mo_follow_28 : decode prog_12_method_38_code 28 = .ok (.getfield 90, 3) := by decide +kernel
theorem d_Mo_follow_31 : decode prog_12_method_38_code 31 = .ok (.iload_n 2, 1) := by decide +kernel
theorem d_Mo_follow_32 : decode prog_12_method_38_code 32 = .ok (.aload_n 0, 1) := by decide +kernel
theorem d_Mo_follow_33 : decode prog_12_method_38_code 33 = .ok (.getfield 93, 3) := by decide +kernel
theorem d_Mo_follow_36 : decode prog_12_method_38_code 36 = .ok (.iload_n 3, 1) := by decide +kernel
theorem d_Mo_follow_37 : decode prog_12_method_38_code 37 = .ok (.invokevirtual 207, 3) := by decide +kernel
theorem d_Mo_follow_40 : decode prog_12_method_38_code 40 = .ok (.istore 4, 2) := by decide +kernel
theorem d_Mo_follow_42 : decode prog_12_method_38_code 42 = .ok (.aload_n 0, 1) := by decide +kernel
theorem d_Mo_follow_43 : decode prog_12_method_38_code 43 = .ok (.iload 4, 2) := by decide +kernel
theorem d_Mo_follow_45 : decode prog_12_method_38_code 45 = .ok (.ifCond .eq 7, 3) := by decide +kernel
theorem d_Mo_follow_48 : decode prog_12_method_38_code 48 = .ok (.iload_n 2, 1) := by decide +kernel
theorem d_Mo_follow_49 : decode prog_12_method_38_code 49 = .ok (.goto 7, 3) := by decide +kernel
theorem d_Mo_follow_52 : decode prog_12_method_38_code 52 = .ok (.aload_n 0, 1) := by decide +kernel
theorem d_Mo_follow_53 : decode prog_12_method_38_code 53 = .ok (.getfield 90, 3) := by decide +kernel
theorem d_Mo_follow_56 : decode prog_12_method_38_code 56 = .ok (.putfield 90, 3) := by decide +kernel
theorem d_Mo_follow_59 : decode prog_12_method_38_code 59 = .ok (.aload_n 0, 1) := by decide +kernel
theorem d_Mo_follow_60 : decode prog_12_method_38_code 60 = .ok (.iload 4, 2) := by decide +kernel
theorem d_Mo_follow_62 : decode prog_12_method_38_code 62 = .ok (.ifCond .eq 7, 3) := by decide +kernel
theorem d_Mo_follow_65 : decode prog_12_method_38_code 65 = .ok (.iload_n 3, 1) := by decide +kernel
theorem d_Mo_follow_66 : decode prog_12_method_38_code 66 = .ok (.goto 7, 3) := by decide +kernel
theorem d_Mo_follow_69 : decode prog_12_method_38_code 69 = .ok (.aload_n 0, 1) := by decide +kernel
theorem d_Mo_follow_70 : decode prog_12_method_38_code 70 = .ok (.getfield 93, 3) := by decide +kernel
theorem d_Mo_follow_73 : decode prog_12_method_38_code 73 = .ok (.putfield 93, 3) := by decide +kernel
theorem d_Mo_follow_76 : decode prog_12_method_38_code 76 = .ok (.iload 4, 2) := by decide +kernel
theorem d_Mo_follow_78 : decode prog_12_method_38_code 78 = .ok (.ireturn, 1) := by decide +kernel
theorem d_Mo_seen_0 : decode prog_12_method_39_code 0 = .ok (.aload_n 0, 1) := by decide +kernel
theorem d_Mo_seen_1 : decode prog_12_method_39_code 1 = .ok (.getfield 90, 3) := by decide +kernel
theorem d_Mo_seen_4 : decode prog_12_method_39_code 4 = .ok (.ifCond .ge 7, 3) := by decide +kernel
theorem d_Mo_seen_7 : decode prog_12_method_39_code 7 = .ok (.iconst (-1), 1) := by decide +kernel
theorem d_Mo_seen_8 : decode prog_12_method_39_code 8 = .ok (.goto 27, 3) := by decide +kernel
theorem d_Mo_seen_11 : decode prog_12_method_39_code 11 = .ok (.iload_n 1, 1) := by decide +kernel
theorem d_Mo_seen_12 : decode prog_12_method_39_code 12 = .ok (.ifCond .ne 10, 3) := by decide +kernel
theorem d_Mo_seen_15 : decode prog_12_method_39_code 15 = .ok (.aload_n 0, 1) := by decide +kernel
theorem d_Mo_seen_16 : decode prog_12_method_39_code 16 = .ok (.getfield 90, 3) := by decide +kernel
theorem d_Mo_seen_19 : decode prog_12_method_39_code 19 = .ok (.goto 16, 3) := by decide +kernel
theorem d_Mo_seen_22 : decode prog_12_method_39_code 22 = .ok (.iload_n 1, 1) := by decide +kernel
theorem d_Mo_seen_23 : decode prog_12_method_39_code 23 = .ok (.iconst 1, 1) := by decide +kernel
theorem d_Mo_seen_24 : decode prog_12_method_39_code 24 = .ok (.if_icmp .ne 10, 3) := by decide +kernel
theorem d_Mo_seen_27 : decode prog_12_method_39_code 27 = .ok (.aload_n 0, 1) := by decide +kernel
theorem d_Mo_seen_28 : decode prog_12_method_39_code 28 = .ok (.getfield 93, 3) := by decide +kernel
theorem d_Mo_seen_31 : decode prog_12_method_39_code 31 = .ok (.goto 4, 3) := by decide +kernel
theorem d_Mo_seen_34 : decode prog_12_method_39_code 34 = .ok (.iconst (-1), 1) := by decide +kernel
theorem d_Mo_seen_35 : decode prog_12_method_39_code 35 = .ok (.ireturn, 1) := by decide +kernel
theorem d_Mo_extract_0 : decode prog_12_method_40_code 0 = .ok (.aload_n 0, 1) := by decide +kernel
theorem d_Mo_extract_1 : decode prog_12_method_40_code 1 = .ok (.iload_n 1, 1) := by decide +kernel
theorem d_Mo_extract_2 : decode prog_12_method_40_code 2 = .ok (.iload_n 3, 1) := by decide +kernel
theorem d_Mo_extract_3 : decode prog_12_method_40_code 3 = .ok (.iload 4, 2) := by decide +kernel
theorem d_Mo_extract_5 : decode prog_12_method_40_code 5 = .ok (.iconst 0, 1) := by decide +kernel
theorem d_Mo_extract_6 : decode prog_12_method_40_code 6 = .ok (.invokevirtual 197, 3) := by decide +kernel
theorem d_Mo_extract_9 : decode prog_12_method_40_code 9 = .ok (.ifCond .eq 31, 3) := by decide +kernel
theorem d_Mo_extract_12 : decode prog_12_method_40_code 12 = .ok (.aload_n 0, 1) := by decide +kernel
theorem d_Mo_extract_13 : decode prog_12_method_40_code 13 = .ok (.iload_n 2, 1) := by decide +kernel
theorem d_Mo_extract_14 : decode prog_12_method_40_code 14 = .ok (.iload_n 3, 1) := by decide +kernel
theorem d_Mo_extract_15 : decode prog_12_method_40_code 15 = .ok (.iload 4, 2) := by decide +kernel
theorem d_Mo_extract_17 : decode prog_12_method_40_code 17 = .ok (.bipush 7, 2) := by decide +kernel
theorem d_Mo_extract_19 : decode prog_12_method_40_code 19 = .ok (.invokevirtual 197, 3) := by decide +kernel
theorem d_Mo_extract_22 : decode prog_12_method_40_code 22 = .ok (.ifCond .eq 18, 3) := by decide +kernel
theorem d_Mo_extract_25 : decode prog_12_method_40_code 25 = .ok (.aload_n 0, 1) := by decide +kernel
theorem d_Mo_extract_26 : decode prog_12_method_40_code 26 = .ok (.iload_n 1, 1) := by decide +kernel
theorem d_Mo_extract_27 : decode prog_12_method_40_code 27 = .ok (.iload_n 3, 1) := by decide +kernel
theorem d_Mo_extract_28 : decode prog_12_method_40_code 28 = .ok (.invokevirtual 201, 3) := by decide +kernel
theorem d_Mo_extract_31 : decode prog_12_method_40_code 31 = .ok (.aload_n 0, 1) := by decide +kernel
theorem d_Mo_extract_32 : decode prog_12_method_40_code 32 = .ok (.iload_n 2, 1) := by decide +kernel
theorem d_Mo_extract_33 : decode prog_12_method_40_code 33 = .ok (.iload_n 3, 1) := by decide +kernel
theorem d_Mo_extract_34 : decode prog_12_method_40_code 34 = .ok (.invokevirtual 201, 3) := by decide +kernel
theorem d_Mo_extract_37 : decode prog_12_method_40_code 37 = .ok (.if_icmp .ne 5, 3) := by decide +kernel
theorem d_Mo_extract_40 : decode prog_12_method_40_code 40 = .ok (.iconst 0, 1) := by decide +kernel
theorem d_Mo_extract_41 : decode prog_12_method_40_code 41 = .ok (.ireturn, 1) := by decide +kernel
theorem d_Mo_extract_42 : decode prog_12_method_40_code 42 = .ok (.iconst 0, 1) := by decide +kernel
theorem d_Mo_extract_43 : decode prog_12_method_40_code 43 = .ok (.istore 5, 2) := by decide +kernel
theorem d_Mo_extract_45 : decode prog_12_method_40_code 45 = .ok (.iload 5, 2) := by decide +kernel
theorem d_Mo_extract_47 : decode prog_12_method_40_code 47 = .ok (.bipush 6, 2) := by decide +kernel
theorem d_Mo_extract_49 : decode prog_12_method_40_code 49 = .ok (.if_icmp .ge 69, 3) := by decide +kernel
theorem d_Mo_extract_52 : decode prog_12_method_40_code 52 = .ok (.aload_n 0, 1) := by decide +kernel
theorem d_Mo_extract_53 : decode prog_12_method_40_code 53 = .ok (.getfield 74, 3) := by decide +kernel
theorem d_Mo_extract_56 : decode prog_12_method_40_code 56 = .ok (.iload 5, 2) := by decide +kernel
theorem d_Mo_extract_58 : decode prog_12_method_40_code 58 = .ok (.iaload, 1) := by decide +kernel
theorem d_Mo_extract_59 : decode prog_12_method_40_code 59 = .ok (.aload_n 0, 1) := by decide +kernel
theorem d_Mo_extract_60 : decode prog_12_method_40_code 60 = .ok (.getfield 74, 3) := by decide +kernel
theorem d_Mo_extract_63 : decode prog_12_method_40_code 63 = .ok (.bipush 7, 2) := by decide +kernel
theorem d_Mo_extract_65 : decode prog_12_method_40_code 65 = .ok (.iload 5, 2) := by decide +kernel
theorem d_Mo_extract_67 : decode prog_12_method_40_code 67 = .ok (.iadd, 1) := by decide +kernel
theorem d_Mo_extract_68 : decode prog_12_method_40_code 68 = .ok (.iaload, 1) := by decide +kernel
theorem d_Mo_extract_69 : decode prog_12_method_40_code 69 = .ok (.if_icmp .ne 49, 3) := by decide +kernel
theorem d_Mo_extract_72 : decode prog_12_method_40_code 72 = .ok (.aload_n 0, 1) := by decide +kernel
theorem d_Mo_extract_73 : decode prog_12_method_40_code 73 = .ok (.getfield 77, 3) := by decide +kernel
theorem d_Mo_extract_76 : decode prog_12_method_40_code 76 = .ok (.iload 5, 2) := by decide +kernel
theorem d_Mo_extract_78 : decode prog_12_method_40_code 78 = .ok (.iaload, 1) := by decide +kernel
theorem d_Mo_extract_79 : decode prog_12_method_40_code 79 = .ok (.aload_n 0, 1) := by decide +kernel
theorem d_Mo_extract_80 : decode prog_12_method_40_code 80 = .ok (.getfield 77, 3) := by decide +kernel
theorem d_Mo_extract_83 : decode prog_12_method_40_code 83 = .ok (.bipush 7, 2) := by decide +kernel
theorem d_Mo_extract_85 : decode prog_12_method_40_code 85 = .ok (.iload 5, 2) := by decide +kernel
theorem d_Mo_extract_87 : decode prog_12_method_40_code 87 = .ok (.iadd, 1) := by decide +kernel
theorem d_Mo_extract_88 : decode prog_12_method_40_code 88 = .ok (.iaload, 1) := by decide +kernel
theorem d_Mo_extract_89 : decode prog_12_method_40_code 89 = .ok (.if_icmp .ne 29, 3) := by decide +kernel
theorem d_Mo_extract_92 : decode prog_12_method_40_code 92 = .ok (.aload_n 0, 1) := by decide +kernel
theorem d_Mo_extract_93 : decode prog_12_method_40_code 93 = .ok (.getfield 80, 3) := by decide +kernel
theorem d_Mo_extract_96 : decode prog_12_method_40_code 96 = .ok (.iload 5, 2) := by decide +kernel
theorem d_Mo_extract_98 : decode prog_12_method_40_code 98 = .ok (.iaload, 1) := by decide +kernel
theorem d_Mo_extract_99 : decode prog_12_method_40_code 99 = .ok (.aload_n 0, 1) := by decide +kernel
theorem d_Mo_extract_100 : decode prog_12_method_40_code 100 = .ok (.getfield 80, 3) := by decide +kernel
theorem d_Mo_extract_103 : decode prog_12_method_40_code 103 = .ok (.bipush 7, 2) := by decide +kernel
theorem d_Mo_extract_105 : decode prog_12_method_40_code 105 = .ok (.iload 5, 2) := by decide +kernel
theorem d_Mo_extract_107 : decode prog_12_method_40_code 107 = .ok (.iadd, 1) := by decide +kernel
theorem d_Mo_extract_108 : decode prog_12_method_40_code 108 = .ok (.iaload, 1) := by decide +kernel
theorem d_Mo_extract_109 : decode prog_12_method_40_code 109 = .ok (.if_icmp .ne 9, 3) := by decide +kernel
theorem d_Mo_extract_112 : decode prog_12_method_40_code 112 = .ok (.iinc 5 1, 3) := by decide +kernel
theorem d_Mo_extract_115 : decode prog_12_method_40_code 115 = .ok (.goto (-70), 3) := by decide +kernel
theorem d_Mo_extract_118 : decode prog_12_method_40_code 118 = .ok (.aload_n 0, 1) := by decide +kernel
theorem d_Mo_extract_119 : decode prog_12_method_40_code 119 = .ok (.getfield 83, 3) := by decide +kernel
theorem d_Mo_extract_122 : decode prog_12_method_40_code 122 = .ok (.iconst 0, 1) := by decide +kernel
theorem d_Mo_extract_123 : decode prog_12_method_40_code 123 = .ok (.aload_n 0, 1) := by decide +kernel
theorem d_Mo_extract_124 : decode prog_12_method_40_code 124 = .ok (.getfield 74, 3) := by decide +kernel
theorem d_Mo_extract_127 : decode prog_12_method_40_code 127 = .ok (.iload 5, 2) := by decide +kernel
theorem d_Mo_extract_129 : decode prog_12_method_40_code 129 = .ok (.iaload, 1) := by decide +kernel
theorem d_Mo_extract_130 : decode prog_12_method_40_code 130 = .ok (.iastore, 1) := by decide +kernel
theorem d_Mo_extract_131 : decode prog_12_method_40_code 131 = .ok (.aload_n 0, 1) := by decide +kernel
theorem d_Mo_extract_132 : decode prog_12_method_40_code 132 = .ok (.getfield 83, 3) := by decide +kernel
theorem d_Mo_extract_135 : decode prog_12_method_40_code 135 = .ok (.iconst 1, 1) := by decide +kernel
theorem d_Mo_extract_136 : decode prog_12_method_40_code 136 = .ok (.aload_n 0, 1) := by decide +kernel
theorem d_Mo_extract_137 : decode prog_12_method_40_code 137 = .ok (.getfield 77, 3) := by decide +kernel
theorem d_Mo_extract_140 : decode prog_12_method_40_code 140 = .ok (.iload 5, 2) := by decide +kernel
theorem d_Mo_extract_142 : decode prog_12_method_40_code 142 = .ok (.iaload, 1) := by decide +kernel
theorem d_Mo_extract_143 : decode prog_12_method_40_code 143 = .ok (.iastore, 1) := by decide +kernel
theorem d_Mo_extract_144 : decode prog_12_method_40_code 144 = .ok (.aload_n 0, 1) := by decide +kernel
theorem d_Mo_extract_145 : decode prog_12_method_40_code 145 = .ok (.getfield 83, 3) := by decide +kernel
theorem d_Mo_extract_148 : decode prog_12_method_40_code 148 = .ok (.iconst 2, 1) := by decide +kernel
theorem d_Mo_extract_149 : decode prog_12_method_40_code 149 = .ok (.aload_n 0, 1) := by decide +kernel
theorem d_Mo_extract_150 : decode prog_12_method_40_code 150 = .ok (.getfield 80, 3) := by decide +kernel
theorem d_Mo_extract_153 : decode prog_12_method_40_code 153 = .ok (.iload 5, 2) := by decide +kernel
theorem d_Mo_extract_155 : decode prog_12_method_40_code 155 = .ok (.iaload, 1) := by decide +kernel
theorem d_Mo_extract_156 : decode prog_12_method_40_code 156 = .ok (.iastore, 1) := by decide +kernel
theorem d_Mo_extract_157 : decode prog_12_method_40_code 157 = .ok (.aload_n 0, 1) := by decide +kernel
theorem d_Mo_extract_158 : decode prog_12_method_40_code 158 = .ok (.getfield 83, 3) := by decide +kernel
theorem d_Mo_extract_161 : decode prog_12_method_40_code 161 = .ok (.iconst 3, 1) := by decide +kernel
theorem d_Mo_extract_162 : decode prog_12_method_40_code 162 = .ok (.aload_n 0, 1) := by decide +kernel
theorem d_Mo_extract_163 : decode prog_12_method_40_code 163 = .ok (.getfield 74, 3) := by decide +kernel
theorem d_Mo_extract_166 : decode prog_12_method_40_code 166 = .ok (.bipush 7, 2) := by decide +kernel
theorem d_Mo_extract_168 : decode prog_12_method_40_code 168 = .ok (.iload 5, 2) := by decide +kernel
theorem d_Mo_extract_170 : decode prog_12_method_40_code 170 = .ok (.iadd, 1) := by decide +kernel
theorem d_Mo_extract_171 : decode prog_12_method_40_code 171 = .ok (.iaload, 1) := by decide +kernel
theorem d_Mo_extract_172 : decode prog_12_method_40_code 172 = .ok (.iastore, 1) := by decide +kernel
theorem d_Mo_extract_173 : decode prog_12_method_40_code 173 = .ok (.aload_n 0, 1) := by decide +kernel
theorem d_Mo_extract_174 : decode prog_12_method_40_code 174 = .ok (.getfield 83, 3) := by decide +kernel
theorem d_Mo_extract_177 : decode prog_12_method_40_code 177 = .ok (.iconst 4, 1) := by decide +kernel
theorem d_Mo_extract_178 : decode prog_12_method_40_code 178 = .ok (.aload_n 0, 1) := by decide +kernel
theorem d_Mo_extract_179 : decode prog_12_method_40_code 179 = .ok (.getfield 77, 3) := by decide +kernel
theorem d_Mo_extract_182 : decode prog_12_method_40_code 182 = .ok (.bipush 7, 2) := by decide +kernel
theorem d_Mo_extract_184 : decode prog_12_method_40_code 184 = .ok (.iload 5, 2) := by decide +kernel
theorem d_Mo_extract_186 : decode prog_12_method_40_code 186 = .ok (.iadd, 1) := by decide +kernel
theorem d_Mo_extract_187 : decode prog_12_method_40_code 187 = .ok (.iaload, 1) := by decide +kernel
theorem d_Mo_extract_188 : decode prog_12_method_40_code 188 = .ok (.iastore, 1) := by decide +kernel
theorem d_Mo_extract_189 : decode prog_12_method_40_code 189 = .ok (.aload_n 0, 1) := by decide +kernel
theorem d_Mo_extract_190 : decode prog_12_method_40_code 190 = .ok (.getfield 83, 3) := by decide +kernel
theorem d_Mo_extract_193 : decode prog_12_method_40_code 193 = .ok (.iconst 5, 1) := by decide +kernel
theorem d_Mo_extract_194 : decode prog_12_method_40_code 194 = .ok (.aload_n 0, 1) := by decide +kernel
theorem d_Mo_extract_195 : decode prog_12_method_40_code 195 = .ok (.getfield 80, 3) := by decide +kernel
theorem d_Mo_extract_198 : decode prog_12_method_40_code 198 = .ok (.bipush 7, 2) := by decide +kernel
theorem d_Mo_extract_200 : decode prog_12_method_40_code 200 = .ok (.iload 5, 2) := by decide +kernel
theorem d_Mo_extract_202 : decode prog_12_method_40_code 202 = .ok (.iadd, 1) := by decide +kernel
theorem d_Mo_extract_203 : decode prog_12_method_40_code 203 = .ok (.iaload, 1) := by decide +kernel
theorem d_Mo_extract_204 : decode prog_12_method_40_code 204 = .ok (.iastore, 1) := by decide +kernel
theorem d_Mo_extract_205 : decode prog_12_method_40_code 205 = .ok (.iconst 1, 1) := by decide +kernel
theorem d_Mo_extract_206 : decode prog_12_method_40_code 206 = .ok (.ireturn, 1) := by decide +kernel
theorem d_Mo_clash_0 : decode prog_12_method_41_code 0 = .ok (.iload_n 1, 1) := by decide +kernel
theorem d_Mo_clash_1 : decode prog_12_method_41_code 1 = .ok (.ifCond .lt 8, 3) := by decide +kernel
theorem d_Mo_clash_4 : decode prog_12_method_41_code 4 = .ok (.iload_n 1, 1) := by decide +kernel
theorem d_Mo_clash_5 : decode prog_12_method_41_code 5 = .ok (.iconst 5, 1) := by decide +kernel
theorem d_Mo_clash_6 : decode prog_12_method_41_code 6 = .ok (.if_icmp .le 7, 3) := by decide +kernel
theorem d_Mo_clash_9 : decode prog_12_method_41_code 9 = .ok (.iconst 0, 1) := by decide +kernel
theorem d_Mo_clash_10 : decode prog_12_method_41_code 10 = .ok (.goto 9, 3) := by decide +kernel
theorem d_Mo_clash_13 : decode prog_12_method_41_code 13 = .ok (.aload_n 0, 1) := by decide +kernel
theorem d_Mo_clash_14 : decode prog_12_method_41_code 14 = .ok (.getfield 83, 3) := by decide +kernel
theorem d_Mo_clash_17 : decode prog_12_method_41_code 17 = .ok (.iload_n 1, 1) := by decide +kernel
theorem d_Mo_clash_18 : decode prog_12_method_41_code 18 = .ok (.iaload, 1) := by decide +kernel
theorem d_Mo_clash_19 : decode prog_12_method_41_code 19 = .ok (.ireturn, 1) := by decide +kernel
theorem d_Mo_block_0 : decode prog_12_method_42_code 0 = .ok (.iload_n 1, 1) := by decide +kernel
theorem d_Mo_block_1 : decode prog_12_method_42_code 1 = .ok (.ifCond .lt 11, 3) := by decide +kernel
theorem d_Mo_block_4 : decode prog_12_method_42_code 4 = .ok (.iload_n 1, 1) := by decide +kernel
theorem d_Mo_block_5 : decode prog_12_method_42_code 5 = .ok (.aload_n 0, 1) := by decide +kernel
theorem d_Mo_block_6 : decode prog_12_method_42_code 6 = .ok (.getfield 121, 3) := by decide +kernel
theorem d_Mo_block_9 : decode prog_12_method_42_code 9 = .ok (.if_icmp .lt 6, 3) := by decide +kernel
theorem d_Mo_block_12 : decode prog_12_method_42_code 12 = .ok (.bipush (-2), 2) := by decide +kernel
theorem d_Mo_block_14 : decode prog_12_method_42_code 14 = .ok (.ireturn, 1) := by decide +kernel
theorem d_Mo_block_15 : decode prog_12_method_42_code 15 = .ok (.iload_n 2, 1) := by decide +kernel
theorem d_Mo_block_16 : decode prog_12_method_42_code 16 = .ok (.ifCond .ne 12, 3) := by decide +kernel
theorem d_Mo_block_19 : decode prog_12_method_42_code 19 = .ok (.aload_n 0, 1) := by decide +kernel
theorem d_Mo_block_20 : decode prog_12_method_42_code 20 = .ok (.getfield 32, 3) := by decide +kernel
theorem d_Mo_block_23 : decode prog_12_method_42_code 23 = .ok (.iload_n 1, 1) := by decide +kernel
theorem d_Mo_block_24 : decode prog_12_method_42_code 24 = .ok (.iaload, 1) := by decide +kernel
theorem d_Mo_block_25 : decode prog_12_method_42_code 25 = .ok (.goto 33, 3) := by decide +kernel
theorem d_Mo_block_28 : decode prog_12_method_42_code 28 = .ok (.iload_n 2, 1) := by decide +kernel
theorem d_Mo_block_29 : decode prog_12_method_42_code 29 = .ok (.iconst 1, 1) := by decide +kernel
theorem d_Mo_block_30 : decode prog_12_method_42_code 30 = .ok (.if_icmp .ne 12, 3) := by decide +kernel
theorem d_Mo_block_33 : decode prog_12_method_42_code 33 = .ok (.aload_n 0, 1) := by decide +kernel
theorem d_Mo_block_34 : decode prog_12_method_42_code 34 = .ok (.getfield 35, 3) := by decide +kernel
theorem d_Mo_block_37 : decode prog_12_method_42_code 37 = .ok (.iload_n 1, 1) := by decide +kernel
theorem d_Mo_block_38 : decode prog_12_method_42_code 38 = .ok (.iaload, 1) := by decide +kernel
theorem d_Mo_block_39 : decode prog_12_method_42_code 39 = .ok (.goto 19, 3) := by decide +kernel
theorem d_Mo_block_42 : decode prog_12_method_42_code 42 = .ok (.iload_n 2, 1) := by decide +kernel
theorem d_Mo_block_43 : decode prog_12_method_42_code 43 = .ok (.iconst 2, 1) := by decide +kernel
theorem d_Mo_block_44 : decode prog_12_method_42_code 44 = .ok (.if_icmp .ne 12, 3) := by decide +kernel
theorem d_Mo_block_47 : decode prog_12_method_42_code 47 = .ok (.aload_n 0, 1) := by decide +kernel
theorem d_Mo_block_48 : decode prog_12_method_42_code 48 = .ok (.getfield 38, 3) := by decide +kernel
theorem d_Mo_block_51 : decode prog_12_method_42_code 51 = .ok (.iload_n 1, 1) := by decide +kernel
theorem d_Mo_block_52 : decode prog_12_method_42_code 52 = .ok (.iaload, 1) := by decide +kernel
theorem d_Mo_block_53 : decode prog_12_method_42_code 53 = .ok (.goto 5, 3) := by decide +kernel
theorem d_Mo_block_56 : decode prog_12_method_42_code 56 = .ok (.bipush (-2), 2) := by decide +kernel
theorem d_Mo_block_58 : decode prog_12_method_42_code 58 = .ok (.ireturn, 1) := by decide +kernel
theorem d_Mo_size_0 : decode prog_12_method_43_code 0 = .ok (.iconst 0, 1) := by decide +kernel
theorem d_Mo_size_1 : decode prog_12_method_43_code 1 = .ok (.istore_n 2, 1) := by decide +kernel
theorem d_Mo_size_2 : decode prog_12_method_43_code 2 = .ok (.iconst 0, 1) := by decide +kernel
theorem d_Mo_size_3 : decode prog_12_method_43_code 3 = .ok (.istore_n 3, 1) := by decide +kernel
theorem d_Mo_size_4 : decode prog_12_method_43_code 4 = .ok (.iload_n 3, 1) := by decide +kernel
theorem d_Mo_size_5 : decode prog_12_method_43_code 5 = .ok (.bipush 64, 2) := by decide +kernel
theorem d_Mo_size_7 : decode prog_12_method_43_code 7 = .ok (.if_icmp .ge 43, 3) := by decide +kernel
theorem d_Mo_size_10 : decode prog_12_method_43_code 10 = .ok (.aload_n 0, 1) := by decide +kernel
theorem d_Mo_size_11 : decode prog_12_method_43_code 11 = .ok (.getfield 145, 3) := by decide +kernel
theorem d_Mo_size_14 : decode prog_12_method_43_code 14 = .ok (.ifCond .le 28, 3) := by decide +kernel
theorem d_Mo_size_17 : decode prog_12_method_43_code 17 = .ok (.aload_n 0, 1) := by decide +kernel
theorem d_Mo_size_18 : decode prog_12_method_43_code 18 = .ok (.getfield 7, 3) := by decide +kernel
theorem d_Mo_size_21 : decode prog_12_method_43_code 21 = .ok (.bipush 64, 2) := by decide +kernel
theorem d_Mo_size_23 : decode prog_12_method_43_code 23 = .ok (.aload_n 0, 1) := by decide +kernel
theorem d_Mo_size_24 : decode prog_12_method_43_code 24 = .ok (.getfield 145, 3) := by decide +kernel
theorem d_Mo_size_27 : decode prog_12_method_43_code 27 = .ok (.iconst 1, 1) := by decide +kernel
theorem d_Mo_size_28 : decode prog_12_method_43_code 28 = .ok (.isub, 1) := by decide +kernel
theorem d_Mo_size_29 : decode prog_12_method_43_code 29 = .ok (.imul, 1) := by decide +kernel
theorem d_Mo_size_30 : decode prog_12_method_43_code 30 = .ok (.iload_n 3, 1) := by decide +kernel
theorem d_Mo_size_31 : decode prog_12_method_43_code 31 = .ok (.iadd, 1) := by decide +kernel
theorem d_Mo_size_32 : decode prog_12_method_43_code 32 = .ok (.iaload, 1) := by decide +kernel
theorem d_Mo_size_33 : decode prog_12_method_43_code 33 = .ok (.ifCond .eq 9, 3) := by decide +kernel
theorem d_Mo_size_36 : decode prog_12_method_43_code 36 = .ok (.iload_n 2, 1) := by decide +kernel
theorem d_Mo_size_37 : decode prog_12_method_43_code 37 = .ok (.iconst 1, 1) := by decide +kernel
theorem d_Mo_size_38 : decode prog_12_method_43_code 38 = .ok (.iadd, 1) := by decide +kernel
theorem d_Mo_size_39 : decode prog_12_method_43_code 39 = .ok (.goto 4, 3) := by decide +kernel
theorem d_Mo_size_42 : decode prog_12_method_43_code 42 = .ok (.iload_n 2, 1) := by decide +kernel
theorem d_Mo_size_43 : decode prog_12_method_43_code 43 = .ok (.istore_n 2, 1) := by decide +kernel
theorem d_Mo_size_44 : decode prog_12_method_43_code 44 = .ok (.iinc 3 1, 3) := by decide +kernel
theorem d_Mo_size_47 : decode prog_12_method_43_code 47 = .ok (.goto (-43), 3) := by decide +kernel
theorem d_Mo_size_50 : decode prog_12_method_43_code 50 = .ok (.iload_n 1, 1) := by decide +kernel
theorem d_Mo_size_51 : decode prog_12_method_43_code 51 = .ok (.tableswitch 81 0 6 #[41, 46, 51, 56, 58, 63, 68], 41) := by decide +kernel
theorem d_Mo_size_92 : decode prog_12_method_43_code 92 = .ok (.aload_n 0, 1) := by decide +kernel
theorem d_Mo_size_93 : decode prog_12_method_43_code 93 = .ok (.getfield 145, 3) := by decide +kernel
theorem d_Mo_size_96 : decode prog_12_method_43_code 96 = .ok (.ireturn, 1) := by decide +kernel
theorem d_Mo_size_97 : decode prog_12_method_43_code 97 = .ok (.aload_n 0, 1) := by decide +kernel
theorem d_Mo_size_98 : decode prog_12_method_43_code 98 = .ok (.getfield 121, 3) := by decide +kernel
theorem d_Mo_size_101 : decode prog_12_method_43_code 101 = .ok (.ireturn, 1) := by decide +kernel
theorem d_Mo_size_102 : decode prog_12_method_43_code 102 = .ok (.aload_n 0, 1) := by decide +kernel
theorem d_Mo_size_103 : decode prog_12_method_43_code 103 = .ok (.invokevirtual 117, 3) := by decide +kernel
theorem d_Mo_size_106 : decode prog_12_method_43_code 106 = .ok (.ireturn, 1) := by decide +kernel
theorem d_Mo_size_107 : decode prog_12_method_43_code 107 = .ok (.iload_n 2, 1) := by decide +kernel
theorem d_Mo_size_108 : decode prog_12_method_43_code 108 = .ok (.ireturn, 1) := by decide +kernel
theorem d_Mo_size_109 : decode prog_12_method_43_code 109 = .ok (.aload_n 0, 1) := by decide +kernel
theorem d_Mo_size_110 : decode prog_12_method_43_code 110 = .ok (.getfield 191, 3) := by decide +kernel
theorem d_Mo_size_113 : decode prog_12_method_43_code 113 = .ok (.ireturn, 1) := by decide +kernel
theorem d_Mo_size_114 : decode prog_12_method_43_code 114 = .ok (.aload_n 0, 1) := by decide +kernel
theorem d_Mo_size_115 : decode prog_12_method_43_code 115 = .ok (.getfield 181, 3) := by decide +kernel
theorem d_Mo_size_118 : decode prog_12_method_43_code 118 = .ok (.ireturn, 1) := by decide +kernel
theorem d_Mo_size_119 : decode prog_12_method_43_code 119 = .ok (.aload_n 0, 1) := by decide +kernel
theorem d_Mo_size_120 : decode prog_12_method_43_code 120 = .ok (.getfield 106, 3) := by decide +kernel
theorem d_Mo_size_123 : decode prog_12_method_43_code 123 = .ok (.ifCond .eq 7, 3) := by decide +kernel
theorem d_Mo_size_126 : decode prog_12_method_43_code 126 = .ok (.iconst 1, 1) := by decide +kernel
theorem d_Mo_size_127 : decode prog_12_method_43_code 127 = .ok (.goto 4, 3) := by decide +kernel
theorem d_Mo_size_130 : decode prog_12_method_43_code 130 = .ok (.iconst 0, 1) := by decide +kernel
theorem d_Mo_size_131 : decode prog_12_method_43_code 131 = .ok (.ireturn, 1) := by decide +kernel
theorem d_Mo_size_132 : decode prog_12_method_43_code 132 = .ok (.iconst (-1), 1) := by decide +kernel
theorem d_Mo_size_133 : decode prog_12_method_43_code 133 = .ok (.ireturn, 1) := by decide +kernel
