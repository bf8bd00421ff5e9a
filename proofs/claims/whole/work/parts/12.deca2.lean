theorem d_HC_acceptsConsistency_164 : decode prog_5_method_3_code 164 = .ok (.goto (-82), 3) := by decide +kernel
theorem d_HC_acceptsConsistency_167 : decode prog_5_method_3_code 167 = .ok (.iload 8, 2) := by decide +kernel
theorem d_HC_acceptsConsistency_169 : decode prog_5_method_3_code 169 = .ok (.iload 4, 2) := by decide +kernel
theorem d_HC_acceptsConsistency_171 : decode prog_5_method_3_code 171 = .ok (.if_icmp .ne 14, 3) := by decide +kernel
theorem d_HC_acceptsConsistency_174 : decode prog_5_method_3_code 174 = .ok (.iload 7, 2) := by decide +kernel
theorem d_HC_acceptsConsistency_176 : decode prog_5_method_3_code 176 = .ok (.iload 5, 2) := by decide +kernel
theorem d_HC_acceptsConsistency_178 : decode prog_5_method_3_code 178 = .ok (.if_icmp .ne 7, 3) := by decide +kernel
theorem d_HC_acceptsConsistency_181 : decode prog_5_method_3_code 181 = .ok (.iconst 1, 1) := by decide +kernel
theorem d_HC_acceptsConsistency_182 : decode prog_5_method_3_code 182 = .ok (.goto 4, 3) := by decide +kernel
theorem d_HC_acceptsConsistency_185 : decode prog_5_method_3_code 185 = .ok (.iconst 0, 1) := by decide +kernel
theorem d_HC_acceptsConsistency_186 : decode prog_5_method_3_code 186 = .ok (.ireturn, 1) := by decide +kernel
theorem d_HC_areInOrder_0 : decode prog_5_method_4_code 0 = .ok (.iload_n 0, 1) := by decide +kernel
theorem d_HC_areInOrder_1 : decode prog_5_method_4_code 1 = .ok (.ifCond .lt 18, 3) := by decide +kernel
theorem d_HC_areInOrder_4 : decode prog_5_method_4_code 4 = .ok (.iload_n 0, 1) := by decide +kernel
theorem d_HC_areInOrder_5 : decode prog_5_method_4_code 5 = .ok (.iload_n 1, 1) := by decide +kernel
theorem d_HC_areInOrder_6 : decode prog_5_method_4_code 6 = .ok (.if_icmp .gt 13, 3) := by decide +kernel
theorem d_HC_areInOrder_9 : decode prog_5_method_4_code 9 = .ok (.iload_n 1, 1) := by decide +kernel
theorem d_HC_areInOrder_10 : decode prog_5_method_4_code 10 = .ok (.bipush 40, 2) := by decide +kernel
theorem d_HC_areInOrder_12 : decode prog_5_method_4_code 12 = .ok (.if_icmp .ge 7, 3) := by decide +kernel
theorem d_HC_areInOrder_15 : decode prog_5_method_4_code 15 = .ok (.iconst 1, 1) := by decide +kernel
theorem d_HC_areInOrder_16 : decode prog_5_method_4_code 16 = .ok (.goto 4, 3) := by decide +kernel
theorem d_HC_areInOrder_19 : decode prog_5_method_4_code 19 = .ok (.iconst 0, 1) := by decide +kernel
theorem d_HC_areInOrder_20 : decode prog_5_method_4_code 20 = .ok (.ireturn, 1) := by decide +kernel
theorem d_HC_join_0 : decode prog_5_method_5_code 0 = .ok (.aload_n 0, 1) := by decide +kernel
theorem d_HC_join_1 : decode prog_5_method_5_code 1 = .ok (.getfield 12, 3) := by decide +kernel
theorem d_HC_join_4 : decode prog_5_method_5_code 4 = .ok (.iload_n 3, 1) := by decide +kernel
theorem d_HC_join_5 : decode prog_5_method_5_code 5 = .ok (.invokevirtual 55, 3) := by decide +kernel
theorem d_HC_join_8 : decode prog_5_method_5_code 8 = .ok (.ifCond .eq 16, 3) := by decide +kernel
theorem d_HC_join_11 : decode prog_5_method_5_code 11 = .ok (.aload_n 0, 1) := by decide +kernel
theorem d_HC_join_12 : decode prog_5_method_5_code 12 = .ok (.getfield 18, 3) := by decide +kernel
theorem d_HC_join_15 : decode prog_5_method_5_code 15 = .ok (.iconst 4, 1) := by decide +kernel
theorem d_HC_join_16 : decode prog_5_method_5_code 16 = .ok (.iload_n 2, 1) := by decide +kernel
theorem d_HC_join_17 : decode prog_5_method_5_code 17 = .ok (.iload_n 1, 1) := by decide +kernel
theorem d_HC_join_18 : decode prog_5_method_5_code 18 = .ok (.invokevirtual 39, 3) := by decide +kernel
theorem d_HC_join_21 : decode prog_5_method_5_code 21 = .ok (.goto 13, 3) := by decide +kernel
theorem d_HC_join_24 : decode prog_5_method_5_code 24 = .ok (.aload_n 0, 1) := by decide +kernel
theorem d_HC_join_25 : decode prog_5_method_5_code 25 = .ok (.getfield 18, 3) := by decide +kernel
theorem d_HC_join_28 : decode prog_5_method_5_code 28 = .ok (.iconst 4, 1) := by decide +kernel
theorem d_HC_join_29 : decode prog_5_method_5_code 29 = .ok (.iload_n 1, 1) := by decide +kernel
theorem d_HC_join_30 : decode prog_5_method_5_code 30 = .ok (.iload_n 2, 1) := by decide +kernel
theorem d_HC_join_31 : decode prog_5_method_5_code 31 = .ok (.invokevirtual 39, 3) := by decide +kernel
theorem d_HC_join_34 : decode prog_5_method_5_code 34 = .ok (.ireturn, 1) := by decide +kernel
theorem d_LC_accepts_0 : decode prog_6_method_2_code 0 = .ok (.aload_n 1, 1) := by decide +kernel
theorem d_LC_accepts_1 : decode prog_6_method_2_code 1 = .ok (.iload_n 2, 1) := by decide +kernel
theorem d_LC_accepts_2 : decode prog_6_method_2_code 2 = .ok (.invokestatic 19, 3) := by decide +kernel
theorem d_LC_accepts_5 : decode prog_6_method_2_code 5 = .ok (.ifCond .ne 5, 3) := by decide +kernel
theorem d_LC_accepts_8 : decode prog_6_method_2_code 8 = .ok (.iconst 0, 1) := by decide +kernel
theorem d_LC_accepts_9 : decode prog_6_method_2_code 9 = .ok (.ireturn, 1) := by decide +kernel
theorem d_LC_accepts_10 : decode prog_6_method_2_code 10 = .ok (.aload_n 0, 1) := by decide +kernel
theorem d_LC_accepts_11 : decode prog_6_method_2_code 11 = .ok (.aload_n 1, 1) := by decide +kernel
theorem d_LC_accepts_12 : decode prog_6_method_2_code 12 = .ok (.getfield 23, 3) := by decide +kernel
theorem d_LC_accepts_15 : decode prog_6_method_2_code 15 = .ok (.iconst 0, 1) := by decide +kernel
theorem d_LC_accepts_16 : decode prog_6_method_2_code 16 = .ok (.iaload, 1) := by decide +kernel
theorem d_LC_accepts_17 : decode prog_6_method_2_code 17 = .ok (.putfield 28, 3) := by decide +kernel
theorem d_LC_accepts_20 : decode prog_6_method_2_code 20 = .ok (.aload_n 0, 1) := by decide +kernel
theorem d_LC_accepts_21 : decode prog_6_method_2_code 21 = .ok (.aload_n 1, 1) := by decide +kernel
theorem d_LC_accepts_22 : decode prog_6_method_2_code 22 = .ok (.getfield 23, 3) := by decide +kernel
theorem d_LC_accepts_25 : decode prog_6_method_2_code 25 = .ok (.iconst 1, 1) := by decide +kernel
theorem d_LC_accepts_26 : decode prog_6_method_2_code 26 = .ok (.iaload, 1) := by decide +kernel
theorem d_LC_accepts_27 : decode prog_6_method_2_code 27 = .ok (.iload_n 2, 1) := by decide +kernel
theorem d_LC_accepts_28 : decode prog_6_method_2_code 28 = .ok (.if_icmp .ne 12, 3) := by decide +kernel
theorem d_LC_accepts_31 : decode prog_6_method_2_code 31 = .ok (.aload_n 1, 1) := by decide +kernel
theorem d_LC_accepts_32 : decode prog_6_method_2_code 32 = .ok (.getfield 23, 3) := by decide +kernel
theorem d_LC_accepts_35 : decode prog_6_method_2_code 35 = .ok (.iconst 2, 1) := by decide +kernel
theorem d_LC_accepts_36 : decode prog_6_method_2_code 36 = .ok (.iaload, 1) := by decide +kernel
theorem d_LC_accepts_37 : decode prog_6_method_2_code 37 = .ok (.goto 4, 3) := by decide +kernel
theorem d_LC_accepts_40 : decode prog_6_method_2_code 40 = .ok (.iconst 0, 1) := by decide +kernel
theorem d_LC_accepts_41 : decode prog_6_method_2_code 41 = .ok (.putfield 32, 3) := by decide +kernel
theorem d_LC_accepts_44 : decode prog_6_method_2_code 44 = .ok (.aload_n 0, 1) := by decide +kernel
theorem d_LC_accepts_45 : decode prog_6_method_2_code 45 = .ok (.aload_n 1, 1) := by decide +kernel
theorem d_LC_accepts_46 : decode prog_6_method_2_code 46 = .ok (.iload_n 2, 1) := by decide +kernel
theorem d_LC_accepts_47 : decode prog_6_method_2_code 47 = .ok (.invokestatic 35, 3) := by decide +kernel
theorem d_LC_accepts_50 : decode prog_6_method_2_code 50 = .ok (.invokevirtual 39, 3) := by decide +kernel
theorem d_LC_accepts_53 : decode prog_6_method_2_code 53 = .ok (.iload_n 3, 1) := by decide +kernel
theorem d_LC_accepts_54 : decode prog_6_method_2_code 54 = .ok (.if_icmp .ne 7, 3) := by decide +kernel
theorem d_LC_accepts_57 : decode prog_6_method_2_code 57 = .ok (.iconst 1, 1) := by decide +kernel
theorem d_LC_accepts_58 : decode prog_6_method_2_code 58 = .ok (.goto 4, 3) := by decide +kernel
theorem d_LC_accepts_61 : decode prog_6_method_2_code 61 = .ok (.iconst 0, 1) := by decide +kernel
theorem d_LC_accepts_62 : decode prog_6_method_2_code 62 = .ok (.ireturn, 1) := by decide +kernel
theorem d_LC_differsFrom_0 : decode prog_6_method_3_code 0 = .ok (.iconst 3, 1) := by decide +kernel
theorem d_LC_differsFrom_1 : decode prog_6_method_3_code 1 = .ok (.iload_n 2, 1) := by decide +kernel
theorem d_LC_differsFrom_2 : decode prog_6_method_3_code 2 = .ok (.imul, 1) := by decide +kernel
theorem d_LC_differsFrom_3 : decode prog_6_method_3_code 3 = .ok (.istore_n 3, 1) := by decide +kernel
theorem d_LC_differsFrom_4 : decode prog_6_method_3_code 4 = .ok (.aload_n 0, 1) := by decide +kernel
theorem d_LC_differsFrom_5 : decode prog_6_method_3_code 5 = .ok (.getfield 9, 3) := by decide +kernel
theorem d_LC_differsFrom_8 : decode prog_6_method_3_code 8 = .ok (.iload_n 3, 1) := by decide +kernel
theorem d_LC_differsFrom_9 : decode prog_6_method_3_code 9 = .ok (.iaload, 1) := by decide +kernel
theorem d_LC_differsFrom_10 : decode prog_6_method_3_code 10 = .ok (.aload_n 1, 1) := by decide +kernel
theorem d_LC_differsFrom_11 : decode prog_6_method_3_code 11 = .ok (.getfield 9, 3) := by decide +kernel
theorem d_LC_differsFrom_14 : decode prog_6_method_3_code 14 = .ok (.iload_n 3, 1) := by decide +kernel
theorem d_LC_differsFrom_15 : decode prog_6_method_3_code 15 = .ok (.iaload, 1) := by decide +kernel
theorem d_LC_differsFrom_16 : decode prog_6_method_3_code 16 = .ok (.if_icmp .ne 41, 3) := by decide +kernel
theorem d_LC_differsFrom_19 : decode prog_6_method_3_code 19 = .ok (.aload_n 0, 1) := by decide +kernel
theorem d_LC_differsFrom_20 : decode prog_6_method_3_code 20 = .ok (.getfield 9, 3) := by decide +kernel
theorem d_LC_differsFrom_23 : decode prog_6_method_3_code 23 = .ok (.iload_n 3, 1) := by decide +kernel
theorem d_LC_differsFrom_24 : decode prog_6_method_3_code 24 = .ok (.iconst 1, 1) := by decide +kernel
theorem d_LC_differsFrom_25 : decode prog_6_method_3_code 25 = .ok (.iadd, 1) := by decide +kernel
theorem d_LC_differsFrom_26 : decode prog_6_method_3_code 26 = .ok (.iaload, 1) := by decide +kernel
theorem d_LC_differsFrom_27 : decode prog_6_method_3_code 27 = .ok (.aload_n 1, 1) := by decide +kernel
theorem d_LC_differsFrom_28 : decode prog_6_method_3_code 28 = .ok (.getfield 9, 3) := by decide +kernel
theorem d_LC_differsFrom_31 : decode prog_6_method_3_code 31 = .ok (.iload_n 3, 1) := by decide +kernel
theorem d_LC_differsFrom_32 : decode prog_6_method_3_code 32 = .ok (.iconst 1, 1) := by decide +kernel
theorem d_LC_differsFrom_33 : decode prog_6_method_3_code 33 = .ok (.iadd, 1) := by decide +kernel
theorem d_LC_differsFrom_34 : decode prog_6_method_3_code 34 = .ok (.iaload, 1) := by decide +kernel
theorem d_LC_differsFrom_35 : decode prog_6_method_3_code 35 = .ok (.if_icmp .ne 22, 3) := by decide +kernel
theorem d_LC_differsFrom_38 : decode prog_6_method_3_code 38 = .ok (.aload_n 0, 1) := by decide +kernel
theorem d_LC_differsFrom_39 : decode prog_6_method_3_code 39 = .ok (.getfield 9, 3) := by decide +kernel
theorem d_LC_differsFrom_42 : decode prog_6_method_3_code 42 = .ok (.iload_n 3, 1) := by decide +kernel
theorem d_LC_differsFrom_43 : decode prog_6_method_3_code 43 = .ok (.iconst 2, 1) := by decide +kernel
theorem d_LC_differsFrom_44 : decode prog_6_method_3_code 44 = .ok (.iadd, 1) := by decide +kernel
theorem d_LC_differsFrom_45 : decode prog_6_method_3_code 45 = .ok (.iaload, 1) := by decide +kernel
theorem d_LC_differsFrom_46 : decode prog_6_method_3_code 46 = .ok (.aload_n 1, 1) := by decide +kernel
theorem d_LC_differsFrom_47 : decode prog_6_method_3_code 47 = .ok (.getfield 9, 3) := by decide +kernel
theorem d_LC_differsFrom_50 : decode prog_6_method_3_code 50 = .ok (.iload_n 3, 1) := by decide +kernel
theorem d_LC_differsFrom_51 : decode prog_6_method_3_code 51 = .ok (.iconst 2, 1) := by decide +kernel
theorem d_LC_differsFrom_52 : decode prog_6_method_3_code 52 = .ok (.iadd, 1) := by decide +kernel
theorem d_LC_differsFrom_53 : decode prog_6_method_3_code 53 = .ok (.iaload, 1) := by decide +kernel
theorem d_LC_differsFrom_54 : decode prog_6_method_3_code 54 = .ok (.if_icmp .eq 7, 3) := by decide +kernel
theorem d_LC_differsFrom_57 : decode prog_6_method_3_code 57 = .ok (.iconst 1, 1) := by decide +kernel
theorem d_LC_differsFrom_58 : decode prog_6_method_3_code 58 = .ok (.goto 4, 3) := by decide +kernel
theorem d_LC_differsFrom_61 : decode prog_6_method_3_code 61 = .ok (.iconst 0, 1) := by decide +kernel
theorem d_LC_differsFrom_62 : decode prog_6_method_3_code 62 = .ok (.ireturn, 1) := by decide +kernel
theorem d_LC_copyInput_0 : decode prog_6_method_4_code 0 = .ok (.iconst 0, 1) := by decide +kernel
theorem d_LC_copyInput_1 : decode prog_6_method_4_code 1 = .ok (.istore 4, 2) := by decide +kernel
theorem d_LC_copyInput_3 : decode prog_6_method_4_code 3 = .ok (.iload 4, 2) := by decide +kernel
theorem d_LC_copyInput_5 : decode prog_6_method_4_code 5 = .ok (.iconst 3, 1) := by decide +kernel
theorem d_LC_copyInput_6 : decode prog_6_method_4_code 6 = .ok (.if_icmp .ge 26, 3) := by decide +kernel
theorem d_LC_copyInput_9 : decode prog_6_method_4_code 9 = .ok (.aload_n 2, 1) := by decide +kernel
theorem d_LC_copyInput_10 : decode prog_6_method_4_code 10 = .ok (.iload_n 3, 1) := by decide +kernel
theorem d_LC_copyInput_11 : decode prog_6_method_4_code 11 = .ok (.iload 4, 2) := by decide +kernel
theorem d_LC_copyInput_13 : decode prog_6_method_4_code 13 = .ok (.iadd, 1) := by decide +kernel
theorem d_LC_copyInput_14 : decode prog_6_method_4_code 14 = .ok (.aload_n 0, 1) := by decide +kernel
theorem d_LC_copyInput_15 : decode prog_6_method_4_code 15 = .ok (.getfield 9, 3) := by decide +kernel
theorem d_LC_copyInput_18 : decode prog_6_method_4_code 18 = .ok (.iconst 3, 1) := by decide +kernel
theorem d_LC_copyInput_19 : decode prog_6_method_4_code 19 = .ok (.iload_n 1, 1) := by decide +kernel
theorem d_LC_copyInput_20 : decode prog_6_method_4_code 20 = .ok (.imul, 1) := by decide +kernel
theorem d_LC_copyInput_21 : decode prog_6_method_4_code 21 = .ok (.iload 4, 2) := by decide +kernel
theorem d_LC_copyInput_23 : decode prog_6_method_4_code 23 = .ok (.iadd, 1) := by decide +kernel
theorem d_LC_copyInput_24 : decode prog_6_method_4_code 24 = .ok (.iaload, 1) := by decide +kernel
theorem d_LC_copyInput_25 : decode prog_6_method_4_code 25 = .ok (.iastore, 1) := by decide +kernel
theorem d_LC_copyInput_26 : decode prog_6_method_4_code 26 = .ok (.iinc 4 1, 3) := by decide +kernel
theorem d_LC_copyInput_29 : decode prog_6_method_4_code 29 = .ok (.goto (-26), 3) := by decide +kernel
theorem d_LC_copyInput_32 : decode prog_6_method_4_code 32 = .ok (.return_, 1) := by decide +kernel
theorem d_LC_hasForm_0 : decode prog_6_method_5_code 0 = .ok (.aload_n 0, 1) := by decide +kernel
theorem d_LC_hasForm_1 : decode prog_6_method_5_code 1 = .ok (.getfield 43, 3) := by decide +kernel
theorem d_LC_hasForm_4 : decode prog_6_method_5_code 4 = .ok (.iconst 3, 1) := by decide +kernel
theorem d_LC_hasForm_5 : decode prog_6_method_5_code 5 = .ok (.if_icmp .lt 27, 3) := by decide +kernel
theorem d_LC_hasForm_8 : decode prog_6_method_5_code 8 = .ok (.aload_n 0, 1) := by decide +kernel
theorem d_LC_hasForm_9 : decode prog_6_method_5_code 9 = .ok (.getfield 43, 3) := by decide +kernel
theorem d_LC_hasForm_12 : decode prog_6_method_5_code 12 = .ok (.bipush 9, 2) := by decide +kernel
theorem d_LC_hasForm_14 : decode prog_6_method_5_code 14 = .ok (.if_icmp .gt 18, 3) := by decide +kernel
theorem d_LC_hasForm_17 : decode prog_6_method_5_code 17 = .ok (.aload_n 0, 1) := by decide +kernel
theorem d_LC_hasForm_18 : decode prog_6_method_5_code 18 = .ok (.getfield 23, 3) := by decide +kernel
theorem d_LC_hasForm_21 : decode prog_6_method_5_code 21 = .ok (.iconst 0, 1) := by decide +kernel
theorem d_LC_hasForm_22 : decode prog_6_method_5_code 22 = .ok (.iaload, 1) := by decide +kernel
theorem d_LC_hasForm_23 : decode prog_6_method_5_code 23 = .ok (.aload_n 0, 1) := by decide +kernel
theorem d_LC_hasForm_24 : decode prog_6_method_5_code 24 = .ok (.getfield 43, 3) := by decide +kernel
theorem d_LC_hasForm_27 : decode prog_6_method_5_code 27 = .ok (.iconst 3, 1) := by decide +kernel
theorem d_LC_hasForm_28 : decode prog_6_method_5_code 28 = .ok (.isub, 1) := by decide +kernel
theorem d_LC_hasForm_29 : decode prog_6_method_5_code 29 = .ok (.if_icmp .eq 5, 3) := by decide +kernel
theorem d_LC_hasForm_32 : decode prog_6_method_5_code 32 = .ok (.iconst 0, 1) := by decide +kernel
theorem d_LC_hasForm_33 : decode prog_6_method_5_code 33 = .ok (.ireturn, 1) := by decide +kernel
theorem d_LC_hasForm_34 : decode prog_6_method_5_code 34 = .ok (.aload_n 0, 1) := by decide +kernel
theorem d_LC_hasForm_35 : decode prog_6_method_5_code 35 = .ok (.getfield 23, 3) := by decide +kernel
theorem d_LC_hasForm_38 : decode prog_6_method_5_code 38 = .ok (.iconst 1, 1) := by decide +kernel
theorem d_LC_hasForm_39 : decode prog_6_method_5_code 39 = .ok (.iaload, 1) := by decide +kernel
theorem d_LC_hasForm_40 : decode prog_6_method_5_code 40 = .ok (.istore_n 2, 1) := by decide +kernel
theorem d_LC_hasForm_41 : decode prog_6_method_5_code 41 = .ok (.aload_n 0, 1) := by decide +kernel
theorem d_LC_hasForm_42 : decode prog_6_method_5_code 42 = .ok (.getfield 23, 3) := by decide +kernel
theorem d_LC_hasForm_45 : decode prog_6_method_5_code 45 = .ok (.iconst 2, 1) := by decide +kernel
theorem d_LC_hasForm_46 : decode prog_6_method_5_code 46 = .ok (.iaload, 1) := by decide +kernel
theorem d_LC_hasForm_47 : decode prog_6_method_5_code 47 = .ok (.istore_n 3, 1) := by decide +kernel
theorem d_LC_hasForm_48 : decode prog_6_method_5_code 48 = .ok (.iload_n 2, 1) := by decide +kernel
theorem d_LC_hasForm_49 : decode prog_6_method_5_code 49 = .ok (.iconst (-1), 1) := by decide +kernel
theorem d_LC_hasForm_50 : decode prog_6_method_5_code 50 = .ok (.if_icmp .ne 13, 3) := by decide +kernel
theorem d_LC_hasForm_53 : decode prog_6_method_5_code 53 = .ok (.iload_n 3, 1) := by decide +kernel
theorem d_LC_hasForm_54 : decode prog_6_method_5_code 54 = .ok (.ifCond .ne 7, 3) := by decide +kernel
theorem d_LC_hasForm_57 : decode prog_6_method_5_code 57 = .ok (.iconst 1, 1) := by decide +kernel
theorem d_LC_hasForm_58 : decode prog_6_method_5_code 58 = .ok (.goto 4, 3) := by decide +kernel
theorem d_LC_hasForm_61 : decode prog_6_method_5_code 61 = .ok (.iconst 0, 1) := by decide +kernel
theorem d_LC_hasForm_62 : decode prog_6_method_5_code 62 = .ok (.ireturn, 1) := by decide +kernel
theorem d_LC_hasForm_63 : decode prog_6_method_5_code 63 = .ok (.iload_n 2, 1) := by decide +kernel
theorem d_LC_hasForm_64 : decode prog_6_method_5_code 64 = .ok (.invokestatic 46, 3) := by decide +kernel
theorem d_LC_hasForm_67 : decode prog_6_method_5_code 67 = .ok (.ifCond .eq 34, 3) := by decide +kernel
theorem d_LC_hasForm_70 : decode prog_6_method_5_code 70 = .ok (.iload_n 3, 1) := by decide +kernel
theorem d_LC_hasForm_71 : decode prog_6_method_5_code 71 = .ok (.invokestatic 50, 3) := by decide +kernel
theorem d_LC_hasForm_74 : decode prog_6_method_5_code 74 = .ok (.ifCond .eq 27, 3) := by decide +kernel
theorem d_LC_hasForm_77 : decode prog_6_method_5_code 77 = .ok (.iload_n 2, 1) := by decide +kernel
theorem d_LC_hasForm_78 : decode prog_6_method_5_code 78 = .ok (.invokestatic 35, 3) := by decide +kernel
theorem d_LC_hasForm_81 : decode prog_6_method_5_code 81 = .ok (.iload_n 1, 1) := by decide +kernel
theorem d_LC_hasForm_82 : decode prog_6_method_5_code 82 = .ok (.invokestatic 35, 3) := by decide +kernel
theorem d_LC_hasForm_85 : decode prog_6_method_5_code 85 = .ok (.aload_n 0, 1) := by decide +kernel
theorem d_LC_hasForm_86 : decode prog_6_method_5_code 86 = .ok (.getfield 23, 3) := by decide +kernel
theorem d_LC_hasForm_89 : decode prog_6_method_5_code 89 = .ok (.iconst 0, 1) := by decide +kernel
theorem d_LC_hasForm_90 : decode prog_6_method_5_code 90 = .ok (.iaload, 1) := by decide +kernel
theorem d_LC_hasForm_91 : decode prog_6_method_5_code 91 = .ok (.invokestatic 53, 3) := by decide +kernel
theorem d_LC_hasForm_94 : decode prog_6_method_5_code 94 = .ok (.ifCond .eq 7, 3) := by decide +kernel
theorem d_LC_hasForm_97 : decode prog_6_method_5_code 97 = .ok (.iconst 1, 1) := by decide +kernel
theorem d_LC_hasForm_98 : decode prog_6_method_5_code 98 = .ok (.goto 4, 3) := by decide +kernel
theorem d_LC_hasForm_101 : decode prog_6_method_5_code 101 = .ok (.iconst 0, 1) := by decide +kernel
theorem d_LC_hasForm_102 : decode prog_6_method_5_code 102 = .ok (.ireturn, 1) := by decide +kernel
theorem d_LC_sharePrefix_0 : decode prog_6_method_6_code 0 = .ok (.iload_n 0, 1) := by decide +kernel
theorem d_LC_sharePrefix_1 : decode prog_6_method_6_code 1 = .ok (.bipush 6, 2) := by decide +kernel
theorem d_LC_sharePrefix_3 : decode prog_6_method_6_code 3 = .ok (.iload_n 2, 1) := by decide +kernel
theorem d_LC_sharePrefix_4 : decode prog_6_method_6_code 4 = .ok (.isub, 1) := by decide +kernel
theorem d_LC_sharePrefix_5 : decode prog_6_method_6_code 5 = .ok (.ishr, 1) := by decide +kernel
theorem d_LC_sharePrefix_6 : decode prog_6_method_6_code 6 = .ok (.iload_n 1, 1) := by decide +kernel
theorem d_LC_sharePrefix_7 : decode prog_6_method_6_code 7 = .ok (.bipush 6, 2) := by decide +kernel
theorem d_LC_sharePrefix_9 : decode prog_6_method_6_code 9 = .ok (.iload_n 2, 1) := by decide +kernel
theorem d_LC_sharePrefix_10 : decode prog_6_method_6_code 10 = .ok (.isub, 1) := by decide +kernel
theorem d_LC_sharePrefix_11 : decode prog_6_method_6_code 11 = .ok (.ishr, 1) := by decide +kernel
theorem d_LC_sharePrefix_12 : decode prog_6_method_6_code 12 = .ok (.if_icmp .ne 7, 3) := by decide +kernel
theorem d_LC_sharePrefix_15 : decode prog_6_method_6_code 15 = .ok (.iconst 1, 1) := by decide +kernel
theorem d_LC_sharePrefix_16 : decode prog_6_method_6_code 16 = .ok (.goto 4, 3) := by decide +kernel
theorem d_LC_sharePrefix_19 : decode prog_6_method_6_code 19 = .ok (.iconst 0, 1) := by decide +kernel
theorem d_LC_sharePrefix_20 : decode prog_6_method_6_code 20 = .ok (.ireturn, 1) := by decide +kernel
theorem d_LC_rootOf_0 : decode prog_6_method_7_code 0 = .ok (.aload_n 1, 1) := by decide +kernel
theorem d_LC_rootOf_1 : decode prog_6_method_7_code 1 = .ok (.getfield 23, 3) := by decide +kernel
theorem d_LC_rootOf_4 : decode prog_6_method_7_code 4 = .ok (.iconst 1, 1) := by decide +kernel
theorem d_LC_rootOf_5 : decode prog_6_method_7_code 5 = .ok (.iaload, 1) := by decide +kernel
theorem d_LC_rootOf_6 : decode prog_6_method_7_code 6 = .ok (.iconst (-1), 1) := by decide +kernel
theorem d_LC_rootOf_7 : decode prog_6_method_7_code 7 = .ok (.if_icmp .ne 7, 3) := by decide +kernel
theorem d_LC_rootOf_10 : decode prog_6_method_7_code 10 = .ok (.iconst 0, 1) := by decide +kernel
theorem d_LC_rootOf_11 : decode prog_6_method_7_code 11 = .ok (.goto 24, 3) := by decide +kernel
theorem d_LC_rootOf_14 : decode prog_6_method_7_code 14 = .ok (.aload_n 0, 1) := by decide +kernel
theorem d_LC_rootOf_15 : decode prog_6_method_7_code 15 = .ok (.aload_n 0, 1) := by decide +kernel
theorem d_LC_rootOf_16 : decode prog_6_method_7_code 16 = .ok (.getfield 28, 3) := by decide +kernel
theorem d_LC_rootOf_19 : decode prog_6_method_7_code 19 = .ok (.iconst 1, 1) := by decide +kernel
theorem d_LC_rootOf_20 : decode prog_6_method_7_code 20 = .ok (.aload_n 1, 1) := by decide +kernel
theorem d_LC_rootOf_21 : decode prog_6_method_7_code 21 = .ok (.getfield 23, 3) := by decide +kernel
theorem d_LC_rootOf_24 : decode prog_6_method_7_code 24 = .ok (.iconst 1, 1) := by decide +kernel
theorem d_LC_rootOf_25 : decode prog_6_method_7_code 25 = .ok (.iaload, 1) := by decide +kernel
theorem d_LC_rootOf_26 : decode prog_6_method_7_code 26 = .ok (.aload_n 1, 1) := by decide +kernel
theorem d_LC_rootOf_27 : decode prog_6_method_7_code 27 = .ok (.getfield 23, 3) := by decide +kernel
theorem d_LC_rootOf_30 : decode prog_6_method_7_code 30 = .ok (.iconst 2, 1) := by decide +kernel
theorem d_LC_rootOf_31 : decode prog_6_method_7_code 31 = .ok (.iaload, 1) := by decide +kernel
theorem d_LC_rootOf_32 : decode prog_6_method_7_code 32 = .ok (.invokevirtual 57, 3) := by decide +kernel
theorem d_LC_rootOf_35 : decode prog_6_method_7_code 35 = .ok (.istore_n 3, 1) := by decide +kernel
theorem d_LC_rootOf_36 : decode prog_6_method_7_code 36 = .ok (.aload_n 0, 1) := by decide +kernel
theorem d_LC_rootOf_37 : decode prog_6_method_7_code 37 = .ok (.getfield 28, 3) := by decide +kernel
theorem d_LC_rootOf_40 : decode prog_6_method_7_code 40 = .ok (.iconst 1, 1) := by decide +kernel
theorem d_LC_rootOf_41 : decode prog_6_method_7_code 41 = .ok (.isub, 1) := by decide +kernel
theorem d_LC_rootOf_42 : decode prog_6_method_7_code 42 = .ok (.istore 4, 2) := by decide +kernel
theorem d_LC_rootOf_44 : decode prog_6_method_7_code 44 = .ok (.iload 4, 2) := by decide +kernel
theorem d_LC_rootOf_46 : decode prog_6_method_7_code 46 = .ok (.ifCond .lt 53, 3) := by decide +kernel
theorem d_LC_rootOf_49 : decode prog_6_method_7_code 49 = .ok (.aload_n 1, 1) := by decide +kernel
theorem d_LC_rootOf_50 : decode prog_6_method_7_code 50 = .ok (.getfield 23, 3) := by decide +kernel
theorem d_LC_rootOf_53 : decode prog_6_method_7_code 53 = .ok (.iconst 3, 1) := by decide +kernel
theorem d_LC_rootOf_54 : decode prog_6_method_7_code 54 = .ok (.iload 4, 2) := by decide +kernel
theorem d_LC_rootOf_56 : decode prog_6_method_7_code 56 = .ok (.iadd, 1) := by decide +kernel
theorem d_LC_rootOf_57 : decode prog_6_method_7_code 57 = .ok (.iaload, 1) := by decide +kernel
theorem d_LC_rootOf_58 : decode prog_6_method_7_code 58 = .ok (.istore 5, 2) := by decide +kernel
theorem d_LC_rootOf_60 : decode prog_6_method_7_code 60 = .ok (.iload_n 2, 1) := by decide +kernel
theorem d_LC_rootOf_61 : decode prog_6_method_7_code 61 = .ok (.iload 4, 2) := by decide +kernel
theorem d_LC_rootOf_63 : decode prog_6_method_7_code 63 = .ok (.invokestatic 61, 3) := by decide +kernel
theorem d_LC_rootOf_66 : decode prog_6_method_7_code 66 = .ok (.ifCond .ne 16, 3) := by decide +kernel
theorem d_LC_rootOf_69 : decode prog_6_method_7_code 69 = .ok (.aload_n 0, 1) := by decide +kernel
theorem d_LC_rootOf_70 : decode prog_6_method_7_code 70 = .ok (.iload 4, 2) := by decide +kernel
theorem d_LC_rootOf_72 : decode prog_6_method_7_code 72 = .ok (.iconst 2, 1) := by decide +kernel
theorem d_LC_rootOf_73 : decode prog_6_method_7_code 73 = .ok (.iload_n 3, 1) := by decide +kernel
theorem d_LC_rootOf_74 : decode prog_6_method_7_code 74 = .ok (.iload 5, 2) := by decide +kernel
theorem d_LC_rootOf_76 : decode prog_6_method_7_code 76 = .ok (.invokevirtual 57, 3) := by decide +kernel
theorem d_LC_rootOf_79 : decode prog_6_method_7_code 79 = .ok (.goto 13, 3) := by decide +kernel
theorem d_LC_rootOf_82 : decode prog_6_method_7_code 82 = .ok (.aload_n 0, 1) := by decide +kernel
theorem d_LC_rootOf_83 : decode prog_6_method_7_code 83 = .ok (.iload 4, 2) := by decide +kernel
theorem d_LC_rootOf_85 : decode prog_6_method_7_code 85 = .ok (.iconst 2, 1) := by decide +kernel
theorem d_LC_rootOf_86 : decode prog_6_method_7_code 86 = .ok (.iload 5, 2) := by decide +kernel
theorem d_LC_rootOf_88 : decode prog_6_method_7_code 88 = .ok (.iload_n 3, 1) := by decide +kernel
theorem d_LC_rootOf_89 : decode prog_6_method_7_code 89 = .ok (.invokevirtual 57, 3) := by decide +kernel
theorem d_LC_rootOf_92 : decode prog_6_method_7_code 92 = .ok (.istore_n 3, 1) := by decide +kernel
theorem d_LC_rootOf_93 : decode prog_6_method_7_code 93 = .ok (.iinc 4 (-1), 3) := by decide +kernel
theorem d_LC_rootOf_96 : decode prog_6_method_7_code 96 = .ok (.goto (-52), 3) := by decide +kernel
theorem d_LC_rootOf_99 : decode prog_6_method_7_code 99 = .ok (.iload_n 3, 1) := by decide +kernel
theorem d_LC_rootOf_100 : decode prog_6_method_7_code 100 = .ok (.ireturn, 1) := by decide +kernel
theorem d_LC_keepInput_0 : decode prog_6_method_8_code 0 = .ok (.aload_n 0, 1) := by decide +kernel
theorem d_LC_keepInput_1 : decode prog_6_method_8_code 1 = .ok (.getfield 9, 3) := by decide +kernel
theorem d_LC_keepInput_4 : decode prog_6_method_8_code 4 = .ok (.iconst 3, 1) := by decide +kernel
theorem d_LC_keepInput_5 : decode prog_6_method_8_code 5 = .ok (.iload_n 1, 1) := by decide +kernel
theorem d_LC_keepInput_6 : decode prog_6_method_8_code 6 = .ok (.imul, 1) := by decide +kernel
theorem d_LC_keepInput_7 : decode prog_6_method_8_code 7 = .ok (.iload_n 2, 1) := by decide +kernel
theorem d_LC_keepInput_8 : decode prog_6_method_8_code 8 = .ok (.iastore, 1) := by decide +kernel
theorem d_LC_keepInput_9 : decode prog_6_method_8_code 9 = .ok (.aload_n 0, 1) := by decide +kernel
theorem d_LC_keepInput_10 : decode prog_6_method_8_code 10 = .ok (.getfield 9, 3) := by decide +kernel
theorem d_LC_keepInput_13 : decode prog_6_method_8_code 13 = .ok (.iconst 3, 1) := by decide +kernel
theorem d_LC_keepInput_14 : decode prog_6_method_8_code 14 = .ok (.iload_n 1, 1) := by decide +kernel
theorem d_LC_keepInput_15 : decode prog_6_method_8_code 15 = .ok (.imul, 1) := by decide +kernel
theorem d_LC_keepInput_16 : decode prog_6_method_8_code 16 = .ok (.iconst 1, 1) := by decide +kernel
theorem d_LC_keepInput_17 : decode prog_6_method_8_code 17 = .ok (.iadd, 1) := by decide +kernel
theorem d_LC_keepInput_18 : decode prog_6_method_8_code 18 = .ok (.iload_n 3, 1) := by decide +kernel
theorem d_LC_keepInput_19 : decode prog_6_method_8_code 19 = .ok (.iastore, 1) := by decide +kernel
theorem d_LC_keepInput_20 : decode prog_6_method_8_code 20 = .ok (.aload_n 0, 1) := by decide +kernel
theorem d_LC_keepInput_21 : decode prog_6_method_8_code 21 = .ok (.getfield 9, 3) := by decide +kernel
theorem d_LC_keepInput_24 : decode prog_6_method_8_code 24 = .ok (.iconst 3, 1) := by decide +kernel
theorem d_LC_keepInput_25 : decode prog_6_method_8_code 25 = .ok (.iload_n 1, 1) := by decide +kernel
theorem d_LC_keepInput_26 : decode prog_6_method_8_code 26 = .ok (.imul, 1) := by decide +kernel
theorem d_LC_keepInput_27 : decode prog_6_method_8_code 27 = .ok (.iconst 2, 1) := by decide +kernel
theorem d_LC_keepInput_28 : decode prog_6_method_8_code 28 = .ok (.iadd, 1) := by decide +kernel
theorem d_LC_keepInput_29 : decode prog_6_method_8_code 29 = .ok (.iload 4, 2) := by decide +kernel
theorem d_LC_keepInput_31 : decode prog_6_method_8_code 31 = .ok (.iastore, 1) := by decide +kernel
theorem d_LC_keepInput_32 : decode prog_6_method_8_code 32 = .ok (.aload_n 0, 1) := by decide +kernel
theorem d_LC_keepInput_33 : decode prog_6_method_8_code 33 = .ok (.getfield 15, 3) := by decide +kernel
theorem d_LC_keepInput_36 : decode prog_6_method_8_code 36 = .ok (.iload_n 2, 1) := by decide +kernel
theorem d_LC_keepInput_37 : decode prog_6_method_8_code 37 = .ok (.iload_n 3, 1) := by decide +kernel
theorem d_LC_keepInput_38 : decode prog_6_method_8_code 38 = .ok (.iload 4, 2) := by decide +kernel
theorem d_LC_keepInput_40 : decode prog_6_method_8_code 40 = .ok (.invokevirtual 65, 3) := by decide +kernel
theorem d_LC_keepInput_43 : decode prog_6_method_8_code 43 = .ok (.ireturn, 1) := by decide +kernel
theorem d_NM_give_0 : decode prog_7_method_2_code 0 = .ok (.aload_n 0, 1) := by decide +kernel
theorem d_NM_give_1 : decode prog_7_method_2_code 1 = .ok (.getfield 15, 3) := by decide +kernel
theorem d_NM_give_4 : decode prog_7_method_2_code 4 = .ok (.iload_n 1, 1) := by decide +kernel
theorem d_NM_give_5 : decode prog_7_method_2_code 5 = .ok (.iaload, 1) := by decide +kernel
theorem d_NM_give_6 : decode prog_7_method_2_code 6 = .ok (.ifCond .ne 13, 3) := by decide +kernel
theorem d_NM_give_9 : decode prog_7_method_2_code 9 = .ok (.aload_n 0, 1) := by decide +kernel
theorem d_NM_give_10 : decode prog_7_method_2_code 10 = .ok (.dup, 1) := by decide +kernel
theorem d_NM_give_11 : decode prog_7_method_2_code 11 = .ok (.getfield 18, 3) := by decide +kernel
theorem d_NM_give_14 : decode prog_7_method_2_code 14 = .ok (.iconst 1, 1) := by decide +kernel
theorem d_NM_give_15 : decode prog_7_method_2_code 15 = .ok (.iadd, 1) := by decide +kernel
theorem d_NM_give_16 : decode prog_7_method_2_code 16 = .ok (.putfield 18, 3) := by decide +kernel
theorem d_NM_give_19 : decode prog_7_method_2_code 19 = .ok (.aload_n 0, 1) := by decide +kernel
theorem d_NM_give_20 : decode prog_7_method_2_code 20 = .ok (.getfield 15, 3) := by decide +kernel
theorem d_NM_give_23 : decode prog_7_method_2_code 23 = .ok (.iload_n 1, 1) := by decide +kernel
theorem d_NM_give_24 : decode prog_7_method_2_code 24 = .ok (.iload_n 2, 1) := by decide +kernel
theorem d_NM_give_25 : decode prog_7_method_2_code 25 = .ok (.iastore, 1) := by decide +kernel
theorem d_NM_give_26 : decode prog_7_method_2_code 26 = .ok (.return_, 1) := by decide +kernel
theorem d_NM_wasPut_0 : decode prog_7_method_3_code 0 = .ok (.aload_n 0, 1) := by decide +kernel
theorem d_NM_wasPut_1 : decode prog_7_method_3_code 1 = .ok (.getfield 15, 3) := by decide +kernel
theorem d_NM_wasPut_4 : decode prog_7_method_3_code 4 = .ok (.iload_n 1, 1) := by decide +kernel
theorem d_NM_wasPut_5 : decode prog_7_method_3_code 5 = .ok (.iaload, 1) := by decide +kernel
theorem d_NM_wasPut_6 : decode prog_7_method_3_code 6 = .ok (.ifCond .eq 7, 3) := by decide +kernel
theorem d_NM_wasPut_9 : decode prog_7_method_3_code 9 = .ok (.iconst 1, 1) := by decide +kernel
theorem d_NM_wasPut_10 : decode prog_7_method_3_code 10 = .ok (.goto 4, 3) := by decide +kernel
theorem d_NM_wasPut_13 : decode prog_7_method_3_code 13 = .ok (.iconst 0, 1) := by decide +kernel
theorem d_NM_wasPut_14 : decode prog_7_method_3_code 14 = .ok (.ireturn, 1) := by decide +kernel
theorem d_NM_keyOf_0 : decode prog_7_method_4_code 0 = .ok (.aload_n 0, 1) := by decide +kernel
theorem d_NM_keyOf_1 : decode prog_7_method_4_code 1 = .ok (.getfield 15, 3) := by decide +kernel
theorem d_NM_keyOf_4 : decode prog_7_method_4_code 4 = .ok (.iload_n 1, 1) := by decide +kernel
theorem d_NM_keyOf_5 : decode prog_7_method_4_code 5 = .ok (.iaload, 1) := by decide +kernel
theorem d_NM_keyOf_6 : decode prog_7_method_4_code 6 = .ok (.ifCond .eq 12, 3) := by decide +kernel
theorem d_NM_keyOf_9 : decode prog_7_method_4_code 9 = .ok (.aload_n 0, 1) := by decide +kernel
theorem d_NM_keyOf_10 : decode prog_7_method_4_code 10 = .ok (.getfield 15, 3) := by decide +kernel
theorem d_NM_keyOf_13 : decode prog_7_method_4_code 13 = .ok (.iload_n 1, 1) := by decide +kernel
theorem d_NM_keyOf_14 : decode prog_7_method_4_code 14 = .ok (.iaload, 1) := by decide +kernel
theorem d_NM_keyOf_15 : decode prog_7_method_4_code 15 = .ok (.goto 9, 3) := by decide +kernel
theorem d_NM_keyOf_18 : decode prog_7_method_4_code 18 = .ok (.aload_n 0, 1) := by decide +kernel
theorem d_NM_keyOf_19 : decode prog_7_method_4_code 19 = .ok (.getfield 9, 3) := by decide +kernel
theorem d_NM_keyOf_22 : decode prog_7_method_4_code 22 = .ok (.iload_n 1, 1) := by decide +kernel
theorem d_NM_keyOf_23 : decode prog_7_method_4_code 23 = .ok (.iaload, 1) := by decide +kernel
theorem d_NM_keyOf_24 : decode prog_7_method_4_code 24 = .ok (.ireturn, 1) := by decide +kernel
theorem d_NM_keepOpen_0 : decode prog_7_method_5_code 0 = .ok (.iconst 0, 1) := by decide +kernel
theorem d_NM_keepOpen_1 : decode prog_7_method_5_code 1 = .ok (.istore_n 1, 1) := by decide +kernel
theorem d_NM_keepOpen_2 : decode prog_7_method_5_code 2 = .ok (.iload_n 1, 1) := by decide +kernel
theorem d_NM_keepOpen_3 : decode prog_7_method_5_code 3 = .ok (.bipush 64, 2) := by decide +kernel
theorem d_NM_keepOpen_5 : decode prog_7_method_5_code 5 = .ok (.if_icmp .ge 47, 3) := by decide +kernel
theorem d_NM_keepOpen_8 : decode prog_7_method_5_code 8 = .ok (.aload_n 0, 1) := by decide +kernel
theorem d_NM_keepOpen_9 : decode prog_7_method_5_code 9 = .ok (.iload_n 1, 1) := by decide +kernel
theorem d_NM_keepOpen_10 : decode prog_7_method_5_code 10 = .ok (.invokevirtual 22, 3) := by decide +kernel
theorem d_NM_keepOpen_13 : decode prog_7_method_5_code 13 = .ok (.ifCond .eq 22, 3) := by decide +kernel
theorem d_NM_keepOpen_16 : decode prog_7_method_5_code 16 = .ok (.aload_n 0, 1) := by decide +kernel
theorem d_NM_keepOpen_17 : decode prog_7_method_5_code 17 = .ok (.getfield 9, 3) := by decide +kernel
theorem d_NM_keepOpen_20 : decode prog_7_method_5_code 20 = .ok (.iload_n 1, 1) := by decide +kernel
theorem d_NM_keepOpen_21 : decode prog_7_method_5_code 21 = .ok (.iaload, 1) := by decide +kernel
theorem d_NM_keepOpen_22 : decode prog_7_method_5_code 22 = .ok (.ifCond .ne 13, 3) := by decide +kernel
theorem d_NM_keepOpen_25 : decode prog_7_method_5_code 25 = .ok (.aload_n 0, 1) := by decide +kernel
theorem d_NM_keepOpen_26 : decode prog_7_method_5_code 26 = .ok (.dup, 1) := by decide +kernel
theorem d_NM_keepOpen_27 : decode prog_7_method_5_code 27 = .ok (.getfield 26, 3) := by decide +kernel
theorem d_NM_keepOpen_30 : decode prog_7_method_5_code 30 = .ok (.iconst 1, 1) := by decide +kernel
theorem d_NM_keepOpen_31 : decode prog_7_method_5_code 31 = .ok (.iadd, 1) := by decide +kernel
theorem d_NM_keepOpen_32 : decode prog_7_method_5_code 32 = .ok (.putfield 26, 3) := by decide +kernel
theorem d_NM_keepOpen_35 : decode prog_7_method_5_code 35 = .ok (.aload_n 0, 1) := by decide +kernel
theorem d_NM_keepOpen_36 : decode prog_7_method_5_code 36 = .ok (.getfield 9, 3) := by decide +kernel
theorem d_NM_keepOpen_39 : decode prog_7_method_5_code 39 = .ok (.iload_n 1, 1) := by decide +kernel
theorem d_NM_keepOpen_40 : decode prog_7_method_5_code 40 = .ok (.aload_n 0, 1) := by decide +kernel
theorem d_NM_keepOpen_41 : decode prog_7_method_5_code 41 = .ok (.iload_n 1, 1) := by decide +kernel
theorem d_NM_keepOpen_42 : decode prog_7_method_5_code 42 = .ok (.invokevirtual 29, 3) := by decide +kernel
theorem d_NM_keepOpen_45 : decode prog_7_method_5_code 45 = .ok (.iastore, 1) := by decide +kernel
theorem d_NM_keepOpen_46 : decode prog_7_method_5_code 46 = .ok (.iinc 1 1, 3) := by decide +kernel
theorem d_NM_keepOpen_49 : decode prog_7_method_5_code 49 = .ok (.goto (-47), 3) := by decide +kernel
theorem d_NM_keepOpen_52 : decode prog_7_method_5_code 52 = .ok (.aload_n 0, 1) := by decide +kernel
theorem d_NM_keepOpen_53 : decode prog_7_method_5_code 53 = .ok (.invokevirtual 33, 3) := by decide +kernel
theorem d_NM_keepOpen_56 : decode prog_7_method_5_code 56 = .ok (.return_, 1) := by decide +kernel
theorem d_NM_dropOpen_0 : decode prog_7_method_6_code 0 = .ok (.iconst 0, 1) := by decide +kernel
theorem d_NM_dropOpen_1 : decode prog_7_method_6_code 1 = .ok (.istore_n 1, 1) := by decide +kernel
theorem d_NM_dropOpen_2 : decode prog_7_method_6_code 2 = .ok (.iload_n 1, 1) := by decide +kernel
theorem d_NM_dropOpen_3 : decode prog_7_method_6_code 3 = .ok (.bipush 64, 2) := by decide +kernel
theorem d_NM_dropOpen_5 : decode prog_7_method_6_code 5 = .ok (.if_icmp .ge 16, 3) := by decide +kernel
theorem d_NM_dropOpen_8 : decode prog_7_method_6_code 8 = .ok (.aload_n 0, 1) := by decide +kernel
theorem d_NM_dropOpen_9 : decode prog_7_method_6_code 9 = .ok (.getfield 15, 3) := by decide +kernel
theorem d_NM_dropOpen_12 : decode prog_7_method_6_code 12 = .ok (.iload_n 1, 1) := by decide +kernel
theorem d_NM_dropOpen_13 : decode prog_7_method_6_code 13 = .ok (.iconst 0, 1) := by decide +kernel
theorem d_NM_dropOpen_14 : decode prog_7_method_6_code 14 = .ok (.iastore, 1) := by decide +kernel
theorem d_NM_dropOpen_15 : decode prog_7_method_6_code 15 = .ok (.iinc 1 1, 3) := by decide +kernel
theorem d_NM_dropOpen_18 : decode prog_7_method_6_code 18 = .ok (.goto (-16), 3) := by decide +kernel
theorem d_NM_dropOpen_21 : decode prog_7_method_6_code 21 = .ok (.aload_n 0, 1) := by decide +kernel
theorem d_NM_dropOpen_22 : decode prog_7_method_6_code 22 = .ok (.iconst 0, 1) := by decide +kernel
theorem d_NM_dropOpen_23 : decode prog_7_method_6_code 23 = .ok (.putfield 18, 3) := by decide +kernel
theorem d_NM_dropOpen_26 : decode prog_7_method_6_code 26 = .ok (.return_, 1) := by decide +kernel
theorem d_Pl_draw_0 : decode prog_8_method_2_code 0 = .ok (.aload_n 0, 1) := by decide +kernel
theorem d_Pl_draw_1 : decode prog_8_method_2_code 1 = .ok (.aload_n 1, 1) := by decide +kernel
theorem d_Pl_draw_2 : decode prog_8_method_2_code 2 = .ok (.invokevirtual 28, 3) := by decide +kernel
theorem d_Pl_draw_5 : decode prog_8_method_2_code 5 = .ok (.aload_n 0, 1) := by decide +kernel
theorem d_Pl_draw_6 : decode prog_8_method_2_code 6 = .ok (.iconst 0, 1) := by decide +kernel
theorem d_Pl_draw_7 : decode prog_8_method_2_code 7 = .ok (.putfield 32, 3) := by decide +kernel
theorem d_Pl_draw_10 : decode prog_8_method_2_code 10 = .ok (.iconst 0, 1) := by decide +kernel
theorem d_Pl_draw_11 : decode prog_8_method_2_code 11 = .ok (.istore_n 3, 1) := by decide +kernel
theorem d_Pl_draw_12 : decode prog_8_method_2_code 12 = .ok (.iload_n 3, 1) := by decide +kernel
theorem d_Pl_draw_13 : decode prog_8_method_2_code 13 = .ok (.bipush 64, 2) := by decide +kernel
theorem d_Pl_draw_15 : decode prog_8_method_2_code 15 = .ok (.if_icmp .ge 58, 3) := by decide +kernel
theorem d_Pl_draw_18 : decode prog_8_method_2_code 18 = .ok (.bipush 64, 2) := by decide +kernel
theorem d_Pl_draw_20 : decode prog_8_method_2_code 20 = .ok (.iload_n 3, 1) := by decide +kernel
theorem d_Pl_draw_21 : decode prog_8_method_2_code 21 = .ok (.iadd, 1) := by decide +kernel
theorem d_Pl_draw_22 : decode prog_8_method_2_code 22 = .ok (.istore 4, 2) := by decide +kernel
theorem d_Pl_draw_24 : decode prog_8_method_2_code 24 = .ok (.aload_n 0, 1) := by decide +kernel
theorem d_Pl_draw_25 : decode prog_8_method_2_code 25 = .ok (.iload 4, 2) := by decide +kernel
theorem d_Pl_draw_27 : decode prog_8_method_2_code 27 = .ok (.aload_n 2, 1) := by decide +kernel
theorem d_Pl_draw_28 : decode prog_8_method_2_code 28 = .ok (.invokevirtual 36, 3) := by decide +kernel
theorem d_Pl_draw_31 : decode prog_8_method_2_code 31 = .ok (.bipush 6, 2) := by decide +kernel
theorem d_Pl_draw_33 : decode prog_8_method_2_code 33 = .ok (.istore 5, 2) := by decide +kernel
theorem d_Pl_draw_35 : decode prog_8_method_2_code 35 = .ok (.iload 5, 2) := by decide +kernel
theorem d_Pl_draw_37 : decode prog_8_method_2_code 37 = .ok (.ifCond .le 30, 3) := by decide +kernel
theorem d_Pl_draw_40 : decode prog_8_method_2_code 40 = .ok (.iload 4, 2) := by decide +kernel
theorem d_Pl_draw_42 : decode prog_8_method_2_code 42 = .ok (.iconst 2, 1) := by decide +kernel
theorem d_Pl_draw_43 : decode prog_8_method_2_code 43 = .ok (.irem, 1) := by decide +kernel
theorem d_Pl_draw_44 : decode prog_8_method_2_code 44 = .ok (.iconst 1, 1) := by decide +kernel
theorem d_Pl_draw_45 : decode prog_8_method_2_code 45 = .ok (.if_icmp .ne 22, 3) := by decide +kernel
theorem d_Pl_draw_48 : decode prog_8_method_2_code 48 = .ok (.iload 4, 2) := by decide +kernel
theorem d_Pl_draw_50 : decode prog_8_method_2_code 50 = .ok (.iconst 2, 1) := by decide +kernel
theorem d_Pl_draw_51 : decode prog_8_method_2_code 51 = .ok (.idiv, 1) := by decide +kernel
theorem d_Pl_draw_52 : decode prog_8_method_2_code 52 = .ok (.istore 4, 2) := by decide +kernel
theorem d_Pl_draw_54 : decode prog_8_method_2_code 54 = .ok (.aload_n 0, 1) := by decide +kernel
theorem d_Pl_draw_55 : decode prog_8_method_2_code 55 = .ok (.iload 4, 2) := by decide +kernel
theorem d_Pl_draw_57 : decode prog_8_method_2_code 57 = .ok (.aload_n 2, 1) := by decide +kernel
theorem d_Pl_draw_58 : decode prog_8_method_2_code 58 = .ok (.invokevirtual 36, 3) := by decide +kernel
theorem d_Pl_draw_61 : decode prog_8_method_2_code 61 = .ok (.iinc 5 (-1), 3) := by decide +kernel
theorem d_Pl_draw_64 : decode prog_8_method_2_code 64 = .ok (.goto (-29), 3) := by decide +kernel
theorem d_Pl_draw_67 : decode prog_8_method_2_code 67 = .ok (.iinc 3 1, 3) := by decide +kernel
theorem d_Pl_draw_70 : decode prog_8_method_2_code 70 = .ok (.goto (-58), 3) := by decide +kernel
theorem d_Pl_draw_73 : decode prog_8_method_2_code 73 = .ok (.return_, 1) := by decide +kernel
theorem d_Pl_isInner_0 : decode prog_8_method_3_code 0 = .ok (.iload_n 1, 1) := by decide +kernel
theorem d_Pl_isInner_1 : decode prog_8_method_3_code 1 = .ok (.bipush 64, 2) := by decide +kernel
theorem d_Pl_isInner_3 : decode prog_8_method_3_code 3 = .ok (.if_icmp .ge 17, 3) := by decide +kernel
theorem d_Pl_isInner_6 : decode prog_8_method_3_code 6 = .ok (.aload_n 0, 1) := by decide +kernel
theorem d_Pl_isInner_7 : decode prog_8_method_3_code 7 = .ok (.getfield 9, 3) := by decide +kernel
theorem d_Pl_isInner_10 : decode prog_8_method_3_code 10 = .ok (.iload_n 1, 1) := by decide +kernel
theorem d_Pl_isInner_11 : decode prog_8_method_3_code 11 = .ok (.iaload, 1) := by decide +kernel
theorem d_Pl_isInner_12 : decode prog_8_method_3_code 12 = .ok (.iconst 1, 1) := by decide +kernel
theorem d_Pl_isInner_13 : decode prog_8_method_3_code 13 = .ok (.if_icmp .le 7, 3) := by decide +kernel
theorem d_Pl_isInner_16 : decode prog_8_method_3_code 16 = .ok (.iconst 1, 1) := by decide +kernel
theorem d_Pl_isInner_17 : decode prog_8_method_3_code 17 = .ok (.goto 4, 3) := by decide +kernel
theorem d_Pl_isInner_20 : decode prog_8_method_3_code 20 = .ok (.iconst 0, 1) := by decide +kernel
theorem d_Pl_isInner_21 : decode prog_8_method_3_code 21 = .ok (.ireturn, 1) := by decide +kernel
theorem d_Pl_isNode_0 : decode prog_8_method_4_code 0 = .ok (.aload_n 0, 1) := by decide +kernel
theorem d_Pl_isNode_1 : decode prog_8_method_4_code 1 = .ok (.getfield 9, 3) := by decide +kernel
theorem d_Pl_isNode_4 : decode prog_8_method_4_code 4 = .ok (.iload_n 1, 1) := by decide +kernel
theorem d_Pl_isNode_5 : decode prog_8_method_4_code 5 = .ok (.iaload, 1) := by decide +kernel
theorem d_Pl_isNode_6 : decode prog_8_method_4_code 6 = .ok (.ifCond .le 22, 3) := by decide +kernel
theorem d_Pl_isNode_9 : decode prog_8_method_4_code 9 = .ok (.iload_n 1, 1) := by decide +kernel
theorem d_Pl_isNode_10 : decode prog_8_method_4_code 10 = .ok (.iconst 1, 1) := by decide +kernel
theorem d_Pl_isNode_11 : decode prog_8_method_4_code 11 = .ok (.if_icmp .eq 13, 3) := by decide +kernel
theorem d_Pl_isNode_14 : decode prog_8_method_4_code 14 = .ok (.aload_n 0, 1) := by decide +kernel
theorem d_Pl_isNode_15 : decode prog_8_method_4_code 15 = .ok (.iload_n 1, 1) := by decide +kernel
theorem d_Pl_isNode_16 : decode prog_8_method_4_code 16 = .ok (.iconst 2, 1) := by decide +kernel
theorem d_Pl_isNode_17 : decode prog_8_method_4_code 17 = .ok (.idiv, 1) := by decide +kernel
theorem d_Pl_isNode_18 : decode prog_8_method_4_code 18 = .ok (.invokevirtual 40, 3) := by decide +kernel
theorem d_Pl_isNode_21 : decode prog_8_method_4_code 21 = .ok (.ifCond .eq 7, 3) := by decide +kernel
theorem d_Pl_isNode_24 : decode prog_8_method_4_code 24 = .ok (.iconst 1, 1) := by decide +kernel
theorem d_Pl_isNode_25 : decode prog_8_method_4_code 25 = .ok (.goto 4, 3) := by decide +kernel
theorem d_Pl_isNode_28 : decode prog_8_method_4_code 28 = .ok (.iconst 0, 1) := by decide +kernel
theorem d_Pl_isNode_29 : decode prog_8_method_4_code 29 = .ok (.ireturn, 1) := by decide +kernel
theorem d_Pl_countNames_0 : decode prog_8_method_5_code 0 = .ok (.iconst 0, 1) := by decide +kernel
theorem d_Pl_countNames_1 : decode prog_8_method_5_code 1 = .ok (.istore_n 2, 1) := by decide +kernel
theorem d_Pl_countNames_2 : decode prog_8_method_5_code 2 = .ok (.iload_n 2, 1) := by decide +kernel
theorem d_Pl_countNames_3 : decode prog_8_method_5_code 3 = .ok (.bipush 64, 2) := by decide +kernel
theorem d_Pl_countNames_5 : decode prog_8_method_5_code 5 = .ok (.if_icmp .ge 54, 3) := by decide +kernel
theorem d_Pl_countNames_8 : decode prog_8_method_5_code 8 = .ok (.bipush 64, 2) := by decide +kernel
theorem d_Pl_countNames_10 : decode prog_8_method_5_code 10 = .ok (.iload_n 2, 1) := by decide +kernel
theorem d_Pl_countNames_11 : decode prog_8_method_5_code 11 = .ok (.invokestatic 44, 3) := by decide +kernel
theorem d_Pl_countNames_14 : decode prog_8_method_5_code 14 = .ok (.iadd, 1) := by decide +kernel
theorem d_Pl_countNames_15 : decode prog_8_method_5_code 15 = .ok (.istore_n 3, 1) := by decide +kernel
theorem d_Pl_countNames_16 : decode prog_8_method_5_code 16 = .ok (.aload_n 0, 1) := by decide +kernel
theorem d_Pl_countNames_17 : decode prog_8_method_5_code 17 = .ok (.getfield 9, 3) := by decide +kernel
theorem d_Pl_countNames_20 : decode prog_8_method_5_code 20 = .ok (.iload_n 3, 1) := by decide +kernel
theorem d_Pl_countNames_21 : decode prog_8_method_5_code 21 = .ok (.aload_n 1, 1) := by decide +kernel
theorem d_Pl_countNames_22 : decode prog_8_method_5_code 22 = .ok (.iload_n 2, 1) := by decide +kernel
theorem d_Pl_countNames_23 : decode prog_8_method_5_code 23 = .ok (.invokevirtual 48, 3) := by decide +kernel
theorem d_Pl_countNames_26 : decode prog_8_method_5_code 26 = .ok (.ifCond .ne 7, 3) := by decide +kernel
theorem d_Pl_countNames_29 : decode prog_8_method_5_code 29 = .ok (.iconst 0, 1) := by decide +kernel
theorem d_Pl_countNames_30 : decode prog_8_method_5_code 30 = .ok (.goto 4, 3) := by decide +kernel
theorem d_Pl_countNames_33 : decode prog_8_method_5_code 33 = .ok (.iconst 1, 1) := by decide +kernel
theorem d_Pl_countNames_34 : decode prog_8_method_5_code 34 = .ok (.iastore, 1) := by decide +kernel
theorem d_Pl_countNames_35 : decode prog_8_method_5_code 35 = .ok (.aload_n 0, 1) := by decide +kernel
theorem d_Pl_countNames_36 : decode prog_8_method_5_code 36 = .ok (.getfield 15, 3) := by decide +kernel
theorem d_Pl_countNames_39 : decode prog_8_method_5_code 39 = .ok (.iload_n 3, 1) := by decide +kernel
theorem d_Pl_countNames_40 : decode prog_8_method_5_code 40 = .ok (.iload_n 2, 1) := by decide +kernel
theorem d_Pl_countNames_41 : decode prog_8_method_5_code 41 = .ok (.iastore, 1) := by decide +kernel
theorem d_Pl_countNames_42 : decode prog_8_method_5_code 42 = .ok (.aload_n 0, 1) := by decide +kernel
theorem d_Pl_countNames_43 : decode prog_8_method_5_code 43 = .ok (.getfield 18, 3) := by decide +kernel
theorem d_Pl_countNames_46 : decode prog_8_method_5_code 46 = .ok (.iload_n 3, 1) := by decide +kernel
theorem d_Pl_countNames_47 : decode prog_8_method_5_code 47 = .ok (.aload_n 1, 1) := by decide +kernel
theorem d_Pl_countNames_48 : decode prog_8_method_5_code 48 = .ok (.iload_n 2, 1) := by decide +kernel
theorem d_Pl_countNames_49 : decode prog_8_method_5_code 49 = .ok (.invokevirtual 53, 3) := by decide +kernel
theorem d_Pl_countNames_52 : decode prog_8_method_5_code 52 = .ok (.bastore, 1) := by decide +kernel
theorem d_Pl_countNames_53 : decode prog_8_method_5_code 53 = .ok (.iinc 2 1, 3) := by decide +kernel
theorem d_Pl_countNames_56 : decode prog_8_method_5_code 56 = .ok (.goto (-54), 3) := by decide +kernel
theorem d_Pl_countNames_59 : decode prog_8_method_5_code 59 = .ok (.bipush 63, 2) := by decide +kernel
theorem d_Pl_countNames_61 : decode prog_8_method_5_code 61 = .ok (.istore_n 2, 1) := by decide +kernel
theorem d_Pl_countNames_62 : decode prog_8_method_5_code 62 = .ok (.iload_n 2, 1) := by decide +kernel
theorem d_Pl_countNames_63 : decode prog_8_method_5_code 63 = .ok (.iconst 1, 1) := by decide +kernel
theorem d_Pl_countNames_64 : decode prog_8_method_5_code 64 = .ok (.if_icmp .lt 99, 3) := by decide +kernel
theorem d_Pl_countNames_67 : decode prog_8_method_5_code 67 = .ok (.iconst 2, 1) := by decide +kernel
theorem d_Pl_countNames_68 : decode prog_8_method_5_code 68 = .ok (.iload_n 2, 1) := by decide +kernel
theorem d_Pl_countNames_69 : decode prog_8_method_5_code 69 = .ok (.imul, 1) := by decide +kernel
theorem d_Pl_countNames_70 : decode prog_8_method_5_code 70 = .ok (.istore_n 3, 1) := by decide +kernel
theorem d_Pl_countNames_71 : decode prog_8_method_5_code 71 = .ok (.iload_n 3, 1) := by decide +kernel
theorem d_Pl_countNames_72 : decode prog_8_method_5_code 72 = .ok (.iconst 1, 1) := by decide +kernel
theorem d_Pl_countNames_73 : decode prog_8_method_5_code 73 = .ok (.iadd, 1) := by decide +kernel
theorem d_Pl_countNames_74 : decode prog_8_method_5_code 74 = .ok (.istore 4, 2) := by decide +kernel
theorem d_Pl_countNames_76 : decode prog_8_method_5_code 76 = .ok (.aload_n 0, 1) := by decide +kernel
theorem d_Pl_countNames_77 : decode prog_8_method_5_code 77 = .ok (.getfield 9, 3) := by decide +kernel
theorem d_Pl_countNames_80 : decode prog_8_method_5_code 80 = .ok (.iload_n 2, 1) := by decide +kernel
theorem d_Pl_countNames_81 : decode prog_8_method_5_code 81 = .ok (.aload_n 0, 1) := by decide +kernel
theorem d_Pl_countNames_82 : decode prog_8_method_5_code 82 = .ok (.getfield 9, 3) := by decide +kernel
theorem d_Pl_countNames_85 : decode prog_8_method_5_code 85 = .ok (.iload_n 3, 1) := by decide +kernel
theorem d_Pl_countNames_86 : decode prog_8_method_5_code 86 = .ok (.iaload, 1) := by decide +kernel
theorem d_Pl_countNames_87 : decode prog_8_method_5_code 87 = .ok (.aload_n 0, 1) := by decide +kernel
theorem d_Pl_countNames_88 : decode prog_8_method_5_code 88 = .ok (.getfield 9, 3) := by decide +kernel
theorem d_Pl_countNames_91 : decode prog_8_method_5_code 91 = .ok (.iload 4, 2) := by decide +kernel
theorem d_Pl_countNames_93 : decode prog_8_method_5_code 93 = .ok (.iaload, 1) := by decide +kernel
theorem d_Pl_countNames_94 : decode prog_8_method_5_code 94 = .ok (.iadd, 1) := by decide +kernel
theorem d_Pl_countNames_95 : decode prog_8_method_5_code 95 = .ok (.iastore, 1) := by decide +kernel
theorem d_Pl_countNames_96 : decode prog_8_method_5_code 96 = .ok (.aload_n 0, 1) := by decide +kernel
theorem d_Pl_countNames_97 : decode prog_8_method_5_code 97 = .ok (.getfield 15, 3) := by decide +kernel
theorem d_Pl_countNames_100 : decode prog_8_method_5_code 100 = .ok (.iload_n 2, 1) := by decide +kernel
theorem d_Pl_countNames_101 : decode prog_8_method_5_code 101 = .ok (.aload_n 0, 1) := by decide +kernel
theorem d_Pl_countNames_102 : decode prog_8_method_5_code 102 = .ok (.getfield 9, 3) := by decide +kernel
theorem d_Pl_countNames_105 : decode prog_8_method_5_code 105 = .ok (.iload_n 3, 1) := by decide +kernel
theorem d_Pl_countNames_106 : decode prog_8_method_5_code 106 = .ok (.iaload, 1) := by decide +kernel
theorem d_Pl_countNames_107 : decode prog_8_method_5_code 107 = .ok (.ifCond .le 12, 3) := by decide +kernel
theorem d_Pl_countNames_110 : decode prog_8_method_5_code 110 = .ok (.aload_n 0, 1) := by decide +kernel
theorem d_Pl_countNames_111 : decode prog_8_method_5_code 111 = .ok (.getfield 15, 3) := by decide +kernel
theorem d_Pl_countNames_114 : decode prog_8_method_5_code 114 = .ok (.iload_n 3, 1) := by decide +kernel
theorem d_Pl_countNames_115 : decode prog_8_method_5_code 115 = .ok (.iaload, 1) := by decide +kernel
theorem d_Pl_countNames_116 : decode prog_8_method_5_code 116 = .ok (.goto 10, 3) := by decide +kernel
theorem d_Pl_countNames_119 : decode prog_8_method_5_code 119 = .ok (.aload_n 0, 1) := by decide +kernel
theorem d_Pl_countNames_120 : decode prog_8_method_5_code 120 = .ok (.getfield 15, 3) := by decide +kernel
theorem d_Pl_countNames_123 : decode prog_8_method_5_code 123 = .ok (.iload 4, 2) := by decide +kernel
theorem d_Pl_countNames_125 : decode prog_8_method_5_code 125 = .ok (.iaload, 1) := by decide +kernel
theorem d_Pl_countNames_126 : decode prog_8_method_5_code 126 = .ok (.iastore, 1) := by decide +kernel
theorem d_Pl_countNames_127 : decode prog_8_method_5_code 127 = .ok (.aload_n 0, 1) := by decide +kernel
theorem d_Pl_countNames_128 : decode prog_8_method_5_code 128 = .ok (.getfield 18, 3) := by decide +kernel
theorem d_Pl_countNames_131 : decode prog_8_method_5_code 131 = .ok (.iload_n 2, 1) := by decide +kernel
theorem d_Pl_countNames_132 : decode prog_8_method_5_code 132 = .ok (.aload_n 0, 1) := by decide +kernel
theorem d_Pl_countNames_133 : decode prog_8_method_5_code 133 = .ok (.getfield 18, 3) := by decide +kernel
theorem d_Pl_countNames_136 : decode prog_8_method_5_code 136 = .ok (.iload_n 3, 1) := by decide +kernel
theorem d_Pl_countNames_137 : decode prog_8_method_5_code 137 = .ok (.baload, 1) := by decide +kernel
theorem d_Pl_countNames_138 : decode prog_8_method_5_code 138 = .ok (.ifCond .ne 13, 3) := by decide +kernel
theorem d_Pl_countNames_141 : decode prog_8_method_5_code 141 = .ok (.aload_n 0, 1) := by decide +kernel
theorem d_Pl_countNames_142 : decode prog_8_method_5_code 142 = .ok (.getfield 18, 3) := by decide +kernel
theorem d_Pl_countNames_145 : decode prog_8_method_5_code 145 = .ok (.iload 4, 2) := by decide +kernel
theorem d_Pl_countNames_147 : decode prog_8_method_5_code 147 = .ok (.baload, 1) := by decide +kernel
theorem d_Pl_countNames_148 : decode prog_8_method_5_code 148 = .ok (.ifCond .eq 7, 3) := by decide +kernel
theorem d_Pl_countNames_151 : decode prog_8_method_5_code 151 = .ok (.iconst 1, 1) := by decide +kernel
theorem d_Pl_countNames_152 : decode prog_8_method_5_code 152 = .ok (.goto 4, 3) := by decide +kernel
theorem d_Pl_countNames_155 : decode prog_8_method_5_code 155 = .ok (.iconst 0, 1) := by decide +kernel
theorem d_Pl_countNames_156 : decode prog_8_method_5_code 156 = .ok (.bastore, 1) := by decide +kernel
theorem d_Pl_countNames_157 : decode prog_8_method_5_code 157 = .ok (.iinc 2 (-1), 3) := by decide +kernel
theorem d_Pl_countNames_160 : decode prog_8_method_5_code 160 = .ok (.goto (-98), 3) := by decide +kernel
theorem d_Pl_countNames_163 : decode prog_8_method_5_code 163 = .ok (.return_, 1) := by decide +kernel
theorem d_Pl_settle_0 : decode prog_8_method_6_code 0 = .ok (.aload_n 0, 1) := by decide +kernel
theorem d_Pl_settle_1 : decode prog_8_method_6_code 1 = .ok (.iload_n 1, 1) := by decide +kernel
theorem d_Pl_settle_2 : decode prog_8_method_6_code 2 = .ok (.invokevirtual 56, 3) := by decide +kernel
theorem d_Pl_settle_5 : decode prog_8_method_6_code 5 = .ok (.ifCond .ne 13, 3) := by decide +kernel
theorem d_Pl_settle_8 : decode prog_8_method_6_code 8 = .ok (.aload_n 0, 1) := by decide +kernel
theorem d_Pl_settle_9 : decode prog_8_method_6_code 9 = .ok (.getfield 22, 3) := by decide +kernel
theorem d_Pl_settle_12 : decode prog_8_method_6_code 12 = .ok (.iload_n 1, 1) := by decide +kernel
theorem d_Pl_settle_13 : decode prog_8_method_6_code 13 = .ok (.iconst (-1), 1) := by decide +kernel
theorem d_Pl_settle_14 : decode prog_8_method_6_code 14 = .ok (.iastore, 1) := by decide +kernel
theorem d_Pl_settle_15 : decode prog_8_method_6_code 15 = .ok (.goto 93, 3) := by decide +kernel
theorem d_Pl_settle_18 : decode prog_8_method_6_code 18 = .ok (.aload_n 0, 1) := by decide +kernel
theorem d_Pl_settle_19 : decode prog_8_method_6_code 19 = .ok (.getfield 18, 3) := by decide +kernel
theorem d_Pl_settle_22 : decode prog_8_method_6_code 22 = .ok (.iload_n 1, 1) := by decide +kernel
theorem d_Pl_settle_23 : decode prog_8_method_6_code 23 = .ok (.baload, 1) := by decide +kernel
theorem d_Pl_settle_24 : decode prog_8_method_6_code 24 = .ok (.ifCond .eq 41, 3) := by decide +kernel
theorem d_Pl_settle_27 : decode prog_8_method_6_code 27 = .ok (.aload_n 0, 1) := by decide +kernel
theorem d_Pl_settle_28 : decode prog_8_method_6_code 28 = .ok (.getfield 22, 3) := by decide +kernel
theorem d_Pl_settle_31 : decode prog_8_method_6_code 31 = .ok (.iload_n 1, 1) := by decide +kernel
theorem d_Pl_settle_32 : decode prog_8_method_6_code 32 = .ok (.aload_n 2, 1) := by decide +kernel
theorem d_Pl_settle_33 : decode prog_8_method_6_code 33 = .ok (.getfield 59, 3) := by decide +kernel
theorem d_Pl_settle_36 : decode prog_8_method_6_code 36 = .ok (.aload_n 0, 1) := by decide +kernel
theorem d_Pl_settle_37 : decode prog_8_method_6_code 37 = .ok (.getfield 32, 3) := by decide +kernel
theorem d_Pl_settle_40 : decode prog_8_method_6_code 40 = .ok (.iadd, 1) := by decide +kernel
theorem d_Pl_settle_41 : decode prog_8_method_6_code 41 = .ok (.iastore, 1) := by decide +kernel
theorem d_Pl_settle_42 : decode prog_8_method_6_code 42 = .ok (.aload_n 0, 1) := by decide +kernel
theorem d_Pl_settle_43 : decode prog_8_method_6_code 43 = .ok (.getfield 25, 3) := by decide +kernel
theorem d_Pl_settle_46 : decode prog_8_method_6_code 46 = .ok (.aload_n 0, 1) := by decide +kernel
theorem d_Pl_settle_47 : decode prog_8_method_6_code 47 = .ok (.getfield 32, 3) := by decide +kernel
theorem d_Pl_settle_50 : decode prog_8_method_6_code 50 = .ok (.iload_n 1, 1) := by decide +kernel
theorem d_Pl_settle_51 : decode prog_8_method_6_code 51 = .ok (.iastore, 1) := by decide +kernel
theorem d_Pl_settle_52 : decode prog_8_method_6_code 52 = .ok (.aload_n 0, 1) := by decide +kernel
theorem d_Pl_settle_53 : decode prog_8_method_6_code 53 = .ok (.dup, 1) := by decide +kernel
theorem d_Pl_settle_54 : decode prog_8_method_6_code 54 = .ok (.getfield 32, 3) := by decide +kernel
theorem d_Pl_settle_57 : decode prog_8_method_6_code 57 = .ok (.iconst 1, 1) := by decide +kernel
