theorem d_Pl_settle_58 : decode prog_8_method_6_code 58 = .ok (.iadd, 1) := by decide +kernel
theorem d_Pl_settle_59 : decode prog_8_method_6_code 59 = .ok (.putfield 32, 3) := by decide +kernel
theorem d_Pl_settle_62 : decode prog_8_method_6_code 62 = .ok (.goto 46, 3) := by decide +kernel
theorem d_Pl_settle_65 : decode prog_8_method_6_code 65 = .ok (.aload_n 0, 1) := by decide +kernel
theorem d_Pl_settle_66 : decode prog_8_method_6_code 66 = .ok (.iload_n 1, 1) := by decide +kernel
theorem d_Pl_settle_67 : decode prog_8_method_6_code 67 = .ok (.invokevirtual 40, 3) := by decide +kernel
theorem d_Pl_settle_70 : decode prog_8_method_6_code 70 = .ok (.ifCond .eq 18, 3) := by decide +kernel
theorem d_Pl_settle_73 : decode prog_8_method_6_code 73 = .ok (.aload_n 0, 1) := by decide +kernel
theorem d_Pl_settle_74 : decode prog_8_method_6_code 74 = .ok (.getfield 22, 3) := by decide +kernel
theorem d_Pl_settle_77 : decode prog_8_method_6_code 77 = .ok (.iload_n 1, 1) := by decide +kernel
theorem d_Pl_settle_78 : decode prog_8_method_6_code 78 = .ok (.aload_n 2, 1) := by decide +kernel
theorem d_Pl_settle_79 : decode prog_8_method_6_code 79 = .ok (.getfield 64, 3) := by decide +kernel
theorem d_Pl_settle_82 : decode prog_8_method_6_code 82 = .ok (.iload_n 1, 1) := by decide +kernel
theorem d_Pl_settle_83 : decode prog_8_method_6_code 83 = .ok (.iaload, 1) := by decide +kernel
theorem d_Pl_settle_84 : decode prog_8_method_6_code 84 = .ok (.iastore, 1) := by decide +kernel
theorem d_Pl_settle_85 : decode prog_8_method_6_code 85 = .ok (.goto 23, 3) := by decide +kernel
theorem d_Pl_settle_88 : decode prog_8_method_6_code 88 = .ok (.aload_n 0, 1) := by decide +kernel
theorem d_Pl_settle_89 : decode prog_8_method_6_code 89 = .ok (.getfield 22, 3) := by decide +kernel
theorem d_Pl_settle_92 : decode prog_8_method_6_code 92 = .ok (.iload_n 1, 1) := by decide +kernel
theorem d_Pl_settle_93 : decode prog_8_method_6_code 93 = .ok (.aload_n 2, 1) := by decide +kernel
theorem d_Pl_settle_94 : decode prog_8_method_6_code 94 = .ok (.getfield 64, 3) := by decide +kernel
theorem d_Pl_settle_97 : decode prog_8_method_6_code 97 = .ok (.aload_n 0, 1) := by decide +kernel
theorem d_Pl_settle_98 : decode prog_8_method_6_code 98 = .ok (.getfield 15, 3) := by decide +kernel
theorem d_Pl_settle_101 : decode prog_8_method_6_code 101 = .ok (.iload_n 1, 1) := by decide +kernel
theorem d_Pl_settle_102 : decode prog_8_method_6_code 102 = .ok (.iaload, 1) := by decide +kernel
theorem d_Pl_settle_103 : decode prog_8_method_6_code 103 = .ok (.invokestatic 67, 3) := by decide +kernel
theorem d_Pl_settle_106 : decode prog_8_method_6_code 106 = .ok (.iaload, 1) := by decide +kernel
theorem d_Pl_settle_107 : decode prog_8_method_6_code 107 = .ok (.iastore, 1) := by decide +kernel
theorem d_Pl_settle_108 : decode prog_8_method_6_code 108 = .ok (.return_, 1) := by decide +kernel
theorem d_St_isBlock_0 : decode prog_9_method_2_code 0 = .ok (.iload_n 1, 1) := by decide +kernel
theorem d_St_isBlock_1 : decode prog_9_method_2_code 1 = .ok (.ifCond .lt 15, 3) := by decide +kernel
theorem d_St_isBlock_4 : decode prog_9_method_2_code 4 = .ok (.iload_n 1, 1) := by decide +kernel
theorem d_St_isBlock_5 : decode prog_9_method_2_code 5 = .ok (.aload_n 0, 1) := by decide +kernel
theorem d_St_isBlock_6 : decode prog_9_method_2_code 6 = .ok (.getfield 34, 3) := by decide +kernel
theorem d_St_isBlock_9 : decode prog_9_method_2_code 9 = .ok (.if_icmp .ge 7, 3) := by decide +kernel
theorem d_St_isBlock_12 : decode prog_9_method_2_code 12 = .ok (.iconst 1, 1) := by decide +kernel
theorem d_St_isBlock_13 : decode prog_9_method_2_code 13 = .ok (.goto 4, 3) := by decide +kernel
theorem d_St_isBlock_16 : decode prog_9_method_2_code 16 = .ok (.iconst 0, 1) := by decide +kernel
theorem d_St_isBlock_17 : decode prog_9_method_2_code 17 = .ok (.ireturn, 1) := by decide +kernel
theorem d_St_isOfKind_0 : decode prog_9_method_3_code 0 = .ok (.aload_n 0, 1) := by decide +kernel
theorem d_St_isOfKind_1 : decode prog_9_method_3_code 1 = .ok (.iload_n 1, 1) := by decide +kernel
theorem d_St_isOfKind_2 : decode prog_9_method_3_code 2 = .ok (.invokevirtual 38, 3) := by decide +kernel
theorem d_St_isOfKind_5 : decode prog_9_method_3_code 5 = .ok (.ifCond .eq 17, 3) := by decide +kernel
theorem d_St_isOfKind_8 : decode prog_9_method_3_code 8 = .ok (.aload_n 0, 1) := by decide +kernel
theorem d_St_isOfKind_9 : decode prog_9_method_3_code 9 = .ok (.getfield 9, 3) := by decide +kernel
theorem d_St_isOfKind_12 : decode prog_9_method_3_code 12 = .ok (.iload_n 1, 1) := by decide +kernel
theorem d_St_isOfKind_13 : decode prog_9_method_3_code 13 = .ok (.iaload, 1) := by decide +kernel
theorem d_St_isOfKind_14 : decode prog_9_method_3_code 14 = .ok (.iload_n 2, 1) := by decide +kernel
theorem d_St_isOfKind_15 : decode prog_9_method_3_code 15 = .ok (.if_icmp .ne 7, 3) := by decide +kernel
theorem d_St_isOfKind_18 : decode prog_9_method_3_code 18 = .ok (.iconst 1, 1) := by decide +kernel
theorem d_St_isOfKind_19 : decode prog_9_method_3_code 19 = .ok (.goto 4, 3) := by decide +kernel
theorem d_St_isOfKind_22 : decode prog_9_method_3_code 22 = .ok (.iconst 0, 1) := by decide +kernel
theorem d_St_isOfKind_23 : decode prog_9_method_3_code 23 = .ok (.ireturn, 1) := by decide +kernel
theorem d_St_digestOf_0 : decode prog_9_method_4_code 0 = .ok (.aload_n 0, 1) := by decide +kernel
theorem d_St_digestOf_1 : decode prog_9_method_4_code 1 = .ok (.iload_n 1, 1) := by decide +kernel
theorem d_St_digestOf_2 : decode prog_9_method_4_code 2 = .ok (.invokevirtual 38, 3) := by decide +kernel
theorem d_St_digestOf_5 : decode prog_9_method_4_code 5 = .ok (.ifCond .eq 12, 3) := by decide +kernel
theorem d_St_digestOf_8 : decode prog_9_method_4_code 8 = .ok (.aload_n 0, 1) := by decide +kernel
theorem d_St_digestOf_9 : decode prog_9_method_4_code 9 = .ok (.getfield 21, 3) := by decide +kernel
theorem d_St_digestOf_12 : decode prog_9_method_4_code 12 = .ok (.iload_n 1, 1) := by decide +kernel
theorem d_St_digestOf_13 : decode prog_9_method_4_code 13 = .ok (.iaload, 1) := by decide +kernel
theorem d_St_digestOf_14 : decode prog_9_method_4_code 14 = .ok (.goto 4, 3) := by decide +kernel
theorem d_St_digestOf_17 : decode prog_9_method_4_code 17 = .ok (.iconst 0, 1) := by decide +kernel
theorem d_St_digestOf_18 : decode prog_9_method_4_code 18 = .ok (.ireturn, 1) := by decide +kernel
theorem d_St_partOf_0 : decode prog_9_method_5_code 0 = .ok (.iload_n 2, 1) := by decide +kernel
theorem d_St_partOf_1 : decode prog_9_method_5_code 1 = .ok (.ifCond .ne 12, 3) := by decide +kernel
theorem d_St_partOf_4 : decode prog_9_method_5_code 4 = .ok (.aload_n 0, 1) := by decide +kernel
theorem d_St_partOf_5 : decode prog_9_method_5_code 5 = .ok (.getfield 15, 3) := by decide +kernel
theorem d_St_partOf_8 : decode prog_9_method_5_code 8 = .ok (.iload_n 1, 1) := by decide +kernel
theorem d_St_partOf_9 : decode prog_9_method_5_code 9 = .ok (.iaload, 1) := by decide +kernel
theorem d_St_partOf_10 : decode prog_9_method_5_code 10 = .ok (.goto 9, 3) := by decide +kernel
theorem d_St_partOf_13 : decode prog_9_method_5_code 13 = .ok (.aload_n 0, 1) := by decide +kernel
theorem d_St_partOf_14 : decode prog_9_method_5_code 14 = .ok (.getfield 18, 3) := by decide +kernel
theorem d_St_partOf_17 : decode prog_9_method_5_code 17 = .ok (.iload_n 1, 1) := by decide +kernel
theorem d_St_partOf_18 : decode prog_9_method_5_code 18 = .ok (.iaload, 1) := by decide +kernel
theorem d_St_partOf_19 : decode prog_9_method_5_code 19 = .ok (.ireturn, 1) := by decide +kernel
theorem d_St_placeOfLeaf_0 : decode prog_9_method_6_code 0 = .ok (.bipush 64, 2) := by decide +kernel
theorem d_St_placeOfLeaf_2 : decode prog_9_method_6_code 2 = .ok (.iload_n 0, 1) := by decide +kernel
theorem d_St_placeOfLeaf_3 : decode prog_9_method_6_code 3 = .ok (.invokestatic 42, 3) := by decide +kernel
theorem d_St_placeOfLeaf_6 : decode prog_9_method_6_code 6 = .ok (.iadd, 1) := by decide +kernel
theorem d_St_placeOfLeaf_7 : decode prog_9_method_6_code 7 = .ok (.ireturn, 1) := by decide +kernel
theorem d_St_writeLeaf_0 : decode prog_9_method_7_code 0 = .ok (.aload_n 0, 1) := by decide +kernel
theorem d_St_writeLeaf_1 : decode prog_9_method_7_code 1 = .ok (.getfield 30, 3) := by decide +kernel
theorem d_St_writeLeaf_4 : decode prog_9_method_7_code 4 = .ok (.iconst 1, 1) := by decide +kernel
theorem d_St_writeLeaf_5 : decode prog_9_method_7_code 5 = .ok (.iload_n 1, 1) := by decide +kernel
theorem d_St_writeLeaf_6 : decode prog_9_method_7_code 6 = .ok (.iload_n 2, 1) := by decide +kernel
theorem d_St_writeLeaf_7 : decode prog_9_method_7_code 7 = .ok (.invokevirtual 46, 3) := by decide +kernel
theorem d_St_writeLeaf_10 : decode prog_9_method_7_code 10 = .ok (.istore_n 3, 1) := by decide +kernel
theorem d_St_writeLeaf_11 : decode prog_9_method_7_code 11 = .ok (.aload_n 0, 1) := by decide +kernel
theorem d_St_writeLeaf_12 : decode prog_9_method_7_code 12 = .ok (.iconst 1, 1) := by decide +kernel
theorem d_St_writeLeaf_13 : decode prog_9_method_7_code 13 = .ok (.iload_n 1, 1) := by decide +kernel
theorem d_St_writeLeaf_14 : decode prog_9_method_7_code 14 = .ok (.iload_n 2, 1) := by decide +kernel
theorem d_St_writeLeaf_15 : decode prog_9_method_7_code 15 = .ok (.iload_n 3, 1) := by decide +kernel
theorem d_St_writeLeaf_16 : decode prog_9_method_7_code 16 = .ok (.iload_n 1, 1) := by decide +kernel
theorem d_St_writeLeaf_17 : decode prog_9_method_7_code 17 = .ok (.invokestatic 52, 3) := by decide +kernel
theorem d_St_writeLeaf_20 : decode prog_9_method_7_code 20 = .ok (.invokevirtual 55, 3) := by decide +kernel
theorem d_St_writeLeaf_23 : decode prog_9_method_7_code 23 = .ok (.return_, 1) := by decide +kernel
theorem d_St_writeInner_0 : decode prog_9_method_8_code 0 = .ok (.aload_n 0, 1) := by decide +kernel
theorem d_St_writeInner_1 : decode prog_9_method_8_code 1 = .ok (.getfield 30, 3) := by decide +kernel
theorem d_St_writeInner_4 : decode prog_9_method_8_code 4 = .ok (.iconst 2, 1) := by decide +kernel
theorem d_St_writeInner_5 : decode prog_9_method_8_code 5 = .ok (.aload_n 0, 1) := by decide +kernel
theorem d_St_writeInner_6 : decode prog_9_method_8_code 6 = .ok (.iload_n 2, 1) := by decide +kernel
theorem d_St_writeInner_7 : decode prog_9_method_8_code 7 = .ok (.invokevirtual 59, 3) := by decide +kernel
theorem d_St_writeInner_10 : decode prog_9_method_8_code 10 = .ok (.aload_n 0, 1) := by decide +kernel
theorem d_St_writeInner_11 : decode prog_9_method_8_code 11 = .ok (.iload_n 3, 1) := by decide +kernel
theorem d_St_writeInner_12 : decode prog_9_method_8_code 12 = .ok (.invokevirtual 59, 3) := by decide +kernel
theorem d_St_writeInner_15 : decode prog_9_method_8_code 15 = .ok (.invokevirtual 46, 3) := by decide +kernel
theorem d_St_writeInner_18 : decode prog_9_method_8_code 18 = .ok (.istore 4, 2) := by decide +kernel
theorem d_St_writeInner_20 : decode prog_9_method_8_code 20 = .ok (.aload_n 0, 1) := by decide +kernel
theorem d_St_writeInner_21 : decode prog_9_method_8_code 21 = .ok (.iconst 2, 1) := by decide +kernel
theorem d_St_writeInner_22 : decode prog_9_method_8_code 22 = .ok (.iload_n 2, 1) := by decide +kernel
theorem d_St_writeInner_23 : decode prog_9_method_8_code 23 = .ok (.iload_n 3, 1) := by decide +kernel
theorem d_St_writeInner_24 : decode prog_9_method_8_code 24 = .ok (.iload 4, 2) := by decide +kernel
theorem d_St_writeInner_26 : decode prog_9_method_8_code 26 = .ok (.iload_n 1, 1) := by decide +kernel
theorem d_St_writeInner_27 : decode prog_9_method_8_code 27 = .ok (.invokevirtual 55, 3) := by decide +kernel
theorem d_St_writeInner_30 : decode prog_9_method_8_code 30 = .ok (.return_, 1) := by decide +kernel
theorem d_St_writeCheckpoint_0 : decode prog_9_method_9_code 0 = .ok (.aload_n 0, 1) := by decide +kernel
theorem d_St_writeCheckpoint_1 : decode prog_9_method_9_code 1 = .ok (.getfield 62, 3) := by decide +kernel
theorem d_St_writeCheckpoint_4 : decode prog_9_method_9_code 4 = .ok (.istore_n 3, 1) := by decide +kernel
theorem d_St_writeCheckpoint_5 : decode prog_9_method_9_code 5 = .ok (.iload_n 3, 1) := by decide +kernel
theorem d_St_writeCheckpoint_6 : decode prog_9_method_9_code 6 = .ok (.aload_n 0, 1) := by decide +kernel
theorem d_St_writeCheckpoint_7 : decode prog_9_method_9_code 7 = .ok (.getfield 34, 3) := by decide +kernel
theorem d_St_writeCheckpoint_10 : decode prog_9_method_9_code 10 = .ok (.if_icmp .ge 21, 3) := by decide +kernel
theorem d_St_writeCheckpoint_13 : decode prog_9_method_9_code 13 = .ok (.aload_n 0, 1) := by decide +kernel
theorem d_St_writeCheckpoint_14 : decode prog_9_method_9_code 14 = .ok (.getfield 27, 3) := by decide +kernel
theorem d_St_writeCheckpoint_17 : decode prog_9_method_9_code 17 = .ok (.aload_n 0, 1) := by decide +kernel
theorem d_St_writeCheckpoint_18 : decode prog_9_method_9_code 18 = .ok (.getfield 24, 3) := by decide +kernel
theorem d_St_writeCheckpoint_21 : decode prog_9_method_9_code 21 = .ok (.iload_n 3, 1) := by decide +kernel
theorem d_St_writeCheckpoint_22 : decode prog_9_method_9_code 22 = .ok (.iaload, 1) := by decide +kernel
theorem d_St_writeCheckpoint_23 : decode prog_9_method_9_code 23 = .ok (.iload_n 3, 1) := by decide +kernel
theorem d_St_writeCheckpoint_24 : decode prog_9_method_9_code 24 = .ok (.iastore, 1) := by decide +kernel
theorem d_St_writeCheckpoint_25 : decode prog_9_method_9_code 25 = .ok (.iinc 3 1, 3) := by decide +kernel
theorem d_St_writeCheckpoint_28 : decode prog_9_method_9_code 28 = .ok (.goto (-23), 3) := by decide +kernel
theorem d_St_writeCheckpoint_31 : decode prog_9_method_9_code 31 = .ok (.aload_n 0, 1) := by decide +kernel
theorem d_St_writeCheckpoint_32 : decode prog_9_method_9_code 32 = .ok (.iconst 3, 1) := by decide +kernel
theorem d_St_writeCheckpoint_33 : decode prog_9_method_9_code 33 = .ok (.iload_n 1, 1) := by decide +kernel
theorem d_St_writeCheckpoint_34 : decode prog_9_method_9_code 34 = .ok (.iload_n 2, 1) := by decide +kernel
theorem d_St_writeCheckpoint_35 : decode prog_9_method_9_code 35 = .ok (.iconst 0, 1) := by decide +kernel
theorem d_St_writeCheckpoint_36 : decode prog_9_method_9_code 36 = .ok (.iconst 0, 1) := by decide +kernel
theorem d_St_writeCheckpoint_37 : decode prog_9_method_9_code 37 = .ok (.invokevirtual 55, 3) := by decide +kernel
theorem d_St_writeCheckpoint_40 : decode prog_9_method_9_code 40 = .ok (.aload_n 0, 1) := by decide +kernel
theorem d_St_writeCheckpoint_41 : decode prog_9_method_9_code 41 = .ok (.aload_n 0, 1) := by decide +kernel
theorem d_St_writeCheckpoint_42 : decode prog_9_method_9_code 42 = .ok (.getfield 34, 3) := by decide +kernel
theorem d_St_writeCheckpoint_45 : decode prog_9_method_9_code 45 = .ok (.putfield 62, 3) := by decide +kernel
theorem d_St_writeCheckpoint_48 : decode prog_9_method_9_code 48 = .ok (.return_, 1) := by decide +kernel
theorem d_St_cutOff_0 : decode prog_9_method_10_code 0 = .ok (.aload_n 0, 1) := by decide +kernel
theorem d_St_cutOff_1 : decode prog_9_method_10_code 1 = .ok (.getfield 34, 3) := by decide +kernel
theorem d_St_cutOff_4 : decode prog_9_method_10_code 4 = .ok (.aload_n 0, 1) := by decide +kernel
theorem d_St_cutOff_5 : decode prog_9_method_10_code 5 = .ok (.getfield 62, 3) := by decide +kernel
theorem d_St_cutOff_8 : decode prog_9_method_10_code 8 = .ok (.isub, 1) := by decide +kernel
theorem d_St_cutOff_9 : decode prog_9_method_10_code 9 = .ok (.istore_n 1, 1) := by decide +kernel
theorem d_St_cutOff_10 : decode prog_9_method_10_code 10 = .ok (.aload_n 0, 1) := by decide +kernel
theorem d_St_cutOff_11 : decode prog_9_method_10_code 11 = .ok (.aload_n 0, 1) := by decide +kernel
theorem d_St_cutOff_12 : decode prog_9_method_10_code 12 = .ok (.getfield 62, 3) := by decide +kernel
theorem d_St_cutOff_15 : decode prog_9_method_10_code 15 = .ok (.putfield 34, 3) := by decide +kernel
theorem d_St_cutOff_18 : decode prog_9_method_10_code 18 = .ok (.iload_n 1, 1) := by decide +kernel
theorem d_St_cutOff_19 : decode prog_9_method_10_code 19 = .ok (.ireturn, 1) := by decide +kernel
theorem d_St_append_0 : decode prog_9_method_11_code 0 = .ok (.aload_n 0, 1) := by decide +kernel
theorem d_St_append_1 : decode prog_9_method_11_code 1 = .ok (.getfield 34, 3) := by decide +kernel
theorem d_St_append_4 : decode prog_9_method_11_code 4 = .ok (.sipush 300, 3) := by decide +kernel
theorem d_St_append_7 : decode prog_9_method_11_code 7 = .ok (.if_icmp .lt 4, 3) := by decide +kernel
theorem d_St_append_10 : decode prog_9_method_11_code 10 = .ok (.return_, 1) := by decide +kernel
theorem d_St_append_11 : decode prog_9_method_11_code 11 = .ok (.aload_n 0, 1) := by decide +kernel
theorem d_St_append_12 : decode prog_9_method_11_code 12 = .ok (.getfield 9, 3) := by decide +kernel
theorem d_St_append_15 : decode prog_9_method_11_code 15 = .ok (.aload_n 0, 1) := by decide +kernel
theorem d_St_append_16 : decode prog_9_method_11_code 16 = .ok (.getfield 34, 3) := by decide +kernel
theorem d_St_append_19 : decode prog_9_method_11_code 19 = .ok (.iload_n 1, 1) := by decide +kernel
theorem d_St_append_20 : decode prog_9_method_11_code 20 = .ok (.iastore, 1) := by decide +kernel
theorem d_St_append_21 : decode prog_9_method_11_code 21 = .ok (.aload_n 0, 1) := by decide +kernel
theorem d_St_append_22 : decode prog_9_method_11_code 22 = .ok (.getfield 15, 3) := by decide +kernel
theorem d_St_append_25 : decode prog_9_method_11_code 25 = .ok (.aload_n 0, 1) := by decide +kernel
theorem d_St_append_26 : decode prog_9_method_11_code 26 = .ok (.getfield 34, 3) := by decide +kernel
theorem d_St_append_29 : decode prog_9_method_11_code 29 = .ok (.iload_n 2, 1) := by decide +kernel
theorem d_St_append_30 : decode prog_9_method_11_code 30 = .ok (.iastore, 1) := by decide +kernel
theorem d_St_append_31 : decode prog_9_method_11_code 31 = .ok (.aload_n 0, 1) := by decide +kernel
theorem d_St_append_32 : decode prog_9_method_11_code 32 = .ok (.getfield 18, 3) := by decide +kernel
theorem d_St_append_35 : decode prog_9_method_11_code 35 = .ok (.aload_n 0, 1) := by decide +kernel
theorem d_St_append_36 : decode prog_9_method_11_code 36 = .ok (.getfield 34, 3) := by decide +kernel
theorem d_St_append_39 : decode prog_9_method_11_code 39 = .ok (.iload_n 3, 1) := by decide +kernel
theorem d_St_append_40 : decode prog_9_method_11_code 40 = .ok (.iastore, 1) := by decide +kernel
theorem d_St_append_41 : decode prog_9_method_11_code 41 = .ok (.aload_n 0, 1) := by decide +kernel
theorem d_St_append_42 : decode prog_9_method_11_code 42 = .ok (.getfield 21, 3) := by decide +kernel
theorem d_St_append_45 : decode prog_9_method_11_code 45 = .ok (.aload_n 0, 1) := by decide +kernel
theorem d_St_append_46 : decode prog_9_method_11_code 46 = .ok (.getfield 34, 3) := by decide +kernel
theorem d_St_append_49 : decode prog_9_method_11_code 49 = .ok (.iload 4, 2) := by decide +kernel
theorem d_St_append_51 : decode prog_9_method_11_code 51 = .ok (.iastore, 1) := by decide +kernel
theorem d_St_append_52 : decode prog_9_method_11_code 52 = .ok (.aload_n 0, 1) := by decide +kernel
theorem d_St_append_53 : decode prog_9_method_11_code 53 = .ok (.getfield 24, 3) := by decide +kernel
theorem d_St_append_56 : decode prog_9_method_11_code 56 = .ok (.aload_n 0, 1) := by decide +kernel
theorem d_St_append_57 : decode prog_9_method_11_code 57 = .ok (.getfield 34, 3) := by decide +kernel
theorem d_St_append_60 : decode prog_9_method_11_code 60 = .ok (.iload 5, 2) := by decide +kernel
theorem d_St_append_62 : decode prog_9_method_11_code 62 = .ok (.iastore, 1) := by decide +kernel
theorem d_St_append_63 : decode prog_9_method_11_code 63 = .ok (.aload_n 0, 1) := by decide +kernel
theorem d_St_append_64 : decode prog_9_method_11_code 64 = .ok (.dup, 1) := by decide +kernel
theorem d_St_append_65 : decode prog_9_method_11_code 65 = .ok (.getfield 34, 3) := by decide +kernel
theorem d_St_append_68 : decode prog_9_method_11_code 68 = .ok (.iconst 1, 1) := by decide +kernel
theorem d_St_append_69 : decode prog_9_method_11_code 69 = .ok (.iadd, 1) := by decide +kernel
theorem d_St_append_70 : decode prog_9_method_11_code 70 = .ok (.putfield 34, 3) := by decide +kernel
theorem d_St_append_73 : decode prog_9_method_11_code 73 = .ok (.return_, 1) := by decide +kernel
theorem d_Wy_go_0 : decode prog_10_method_2_code 0 = .ok (.aload_n 0, 1) := by decide +kernel
theorem d_Wy_go_1 : decode prog_10_method_2_code 1 = .ok (.iconst 0, 1) := by decide +kernel
theorem d_Wy_go_2 : decode prog_10_method_2_code 2 = .ok (.putfield 16, 3) := by decide +kernel
theorem d_Wy_go_5 : decode prog_10_method_2_code 5 = .ok (.aload_n 0, 1) := by decide +kernel
theorem d_Wy_go_6 : decode prog_10_method_2_code 6 = .ok (.iload_n 2, 1) := by decide +kernel
theorem d_Wy_go_7 : decode prog_10_method_2_code 7 = .ok (.iconst 1, 1) := by decide +kernel
theorem d_Wy_go_8 : decode prog_10_method_2_code 8 = .ok (.iadd, 1) := by decide +kernel
theorem d_Wy_go_9 : decode prog_10_method_2_code 9 = .ok (.putfield 20, 3) := by decide +kernel
theorem d_Wy_go_12 : decode prog_10_method_2_code 12 = .ok (.aload_n 0, 1) := by decide +kernel
theorem d_Wy_go_13 : decode prog_10_method_2_code 13 = .ok (.iconst 0, 1) := by decide +kernel
theorem d_Wy_go_14 : decode prog_10_method_2_code 14 = .ok (.putfield 23, 3) := by decide +kernel
theorem d_Wy_go_17 : decode prog_10_method_2_code 17 = .ok (.aload_n 0, 1) := by decide +kernel
theorem d_Wy_go_18 : decode prog_10_method_2_code 18 = .ok (.getfield 23, 3) := by decide +kernel
theorem d_Wy_go_21 : decode prog_10_method_2_code 21 = .ok (.bipush 6, 2) := by decide +kernel
theorem d_Wy_go_23 : decode prog_10_method_2_code 23 = .ok (.if_icmp .ge 152, 3) := by decide +kernel
theorem d_Wy_go_26 : decode prog_10_method_2_code 26 = .ok (.aload_n 0, 1) := by decide +kernel
theorem d_Wy_go_27 : decode prog_10_method_2_code 27 = .ok (.getfield 20, 3) := by decide +kernel
theorem d_Wy_go_30 : decode prog_10_method_2_code 30 = .ok (.iconst 1, 1) := by decide +kernel
theorem d_Wy_go_31 : decode prog_10_method_2_code 31 = .ok (.isub, 1) := by decide +kernel
theorem d_Wy_go_32 : decode prog_10_method_2_code 32 = .ok (.iload_n 1, 1) := by decide +kernel
theorem d_Wy_go_33 : decode prog_10_method_2_code 33 = .ok (.if_icmp .gt 15, 3) := by decide +kernel
theorem d_Wy_go_36 : decode prog_10_method_2_code 36 = .ok (.iload_n 3, 1) := by decide +kernel
theorem d_Wy_go_37 : decode prog_10_method_2_code 37 = .ok (.ifCond .eq 138, 3) := by decide +kernel
theorem d_Wy_go_40 : decode prog_10_method_2_code 40 = .ok (.aload_n 0, 1) := by decide +kernel
theorem d_Wy_go_41 : decode prog_10_method_2_code 41 = .ok (.getfield 16, 3) := by decide +kernel
theorem d_Wy_go_44 : decode prog_10_method_2_code 44 = .ok (.iload_n 1, 1) := by decide +kernel
theorem d_Wy_go_45 : decode prog_10_method_2_code 45 = .ok (.if_icmp .ge 130, 3) := by decide +kernel
theorem d_Wy_go_48 : decode prog_10_method_2_code 48 = .ok (.aload_n 0, 1) := by decide +kernel
theorem d_Wy_go_49 : decode prog_10_method_2_code 49 = .ok (.getfield 16, 3) := by decide +kernel
theorem d_Wy_go_52 : decode prog_10_method_2_code 52 = .ok (.aload_n 0, 1) := by decide +kernel
theorem d_Wy_go_53 : decode prog_10_method_2_code 53 = .ok (.getfield 20, 3) := by decide +kernel
theorem d_Wy_go_56 : decode prog_10_method_2_code 56 = .ok (.aload_n 0, 1) := by decide +kernel
theorem d_Wy_go_57 : decode prog_10_method_2_code 57 = .ok (.getfield 16, 3) := by decide +kernel
theorem d_Wy_go_60 : decode prog_10_method_2_code 60 = .ok (.isub, 1) := by decide +kernel
theorem d_Wy_go_61 : decode prog_10_method_2_code 61 = .ok (.invokestatic 26, 3) := by decide +kernel
theorem d_Wy_go_64 : decode prog_10_method_2_code 64 = .ok (.iadd, 1) := by decide +kernel
theorem d_Wy_go_65 : decode prog_10_method_2_code 65 = .ok (.istore 4, 2) := by decide +kernel
theorem d_Wy_go_67 : decode prog_10_method_2_code 67 = .ok (.iload_n 1, 1) := by decide +kernel
theorem d_Wy_go_68 : decode prog_10_method_2_code 68 = .ok (.iload 4, 2) := by decide +kernel
theorem d_Wy_go_70 : decode prog_10_method_2_code 70 = .ok (.if_icmp .ge 7, 3) := by decide +kernel
theorem d_Wy_go_73 : decode prog_10_method_2_code 73 = .ok (.iconst 1, 1) := by decide +kernel
theorem d_Wy_go_74 : decode prog_10_method_2_code 74 = .ok (.goto 4, 3) := by decide +kernel
theorem d_Wy_go_77 : decode prog_10_method_2_code 77 = .ok (.iconst 0, 1) := by decide +kernel
theorem d_Wy_go_78 : decode prog_10_method_2_code 78 = .ok (.istore 5, 2) := by decide +kernel
theorem d_Wy_go_80 : decode prog_10_method_2_code 80 = .ok (.aload_n 0, 1) := by decide +kernel
theorem d_Wy_go_81 : decode prog_10_method_2_code 81 = .ok (.getfield 9, 3) := by decide +kernel
theorem d_Wy_go_84 : decode prog_10_method_2_code 84 = .ok (.aload_n 0, 1) := by decide +kernel
theorem d_Wy_go_85 : decode prog_10_method_2_code 85 = .ok (.getfield 23, 3) := by decide +kernel
theorem d_Wy_go_88 : decode prog_10_method_2_code 88 = .ok (.iload 5, 2) := by decide +kernel
theorem d_Wy_go_90 : decode prog_10_method_2_code 90 = .ok (.ifCond .eq 8, 3) := by decide +kernel
theorem d_Wy_go_93 : decode prog_10_method_2_code 93 = .ok (.iload 4, 2) := by decide +kernel
theorem d_Wy_go_95 : decode prog_10_method_2_code 95 = .ok (.goto 7, 3) := by decide +kernel
theorem d_Wy_go_98 : decode prog_10_method_2_code 98 = .ok (.aload_n 0, 1) := by decide +kernel
theorem d_Wy_go_99 : decode prog_10_method_2_code 99 = .ok (.getfield 16, 3) := by decide +kernel
theorem d_Wy_go_102 : decode prog_10_method_2_code 102 = .ok (.iastore, 1) := by decide +kernel
theorem d_Wy_go_103 : decode prog_10_method_2_code 103 = .ok (.aload_n 0, 1) := by decide +kernel
theorem d_Wy_go_104 : decode prog_10_method_2_code 104 = .ok (.getfield 13, 3) := by decide +kernel
theorem d_Wy_go_107 : decode prog_10_method_2_code 107 = .ok (.aload_n 0, 1) := by decide +kernel
theorem d_Wy_go_108 : decode prog_10_method_2_code 108 = .ok (.getfield 23, 3) := by decide +kernel
theorem d_Wy_go_111 : decode prog_10_method_2_code 111 = .ok (.iload 5, 2) := by decide +kernel
theorem d_Wy_go_113 : decode prog_10_method_2_code 113 = .ok (.ifCond .eq 10, 3) := by decide +kernel
theorem d_Wy_go_116 : decode prog_10_method_2_code 116 = .ok (.aload_n 0, 1) := by decide +kernel
theorem d_Wy_go_117 : decode prog_10_method_2_code 117 = .ok (.getfield 20, 3) := by decide +kernel
theorem d_Wy_go_120 : decode prog_10_method_2_code 120 = .ok (.goto 5, 3) := by decide +kernel
theorem d_Wy_go_123 : decode prog_10_method_2_code 123 = .ok (.iload 4, 2) := by decide +kernel
theorem d_Wy_go_125 : decode prog_10_method_2_code 125 = .ok (.iastore, 1) := by decide +kernel
theorem d_Wy_go_126 : decode prog_10_method_2_code 126 = .ok (.aload_n 0, 1) := by decide +kernel
theorem d_Wy_go_127 : decode prog_10_method_2_code 127 = .ok (.iload 5, 2) := by decide +kernel
theorem d_Wy_go_129 : decode prog_10_method_2_code 129 = .ok (.ifCond .eq 10, 3) := by decide +kernel
theorem d_Wy_go_132 : decode prog_10_method_2_code 132 = .ok (.aload_n 0, 1) := by decide +kernel
theorem d_Wy_go_133 : decode prog_10_method_2_code 133 = .ok (.getfield 16, 3) := by decide +kernel
theorem d_Wy_go_136 : decode prog_10_method_2_code 136 = .ok (.goto 5, 3) := by decide +kernel
theorem d_Wy_go_139 : decode prog_10_method_2_code 139 = .ok (.iload 4, 2) := by decide +kernel
theorem d_Wy_go_141 : decode prog_10_method_2_code 141 = .ok (.putfield 16, 3) := by decide +kernel
theorem d_Wy_go_144 : decode prog_10_method_2_code 144 = .ok (.aload_n 0, 1) := by decide +kernel
theorem d_Wy_go_145 : decode prog_10_method_2_code 145 = .ok (.iload 5, 2) := by decide +kernel
theorem d_Wy_go_147 : decode prog_10_method_2_code 147 = .ok (.ifCond .eq 8, 3) := by decide +kernel
theorem d_Wy_go_150 : decode prog_10_method_2_code 150 = .ok (.iload 4, 2) := by decide +kernel
theorem d_Wy_go_152 : decode prog_10_method_2_code 152 = .ok (.goto 7, 3) := by decide +kernel
theorem d_Wy_go_155 : decode prog_10_method_2_code 155 = .ok (.aload_n 0, 1) := by decide +kernel
theorem d_Wy_go_156 : decode prog_10_method_2_code 156 = .ok (.getfield 20, 3) := by decide +kernel
theorem d_Wy_go_159 : decode prog_10_method_2_code 159 = .ok (.putfield 20, 3) := by decide +kernel
theorem d_Wy_go_162 : decode prog_10_method_2_code 162 = .ok (.aload_n 0, 1) := by decide +kernel
theorem d_Wy_go_163 : decode prog_10_method_2_code 163 = .ok (.dup, 1) := by decide +kernel
theorem d_Wy_go_164 : decode prog_10_method_2_code 164 = .ok (.getfield 23, 3) := by decide +kernel
theorem d_Wy_go_167 : decode prog_10_method_2_code 167 = .ok (.iconst 1, 1) := by decide +kernel
theorem d_Wy_go_168 : decode prog_10_method_2_code 168 = .ok (.iadd, 1) := by decide +kernel
theorem d_Wy_go_169 : decode prog_10_method_2_code 169 = .ok (.putfield 23, 3) := by decide +kernel
theorem d_Wy_go_172 : decode prog_10_method_2_code 172 = .ok (.goto (-155), 3) := by decide +kernel
theorem d_Wy_go_175 : decode prog_10_method_2_code 175 = .ok (.return_, 1) := by decide +kernel
theorem d_Wy_isOtherBefore_0 : decode prog_10_method_3_code 0 = .ok (.aload_n 0, 1) := by decide +kernel
theorem d_Wy_isOtherBefore_1 : decode prog_10_method_3_code 1 = .ok (.getfield 9, 3) := by decide +kernel
theorem d_Wy_isOtherBefore_4 : decode prog_10_method_3_code 4 = .ok (.iload_n 1, 1) := by decide +kernel
theorem d_Wy_isOtherBefore_5 : decode prog_10_method_3_code 5 = .ok (.iaload, 1) := by decide +kernel
theorem d_Wy_isOtherBefore_6 : decode prog_10_method_3_code 6 = .ok (.aload_n 0, 1) := by decide +kernel
theorem d_Wy_isOtherBefore_7 : decode prog_10_method_3_code 7 = .ok (.getfield 16, 3) := by decide +kernel
theorem d_Wy_isOtherBefore_10 : decode prog_10_method_3_code 10 = .ok (.if_icmp .ge 7, 3) := by decide +kernel
theorem d_Wy_isOtherBefore_13 : decode prog_10_method_3_code 13 = .ok (.iconst 1, 1) := by decide +kernel
theorem d_Wy_isOtherBefore_14 : decode prog_10_method_3_code 14 = .ok (.goto 4, 3) := by decide +kernel
theorem d_Wy_isOtherBefore_17 : decode prog_10_method_3_code 17 = .ok (.iconst 0, 1) := by decide +kernel
theorem d_Wy_isOtherBefore_18 : decode prog_10_method_3_code 18 = .ok (.ireturn, 1) := by decide +kernel
theorem d_Wy_greatestPowerBelow_0 : decode prog_10_method_4_code 0 = .ok (.bipush 32, 2) := by decide +kernel
theorem d_Wy_greatestPowerBelow_2 : decode prog_10_method_4_code 2 = .ok (.istore_n 1, 1) := by decide +kernel
theorem d_Wy_greatestPowerBelow_3 : decode prog_10_method_4_code 3 = .ok (.iload_n 1, 1) := by decide +kernel
theorem d_Wy_greatestPowerBelow_4 : decode prog_10_method_4_code 4 = .ok (.iconst 1, 1) := by decide +kernel
theorem d_Wy_greatestPowerBelow_5 : decode prog_10_method_4_code 5 = .ok (.if_icmp .le 17, 3) := by decide +kernel
theorem d_Wy_greatestPowerBelow_8 : decode prog_10_method_4_code 8 = .ok (.iload_n 1, 1) := by decide +kernel
theorem d_Wy_greatestPowerBelow_9 : decode prog_10_method_4_code 9 = .ok (.iload_n 0, 1) := by decide +kernel
theorem d_Wy_greatestPowerBelow_10 : decode prog_10_method_4_code 10 = .ok (.if_icmp .ge 5, 3) := by decide +kernel
theorem d_Wy_greatestPowerBelow_13 : decode prog_10_method_4_code 13 = .ok (.iload_n 1, 1) := by decide +kernel
theorem d_Wy_greatestPowerBelow_14 : decode prog_10_method_4_code 14 = .ok (.ireturn, 1) := by decide +kernel
theorem d_Wy_greatestPowerBelow_15 : decode prog_10_method_4_code 15 = .ok (.iload_n 1, 1) := by decide +kernel
theorem d_Wy_greatestPowerBelow_16 : decode prog_10_method_4_code 16 = .ok (.iconst 2, 1) := by decide +kernel
theorem d_Wy_greatestPowerBelow_17 : decode prog_10_method_4_code 17 = .ok (.idiv, 1) := by decide +kernel
theorem d_Wy_greatestPowerBelow_18 : decode prog_10_method_4_code 18 = .ok (.istore_n 1, 1) := by decide +kernel
theorem d_Wy_greatestPowerBelow_19 : decode prog_10_method_4_code 19 = .ok (.goto (-16), 3) := by decide +kernel
theorem d_Wy_greatestPowerBelow_22 : decode prog_10_method_4_code 22 = .ok (.iconst 1, 1) := by decide +kernel
theorem d_Wy_greatestPowerBelow_23 : decode prog_10_method_4_code 23 = .ok (.ireturn, 1) := by decide +kernel
