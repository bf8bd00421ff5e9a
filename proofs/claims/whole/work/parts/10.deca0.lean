theorem d_ED_hash_0 : decode prog_1_method_2_code 0 = .ok (.aload_n 0, 1) := by decide +kernel
theorem d_ED_hash_1 : decode prog_1_method_2_code 1 = .ok (.getfield 12, 3) := by decide +kernel
theorem d_ED_hash_4 : decode prog_1_method_2_code 4 = .ok (.iload_n 1, 1) := by decide +kernel
theorem d_ED_hash_5 : decode prog_1_method_2_code 5 = .ok (.iload_n 2, 1) := by decide +kernel
theorem d_ED_hash_6 : decode prog_1_method_2_code 6 = .ok (.iload_n 3, 1) := by decide +kernel
theorem d_ED_hash_7 : decode prog_1_method_2_code 7 = .ok (.invokevirtual 83, 3) := by decide +kernel
theorem d_ED_hash_10 : decode prog_1_method_2_code 10 = .ok (.ireturn, 1) := by decide +kernel
theorem d_ED_put_0 : decode prog_1_method_3_code 0 = .ok (.aload_n 0, 1) := by decide +kernel
theorem d_ED_put_1 : decode prog_1_method_3_code 1 = .ok (.getfield 87, 3) := by decide +kernel
theorem d_ED_put_4 : decode prog_1_method_3_code 4 = .ok (.ifCond .eq 6, 3) := by decide +kernel
theorem d_ED_put_7 : decode prog_1_method_3_code 7 = .ok (.bipush (-9), 2) := by decide +kernel
theorem d_ED_put_9 : decode prog_1_method_3_code 9 = .ok (.ireturn, 1) := by decide +kernel
theorem d_ED_put_10 : decode prog_1_method_3_code 10 = .ok (.iload_n 1, 1) := by decide +kernel
theorem d_ED_put_11 : decode prog_1_method_3_code 11 = .ok (.invokestatic 91, 3) := by decide +kernel
theorem d_ED_put_14 : decode prog_1_method_3_code 14 = .ok (.ifCond .eq 10, 3) := by decide +kernel
theorem d_ED_put_17 : decode prog_1_method_3_code 17 = .ok (.iload_n 2, 1) := by decide +kernel
theorem d_ED_put_18 : decode prog_1_method_3_code 18 = .ok (.invokestatic 95, 3) := by decide +kernel
theorem d_ED_put_21 : decode prog_1_method_3_code 21 = .ok (.ifCond .ne 5, 3) := by decide +kernel
theorem d_ED_put_24 : decode prog_1_method_3_code 24 = .ok (.iconst (-1), 1) := by decide +kernel
theorem d_ED_put_25 : decode prog_1_method_3_code 25 = .ok (.ireturn, 1) := by decide +kernel
theorem d_ED_put_26 : decode prog_1_method_3_code 26 = .ok (.aload_n 0, 1) := by decide +kernel
theorem d_ED_put_27 : decode prog_1_method_3_code 27 = .ok (.getfield 21, 3) := by decide +kernel
theorem d_ED_put_30 : decode prog_1_method_3_code 30 = .ok (.iload_n 1, 1) := by decide +kernel
theorem d_ED_put_31 : decode prog_1_method_3_code 31 = .ok (.iload_n 2, 1) := by decide +kernel
theorem d_ED_put_32 : decode prog_1_method_3_code 32 = .ok (.invokevirtual 98, 3) := by decide +kernel
theorem d_ED_put_35 : decode prog_1_method_3_code 35 = .ok (.aload_n 0, 1) := by decide +kernel
theorem d_ED_put_36 : decode prog_1_method_3_code 36 = .ok (.getfield 21, 3) := by decide +kernel
theorem d_ED_put_39 : decode prog_1_method_3_code 39 = .ok (.getfield 102, 3) := by decide +kernel
theorem d_ED_put_42 : decode prog_1_method_3_code 42 = .ok (.ireturn, 1) := by decide +kernel
theorem d_ED_close_0 : decode prog_1_method_4_code 0 = .ok (.aload_n 0, 1) := by decide +kernel
theorem d_ED_close_1 : decode prog_1_method_4_code 1 = .ok (.getfield 87, 3) := by decide +kernel
theorem d_ED_close_4 : decode prog_1_method_4_code 4 = .ok (.ifCond .eq 6, 3) := by decide +kernel
theorem d_ED_close_7 : decode prog_1_method_4_code 7 = .ok (.bipush (-9), 2) := by decide +kernel
theorem d_ED_close_9 : decode prog_1_method_4_code 9 = .ok (.ireturn, 1) := by decide +kernel
theorem d_ED_close_10 : decode prog_1_method_4_code 10 = .ok (.aload_n 0, 1) := by decide +kernel
theorem d_ED_close_11 : decode prog_1_method_4_code 11 = .ok (.getfield 37, 3) := by decide +kernel
theorem d_ED_close_14 : decode prog_1_method_4_code 14 = .ok (.aload_n 0, 1) := by decide +kernel
theorem d_ED_close_15 : decode prog_1_method_4_code 15 = .ok (.getfield 21, 3) := by decide +kernel
theorem d_ED_close_18 : decode prog_1_method_4_code 18 = .ok (.aload_n 0, 1) := by decide +kernel
theorem d_ED_close_19 : decode prog_1_method_4_code 19 = .ok (.getfield 30, 3) := by decide +kernel
theorem d_ED_close_22 : decode prog_1_method_4_code 22 = .ok (.invokevirtual 106, 3) := by decide +kernel
theorem d_ED_close_25 : decode prog_1_method_4_code 25 = .ok (.aload_n 0, 1) := by decide +kernel
theorem d_ED_close_26 : decode prog_1_method_4_code 26 = .ok (.getfield 44, 3) := by decide +kernel
theorem d_ED_close_29 : decode prog_1_method_4_code 29 = .ok (.getfield 110, 3) := by decide +kernel
theorem d_ED_close_32 : decode prog_1_method_4_code 32 = .ok (.bipush 40, 2) := by decide +kernel
theorem d_ED_close_34 : decode prog_1_method_4_code 34 = .ok (.if_icmp .ge 26, 3) := by decide +kernel
theorem d_ED_close_37 : decode prog_1_method_4_code 37 = .ok (.aload_n 0, 1) := by decide +kernel
theorem d_ED_close_38 : decode prog_1_method_4_code 38 = .ok (.getfield 30, 3) := by decide +kernel
theorem d_ED_close_41 : decode prog_1_method_4_code 41 = .ok (.getfield 113, 3) := by decide +kernel
theorem d_ED_close_44 : decode prog_1_method_4_code 44 = .ok (.aload_n 0, 1) := by decide +kernel
theorem d_ED_close_45 : decode prog_1_method_4_code 45 = .ok (.getfield 37, 3) := by decide +kernel
theorem d_ED_close_48 : decode prog_1_method_4_code 48 = .ok (.getfield 114, 3) := by decide +kernel
theorem d_ED_close_51 : decode prog_1_method_4_code 51 = .ok (.iadd, 1) := by decide +kernel
theorem d_ED_close_52 : decode prog_1_method_4_code 52 = .ok (.iconst 1, 1) := by decide +kernel
theorem d_ED_close_53 : decode prog_1_method_4_code 53 = .ok (.iadd, 1) := by decide +kernel
theorem d_ED_close_54 : decode prog_1_method_4_code 54 = .ok (.sipush 300, 3) := by decide +kernel
theorem d_ED_close_57 : decode prog_1_method_4_code 57 = .ok (.if_icmp .le 6, 3) := by decide +kernel
theorem d_ED_close_60 : decode prog_1_method_4_code 60 = .ok (.bipush (-2), 2) := by decide +kernel
theorem d_ED_close_62 : decode prog_1_method_4_code 62 = .ok (.ireturn, 1) := by decide +kernel
theorem d_ED_close_63 : decode prog_1_method_4_code 63 = .ok (.iconst 0, 1) := by decide +kernel
theorem d_ED_close_64 : decode prog_1_method_4_code 64 = .ok (.istore_n 1, 1) := by decide +kernel
theorem d_ED_close_65 : decode prog_1_method_4_code 65 = .ok (.iload_n 1, 1) := by decide +kernel
theorem d_ED_close_66 : decode prog_1_method_4_code 66 = .ok (.aload_n 0, 1) := by decide +kernel
theorem d_ED_close_67 : decode prog_1_method_4_code 67 = .ok (.getfield 37, 3) := by decide +kernel
theorem d_ED_close_70 : decode prog_1_method_4_code 70 = .ok (.getfield 114, 3) := by decide +kernel
theorem d_ED_close_73 : decode prog_1_method_4_code 73 = .ok (.if_icmp .ge 33, 3) := by decide +kernel
theorem d_ED_close_76 : decode prog_1_method_4_code 76 = .ok (.aload_n 0, 1) := by decide +kernel
theorem d_ED_close_77 : decode prog_1_method_4_code 77 = .ok (.getfield 87, 3) := by decide +kernel
theorem d_ED_close_80 : decode prog_1_method_4_code 80 = .ok (.ifCond .ne 26, 3) := by decide +kernel
theorem d_ED_close_83 : decode prog_1_method_4_code 83 = .ok (.aload_n 0, 1) := by decide +kernel
theorem d_ED_close_84 : decode prog_1_method_4_code 84 = .ok (.aload_n 0, 1) := by decide +kernel
theorem d_ED_close_85 : decode prog_1_method_4_code 85 = .ok (.getfield 37, 3) := by decide +kernel
theorem d_ED_close_88 : decode prog_1_method_4_code 88 = .ok (.getfield 117, 3) := by decide +kernel
theorem d_ED_close_91 : decode prog_1_method_4_code 91 = .ok (.iload_n 1, 1) := by decide +kernel
theorem d_ED_close_92 : decode prog_1_method_4_code 92 = .ok (.iaload, 1) := by decide +kernel
theorem d_ED_close_93 : decode prog_1_method_4_code 93 = .ok (.invokevirtual 120, 3) := by decide +kernel
theorem d_ED_close_96 : decode prog_1_method_4_code 96 = .ok (.aload_n 0, 1) := by decide +kernel
theorem d_ED_close_97 : decode prog_1_method_4_code 97 = .ok (.invokevirtual 123, 3) := by decide +kernel
theorem d_ED_close_100 : decode prog_1_method_4_code 100 = .ok (.iinc 1 1, 3) := by decide +kernel
theorem d_ED_close_103 : decode prog_1_method_4_code 103 = .ok (.goto (-38), 3) := by decide +kernel
theorem d_ED_close_106 : decode prog_1_method_4_code 106 = .ok (.aload_n 0, 1) := by decide +kernel
theorem d_ED_close_107 : decode prog_1_method_4_code 107 = .ok (.getfield 87, 3) := by decide +kernel
theorem d_ED_close_110 : decode prog_1_method_4_code 110 = .ok (.ifCond .ne 11, 3) := by decide +kernel
theorem d_ED_close_113 : decode prog_1_method_4_code 113 = .ok (.aload_n 0, 1) := by decide +kernel
theorem d_ED_close_114 : decode prog_1_method_4_code 114 = .ok (.invokevirtual 126, 3) := by decide +kernel
theorem d_ED_close_117 : decode prog_1_method_4_code 117 = .ok (.aload_n 0, 1) := by decide +kernel
theorem d_ED_close_118 : decode prog_1_method_4_code 118 = .ok (.invokevirtual 123, 3) := by decide +kernel
theorem d_ED_close_121 : decode prog_1_method_4_code 121 = .ok (.aload_n 0, 1) := by decide +kernel
theorem d_ED_close_122 : decode prog_1_method_4_code 122 = .ok (.getfield 87, 3) := by decide +kernel
theorem d_ED_close_125 : decode prog_1_method_4_code 125 = .ok (.ifCond .eq 8, 3) := by decide +kernel
theorem d_ED_close_128 : decode prog_1_method_4_code 128 = .ok (.bipush (-9), 2) := by decide +kernel
theorem d_ED_close_130 : decode prog_1_method_4_code 130 = .ok (.goto 12, 3) := by decide +kernel
theorem d_ED_close_133 : decode prog_1_method_4_code 133 = .ok (.aload_n 0, 1) := by decide +kernel
theorem d_ED_close_134 : decode prog_1_method_4_code 134 = .ok (.getfield 44, 3) := by decide +kernel
theorem d_ED_close_137 : decode prog_1_method_4_code 137 = .ok (.getfield 110, 3) := by decide +kernel
theorem d_ED_close_140 : decode prog_1_method_4_code 140 = .ok (.iconst 1, 1) := by decide +kernel
theorem d_ED_close_141 : decode prog_1_method_4_code 141 = .ok (.isub, 1) := by decide +kernel
theorem d_ED_close_142 : decode prog_1_method_4_code 142 = .ok (.ireturn, 1) := by decide +kernel
theorem d_ED_fuse_0 : decode prog_1_method_5_code 0 = .ok (.aload_n 0, 1) := by decide +kernel
theorem d_ED_fuse_1 : decode prog_1_method_5_code 1 = .ok (.getfield 87, 3) := by decide +kernel
theorem d_ED_fuse_4 : decode prog_1_method_5_code 4 = .ok (.ifCond .ne 14, 3) := by decide +kernel
theorem d_ED_fuse_7 : decode prog_1_method_5_code 7 = .ok (.iload_n 1, 1) := by decide +kernel
theorem d_ED_fuse_8 : decode prog_1_method_5_code 8 = .ok (.iconst 1, 1) := by decide +kernel
theorem d_ED_fuse_9 : decode prog_1_method_5_code 9 = .ok (.if_icmp .lt 9, 3) := by decide +kernel
theorem d_ED_fuse_12 : decode prog_1_method_5_code 12 = .ok (.iload_n 1, 1) := by decide +kernel
theorem d_ED_fuse_13 : decode prog_1_method_5_code 13 = .ok (.bipush 100, 2) := by decide +kernel
theorem d_ED_fuse_15 : decode prog_1_method_5_code 15 = .ok (.if_icmp .le 5, 3) := by decide +kernel
theorem d_ED_fuse_18 : decode prog_1_method_5_code 18 = .ok (.iconst 0, 1) := by decide +kernel
theorem d_ED_fuse_19 : decode prog_1_method_5_code 19 = .ok (.ireturn, 1) := by decide +kernel
theorem d_ED_fuse_20 : decode prog_1_method_5_code 20 = .ok (.aload_n 0, 1) := by decide +kernel
theorem d_ED_fuse_21 : decode prog_1_method_5_code 21 = .ok (.iload_n 1, 1) := by decide +kernel
theorem d_ED_fuse_22 : decode prog_1_method_5_code 22 = .ok (.putfield 129, 3) := by decide +kernel
theorem d_ED_fuse_25 : decode prog_1_method_5_code 25 = .ok (.iconst 1, 1) := by decide +kernel
theorem d_ED_fuse_26 : decode prog_1_method_5_code 26 = .ok (.ireturn, 1) := by decide +kernel
theorem d_ED_restart_0 : decode prog_1_method_6_code 0 = .ok (.aload_n 0, 1) := by decide +kernel
theorem d_ED_restart_1 : decode prog_1_method_6_code 1 = .ok (.getfield 87, 3) := by decide +kernel
theorem d_ED_restart_4 : decode prog_1_method_6_code 4 = .ok (.ifCond .ne 5, 3) := by decide +kernel
theorem d_ED_restart_7 : decode prog_1_method_6_code 7 = .ok (.iconst (-1), 1) := by decide +kernel
theorem d_ED_restart_8 : decode prog_1_method_6_code 8 = .ok (.ireturn, 1) := by decide +kernel
theorem d_ED_restart_9 : decode prog_1_method_6_code 9 = .ok (.aload_n 0, 1) := by decide +kernel
theorem d_ED_restart_10 : decode prog_1_method_6_code 10 = .ok (.iconst 0, 1) := by decide +kernel
theorem d_ED_restart_11 : decode prog_1_method_6_code 11 = .ok (.putfield 87, 3) := by decide +kernel
theorem d_ED_restart_14 : decode prog_1_method_6_code 14 = .ok (.aload_n 0, 1) := by decide +kernel
theorem d_ED_restart_15 : decode prog_1_method_6_code 15 = .ok (.getfield 30, 3) := by decide +kernel
theorem d_ED_restart_18 : decode prog_1_method_6_code 18 = .ok (.invokevirtual 132, 3) := by decide +kernel
theorem d_ED_restart_21 : decode prog_1_method_6_code 21 = .ok (.ireturn, 1) := by decide +kernel
theorem d_ED_root_0 : decode prog_1_method_7_code 0 = .ok (.aload_n 0, 1) := by decide +kernel
theorem d_ED_root_1 : decode prog_1_method_7_code 1 = .ok (.getfield 44, 3) := by decide +kernel
theorem d_ED_root_4 : decode prog_1_method_7_code 4 = .ok (.iload_n 1, 1) := by decide +kernel
theorem d_ED_root_5 : decode prog_1_method_7_code 5 = .ok (.invokevirtual 136, 3) := by decide +kernel
theorem d_ED_root_8 : decode prog_1_method_7_code 8 = .ok (.ifCond .eq 15, 3) := by decide +kernel
theorem d_ED_root_11 : decode prog_1_method_7_code 11 = .ok (.aload_n 0, 1) := by decide +kernel
theorem d_ED_root_12 : decode prog_1_method_7_code 12 = .ok (.getfield 44, 3) := by decide +kernel
theorem d_ED_root_15 : decode prog_1_method_7_code 15 = .ok (.getfield 139, 3) := by decide +kernel
theorem d_ED_root_18 : decode prog_1_method_7_code 18 = .ok (.iload_n 1, 1) := by decide +kernel
theorem d_ED_root_19 : decode prog_1_method_7_code 19 = .ok (.iaload, 1) := by decide +kernel
theorem d_ED_root_20 : decode prog_1_method_7_code 20 = .ok (.goto 4, 3) := by decide +kernel
theorem d_ED_root_23 : decode prog_1_method_7_code 23 = .ok (.iconst (-1), 1) := by decide +kernel
theorem d_ED_root_24 : decode prog_1_method_7_code 24 = .ok (.ireturn, 1) := by decide +kernel
theorem d_ED_head_0 : decode prog_1_method_8_code 0 = .ok (.aload_n 0, 1) := by decide +kernel
theorem d_ED_head_1 : decode prog_1_method_8_code 1 = .ok (.getfield 44, 3) := by decide +kernel
theorem d_ED_head_4 : decode prog_1_method_8_code 4 = .ok (.iload_n 1, 1) := by decide +kernel
theorem d_ED_head_5 : decode prog_1_method_8_code 5 = .ok (.invokevirtual 136, 3) := by decide +kernel
theorem d_ED_head_8 : decode prog_1_method_8_code 8 = .ok (.ifCond .eq 15, 3) := by decide +kernel
theorem d_ED_head_11 : decode prog_1_method_8_code 11 = .ok (.aload_n 0, 1) := by decide +kernel
theorem d_ED_head_12 : decode prog_1_method_8_code 12 = .ok (.getfield 44, 3) := by decide +kernel
theorem d_ED_head_15 : decode prog_1_method_8_code 15 = .ok (.getfield 142, 3) := by decide +kernel
theorem d_ED_head_18 : decode prog_1_method_8_code 18 = .ok (.iload_n 1, 1) := by decide +kernel
theorem d_ED_head_19 : decode prog_1_method_8_code 19 = .ok (.iaload, 1) := by decide +kernel
theorem d_ED_head_20 : decode prog_1_method_8_code 20 = .ok (.goto 4, 3) := by decide +kernel
theorem d_ED_head_23 : decode prog_1_method_8_code 23 = .ok (.iconst (-1), 1) := by decide +kernel
theorem d_ED_head_24 : decode prog_1_method_8_code 24 = .ok (.ireturn, 1) := by decide +kernel
theorem d_ED_block_0 : decode prog_1_method_9_code 0 = .ok (.aload_n 0, 1) := by decide +kernel
theorem d_ED_block_1 : decode prog_1_method_9_code 1 = .ok (.getfield 30, 3) := by decide +kernel
theorem d_ED_block_4 : decode prog_1_method_9_code 4 = .ok (.iload_n 1, 1) := by decide +kernel
theorem d_ED_block_5 : decode prog_1_method_9_code 5 = .ok (.invokevirtual 145, 3) := by decide +kernel
theorem d_ED_block_8 : decode prog_1_method_9_code 8 = .ok (.ifCond .ne 6, 3) := by decide +kernel
theorem d_ED_block_11 : decode prog_1_method_9_code 11 = .ok (.bipush (-2), 2) := by decide +kernel
theorem d_ED_block_13 : decode prog_1_method_9_code 13 = .ok (.ireturn, 1) := by decide +kernel
theorem d_ED_block_14 : decode prog_1_method_9_code 14 = .ok (.iload_n 2, 1) := by decide +kernel
theorem d_ED_block_15 : decode prog_1_method_9_code 15 = .ok (.tableswitch 55 0 2 #[25, 35, 45], 25) := by decide +kernel
theorem d_ED_block_40 : decode prog_1_method_9_code 40 = .ok (.aload_n 0, 1) := by decide +kernel
theorem d_ED_block_41 : decode prog_1_method_9_code 41 = .ok (.getfield 30, 3) := by decide +kernel
theorem d_ED_block_44 : decode prog_1_method_9_code 44 = .ok (.getfield 148, 3) := by decide +kernel
theorem d_ED_block_47 : decode prog_1_method_9_code 47 = .ok (.iload_n 1, 1) := by decide +kernel
theorem d_ED_block_48 : decode prog_1_method_9_code 48 = .ok (.iaload, 1) := by decide +kernel
theorem d_ED_block_49 : decode prog_1_method_9_code 49 = .ok (.ireturn, 1) := by decide +kernel
theorem d_ED_block_50 : decode prog_1_method_9_code 50 = .ok (.aload_n 0, 1) := by decide +kernel
theorem d_ED_block_51 : decode prog_1_method_9_code 51 = .ok (.getfield 30, 3) := by decide +kernel
theorem d_ED_block_54 : decode prog_1_method_9_code 54 = .ok (.getfield 151, 3) := by decide +kernel
theorem d_ED_block_57 : decode prog_1_method_9_code 57 = .ok (.iload_n 1, 1) := by decide +kernel
theorem d_ED_block_58 : decode prog_1_method_9_code 58 = .ok (.iaload, 1) := by decide +kernel
theorem d_ED_block_59 : decode prog_1_method_9_code 59 = .ok (.ireturn, 1) := by decide +kernel
theorem d_ED_block_60 : decode prog_1_method_9_code 60 = .ok (.aload_n 0, 1) := by decide +kernel
theorem d_ED_block_61 : decode prog_1_method_9_code 61 = .ok (.getfield 30, 3) := by decide +kernel
theorem d_ED_block_64 : decode prog_1_method_9_code 64 = .ok (.getfield 154, 3) := by decide +kernel
theorem d_ED_block_67 : decode prog_1_method_9_code 67 = .ok (.iload_n 1, 1) := by decide +kernel
theorem d_ED_block_68 : decode prog_1_method_9_code 68 = .ok (.iaload, 1) := by decide +kernel
theorem d_ED_block_69 : decode prog_1_method_9_code 69 = .ok (.ireturn, 1) := by decide +kernel
theorem d_ED_block_70 : decode prog_1_method_9_code 70 = .ok (.bipush (-2), 2) := by decide +kernel
theorem d_ED_block_72 : decode prog_1_method_9_code 72 = .ok (.ireturn, 1) := by decide +kernel
theorem d_ED_size_0 : decode prog_1_method_10_code 0 = .ok (.iload_n 1, 1) := by decide +kernel
theorem d_ED_size_1 : decode prog_1_method_10_code 1 = .ok (.tableswitch 98 0 6 #[43, 51, 59, 67, 75, 80, 85], 43) := by decide +kernel
theorem d_ED_size_44 : decode prog_1_method_10_code 44 = .ok (.aload_n 0, 1) := by decide +kernel
theorem d_ED_size_45 : decode prog_1_method_10_code 45 = .ok (.getfield 44, 3) := by decide +kernel
theorem d_ED_size_48 : decode prog_1_method_10_code 48 = .ok (.getfield 110, 3) := by decide +kernel
theorem d_ED_size_51 : decode prog_1_method_10_code 51 = .ok (.ireturn, 1) := by decide +kernel
theorem d_ED_size_52 : decode prog_1_method_10_code 52 = .ok (.aload_n 0, 1) := by decide +kernel
theorem d_ED_size_53 : decode prog_1_method_10_code 53 = .ok (.getfield 30, 3) := by decide +kernel
theorem d_ED_size_56 : decode prog_1_method_10_code 56 = .ok (.getfield 113, 3) := by decide +kernel
theorem d_ED_size_59 : decode prog_1_method_10_code 59 = .ok (.ireturn, 1) := by decide +kernel
theorem d_ED_size_60 : decode prog_1_method_10_code 60 = .ok (.aload_n 0, 1) := by decide +kernel
theorem d_ED_size_61 : decode prog_1_method_10_code 61 = .ok (.getfield 21, 3) := by decide +kernel
theorem d_ED_size_64 : decode prog_1_method_10_code 64 = .ok (.getfield 102, 3) := by decide +kernel
theorem d_ED_size_67 : decode prog_1_method_10_code 67 = .ok (.ireturn, 1) := by decide +kernel
theorem d_ED_size_68 : decode prog_1_method_10_code 68 = .ok (.aload_n 0, 1) := by decide +kernel
theorem d_ED_size_69 : decode prog_1_method_10_code 69 = .ok (.getfield 21, 3) := by decide +kernel
theorem d_ED_size_72 : decode prog_1_method_10_code 72 = .ok (.getfield 157, 3) := by decide +kernel
theorem d_ED_size_75 : decode prog_1_method_10_code 75 = .ok (.ireturn, 1) := by decide +kernel
theorem d_ED_size_76 : decode prog_1_method_10_code 76 = .ok (.aload_n 0, 1) := by decide +kernel
theorem d_ED_size_77 : decode prog_1_method_10_code 77 = .ok (.getfield 160, 3) := by decide +kernel
theorem d_ED_size_80 : decode prog_1_method_10_code 80 = .ok (.ireturn, 1) := by decide +kernel
theorem d_ED_size_81 : decode prog_1_method_10_code 81 = .ok (.aload_n 0, 1) := by decide +kernel
theorem d_ED_size_82 : decode prog_1_method_10_code 82 = .ok (.getfield 163, 3) := by decide +kernel
theorem d_ED_size_85 : decode prog_1_method_10_code 85 = .ok (.ireturn, 1) := by decide +kernel
theorem d_ED_size_86 : decode prog_1_method_10_code 86 = .ok (.aload_n 0, 1) := by decide +kernel
theorem d_ED_size_87 : decode prog_1_method_10_code 87 = .ok (.getfield 87, 3) := by decide +kernel
theorem d_ED_size_90 : decode prog_1_method_10_code 90 = .ok (.ifCond .eq 7, 3) := by decide +kernel
theorem d_ED_size_93 : decode prog_1_method_10_code 93 = .ok (.iconst 1, 1) := by decide +kernel
theorem d_ED_size_94 : decode prog_1_method_10_code 94 = .ok (.goto 4, 3) := by decide +kernel
theorem d_ED_size_97 : decode prog_1_method_10_code 97 = .ok (.iconst 0, 1) := by decide +kernel
theorem d_ED_size_98 : decode prog_1_method_10_code 98 = .ok (.ireturn, 1) := by decide +kernel
theorem d_ED_size_99 : decode prog_1_method_10_code 99 = .ok (.iconst (-1), 1) := by decide +kernel
theorem d_ED_size_100 : decode prog_1_method_10_code 100 = .ok (.ireturn, 1) := by decide +kernel
theorem d_ED_prove_0 : decode prog_1_method_11_code 0 = .ok (.aload_n 0, 1) := by decide +kernel
theorem d_ED_prove_1 : decode prog_1_method_11_code 1 = .ok (.getfield 87, 3) := by decide +kernel
theorem d_ED_prove_4 : decode prog_1_method_11_code 4 = .ok (.ifCond .eq 6, 3) := by decide +kernel
theorem d_ED_prove_7 : decode prog_1_method_11_code 7 = .ok (.bipush (-9), 2) := by decide +kernel
theorem d_ED_prove_9 : decode prog_1_method_11_code 9 = .ok (.ireturn, 1) := by decide +kernel
theorem d_ED_prove_10 : decode prog_1_method_11_code 10 = .ok (.aload_n 0, 1) := by decide +kernel
theorem d_ED_prove_11 : decode prog_1_method_11_code 11 = .ok (.iload_n 1, 1) := by decide +kernel
theorem d_ED_prove_12 : decode prog_1_method_11_code 12 = .ok (.invokevirtual 166, 3) := by decide +kernel
theorem d_ED_prove_15 : decode prog_1_method_11_code 15 = .ok (.astore 5, 2) := by decide +kernel
theorem d_ED_prove_17 : decode prog_1_method_11_code 17 = .ok (.aload 5, 2) := by decide +kernel
theorem d_ED_prove_19 : decode prog_1_method_11_code 19 = .ok (.ifnull 15, 3) := by decide +kernel
theorem d_ED_prove_22 : decode prog_1_method_11_code 22 = .ok (.aload_n 0, 1) := by decide +kernel
theorem d_ED_prove_23 : decode prog_1_method_11_code 23 = .ok (.getfield 44, 3) := by decide +kernel
theorem d_ED_prove_26 : decode prog_1_method_11_code 26 = .ok (.iload 4, 2) := by decide +kernel
theorem d_ED_prove_28 : decode prog_1_method_11_code 28 = .ok (.invokevirtual 136, 3) := by decide +kernel
theorem d_ED_prove_31 : decode prog_1_method_11_code 31 = .ok (.ifCond .ne 5, 3) := by decide +kernel
theorem d_ED_prove_34 : decode prog_1_method_11_code 34 = .ok (.iconst (-1), 1) := by decide +kernel
theorem d_ED_prove_35 : decode prog_1_method_11_code 35 = .ok (.ireturn, 1) := by decide +kernel
theorem d_ED_prove_36 : decode prog_1_method_11_code 36 = .ok (.iload_n 2, 1) := by decide +kernel
theorem d_ED_prove_37 : decode prog_1_method_11_code 37 = .ok (.ifCond .ne 24, 3) := by decide +kernel
theorem d_ED_prove_40 : decode prog_1_method_11_code 40 = .ok (.iload_n 3, 1) := by decide +kernel
theorem d_ED_prove_41 : decode prog_1_method_11_code 41 = .ok (.invokestatic 91, 3) := by decide +kernel
theorem d_ED_prove_44 : decode prog_1_method_11_code 44 = .ok (.ifCond .eq 15, 3) := by decide +kernel
theorem d_ED_prove_47 : decode prog_1_method_11_code 47 = .ok (.aload_n 0, 1) := by decide +kernel
theorem d_ED_prove_48 : decode prog_1_method_11_code 48 = .ok (.aload 5, 2) := by decide +kernel
theorem d_ED_prove_50 : decode prog_1_method_11_code 50 = .ok (.iload_n 3, 1) := by decide +kernel
theorem d_ED_prove_51 : decode prog_1_method_11_code 51 = .ok (.iload 4, 2) := by decide +kernel
theorem d_ED_prove_53 : decode prog_1_method_11_code 53 = .ok (.invokevirtual 170, 3) := by decide +kernel
theorem d_ED_prove_56 : decode prog_1_method_11_code 56 = .ok (.goto 4, 3) := by decide +kernel
theorem d_ED_prove_59 : decode prog_1_method_11_code 59 = .ok (.iconst (-1), 1) := by decide +kernel
theorem d_ED_prove_60 : decode prog_1_method_11_code 60 = .ok (.ireturn, 1) := by decide +kernel
theorem d_ED_prove_61 : decode prog_1_method_11_code 61 = .ok (.iload_n 2, 1) := by decide +kernel
theorem d_ED_prove_62 : decode prog_1_method_11_code 62 = .ok (.iconst 1, 1) := by decide +kernel
theorem d_ED_prove_63 : decode prog_1_method_11_code 63 = .ok (.if_icmp .eq 8, 3) := by decide +kernel
theorem d_ED_prove_66 : decode prog_1_method_11_code 66 = .ok (.iload_n 2, 1) := by decide +kernel
theorem d_ED_prove_67 : decode prog_1_method_11_code 67 = .ok (.iconst 2, 1) := by decide +kernel
theorem d_ED_prove_68 : decode prog_1_method_11_code 68 = .ok (.if_icmp .ne 13, 3) := by decide +kernel
theorem d_ED_prove_71 : decode prog_1_method_11_code 71 = .ok (.iload_n 3, 1) := by decide +kernel
theorem d_ED_prove_72 : decode prog_1_method_11_code 72 = .ok (.ifCond .lt 9, 3) := by decide +kernel
theorem d_ED_prove_75 : decode prog_1_method_11_code 75 = .ok (.iload_n 3, 1) := by decide +kernel
theorem d_ED_prove_76 : decode prog_1_method_11_code 76 = .ok (.iload 4, 2) := by decide +kernel
theorem d_ED_prove_78 : decode prog_1_method_11_code 78 = .ok (.if_icmp .le 5, 3) := by decide +kernel
theorem d_ED_prove_81 : decode prog_1_method_11_code 81 = .ok (.iconst (-1), 1) := by decide +kernel
theorem d_ED_prove_82 : decode prog_1_method_11_code 82 = .ok (.ireturn, 1) := by decide +kernel
theorem d_ED_prove_83 : decode prog_1_method_11_code 83 = .ok (.aload_n 0, 1) := by decide +kernel
theorem d_ED_prove_84 : decode prog_1_method_11_code 84 = .ok (.aload 5, 2) := by decide +kernel
theorem d_ED_prove_86 : decode prog_1_method_11_code 86 = .ok (.iload_n 2, 1) := by decide +kernel
theorem d_ED_prove_87 : decode prog_1_method_11_code 87 = .ok (.iload_n 3, 1) := by decide +kernel
theorem d_ED_prove_88 : decode prog_1_method_11_code 88 = .ok (.iload 4, 2) := by decide +kernel
theorem d_ED_prove_90 : decode prog_1_method_11_code 90 = .ok (.invokevirtual 174, 3) := by decide +kernel
theorem d_ED_prove_93 : decode prog_1_method_11_code 93 = .ok (.ireturn, 1) := by decide +kernel
theorem d_ED_word_0 : decode prog_1_method_12_code 0 = .ok (.aload_n 0, 1) := by decide +kernel
theorem d_ED_word_1 : decode prog_1_method_12_code 1 = .ok (.iload_n 1, 1) := by decide +kernel
theorem d_ED_word_2 : decode prog_1_method_12_code 2 = .ok (.invokevirtual 166, 3) := by decide +kernel
theorem d_ED_word_5 : decode prog_1_method_12_code 5 = .ok (.astore_n 3, 1) := by decide +kernel
theorem d_ED_word_6 : decode prog_1_method_12_code 6 = .ok (.aload_n 3, 1) := by decide +kernel
theorem d_ED_word_7 : decode prog_1_method_12_code 7 = .ok (.ifnonnull 6, 3) := by decide +kernel
theorem d_ED_word_10 : decode prog_1_method_12_code 10 = .ok (.bipush (-2), 2) := by decide +kernel
theorem d_ED_word_12 : decode prog_1_method_12_code 12 = .ok (.ireturn, 1) := by decide +kernel
theorem d_ED_word_13 : decode prog_1_method_12_code 13 = .ok (.iload_n 2, 1) := by decide +kernel
theorem d_ED_word_14 : decode prog_1_method_12_code 14 = .ok (.iconst (-1), 1) := by decide +kernel
theorem d_ED_word_15 : decode prog_1_method_12_code 15 = .ok (.if_icmp .ne 8, 3) := by decide +kernel
theorem d_ED_word_18 : decode prog_1_method_12_code 18 = .ok (.aload_n 3, 1) := by decide +kernel
theorem d_ED_word_19 : decode prog_1_method_12_code 19 = .ok (.getfield 178, 3) := by decide +kernel
theorem d_ED_word_22 : decode prog_1_method_12_code 22 = .ok (.ireturn, 1) := by decide +kernel
theorem d_ED_word_23 : decode prog_1_method_12_code 23 = .ok (.iload_n 2, 1) := by decide +kernel
theorem d_ED_word_24 : decode prog_1_method_12_code 24 = .ok (.ifCond .lt 20, 3) := by decide +kernel
theorem d_ED_word_27 : decode prog_1_method_12_code 27 = .ok (.iload_n 2, 1) := by decide +kernel
theorem d_ED_word_28 : decode prog_1_method_12_code 28 = .ok (.aload_n 3, 1) := by decide +kernel
theorem d_ED_word_29 : decode prog_1_method_12_code 29 = .ok (.getfield 178, 3) := by decide +kernel
theorem d_ED_word_32 : decode prog_1_method_12_code 32 = .ok (.if_icmp .ge 12, 3) := by decide +kernel
theorem d_ED_word_35 : decode prog_1_method_12_code 35 = .ok (.aload_n 3, 1) := by decide +kernel
theorem d_ED_word_36 : decode prog_1_method_12_code 36 = .ok (.getfield 179, 3) := by decide +kernel
theorem d_ED_word_39 : decode prog_1_method_12_code 39 = .ok (.iload_n 2, 1) := by decide +kernel
theorem d_ED_word_40 : decode prog_1_method_12_code 40 = .ok (.iaload, 1) := by decide +kernel
theorem d_ED_word_41 : decode prog_1_method_12_code 41 = .ok (.goto 5, 3) := by decide +kernel
theorem d_ED_word_44 : decode prog_1_method_12_code 44 = .ok (.bipush (-2), 2) := by decide +kernel
theorem d_ED_word_46 : decode prog_1_method_12_code 46 = .ok (.ireturn, 1) := by decide +kernel
theorem d_ED_poke_0 : decode prog_1_method_13_code 0 = .ok (.aload_n 0, 1) := by decide +kernel
theorem d_ED_poke_1 : decode prog_1_method_13_code 1 = .ok (.iload_n 1, 1) := by decide +kernel
theorem d_ED_poke_2 : decode prog_1_method_13_code 2 = .ok (.invokevirtual 166, 3) := by decide +kernel
theorem d_ED_poke_5 : decode prog_1_method_13_code 5 = .ok (.astore 4, 2) := by decide +kernel
theorem d_ED_poke_7 : decode prog_1_method_13_code 7 = .ok (.aload 4, 2) := by decide +kernel
theorem d_ED_poke_9 : decode prog_1_method_13_code 9 = .ok (.ifnull 17, 3) := by decide +kernel
theorem d_ED_poke_12 : decode prog_1_method_13_code 12 = .ok (.aload 4, 2) := by decide +kernel
theorem d_ED_poke_14 : decode prog_1_method_13_code 14 = .ok (.iload_n 2, 1) := by decide +kernel
theorem d_ED_poke_15 : decode prog_1_method_13_code 15 = .ok (.iload_n 3, 1) := by decide +kernel
theorem d_ED_poke_16 : decode prog_1_method_13_code 16 = .ok (.invokevirtual 182, 3) := by decide +kernel
theorem d_ED_poke_19 : decode prog_1_method_13_code 19 = .ok (.ifCond .eq 7, 3) := by decide +kernel
theorem d_ED_poke_22 : decode prog_1_method_13_code 22 = .ok (.iconst 1, 1) := by decide +kernel
theorem d_ED_poke_23 : decode prog_1_method_13_code 23 = .ok (.goto 4, 3) := by decide +kernel
theorem d_ED_poke_26 : decode prog_1_method_13_code 26 = .ok (.iconst 0, 1) := by decide +kernel
theorem d_ED_poke_27 : decode prog_1_method_13_code 27 = .ok (.ireturn, 1) := by decide +kernel
theorem d_ED_trim_0 : decode prog_1_method_14_code 0 = .ok (.aload_n 0, 1) := by decide +kernel
theorem d_ED_trim_1 : decode prog_1_method_14_code 1 = .ok (.iload_n 1, 1) := by decide +kernel
theorem d_ED_trim_2 : decode prog_1_method_14_code 2 = .ok (.invokevirtual 166, 3) := by decide +kernel
theorem d_ED_trim_5 : decode prog_1_method_14_code 5 = .ok (.astore_n 3, 1) := by decide +kernel
theorem d_ED_trim_6 : decode prog_1_method_14_code 6 = .ok (.aload_n 3, 1) := by decide +kernel
theorem d_ED_trim_7 : decode prog_1_method_14_code 7 = .ok (.ifnull 15, 3) := by decide +kernel
theorem d_ED_trim_10 : decode prog_1_method_14_code 10 = .ok (.iload_n 2, 1) := by decide +kernel
theorem d_ED_trim_11 : decode prog_1_method_14_code 11 = .ok (.ifCond .lt 11, 3) := by decide +kernel
theorem d_ED_trim_14 : decode prog_1_method_14_code 14 = .ok (.iload_n 2, 1) := by decide +kernel
theorem d_ED_trim_15 : decode prog_1_method_14_code 15 = .ok (.aload_n 3, 1) := by decide +kernel
theorem d_ED_trim_16 : decode prog_1_method_14_code 16 = .ok (.getfield 178, 3) := by decide +kernel
theorem d_ED_trim_19 : decode prog_1_method_14_code 19 = .ok (.if_icmp .le 5, 3) := by decide +kernel
theorem d_ED_trim_22 : decode prog_1_method_14_code 22 = .ok (.iconst 0, 1) := by decide +kernel
theorem d_ED_trim_23 : decode prog_1_method_14_code 23 = .ok (.ireturn, 1) := by decide +kernel
theorem d_ED_trim_24 : decode prog_1_method_14_code 24 = .ok (.aload_n 3, 1) := by decide +kernel
theorem d_ED_trim_25 : decode prog_1_method_14_code 25 = .ok (.iload_n 2, 1) := by decide +kernel
theorem d_ED_trim_26 : decode prog_1_method_14_code 26 = .ok (.putfield 178, 3) := by decide +kernel
theorem d_ED_trim_29 : decode prog_1_method_14_code 29 = .ok (.iconst 1, 1) := by decide +kernel
theorem d_ED_trim_30 : decode prog_1_method_14_code 30 = .ok (.ireturn, 1) := by decide +kernel
theorem d_ED_check_0 : decode prog_1_method_15_code 0 = .ok (.aload_n 0, 1) := by decide +kernel
theorem d_ED_check_1 : decode prog_1_method_15_code 1 = .ok (.iload_n 1, 1) := by decide +kernel
theorem d_ED_check_2 : decode prog_1_method_15_code 2 = .ok (.invokevirtual 166, 3) := by decide +kernel
theorem d_ED_check_5 : decode prog_1_method_15_code 5 = .ok (.astore 4, 2) := by decide +kernel
theorem d_ED_check_7 : decode prog_1_method_15_code 7 = .ok (.aload 4, 2) := by decide +kernel
theorem d_ED_check_9 : decode prog_1_method_15_code 9 = .ok (.ifnull 24, 3) := by decide +kernel
theorem d_ED_check_12 : decode prog_1_method_15_code 12 = .ok (.iload_n 2, 1) := by decide +kernel
theorem d_ED_check_13 : decode prog_1_method_15_code 13 = .ok (.invokestatic 91, 3) := by decide +kernel
theorem d_ED_check_16 : decode prog_1_method_15_code 16 = .ok (.ifCond .eq 17, 3) := by decide +kernel
theorem d_ED_check_19 : decode prog_1_method_15_code 19 = .ok (.aload_n 0, 1) := by decide +kernel
theorem d_ED_check_20 : decode prog_1_method_15_code 20 = .ok (.getfield 65, 3) := by decide +kernel
theorem d_ED_check_23 : decode prog_1_method_15_code 23 = .ok (.aload 4, 2) := by decide +kernel
theorem d_ED_check_25 : decode prog_1_method_15_code 25 = .ok (.iload_n 2, 1) := by decide +kernel
theorem d_ED_check_26 : decode prog_1_method_15_code 26 = .ok (.iload_n 3, 1) := by decide +kernel
theorem d_ED_check_27 : decode prog_1_method_15_code 27 = .ok (.invokevirtual 186, 3) := by decide +kernel
theorem d_ED_check_30 : decode prog_1_method_15_code 30 = .ok (.ifCond .ne 5, 3) := by decide +kernel
theorem d_ED_check_33 : decode prog_1_method_15_code 33 = .ok (.iconst (-1), 1) := by decide +kernel
theorem d_ED_check_34 : decode prog_1_method_15_code 34 = .ok (.ireturn, 1) := by decide +kernel
theorem d_ED_check_35 : decode prog_1_method_15_code 35 = .ok (.aload_n 0, 1) := by decide +kernel
theorem d_ED_check_36 : decode prog_1_method_15_code 36 = .ok (.getfield 65, 3) := by decide +kernel
theorem d_ED_check_39 : decode prog_1_method_15_code 39 = .ok (.getfield 190, 3) := by decide +kernel
theorem d_ED_check_42 : decode prog_1_method_15_code 42 = .ok (.ireturn, 1) := by decide +kernel
theorem d_ED_included_0 : decode prog_1_method_16_code 0 = .ok (.aload_n 0, 1) := by decide +kernel
theorem d_ED_included_1 : decode prog_1_method_16_code 1 = .ok (.iload_n 1, 1) := by decide +kernel
theorem d_ED_included_2 : decode prog_1_method_16_code 2 = .ok (.invokevirtual 166, 3) := by decide +kernel
theorem d_ED_included_5 : decode prog_1_method_16_code 5 = .ok (.astore 6, 2) := by decide +kernel
theorem d_ED_included_7 : decode prog_1_method_16_code 7 = .ok (.aload 6, 2) := by decide +kernel
theorem d_ED_included_9 : decode prog_1_method_16_code 9 = .ok (.ifnull 25, 3) := by decide +kernel
theorem d_ED_included_12 : decode prog_1_method_16_code 12 = .ok (.aload_n 0, 1) := by decide +kernel
theorem d_ED_included_13 : decode prog_1_method_16_code 13 = .ok (.getfield 75, 3) := by decide +kernel
theorem d_ED_included_16 : decode prog_1_method_16_code 16 = .ok (.aload 6, 2) := by decide +kernel
theorem d_ED_included_18 : decode prog_1_method_16_code 18 = .ok (.iload_n 2, 1) := by decide +kernel
theorem d_ED_included_19 : decode prog_1_method_16_code 19 = .ok (.iload_n 3, 1) := by decide +kernel
theorem d_ED_included_20 : decode prog_1_method_16_code 20 = .ok (.iload 4, 2) := by decide +kernel
theorem d_ED_included_22 : decode prog_1_method_16_code 22 = .ok (.iload 5, 2) := by decide +kernel
theorem d_ED_included_24 : decode prog_1_method_16_code 24 = .ok (.invokevirtual 193, 3) := by decide +kernel
theorem d_ED_included_27 : decode prog_1_method_16_code 27 = .ok (.ifCond .eq 7, 3) := by decide +kernel
theorem d_ED_included_30 : decode prog_1_method_16_code 30 = .ok (.iconst 1, 1) := by decide +kernel
theorem d_ED_included_31 : decode prog_1_method_16_code 31 = .ok (.goto 4, 3) := by decide +kernel
theorem d_ED_included_34 : decode prog_1_method_16_code 34 = .ok (.iconst 0, 1) := by decide +kernel
theorem d_ED_included_35 : decode prog_1_method_16_code 35 = .ok (.ireturn, 1) := by decide +kernel
theorem d_ED_consistent_0 : decode prog_1_method_17_code 0 = .ok (.aload_n 0, 1) := by decide +kernel
theorem d_ED_consistent_1 : decode prog_1_method_17_code 1 = .ok (.iload_n 1, 1) := by decide +kernel
theorem d_ED_consistent_2 : decode prog_1_method_17_code 2 = .ok (.invokevirtual 166, 3) := by decide +kernel
theorem d_ED_consistent_5 : decode prog_1_method_17_code 5 = .ok (.astore 6, 2) := by decide +kernel
theorem d_ED_consistent_7 : decode prog_1_method_17_code 7 = .ok (.aload 6, 2) := by decide +kernel
theorem d_ED_consistent_9 : decode prog_1_method_17_code 9 = .ok (.ifnull 25, 3) := by decide +kernel
theorem d_ED_consistent_12 : decode prog_1_method_17_code 12 = .ok (.aload_n 0, 1) := by decide +kernel
theorem d_ED_consistent_13 : decode prog_1_method_17_code 13 = .ok (.getfield 75, 3) := by decide +kernel
theorem d_ED_consistent_16 : decode prog_1_method_17_code 16 = .ok (.aload 6, 2) := by decide +kernel
theorem d_ED_consistent_18 : decode prog_1_method_17_code 18 = .ok (.iload_n 2, 1) := by decide +kernel
theorem d_ED_consistent_19 : decode prog_1_method_17_code 19 = .ok (.iload_n 3, 1) := by decide +kernel
theorem d_ED_consistent_20 : decode prog_1_method_17_code 20 = .ok (.iload 4, 2) := by decide +kernel
theorem d_ED_consistent_22 : decode prog_1_method_17_code 22 = .ok (.iload 5, 2) := by decide +kernel
theorem d_ED_consistent_24 : decode prog_1_method_17_code 24 = .ok (.invokevirtual 197, 3) := by decide +kernel
theorem d_ED_consistent_27 : decode prog_1_method_17_code 27 = .ok (.ifCond .eq 7, 3) := by decide +kernel
theorem d_ED_consistent_30 : decode prog_1_method_17_code 30 = .ok (.iconst 1, 1) := by decide +kernel
theorem d_ED_consistent_31 : decode prog_1_method_17_code 31 = .ok (.goto 4, 3) := by decide +kernel
theorem d_ED_consistent_34 : decode prog_1_method_17_code 34 = .ok (.iconst 0, 1) := by decide +kernel
theorem d_ED_consistent_35 : decode prog_1_method_17_code 35 = .ok (.ireturn, 1) := by decide +kernel
theorem d_ED_follow_0 : decode prog_1_method_18_code 0 = .ok (.aload_n 0, 1) := by decide +kernel
theorem d_ED_follow_1 : decode prog_1_method_18_code 1 = .ok (.getfield 200, 3) := by decide +kernel
theorem d_ED_follow_4 : decode prog_1_method_18_code 4 = .ok (.ifCond .eq 21, 3) := by decide +kernel
theorem d_ED_follow_7 : decode prog_1_method_18_code 7 = .ok (.aload_n 0, 1) := by decide +kernel
theorem d_ED_follow_8 : decode prog_1_method_18_code 8 = .ok (.iload_n 1, 1) := by decide +kernel
theorem d_ED_follow_9 : decode prog_1_method_18_code 9 = .ok (.aload_n 0, 1) := by decide +kernel
theorem d_ED_follow_10 : decode prog_1_method_18_code 10 = .ok (.getfield 203, 3) := by decide +kernel
theorem d_ED_follow_13 : decode prog_1_method_18_code 13 = .ok (.iload_n 2, 1) := by decide +kernel
theorem d_ED_follow_14 : decode prog_1_method_18_code 14 = .ok (.aload_n 0, 1) := by decide +kernel
theorem d_ED_follow_15 : decode prog_1_method_18_code 15 = .ok (.getfield 206, 3) := by decide +kernel
theorem d_ED_follow_18 : decode prog_1_method_18_code 18 = .ok (.iload_n 3, 1) := by decide +kernel
theorem d_ED_follow_19 : decode prog_1_method_18_code 19 = .ok (.invokevirtual 209, 3) := by decide +kernel
theorem d_ED_follow_22 : decode prog_1_method_18_code 22 = .ok (.goto 18, 3) := by decide +kernel
theorem d_ED_follow_25 : decode prog_1_method_18_code 25 = .ok (.iload_n 2, 1) := by decide +kernel
theorem d_ED_follow_26 : decode prog_1_method_18_code 26 = .ok (.ifCond .lt 13, 3) := by decide +kernel
theorem d_ED_follow_29 : decode prog_1_method_18_code 29 = .ok (.iload_n 2, 1) := by decide +kernel
theorem d_ED_follow_30 : decode prog_1_method_18_code 30 = .ok (.bipush 40, 2) := by decide +kernel
theorem d_ED_follow_32 : decode prog_1_method_18_code 32 = .ok (.if_icmp .ge 7, 3) := by decide +kernel
theorem d_ED_follow_35 : decode prog_1_method_18_code 35 = .ok (.iconst 1, 1) := by decide +kernel
theorem d_ED_follow_36 : decode prog_1_method_18_code 36 = .ok (.goto 4, 3) := by decide +kernel
theorem d_ED_follow_39 : decode prog_1_method_18_code 39 = .ok (.iconst 0, 1) := by decide +kernel
theorem d_ED_follow_40 : decode prog_1_method_18_code 40 = .ok (.istore 4, 2) := by decide +kernel
theorem d_ED_follow_42 : decode prog_1_method_18_code 42 = .ok (.iload 4, 2) := by decide +kernel
theorem d_ED_follow_44 : decode prog_1_method_18_code 44 = .ok (.ifCond .eq 18, 3) := by decide +kernel
theorem d_ED_follow_47 : decode prog_1_method_18_code 47 = .ok (.aload_n 0, 1) := by decide +kernel
theorem d_ED_follow_48 : decode prog_1_method_18_code 48 = .ok (.iconst 1, 1) := by decide +kernel
theorem d_ED_follow_49 : decode prog_1_method_18_code 49 = .ok (.putfield 200, 3) := by decide +kernel
theorem d_ED_follow_52 : decode prog_1_method_18_code 52 = .ok (.aload_n 0, 1) := by decide +kernel
theorem d_ED_follow_53 : decode prog_1_method_18_code 53 = .ok (.iload_n 2, 1) := by decide +kernel
theorem d_ED_follow_54 : decode prog_1_method_18_code 54 = .ok (.putfield 203, 3) := by decide +kernel
theorem d_ED_follow_57 : decode prog_1_method_18_code 57 = .ok (.aload_n 0, 1) := by decide +kernel
theorem d_ED_follow_58 : decode prog_1_method_18_code 58 = .ok (.iload_n 3, 1) := by decide +kernel
theorem d_ED_follow_59 : decode prog_1_method_18_code 59 = .ok (.putfield 206, 3) := by decide +kernel
theorem d_ED_follow_62 : decode prog_1_method_18_code 62 = .ok (.iload 4, 2) := by decide +kernel
theorem d_ED_follow_64 : decode prog_1_method_18_code 64 = .ok (.ireturn, 1) := by decide +kernel
theorem d_ED_seen_0 : decode prog_1_method_19_code 0 = .ok (.aload_n 0, 1) := by decide +kernel
theorem d_ED_seen_1 : decode prog_1_method_19_code 1 = .ok (.getfield 200, 3) := by decide +kernel
theorem d_ED_seen_4 : decode prog_1_method_19_code 4 = .ok (.ifCond .ne 5, 3) := by decide +kernel
theorem d_ED_seen_7 : decode prog_1_method_19_code 7 = .ok (.iconst (-1), 1) := by decide +kernel
theorem d_ED_seen_8 : decode prog_1_method_19_code 8 = .ok (.ireturn, 1) := by decide +kernel
theorem d_ED_seen_9 : decode prog_1_method_19_code 9 = .ok (.iload_n 1, 1) := by decide +kernel
theorem d_ED_seen_10 : decode prog_1_method_19_code 10 = .ok (.lookupswitch 36 #[(0, 26), (1, 31)], 26) := by decide +kernel
theorem d_ED_seen_36 : decode prog_1_method_19_code 36 = .ok (.aload_n 0, 1) := by decide +kernel
theorem d_ED_seen_37 : decode prog_1_method_19_code 37 = .ok (.getfield 203, 3) := by decide +kernel
theorem d_ED_seen_40 : decode prog_1_method_19_code 40 = .ok (.ireturn, 1) := by decide +kernel
theorem d_ED_seen_41 : decode prog_1_method_19_code 41 = .ok (.aload_n 0, 1) := by decide +kernel
theorem d_ED_seen_42 : decode prog_1_method_19_code 42 = .ok (.getfield 206, 3) := by decide +kernel
theorem d_ED_seen_45 : decode prog_1_method_19_code 45 = .ok (.ireturn, 1) := by decide +kernel
theorem d_ED_seen_46 : decode prog_1_method_19_code 46 = .ok (.iconst (-1), 1) := by decide +kernel
theorem d_ED_seen_47 : decode prog_1_method_19_code 47 = .ok (.ireturn, 1) := by decide +kernel
theorem d_ED_extract_0 : decode prog_1_method_20_code 0 = .ok (.aload_n 0, 1) := by decide +kernel
theorem d_ED_extract_1 : decode prog_1_method_20_code 1 = .ok (.iload_n 1, 1) := by decide +kernel
theorem d_ED_extract_2 : decode prog_1_method_20_code 2 = .ok (.invokevirtual 166, 3) := by decide +kernel
theorem d_ED_extract_5 : decode prog_1_method_20_code 5 = .ok (.astore 5, 2) := by decide +kernel
theorem d_ED_extract_7 : decode prog_1_method_20_code 7 = .ok (.aload_n 0, 1) := by decide +kernel
theorem d_ED_extract_8 : decode prog_1_method_20_code 8 = .ok (.iload_n 2, 1) := by decide +kernel
theorem d_ED_extract_9 : decode prog_1_method_20_code 9 = .ok (.invokevirtual 166, 3) := by decide +kernel
theorem d_ED_extract_12 : decode prog_1_method_20_code 12 = .ok (.astore 6, 2) := by decide +kernel
theorem d_ED_extract_14 : decode prog_1_method_20_code 14 = .ok (.aload 5, 2) := by decide +kernel
theorem d_ED_extract_16 : decode prog_1_method_20_code 16 = .ok (.ifnull 15, 3) := by decide +kernel
theorem d_ED_extract_19 : decode prog_1_method_20_code 19 = .ok (.aload 6, 2) := by decide +kernel
theorem d_ED_extract_21 : decode prog_1_method_20_code 21 = .ok (.ifnull 10, 3) := by decide +kernel
theorem d_ED_extract_24 : decode prog_1_method_20_code 24 = .ok (.iload_n 3, 1) := by decide +kernel
theorem d_ED_extract_25 : decode prog_1_method_20_code 25 = .ok (.invokestatic 91, 3) := by decide +kernel
theorem d_ED_extract_28 : decode prog_1_method_20_code 28 = .ok (.ifCond .ne 5, 3) := by decide +kernel
theorem d_ED_extract_31 : decode prog_1_method_20_code 31 = .ok (.iconst 0, 1) := by decide +kernel
theorem d_ED_extract_32 : decode prog_1_method_20_code 32 = .ok (.ireturn, 1) := by decide +kernel
theorem d_ED_extract_33 : decode prog_1_method_20_code 33 = .ok (.aload_n 0, 1) := by decide +kernel
theorem d_ED_extract_34 : decode prog_1_method_20_code 34 = .ok (.getfield 65, 3) := by decide +kernel
theorem d_ED_extract_37 : decode prog_1_method_20_code 37 = .ok (.aload 5, 2) := by decide +kernel
theorem d_ED_extract_39 : decode prog_1_method_20_code 39 = .ok (.iload_n 3, 1) := by decide +kernel
theorem d_ED_extract_40 : decode prog_1_method_20_code 40 = .ok (.iload 4, 2) := by decide +kernel
theorem d_ED_extract_42 : decode prog_1_method_20_code 42 = .ok (.invokevirtual 186, 3) := by decide +kernel
theorem d_ED_extract_45 : decode prog_1_method_20_code 45 = .ok (.ifCond .eq 46, 3) := by decide +kernel
theorem d_ED_extract_48 : decode prog_1_method_20_code 48 = .ok (.aload_n 0, 1) := by decide +kernel
theorem d_ED_extract_49 : decode prog_1_method_20_code 49 = .ok (.getfield 69, 3) := by decide +kernel
theorem d_ED_extract_52 : decode prog_1_method_20_code 52 = .ok (.aload 6, 2) := by decide +kernel
theorem d_ED_extract_54 : decode prog_1_method_20_code 54 = .ok (.iload_n 3, 1) := by decide +kernel
theorem d_ED_extract_55 : decode prog_1_method_20_code 55 = .ok (.iload 4, 2) := by decide +kernel
theorem d_ED_extract_57 : decode prog_1_method_20_code 57 = .ok (.invokevirtual 186, 3) := by decide +kernel
theorem d_ED_extract_60 : decode prog_1_method_20_code 60 = .ok (.ifCond .eq 31, 3) := by decide +kernel
theorem d_ED_extract_63 : decode prog_1_method_20_code 63 = .ok (.aload_n 0, 1) := by decide +kernel
theorem d_ED_extract_64 : decode prog_1_method_20_code 64 = .ok (.getfield 65, 3) := by decide +kernel
theorem d_ED_extract_67 : decode prog_1_method_20_code 67 = .ok (.getfield 190, 3) := by decide +kernel
theorem d_ED_extract_70 : decode prog_1_method_20_code 70 = .ok (.aload_n 0, 1) := by decide +kernel
theorem d_ED_extract_71 : decode prog_1_method_20_code 71 = .ok (.getfield 69, 3) := by decide +kernel
theorem d_ED_extract_74 : decode prog_1_method_20_code 74 = .ok (.getfield 190, 3) := by decide +kernel
theorem d_ED_extract_77 : decode prog_1_method_20_code 77 = .ok (.if_icmp .eq 14, 3) := by decide +kernel
theorem d_ED_extract_80 : decode prog_1_method_20_code 80 = .ok (.aload_n 0, 1) := by decide +kernel
theorem d_ED_extract_81 : decode prog_1_method_20_code 81 = .ok (.invokevirtual 213, 3) := by decide +kernel
theorem d_ED_extract_84 : decode prog_1_method_20_code 84 = .ok (.ifCond .eq 7, 3) := by decide +kernel
theorem d_ED_extract_87 : decode prog_1_method_20_code 87 = .ok (.iconst 1, 1) := by decide +kernel
theorem d_ED_extract_88 : decode prog_1_method_20_code 88 = .ok (.goto 4, 3) := by decide +kernel
theorem d_ED_extract_91 : decode prog_1_method_20_code 91 = .ok (.iconst 0, 1) := by decide +kernel
theorem d_ED_extract_92 : decode prog_1_method_20_code 92 = .ok (.ireturn, 1) := by decide +kernel
theorem d_ED_clash_0 : decode prog_1_method_21_code 0 = .ok (.iload_n 1, 1) := by decide +kernel
theorem d_ED_clash_1 : decode prog_1_method_21_code 1 = .ok (.ifCond .lt 21, 3) := by decide +kernel
theorem d_ED_clash_4 : decode prog_1_method_21_code 4 = .ok (.iload_n 1, 1) := by decide +kernel
theorem d_ED_clash_5 : decode prog_1_method_21_code 5 = .ok (.aload_n 0, 1) := by decide +kernel
theorem d_ED_clash_6 : decode prog_1_method_21_code 6 = .ok (.getfield 79, 3) := by decide +kernel
theorem d_ED_clash_9 : decode prog_1_method_21_code 9 = .ok (.arraylength, 1) := by decide +kernel
theorem d_ED_clash_10 : decode prog_1_method_21_code 10 = .ok (.if_icmp .ge 12, 3) := by decide +kernel
theorem d_ED_clash_13 : decode prog_1_method_21_code 13 = .ok (.aload_n 0, 1) := by decide +kernel
theorem d_ED_clash_14 : decode prog_1_method_21_code 14 = .ok (.getfield 79, 3) := by decide +kernel
theorem d_ED_clash_17 : decode prog_1_method_21_code 17 = .ok (.iload_n 1, 1) := by decide +kernel
theorem d_ED_clash_18 : decode prog_1_method_21_code 18 = .ok (.iaload, 1) := by decide +kernel
theorem d_ED_clash_19 : decode prog_1_method_21_code 19 = .ok (.goto 4, 3) := by decide +kernel
theorem d_ED_clash_22 : decode prog_1_method_21_code 22 = .ok (.iconst 0, 1) := by decide +kernel
theorem d_ED_clash_23 : decode prog_1_method_21_code 23 = .ok (.ireturn, 1) := by decide +kernel
theorem d_ED_isName_0 : decode prog_1_method_22_code 0 = .ok (.iload_n 0, 1) := by decide +kernel
theorem d_ED_isName_1 : decode prog_1_method_22_code 1 = .ok (.ifCond .lt 13, 3) := by decide +kernel
theorem d_ED_isName_4 : decode prog_1_method_22_code 4 = .ok (.iload_n 0, 1) := by decide +kernel
theorem d_ED_isName_5 : decode prog_1_method_22_code 5 = .ok (.bipush 64, 2) := by decide +kernel
theorem d_ED_isName_7 : decode prog_1_method_22_code 7 = .ok (.if_icmp .ge 7, 3) := by decide +kernel
theorem d_ED_isName_10 : decode prog_1_method_22_code 10 = .ok (.iconst 1, 1) := by decide +kernel
theorem d_ED_isName_11 : decode prog_1_method_22_code 11 = .ok (.goto 4, 3) := by decide +kernel
theorem d_ED_isName_14 : decode prog_1_method_22_code 14 = .ok (.iconst 0, 1) := by decide +kernel
theorem d_ED_isName_15 : decode prog_1_method_22_code 15 = .ok (.ireturn, 1) := by decide +kernel
theorem d_ED_isKey_0 : decode prog_1_method_23_code 0 = .ok (.iload_n 0, 1) := by decide +kernel
theorem d_ED_isKey_1 : decode prog_1_method_23_code 1 = .ok (.iconst 1, 1) := by decide +kernel
theorem d_ED_isKey_2 : decode prog_1_method_23_code 2 = .ok (.if_icmp .lt 13, 3) := by decide +kernel
theorem d_ED_isKey_5 : decode prog_1_method_23_code 5 = .ok (.iload_n 0, 1) := by decide +kernel
theorem d_ED_isKey_6 : decode prog_1_method_23_code 6 = .ok (.ldc 217, 2) := by decide +kernel
theorem d_ED_isKey_8 : decode prog_1_method_23_code 8 = .ok (.if_icmp .gt 7, 3) := by decide +kernel
theorem d_ED_isKey_11 : decode prog_1_method_23_code 11 = .ok (.iconst 1, 1) := by decide +kernel
theorem d_ED_isKey_12 : decode prog_1_method_23_code 12 = .ok (.goto 4, 3) := by decide +kernel
theorem d_ED_isKey_15 : decode prog_1_method_23_code 15 = .ok (.iconst 0, 1) := by decide +kernel
theorem d_ED_isKey_16 : decode prog_1_method_23_code 16 = .ok (.ireturn, 1) := by decide +kernel
theorem d_ED_indexOf_0 : decode prog_1_method_24_code 0 = .ok (.bipush 37, 2) := by decide +kernel
theorem d_ED_indexOf_2 : decode prog_1_method_24_code 2 = .ok (.iload_n 0, 1) := by decide +kernel
theorem d_ED_indexOf_3 : decode prog_1_method_24_code 3 = .ok (.imul, 1) := by decide +kernel
theorem d_ED_indexOf_4 : decode prog_1_method_24_code 4 = .ok (.bipush 11, 2) := by decide +kernel
theorem d_ED_indexOf_6 : decode prog_1_method_24_code 6 = .ok (.iadd, 1) := by decide +kernel
theorem d_ED_indexOf_7 : decode prog_1_method_24_code 7 = .ok (.bipush 64, 2) := by decide +kernel
theorem d_ED_indexOf_9 : decode prog_1_method_24_code 9 = .ok (.irem, 1) := by decide +kernel
theorem d_ED_indexOf_10 : decode prog_1_method_24_code 10 = .ok (.ireturn, 1) := by decide +kernel
theorem d_ED_bitOf_0 : decode prog_1_method_25_code 0 = .ok (.iload_n 0, 1) := by decide +kernel
theorem d_ED_bitOf_1 : decode prog_1_method_25_code 1 = .ok (.iconst 5, 1) := by decide +kernel
theorem d_ED_bitOf_2 : decode prog_1_method_25_code 2 = .ok (.iload_n 1, 1) := by decide +kernel
theorem d_ED_bitOf_3 : decode prog_1_method_25_code 3 = .ok (.isub, 1) := by decide +kernel
theorem d_ED_bitOf_4 : decode prog_1_method_25_code 4 = .ok (.ishr, 1) := by decide +kernel
theorem d_ED_bitOf_5 : decode prog_1_method_25_code 5 = .ok (.iconst 1, 1) := by decide +kernel
theorem d_ED_bitOf_6 : decode prog_1_method_25_code 6 = .ok (.iand, 1) := by decide +kernel
theorem d_ED_bitOf_7 : decode prog_1_method_25_code 7 = .ok (.ireturn, 1) := by decide +kernel
theorem d_ED_bufferAt_0 : decode prog_1_method_26_code 0 = .ok (.iload_n 1, 1) := by decide +kernel
theorem d_ED_bufferAt_1 : decode prog_1_method_26_code 1 = .ok (.ifCond .lt 17, 3) := by decide +kernel
theorem d_ED_bufferAt_4 : decode prog_1_method_26_code 4 = .ok (.iload_n 1, 1) := by decide +kernel
theorem d_ED_bufferAt_5 : decode prog_1_method_26_code 5 = .ok (.iconst 4, 1) := by decide +kernel
theorem d_ED_bufferAt_6 : decode prog_1_method_26_code 6 = .ok (.if_icmp .ge 12, 3) := by decide +kernel
theorem d_ED_bufferAt_9 : decode prog_1_method_26_code 9 = .ok (.aload_n 0, 1) := by decide +kernel
theorem d_ED_bufferAt_10 : decode prog_1_method_26_code 10 = .ok (.getfield 57, 3) := by decide +kernel
theorem d_ED_bufferAt_13 : decode prog_1_method_26_code 13 = .ok (.iload_n 1, 1) := by decide +kernel
theorem d_ED_bufferAt_14 : decode prog_1_method_26_code 14 = .ok (.aaload, 1) := by decide +kernel
theorem d_ED_bufferAt_15 : decode prog_1_method_26_code 15 = .ok (.goto 4, 3) := by decide +kernel
theorem d_ED_bufferAt_18 : decode prog_1_method_26_code 18 = .ok (.aconst_null, 1) := by decide +kernel
theorem d_ED_bufferAt_19 : decode prog_1_method_26_code 19 = .ok (.areturn, 1) := by decide +kernel
theorem d_ED_writeNode_0 : decode prog_1_method_27_code 0 = .ok (.aload_n 0, 1) := by decide +kernel
theorem d_ED_writeNode_1 : decode prog_1_method_27_code 1 = .ok (.getfield 37, 3) := by decide +kernel
theorem d_ED_writeNode_4 : decode prog_1_method_27_code 4 = .ok (.iload_n 1, 1) := by decide +kernel
theorem d_ED_writeNode_5 : decode prog_1_method_27_code 5 = .ok (.invokevirtual 218, 3) := by decide +kernel
theorem d_ED_writeNode_8 : decode prog_1_method_27_code 8 = .ok (.ifCond .eq 38, 3) := by decide +kernel
theorem d_ED_writeNode_11 : decode prog_1_method_27_code 11 = .ok (.aload_n 0, 1) := by decide +kernel
theorem d_ED_writeNode_12 : decode prog_1_method_27_code 12 = .ok (.getfield 30, 3) := by decide +kernel
theorem d_ED_writeNode_15 : decode prog_1_method_27_code 15 = .ok (.iload_n 1, 1) := by decide +kernel
theorem d_ED_writeNode_16 : decode prog_1_method_27_code 16 = .ok (.aload_n 0, 1) := by decide +kernel
theorem d_ED_writeNode_17 : decode prog_1_method_27_code 17 = .ok (.getfield 37, 3) := by decide +kernel
theorem d_ED_writeNode_20 : decode prog_1_method_27_code 20 = .ok (.getfield 221, 3) := by decide +kernel
theorem d_ED_writeNode_23 : decode prog_1_method_27_code 23 = .ok (.iconst 2, 1) := by decide +kernel
theorem d_ED_writeNode_24 : decode prog_1_method_27_code 24 = .ok (.iload_n 1, 1) := by decide +kernel
theorem d_ED_writeNode_25 : decode prog_1_method_27_code 25 = .ok (.imul, 1) := by decide +kernel
theorem d_ED_writeNode_26 : decode prog_1_method_27_code 26 = .ok (.iaload, 1) := by decide +kernel
theorem d_ED_writeNode_27 : decode prog_1_method_27_code 27 = .ok (.aload_n 0, 1) := by decide +kernel
theorem d_ED_writeNode_28 : decode prog_1_method_27_code 28 = .ok (.getfield 37, 3) := by decide +kernel
theorem d_ED_writeNode_31 : decode prog_1_method_27_code 31 = .ok (.getfield 221, 3) := by decide +kernel
theorem d_ED_writeNode_34 : decode prog_1_method_27_code 34 = .ok (.iconst 2, 1) := by decide +kernel
theorem d_ED_writeNode_35 : decode prog_1_method_27_code 35 = .ok (.iload_n 1, 1) := by decide +kernel
theorem d_ED_writeNode_36 : decode prog_1_method_27_code 36 = .ok (.imul, 1) := by decide +kernel
theorem d_ED_writeNode_37 : decode prog_1_method_27_code 37 = .ok (.iconst 1, 1) := by decide +kernel
theorem d_ED_writeNode_38 : decode prog_1_method_27_code 38 = .ok (.iadd, 1) := by decide +kernel
theorem d_ED_writeNode_39 : decode prog_1_method_27_code 39 = .ok (.iaload, 1) := by decide +kernel
theorem d_ED_writeNode_40 : decode prog_1_method_27_code 40 = .ok (.invokevirtual 224, 3) := by decide +kernel
theorem d_ED_writeNode_43 : decode prog_1_method_27_code 43 = .ok (.goto 29, 3) := by decide +kernel
theorem d_ED_writeNode_46 : decode prog_1_method_27_code 46 = .ok (.aload_n 0, 1) := by decide +kernel
theorem d_ED_writeNode_47 : decode prog_1_method_27_code 47 = .ok (.getfield 37, 3) := by decide +kernel
theorem d_ED_writeNode_50 : decode prog_1_method_27_code 50 = .ok (.getfield 228, 3) := by decide +kernel
theorem d_ED_writeNode_53 : decode prog_1_method_27_code 53 = .ok (.iload_n 1, 1) := by decide +kernel
theorem d_ED_writeNode_54 : decode prog_1_method_27_code 54 = .ok (.iaload, 1) := by decide +kernel
theorem d_ED_writeNode_55 : decode prog_1_method_27_code 55 = .ok (.istore_n 2, 1) := by decide +kernel
theorem d_ED_writeNode_56 : decode prog_1_method_27_code 56 = .ok (.aload_n 0, 1) := by decide +kernel
theorem d_ED_writeNode_57 : decode prog_1_method_27_code 57 = .ok (.getfield 30, 3) := by decide +kernel
theorem d_ED_writeNode_60 : decode prog_1_method_27_code 60 = .ok (.iload_n 2, 1) := by decide +kernel
theorem d_ED_writeNode_61 : decode prog_1_method_27_code 61 = .ok (.aload_n 0, 1) := by decide +kernel
theorem d_ED_writeNode_62 : decode prog_1_method_27_code 62 = .ok (.getfield 21, 3) := by decide +kernel
theorem d_ED_writeNode_65 : decode prog_1_method_27_code 65 = .ok (.iload_n 2, 1) := by decide +kernel
theorem d_ED_writeNode_66 : decode prog_1_method_27_code 66 = .ok (.invokevirtual 231, 3) := by decide +kernel
theorem d_ED_writeNode_69 : decode prog_1_method_27_code 69 = .ok (.invokevirtual 235, 3) := by decide +kernel
theorem d_ED_writeNode_72 : decode prog_1_method_27_code 72 = .ok (.return_, 1) := by decide +kernel
theorem d_ED_closeEpoch_0 : decode prog_1_method_28_code 0 = .ok (.aload_n 0, 1) := by decide +kernel
theorem d_ED_closeEpoch_1 : decode prog_1_method_28_code 1 = .ok (.getfield 37, 3) := by decide +kernel
theorem d_ED_closeEpoch_4 : decode prog_1_method_28_code 4 = .ok (.getfield 221, 3) := by decide +kernel
theorem d_ED_closeEpoch_7 : decode prog_1_method_28_code 7 = .ok (.iconst 1, 1) := by decide +kernel
theorem d_ED_closeEpoch_8 : decode prog_1_method_28_code 8 = .ok (.iaload, 1) := by decide +kernel
theorem d_ED_closeEpoch_9 : decode prog_1_method_28_code 9 = .ok (.istore_n 1, 1) := by decide +kernel
theorem d_ED_closeEpoch_10 : decode prog_1_method_28_code 10 = .ok (.aload_n 0, 1) := by decide +kernel
theorem d_ED_closeEpoch_11 : decode prog_1_method_28_code 11 = .ok (.getfield 30, 3) := by decide +kernel
theorem d_ED_closeEpoch_14 : decode prog_1_method_28_code 14 = .ok (.aload_n 0, 1) := by decide +kernel
theorem d_ED_closeEpoch_15 : decode prog_1_method_28_code 15 = .ok (.getfield 44, 3) := by decide +kernel
theorem d_ED_closeEpoch_18 : decode prog_1_method_28_code 18 = .ok (.getfield 110, 3) := by decide +kernel
theorem d_ED_closeEpoch_21 : decode prog_1_method_28_code 21 = .ok (.iload_n 1, 1) := by decide +kernel
theorem d_ED_closeEpoch_22 : decode prog_1_method_28_code 22 = .ok (.invokevirtual 238, 3) := by decide +kernel
theorem d_ED_closeEpoch_25 : decode prog_1_method_28_code 25 = .ok (.aload_n 0, 1) := by decide +kernel
theorem d_ED_closeEpoch_26 : decode prog_1_method_28_code 26 = .ok (.getfield 44, 3) := by decide +kernel
theorem d_ED_closeEpoch_29 : decode prog_1_method_28_code 29 = .ok (.iload_n 1, 1) := by decide +kernel
theorem d_ED_closeEpoch_30 : decode prog_1_method_28_code 30 = .ok (.aload_n 0, 1) := by decide +kernel
