theorem dX11_split_49 : decode cX11_split 49 = .ok (.aload_n 0, 1) := by decide +kernel
theorem dX11_split_50 : decode cX11_split 50 = .ok (.getfield 13, 3) := by decide +kernel
theorem dX11_split_53 : decode cX11_split 53 = .ok (.iload_n 1, 1) := by decide +kernel
theorem dX11_split_54 : decode cX11_split 54 = .ok (.iaload, 1) := by decide +kernel
theorem dX11_split_55 : decode cX11_split 55 = .ok (.iload 4, 2) := by decide +kernel
theorem dX11_split_57 : decode cX11_split 57 = .ok (.isub, 1) := by decide +kernel
theorem dX11_split_58 : decode cX11_split 58 = .ok (.istore 5, 2) := by decide +kernel
theorem dX11_split_60 : decode cX11_split 60 = .ok (.iconst 0, 1) := by decide +kernel
theorem dX11_split_61 : decode cX11_split 61 = .ok (.istore 6, 2) := by decide +kernel
theorem dX11_split_63 : decode cX11_split 63 = .ok (.iload 6, 2) := by decide +kernel
theorem dX11_split_65 : decode cX11_split 65 = .ok (.iload 5, 2) := by decide +kernel
theorem dX11_split_67 : decode cX11_split 67 = .ok (.if_icmp .ge 46, 3) := by decide +kernel
theorem dX11_split_70 : decode cX11_split 70 = .ok (.aload_n 0, 1) := by decide +kernel
theorem dX11_split_71 : decode cX11_split 71 = .ok (.iload_n 3, 1) := by decide +kernel
theorem dX11_split_72 : decode cX11_split 72 = .ok (.iload 6, 2) := by decide +kernel
theorem dX11_split_74 : decode cX11_split 74 = .ok (.aload_n 0, 1) := by decide +kernel
theorem dX11_split_75 : decode cX11_split 75 = .ok (.getfield 16, 3) := by decide +kernel
theorem dX11_split_78 : decode cX11_split 78 = .ok (.bipush 64, 2) := by decide +kernel
theorem dX11_split_80 : decode cX11_split 80 = .ok (.iload_n 1, 1) := by decide +kernel
theorem dX11_split_81 : decode cX11_split 81 = .ok (.imul, 1) := by decide +kernel
theorem dX11_split_82 : decode cX11_split 82 = .ok (.iload 4, 2) := by decide +kernel
theorem dX11_split_84 : decode cX11_split 84 = .ok (.iadd, 1) := by decide +kernel
theorem dX11_split_85 : decode cX11_split 85 = .ok (.iload 6, 2) := by decide +kernel
theorem dX11_split_87 : decode cX11_split 87 = .ok (.iadd, 1) := by decide +kernel
theorem dX11_split_88 : decode cX11_split 88 = .ok (.iaload, 1) := by decide +kernel
theorem dX11_split_89 : decode cX11_split 89 = .ok (.aload_n 0, 1) := by decide +kernel
theorem dX11_split_90 : decode cX11_split 90 = .ok (.getfield 19, 3) := by decide +kernel
theorem dX11_split_93 : decode cX11_split 93 = .ok (.bipush 64, 2) := by decide +kernel
theorem dX11_split_95 : decode cX11_split 95 = .ok (.iload_n 1, 1) := by decide +kernel
theorem dX11_split_96 : decode cX11_split 96 = .ok (.imul, 1) := by decide +kernel
theorem dX11_split_97 : decode cX11_split 97 = .ok (.iload 4, 2) := by decide +kernel
theorem dX11_split_99 : decode cX11_split 99 = .ok (.iadd, 1) := by decide +kernel
theorem dX11_split_100 : decode cX11_split 100 = .ok (.iload 6, 2) := by decide +kernel
theorem dX11_split_102 : decode cX11_split 102 = .ok (.iadd, 1) := by decide +kernel
theorem dX11_split_103 : decode cX11_split 103 = .ok (.iaload, 1) := by decide +kernel
theorem dX11_split_104 : decode cX11_split 104 = .ok (.invokevirtual 85, 3) := by decide +kernel
theorem dX11_split_107 : decode cX11_split 107 = .ok (.iinc 6 1, 3) := by decide +kernel
theorem dX11_split_110 : decode cX11_split 110 = .ok (.goto (-47), 3) := by decide +kernel
theorem dX11_split_113 : decode cX11_split 113 = .ok (.aload_n 0, 1) := by decide +kernel
theorem dX11_split_114 : decode cX11_split 114 = .ok (.getfield 13, 3) := by decide +kernel
theorem dX11_split_117 : decode cX11_split 117 = .ok (.iload_n 1, 1) := by decide +kernel
theorem dX11_split_118 : decode cX11_split 118 = .ok (.iload 4, 2) := by decide +kernel
theorem dX11_split_120 : decode cX11_split 120 = .ok (.iastore, 1) := by decide +kernel
theorem dX11_split_121 : decode cX11_split 121 = .ok (.aload_n 0, 1) := by decide +kernel
theorem dX11_split_122 : decode cX11_split 122 = .ok (.getfield 22, 3) := by decide +kernel
theorem dX11_split_125 : decode cX11_split 125 = .ok (.iload_n 1, 1) := by decide +kernel
theorem dX11_split_126 : decode cX11_split 126 = .ok (.dup2, 1) := by decide +kernel
theorem dX11_split_127 : decode cX11_split 127 = .ok (.iaload, 1) := by decide +kernel
theorem dX11_split_128 : decode cX11_split 128 = .ok (.iload 5, 2) := by decide +kernel
theorem dX11_split_130 : decode cX11_split 130 = .ok (.iadd, 1) := by decide +kernel
theorem dX11_split_131 : decode cX11_split 131 = .ok (.iastore, 1) := by decide +kernel
theorem dX11_split_132 : decode cX11_split 132 = .ok (.iload 5, 2) := by decide +kernel
theorem dX11_split_134 : decode cX11_split 134 = .ok (.ireturn, 1) := by decide +kernel
theorem dX11_changes_0 : decode cX11_changes 0 = .ok (.aload_n 0, 1) := by decide +kernel
theorem dX11_changes_1 : decode cX11_changes 1 = .ok (.iload_n 1, 1) := by decide +kernel
theorem dX11_changes_2 : decode cX11_changes 2 = .ok (.invokestatic 67, 3) := by decide +kernel
theorem dX11_changes_5 : decode cX11_changes 5 = .ok (.ifCond .eq 7, 3) := by decide +kernel
theorem dX11_changes_8 : decode cX11_changes 8 = .ok (.iconst 0, 1) := by decide +kernel
theorem dX11_changes_9 : decode cX11_changes 9 = .ok (.goto 4, 3) := by decide +kernel
theorem dX11_changes_12 : decode cX11_changes 12 = .ok (.iconst 1, 1) := by decide +kernel
theorem dX11_changes_13 : decode cX11_changes 13 = .ok (.putfield 59, 3) := by decide +kernel
theorem dX11_changes_16 : decode cX11_changes 16 = .ok (.aload_n 0, 1) := by decide +kernel
theorem dX11_changes_17 : decode cX11_changes 17 = .ok (.getfield 59, 3) := by decide +kernel
theorem dX11_changes_20 : decode cX11_changes 20 = .ok (.ifCond .ne 12, 3) := by decide +kernel
theorem dX11_changes_23 : decode cX11_changes 23 = .ok (.aload_n 0, 1) := by decide +kernel
theorem dX11_changes_24 : decode cX11_changes 24 = .ok (.getfield 22, 3) := by decide +kernel
theorem dX11_changes_27 : decode cX11_changes 27 = .ok (.iload_n 1, 1) := by decide +kernel
theorem dX11_changes_28 : decode cX11_changes 28 = .ok (.iaload, 1) := by decide +kernel
theorem dX11_changes_29 : decode cX11_changes 29 = .ok (.goto 4, 3) := by decide +kernel
theorem dX11_changes_32 : decode cX11_changes 32 = .ok (.iconst 0, 1) := by decide +kernel
theorem dX11_changes_33 : decode cX11_changes 33 = .ok (.ireturn, 1) := by decide +kernel
theorem dX11_audit_0 : decode cX11_audit 0 = .ok (.aload_n 0, 1) := by decide +kernel
theorem dX11_audit_1 : decode cX11_audit 1 = .ok (.iload_n 1, 1) := by decide +kernel
theorem dX11_audit_2 : decode cX11_audit 2 = .ok (.invokestatic 67, 3) := by decide +kernel
theorem dX11_audit_5 : decode cX11_audit 5 = .ok (.ifCond .eq 7, 3) := by decide +kernel
theorem dX11_audit_8 : decode cX11_audit 8 = .ok (.iconst 0, 1) := by decide +kernel
theorem dX11_audit_9 : decode cX11_audit 9 = .ok (.goto 4, 3) := by decide +kernel
theorem dX11_audit_12 : decode cX11_audit 12 = .ok (.iconst 1, 1) := by decide +kernel
theorem dX11_audit_13 : decode cX11_audit 13 = .ok (.putfield 59, 3) := by decide +kernel
theorem dX11_audit_16 : decode cX11_audit 16 = .ok (.aload_n 0, 1) := by decide +kernel
theorem dX11_audit_17 : decode cX11_audit 17 = .ok (.getfield 59, 3) := by decide +kernel
theorem dX11_audit_20 : decode cX11_audit 20 = .ok (.ifCond .ne 7, 3) := by decide +kernel
theorem dX11_audit_23 : decode cX11_audit 23 = .ok (.iconst 1, 1) := by decide +kernel
theorem dX11_audit_24 : decode cX11_audit 24 = .ok (.goto 4, 3) := by decide +kernel
theorem dX11_audit_27 : decode cX11_audit 27 = .ok (.iconst 0, 1) := by decide +kernel
theorem dX11_audit_28 : decode cX11_audit 28 = .ok (.ireturn, 1) := by decide +kernel
theorem dJ9_floorDiv_7cf53_0 : decode cJ9_floorDiv_7cf53 0 = .ok (.iload_n 0, 1) := by decide +kernel
theorem dJ9_floorDiv_7cf53_1 : decode cJ9_floorDiv_7cf53 1 = .ok (.iload_n 1, 1) := by decide +kernel
theorem dJ9_floorDiv_7cf53_2 : decode cJ9_floorDiv_7cf53 2 = .ok (.idiv, 1) := by decide +kernel
theorem dJ9_floorDiv_7cf53_3 : decode cJ9_floorDiv_7cf53 3 = .ok (.istore_n 2, 1) := by decide +kernel
theorem dJ9_floorDiv_7cf53_4 : decode cJ9_floorDiv_7cf53 4 = .ok (.iload_n 0, 1) := by decide +kernel
theorem dJ9_floorDiv_7cf53_5 : decode cJ9_floorDiv_7cf53 5 = .ok (.iload_n 1, 1) := by decide +kernel
theorem dJ9_floorDiv_7cf53_6 : decode cJ9_floorDiv_7cf53 6 = .ok (.ixor, 1) := by decide +kernel
theorem dJ9_floorDiv_7cf53_7 : decode cJ9_floorDiv_7cf53 7 = .ok (.ifCond .ge 14, 3) := by decide +kernel
theorem dJ9_floorDiv_7cf53_10 : decode cJ9_floorDiv_7cf53 10 = .ok (.iload_n 2, 1) := by decide +kernel
theorem dJ9_floorDiv_7cf53_11 : decode cJ9_floorDiv_7cf53 11 = .ok (.iload_n 1, 1) := by decide +kernel
theorem dJ9_floorDiv_7cf53_12 : decode cJ9_floorDiv_7cf53 12 = .ok (.imul, 1) := by decide +kernel
theorem dJ9_floorDiv_7cf53_13 : decode cJ9_floorDiv_7cf53 13 = .ok (.iload_n 0, 1) := by decide +kernel
theorem dJ9_floorDiv_7cf53_14 : decode cJ9_floorDiv_7cf53 14 = .ok (.if_icmp .eq 7, 3) := by decide +kernel
theorem dJ9_floorDiv_7cf53_17 : decode cJ9_floorDiv_7cf53 17 = .ok (.iload_n 2, 1) := by decide +kernel
theorem dJ9_floorDiv_7cf53_18 : decode cJ9_floorDiv_7cf53 18 = .ok (.iconst 1, 1) := by decide +kernel
theorem dJ9_floorDiv_7cf53_19 : decode cJ9_floorDiv_7cf53 19 = .ok (.isub, 1) := by decide +kernel
theorem dJ9_floorDiv_7cf53_20 : decode cJ9_floorDiv_7cf53 20 = .ok (.ireturn, 1) := by decide +kernel
theorem dJ9_floorDiv_7cf53_21 : decode cJ9_floorDiv_7cf53 21 = .ok (.iload_n 2, 1) := by decide +kernel
theorem dJ9_floorDiv_7cf53_22 : decode cJ9_floorDiv_7cf53 22 = .ok (.ireturn, 1) := by decide +kernel
theorem dL_make_0 : decode cL_make 0 = .ok (.aload_n 0, 1) := by decide +kernel
theorem dL_make_1 : decode cL_make 1 = .ok (.iload_n 1, 1) := by decide +kernel
theorem dL_make_2 : decode cL_make 2 = .ok (.iload_n 2, 1) := by decide +kernel
theorem dL_make_3 : decode cL_make 3 = .ok (.iload_n 3, 1) := by decide +kernel
theorem dL_make_4 : decode cL_make 4 = .ok (.invokevirtual 7, 3) := by decide +kernel
theorem dL_make_7 : decode cL_make 7 = .ok (.goto 7, 3) := by decide +kernel
theorem dL_make_10 : decode cL_make 10 = .ok (.astore 4, 2) := by decide +kernel
theorem dL_make_12 : decode cL_make 12 = .ok (.iconst 1, 1) := by decide +kernel
theorem dL_make_13 : decode cL_make 13 = .ok (.ireturn, 1) := by decide +kernel
theorem dL_make_14 : decode cL_make 14 = .ok (.iconst 0, 1) := by decide +kernel
theorem dL_make_15 : decode cL_make 15 = .ok (.ireturn, 1) := by decide +kernel
theorem dL_put_0 : decode cL_put 0 = .ok (.aload 4, 2) := by decide +kernel
theorem dL_put_2 : decode cL_put 2 = .ok (.iconst 0, 1) := by decide +kernel
theorem dL_put_3 : decode cL_put 3 = .ok (.aload_n 0, 1) := by decide +kernel
theorem dL_put_4 : decode cL_put 4 = .ok (.iload_n 1, 1) := by decide +kernel
theorem dL_put_5 : decode cL_put 5 = .ok (.iload_n 2, 1) := by decide +kernel
theorem dL_put_6 : decode cL_put 6 = .ok (.iload_n 3, 1) := by decide +kernel
theorem dL_put_7 : decode cL_put 7 = .ok (.invokevirtual 15, 3) := by decide +kernel
theorem dL_put_10 : decode cL_put 10 = .ok (.ifCond .eq 7, 3) := by decide +kernel
theorem dL_put_13 : decode cL_put 13 = .ok (.lconst 1, 1) := by decide +kernel
theorem dL_put_14 : decode cL_put 14 = .ok (.goto 4, 3) := by decide +kernel
theorem dL_put_17 : decode cL_put 17 = .ok (.lconst 0, 1) := by decide +kernel
theorem dL_put_18 : decode cL_put 18 = .ok (.lastore, 1) := by decide +kernel
theorem dL_put_19 : decode cL_put 19 = .ok (.goto 11, 3) := by decide +kernel
theorem dL_put_22 : decode cL_put 22 = .ok (.astore 5, 2) := by decide +kernel
theorem dL_put_24 : decode cL_put 24 = .ok (.iconst 1, 1) := by decide +kernel
theorem dL_put_25 : decode cL_put 25 = .ok (.ireturn, 1) := by decide +kernel
theorem dL_put_26 : decode cL_put 26 = .ok (.astore 5, 2) := by decide +kernel
theorem dL_put_28 : decode cL_put 28 = .ok (.iconst 2, 1) := by decide +kernel
theorem dL_put_29 : decode cL_put 29 = .ok (.ireturn, 1) := by decide +kernel
theorem dL_put_30 : decode cL_put 30 = .ok (.iconst 0, 1) := by decide +kernel
theorem dL_put_31 : decode cL_put 31 = .ok (.ireturn, 1) := by decide +kernel
theorem dL_remove_0 : decode cL_remove 0 = .ok (.aload_n 3, 1) := by decide +kernel
theorem dL_remove_1 : decode cL_remove 1 = .ok (.iconst 0, 1) := by decide +kernel
theorem dL_remove_2 : decode cL_remove 2 = .ok (.aload_n 0, 1) := by decide +kernel
theorem dL_remove_3 : decode cL_remove 3 = .ok (.iload_n 1, 1) := by decide +kernel
theorem dL_remove_4 : decode cL_remove 4 = .ok (.iload_n 2, 1) := by decide +kernel
theorem dL_remove_5 : decode cL_remove 5 = .ok (.invokevirtual 21, 3) := by decide +kernel
theorem dL_remove_8 : decode cL_remove 8 = .ok (.ifCond .eq 7, 3) := by decide +kernel
theorem dL_remove_11 : decode cL_remove 11 = .ok (.lconst 1, 1) := by decide +kernel
theorem dL_remove_12 : decode cL_remove 12 = .ok (.goto 4, 3) := by decide +kernel
theorem dL_remove_15 : decode cL_remove 15 = .ok (.lconst 0, 1) := by decide +kernel
theorem dL_remove_16 : decode cL_remove 16 = .ok (.lastore, 1) := by decide +kernel
theorem dL_remove_17 : decode cL_remove 17 = .ok (.goto 7, 3) := by decide +kernel
theorem dL_remove_20 : decode cL_remove 20 = .ok (.astore 4, 2) := by decide +kernel
theorem dL_remove_22 : decode cL_remove 22 = .ok (.iconst 1, 1) := by decide +kernel
theorem dL_remove_23 : decode cL_remove 23 = .ok (.ireturn, 1) := by decide +kernel
theorem dL_remove_24 : decode cL_remove 24 = .ok (.iconst 0, 1) := by decide +kernel
theorem dL_remove_25 : decode cL_remove 25 = .ok (.ireturn, 1) := by decide +kernel
theorem dL_get_0 : decode cL_get 0 = .ok (.aload_n 3, 1) := by decide +kernel
theorem dL_get_1 : decode cL_get 1 = .ok (.iconst 0, 1) := by decide +kernel
theorem dL_get_2 : decode cL_get 2 = .ok (.aload_n 0, 1) := by decide +kernel
theorem dL_get_3 : decode cL_get 3 = .ok (.iload_n 1, 1) := by decide +kernel
theorem dL_get_4 : decode cL_get 4 = .ok (.iload_n 2, 1) := by decide +kernel
theorem dL_get_5 : decode cL_get 5 = .ok (.invokevirtual 25, 3) := by decide +kernel
theorem dL_get_8 : decode cL_get 8 = .ok (.i2l, 1) := by decide +kernel
theorem dL_get_9 : decode cL_get 9 = .ok (.lastore, 1) := by decide +kernel
theorem dL_get_10 : decode cL_get 10 = .ok (.goto 11, 3) := by decide +kernel
theorem dL_get_13 : decode cL_get 13 = .ok (.astore 4, 2) := by decide +kernel
theorem dL_get_15 : decode cL_get 15 = .ok (.iconst 1, 1) := by decide +kernel
theorem dL_get_16 : decode cL_get 16 = .ok (.ireturn, 1) := by decide +kernel
theorem dL_get_17 : decode cL_get 17 = .ok (.astore 4, 2) := by decide +kernel
theorem dL_get_19 : decode cL_get 19 = .ok (.iconst 2, 1) := by decide +kernel
theorem dL_get_20 : decode cL_get 20 = .ok (.ireturn, 1) := by decide +kernel
theorem dL_get_21 : decode cL_get 21 = .ok (.iconst 0, 1) := by decide +kernel
theorem dL_get_22 : decode cL_get 22 = .ok (.ireturn, 1) := by decide +kernel
theorem dL_near_0 : decode cL_near 0 = .ok (.aload 4, 2) := by decide +kernel
theorem dL_near_2 : decode cL_near 2 = .ok (.iconst 0, 1) := by decide +kernel
theorem dL_near_3 : decode cL_near 3 = .ok (.aload_n 0, 1) := by decide +kernel
theorem dL_near_4 : decode cL_near 4 = .ok (.iload_n 1, 1) := by decide +kernel
theorem dL_near_5 : decode cL_near 5 = .ok (.iload_n 2, 1) := by decide +kernel
theorem dL_near_6 : decode cL_near 6 = .ok (.iload_n 3, 1) := by decide +kernel
theorem dL_near_7 : decode cL_near 7 = .ok (.invokevirtual 29, 3) := by decide +kernel
theorem dL_near_10 : decode cL_near 10 = .ok (.i2l, 1) := by decide +kernel
theorem dL_near_11 : decode cL_near 11 = .ok (.lastore, 1) := by decide +kernel
theorem dL_near_12 : decode cL_near 12 = .ok (.goto 11, 3) := by decide +kernel
theorem dL_near_15 : decode cL_near 15 = .ok (.astore 5, 2) := by decide +kernel
theorem dL_near_17 : decode cL_near 17 = .ok (.iconst 1, 1) := by decide +kernel
theorem dL_near_18 : decode cL_near 18 = .ok (.ireturn, 1) := by decide +kernel
theorem dL_near_19 : decode cL_near 19 = .ok (.astore 5, 2) := by decide +kernel
theorem dL_near_21 : decode cL_near 21 = .ok (.iconst 2, 1) := by decide +kernel
theorem dL_near_22 : decode cL_near 22 = .ok (.ireturn, 1) := by decide +kernel
theorem dL_near_23 : decode cL_near 23 = .ok (.iconst 0, 1) := by decide +kernel
theorem dL_near_24 : decode cL_near 24 = .ok (.ireturn, 1) := by decide +kernel
theorem dL_size_0 : decode cL_size 0 = .ok (.aload_n 2, 1) := by decide +kernel
theorem dL_size_1 : decode cL_size 1 = .ok (.iconst 0, 1) := by decide +kernel
theorem dL_size_2 : decode cL_size 2 = .ok (.aload_n 0, 1) := by decide +kernel
theorem dL_size_3 : decode cL_size 3 = .ok (.iload_n 1, 1) := by decide +kernel
theorem dL_size_4 : decode cL_size 4 = .ok (.invokevirtual 33, 3) := by decide +kernel
theorem dL_size_7 : decode cL_size 7 = .ok (.i2l, 1) := by decide +kernel
theorem dL_size_8 : decode cL_size 8 = .ok (.lastore, 1) := by decide +kernel
theorem dL_size_9 : decode cL_size 9 = .ok (.goto 6, 3) := by decide +kernel
theorem dL_size_12 : decode cL_size 12 = .ok (.astore_n 3, 1) := by decide +kernel
theorem dL_size_13 : decode cL_size 13 = .ok (.iconst 1, 1) := by decide +kernel
theorem dL_size_14 : decode cL_size 14 = .ok (.ireturn, 1) := by decide +kernel
theorem dL_size_15 : decode cL_size 15 = .ok (.iconst 0, 1) := by decide +kernel
theorem dL_size_16 : decode cL_size 16 = .ok (.ireturn, 1) := by decide +kernel
theorem dL_rank_0 : decode cL_rank 0 = .ok (.aload_n 3, 1) := by decide +kernel
theorem dL_rank_1 : decode cL_rank 1 = .ok (.iconst 0, 1) := by decide +kernel
theorem dL_rank_2 : decode cL_rank 2 = .ok (.aload_n 0, 1) := by decide +kernel
theorem dL_rank_3 : decode cL_rank 3 = .ok (.iload_n 1, 1) := by decide +kernel
theorem dL_rank_4 : decode cL_rank 4 = .ok (.iload_n 2, 1) := by decide +kernel
theorem dL_rank_5 : decode cL_rank 5 = .ok (.invokevirtual 37, 3) := by decide +kernel
theorem dL_rank_8 : decode cL_rank 8 = .ok (.i2l, 1) := by decide +kernel
theorem dL_rank_9 : decode cL_rank 9 = .ok (.lastore, 1) := by decide +kernel
theorem dL_rank_10 : decode cL_rank 10 = .ok (.goto 7, 3) := by decide +kernel
theorem dL_rank_13 : decode cL_rank 13 = .ok (.astore 4, 2) := by decide +kernel
theorem dL_rank_15 : decode cL_rank 15 = .ok (.iconst 1, 1) := by decide +kernel
theorem dL_rank_16 : decode cL_rank 16 = .ok (.ireturn, 1) := by decide +kernel
theorem dL_rank_17 : decode cL_rank 17 = .ok (.iconst 0, 1) := by decide +kernel
theorem dL_rank_18 : decode cL_rank 18 = .ok (.ireturn, 1) := by decide +kernel
theorem dL_select_0 : decode cL_select 0 = .ok (.aload_n 3, 1) := by decide +kernel
theorem dL_select_1 : decode cL_select 1 = .ok (.iconst 0, 1) := by decide +kernel
theorem dL_select_2 : decode cL_select 2 = .ok (.aload_n 0, 1) := by decide +kernel
theorem dL_select_3 : decode cL_select 3 = .ok (.iload_n 1, 1) := by decide +kernel
theorem dL_select_4 : decode cL_select 4 = .ok (.iload_n 2, 1) := by decide +kernel
theorem dL_select_5 : decode cL_select 5 = .ok (.invokevirtual 40, 3) := by decide +kernel
theorem dL_select_8 : decode cL_select 8 = .ok (.i2l, 1) := by decide +kernel
theorem dL_select_9 : decode cL_select 9 = .ok (.lastore, 1) := by decide +kernel
theorem dL_select_10 : decode cL_select 10 = .ok (.goto 11, 3) := by decide +kernel
theorem dL_select_13 : decode cL_select 13 = .ok (.astore 4, 2) := by decide +kernel
theorem dL_select_15 : decode cL_select 15 = .ok (.iconst 1, 1) := by decide +kernel
theorem dL_select_16 : decode cL_select 16 = .ok (.ireturn, 1) := by decide +kernel
theorem dL_select_17 : decode cL_select 17 = .ok (.astore 4, 2) := by decide +kernel
theorem dL_select_19 : decode cL_select 19 = .ok (.iconst 2, 1) := by decide +kernel
theorem dL_select_20 : decode cL_select 20 = .ok (.ireturn, 1) := by decide +kernel
theorem dL_select_21 : decode cL_select 21 = .ok (.iconst 0, 1) := by decide +kernel
theorem dL_select_22 : decode cL_select 22 = .ok (.ireturn, 1) := by decide +kernel
theorem dL_sum_0 : decode cL_sum 0 = .ok (.aload_n 3, 1) := by decide +kernel
theorem dL_sum_1 : decode cL_sum 1 = .ok (.iconst 0, 1) := by decide +kernel
theorem dL_sum_2 : decode cL_sum 2 = .ok (.aload_n 0, 1) := by decide +kernel
theorem dL_sum_3 : decode cL_sum 3 = .ok (.iload_n 1, 1) := by decide +kernel
theorem dL_sum_4 : decode cL_sum 4 = .ok (.iload_n 2, 1) := by decide +kernel
theorem dL_sum_5 : decode cL_sum 5 = .ok (.invokevirtual 43, 3) := by decide +kernel
theorem dL_sum_8 : decode cL_sum 8 = .ok (.lastore, 1) := by decide +kernel
theorem dL_sum_9 : decode cL_sum 9 = .ok (.goto 7, 3) := by decide +kernel
theorem dL_sum_12 : decode cL_sum 12 = .ok (.astore 4, 2) := by decide +kernel
theorem dL_sum_14 : decode cL_sum 14 = .ok (.iconst 1, 1) := by decide +kernel
theorem dL_sum_15 : decode cL_sum 15 = .ok (.ireturn, 1) := by decide +kernel
theorem dL_sum_16 : decode cL_sum 16 = .ok (.iconst 0, 1) := by decide +kernel
theorem dL_sum_17 : decode cL_sum 17 = .ok (.ireturn, 1) := by decide +kernel
theorem dL_range_0 : decode cL_range 0 = .ok (.aload_n 0, 1) := by decide +kernel
theorem dL_range_1 : decode cL_range 1 = .ok (.iload_n 1, 1) := by decide +kernel
theorem dL_range_2 : decode cL_range 2 = .ok (.iload_n 2, 1) := by decide +kernel
theorem dL_range_3 : decode cL_range 3 = .ok (.iload_n 3, 1) := by decide +kernel
theorem dL_range_4 : decode cL_range 4 = .ok (.iload 4, 2) := by decide +kernel
theorem dL_range_6 : decode cL_range 6 = .ok (.invokevirtual 47, 3) := by decide +kernel
theorem dL_range_9 : decode cL_range 9 = .ok (.goto 7, 3) := by decide +kernel
theorem dL_range_12 : decode cL_range 12 = .ok (.astore 5, 2) := by decide +kernel
theorem dL_range_14 : decode cL_range 14 = .ok (.iconst 1, 1) := by decide +kernel
theorem dL_range_15 : decode cL_range 15 = .ok (.ireturn, 1) := by decide +kernel
theorem dL_range_16 : decode cL_range 16 = .ok (.iconst 0, 1) := by decide +kernel
theorem dL_range_17 : decode cL_range 17 = .ok (.ireturn, 1) := by decide +kernel
theorem dL_within_0 : decode cL_within 0 = .ok (.aload_n 3, 1) := by decide +kernel
theorem dL_within_1 : decode cL_within 1 = .ok (.iconst 0, 1) := by decide +kernel
theorem dL_within_2 : decode cL_within 2 = .ok (.aload_n 0, 1) := by decide +kernel
theorem dL_within_3 : decode cL_within 3 = .ok (.iload_n 1, 1) := by decide +kernel
theorem dL_within_4 : decode cL_within 4 = .ok (.iload_n 2, 1) := by decide +kernel
theorem dL_within_5 : decode cL_within 5 = .ok (.invokevirtual 51, 3) := by decide +kernel
theorem dL_within_8 : decode cL_within 8 = .ok (.i2l, 1) := by decide +kernel
theorem dL_within_9 : decode cL_within 9 = .ok (.lastore, 1) := by decide +kernel
theorem dL_within_10 : decode cL_within 10 = .ok (.goto 11, 3) := by decide +kernel
theorem dL_within_13 : decode cL_within 13 = .ok (.astore 4, 2) := by decide +kernel
theorem dL_within_15 : decode cL_within 15 = .ok (.iconst 1, 1) := by decide +kernel
theorem dL_within_16 : decode cL_within 16 = .ok (.ireturn, 1) := by decide +kernel
theorem dL_within_17 : decode cL_within 17 = .ok (.astore 4, 2) := by decide +kernel
theorem dL_within_19 : decode cL_within 19 = .ok (.iconst 2, 1) := by decide +kernel
theorem dL_within_20 : decode cL_within 20 = .ok (.ireturn, 1) := by decide +kernel
theorem dL_within_21 : decode cL_within 21 = .ok (.iconst 0, 1) := by decide +kernel
theorem dL_within_22 : decode cL_within 22 = .ok (.ireturn, 1) := by decide +kernel
theorem dL_putWithin_0 : decode cL_putWithin 0 = .ok (.aload 4, 2) := by decide +kernel
theorem dL_putWithin_2 : decode cL_putWithin 2 = .ok (.iconst 0, 1) := by decide +kernel
theorem dL_putWithin_3 : decode cL_putWithin 3 = .ok (.aload_n 0, 1) := by decide +kernel
theorem dL_putWithin_4 : decode cL_putWithin 4 = .ok (.iload_n 1, 1) := by decide +kernel
theorem dL_putWithin_5 : decode cL_putWithin 5 = .ok (.iload_n 2, 1) := by decide +kernel
theorem dL_putWithin_6 : decode cL_putWithin 6 = .ok (.iload_n 3, 1) := by decide +kernel
theorem dL_putWithin_7 : decode cL_putWithin 7 = .ok (.invokevirtual 54, 3) := by decide +kernel
theorem dL_putWithin_10 : decode cL_putWithin 10 = .ok (.ifCond .eq 7, 3) := by decide +kernel
theorem dL_putWithin_13 : decode cL_putWithin 13 = .ok (.lconst 1, 1) := by decide +kernel
theorem dL_putWithin_14 : decode cL_putWithin 14 = .ok (.goto 4, 3) := by decide +kernel
theorem dL_putWithin_17 : decode cL_putWithin 17 = .ok (.lconst 0, 1) := by decide +kernel
theorem dL_putWithin_18 : decode cL_putWithin 18 = .ok (.lastore, 1) := by decide +kernel
theorem dL_putWithin_19 : decode cL_putWithin 19 = .ok (.goto 11, 3) := by decide +kernel
theorem dL_putWithin_22 : decode cL_putWithin 22 = .ok (.astore 5, 2) := by decide +kernel
theorem dL_putWithin_24 : decode cL_putWithin 24 = .ok (.iconst 1, 1) := by decide +kernel
theorem dL_putWithin_25 : decode cL_putWithin 25 = .ok (.ireturn, 1) := by decide +kernel
theorem dL_putWithin_26 : decode cL_putWithin 26 = .ok (.astore 5, 2) := by decide +kernel
theorem dL_putWithin_28 : decode cL_putWithin 28 = .ok (.iconst 2, 1) := by decide +kernel
theorem dL_putWithin_29 : decode cL_putWithin 29 = .ok (.ireturn, 1) := by decide +kernel
theorem dL_putWithin_30 : decode cL_putWithin 30 = .ok (.iconst 0, 1) := by decide +kernel
theorem dL_putWithin_31 : decode cL_putWithin 31 = .ok (.ireturn, 1) := by decide +kernel
theorem dL_poll_0 : decode cL_poll 0 = .ok (.aload_n 3, 1) := by decide +kernel
theorem dL_poll_1 : decode cL_poll 1 = .ok (.iconst 0, 1) := by decide +kernel
theorem dL_poll_2 : decode cL_poll 2 = .ok (.aload_n 0, 1) := by decide +kernel
theorem dL_poll_3 : decode cL_poll 3 = .ok (.iload_n 1, 1) := by decide +kernel
theorem dL_poll_4 : decode cL_poll 4 = .ok (.iload_n 2, 1) := by decide +kernel
theorem dL_poll_5 : decode cL_poll 5 = .ok (.invokevirtual 57, 3) := by decide +kernel
theorem dL_poll_8 : decode cL_poll 8 = .ok (.i2l, 1) := by decide +kernel
theorem dL_poll_9 : decode cL_poll 9 = .ok (.lastore, 1) := by decide +kernel
theorem dL_poll_10 : decode cL_poll 10 = .ok (.goto 11, 3) := by decide +kernel
theorem dL_poll_13 : decode cL_poll 13 = .ok (.astore 4, 2) := by decide +kernel
theorem dL_poll_15 : decode cL_poll 15 = .ok (.iconst 1, 1) := by decide +kernel
theorem dL_poll_16 : decode cL_poll 16 = .ok (.ireturn, 1) := by decide +kernel
theorem dL_poll_17 : decode cL_poll 17 = .ok (.astore 4, 2) := by decide +kernel
theorem dL_poll_19 : decode cL_poll 19 = .ok (.iconst 2, 1) := by decide +kernel
theorem dL_poll_20 : decode cL_poll 20 = .ok (.ireturn, 1) := by decide +kernel
theorem dL_poll_21 : decode cL_poll 21 = .ok (.iconst 0, 1) := by decide +kernel
theorem dL_poll_22 : decode cL_poll 22 = .ok (.ireturn, 1) := by decide +kernel
theorem dL_iterate_0 : decode cL_iterate 0 = .ok (.aload_n 0, 1) := by decide +kernel
theorem dL_iterate_1 : decode cL_iterate 1 = .ok (.iload_n 1, 1) := by decide +kernel
theorem dL_iterate_2 : decode cL_iterate 2 = .ok (.iload_n 2, 1) := by decide +kernel
theorem dL_iterate_3 : decode cL_iterate 3 = .ok (.invokevirtual 61, 3) := by decide +kernel
theorem dL_iterate_6 : decode cL_iterate 6 = .ok (.goto 6, 3) := by decide +kernel
theorem dL_iterate_9 : decode cL_iterate 9 = .ok (.astore_n 3, 1) := by decide +kernel
theorem dL_iterate_10 : decode cL_iterate 10 = .ok (.iconst 1, 1) := by decide +kernel
theorem dL_iterate_11 : decode cL_iterate 11 = .ok (.ireturn, 1) := by decide +kernel
theorem dL_iterate_12 : decode cL_iterate 12 = .ok (.iconst 0, 1) := by decide +kernel
theorem dL_iterate_13 : decode cL_iterate 13 = .ok (.ireturn, 1) := by decide +kernel
theorem dL_next_0 : decode cL_next 0 = .ok (.aload_n 2, 1) := by decide +kernel
theorem dL_next_1 : decode cL_next 1 = .ok (.iconst 0, 1) := by decide +kernel
theorem dL_next_2 : decode cL_next 2 = .ok (.aload_n 0, 1) := by decide +kernel
theorem dL_next_3 : decode cL_next 3 = .ok (.iload_n 1, 1) := by decide +kernel
theorem dL_next_4 : decode cL_next 4 = .ok (.invokevirtual 65, 3) := by decide +kernel
theorem dL_next_7 : decode cL_next 7 = .ok (.i2l, 1) := by decide +kernel
theorem dL_next_8 : decode cL_next 8 = .ok (.lastore, 1) := by decide +kernel
theorem dL_next_9 : decode cL_next 9 = .ok (.goto 12, 3) := by decide +kernel
theorem dL_next_12 : decode cL_next 12 = .ok (.astore_n 3, 1) := by decide +kernel
theorem dL_next_13 : decode cL_next 13 = .ok (.iconst 1, 1) := by decide +kernel
theorem dL_next_14 : decode cL_next 14 = .ok (.ireturn, 1) := by decide +kernel
theorem dL_next_15 : decode cL_next 15 = .ok (.astore_n 3, 1) := by decide +kernel
theorem dL_next_16 : decode cL_next 16 = .ok (.iconst 2, 1) := by decide +kernel
theorem dL_next_17 : decode cL_next 17 = .ok (.ireturn, 1) := by decide +kernel
theorem dL_next_18 : decode cL_next 18 = .ok (.astore_n 3, 1) := by decide +kernel
theorem dL_next_19 : decode cL_next 19 = .ok (.iconst 3, 1) := by decide +kernel
theorem dL_next_20 : decode cL_next 20 = .ok (.ireturn, 1) := by decide +kernel
theorem dL_next_21 : decode cL_next 21 = .ok (.iconst 0, 1) := by decide +kernel
theorem dL_next_22 : decode cL_next 22 = .ok (.ireturn, 1) := by decide +kernel
theorem dL_drop_0 : decode cL_drop 0 = .ok (.aload_n 0, 1) := by decide +kernel
theorem dL_drop_1 : decode cL_drop 1 = .ok (.iload_n 1, 1) := by decide +kernel
theorem dL_drop_2 : decode cL_drop 2 = .ok (.invokevirtual 70, 3) := by decide +kernel
theorem dL_drop_5 : decode cL_drop 5 = .ok (.goto 9, 3) := by decide +kernel
theorem dL_drop_8 : decode cL_drop 8 = .ok (.astore_n 2, 1) := by decide +kernel
theorem dL_drop_9 : decode cL_drop 9 = .ok (.iconst 1, 1) := by decide +kernel
theorem dL_drop_10 : decode cL_drop 10 = .ok (.ireturn, 1) := by decide +kernel
theorem dL_drop_11 : decode cL_drop 11 = .ok (.astore_n 2, 1) := by decide +kernel
theorem dL_drop_12 : decode cL_drop 12 = .ok (.iconst 2, 1) := by decide +kernel
theorem dL_drop_13 : decode cL_drop 13 = .ok (.ireturn, 1) := by decide +kernel
theorem dL_drop_14 : decode cL_drop 14 = .ok (.iconst 0, 1) := by decide +kernel
theorem dL_drop_15 : decode cL_drop 15 = .ok (.ireturn, 1) := by decide +kernel
theorem dL_join_0 : decode cL_join 0 = .ok (.aload 4, 2) := by decide +kernel
theorem dL_join_2 : decode cL_join 2 = .ok (.iconst 0, 1) := by decide +kernel
theorem dL_join_3 : decode cL_join 3 = .ok (.aload_n 0, 1) := by decide +kernel
theorem dL_join_4 : decode cL_join 4 = .ok (.iload_n 1, 1) := by decide +kernel
theorem dL_join_5 : decode cL_join 5 = .ok (.iload_n 2, 1) := by decide +kernel
theorem dL_join_6 : decode cL_join 6 = .ok (.iload_n 3, 1) := by decide +kernel
theorem dL_join_7 : decode cL_join 7 = .ok (.invokevirtual 74, 3) := by decide +kernel
theorem dL_join_10 : decode cL_join 10 = .ok (.i2l, 1) := by decide +kernel
theorem dL_join_11 : decode cL_join 11 = .ok (.lastore, 1) := by decide +kernel
theorem dL_join_12 : decode cL_join 12 = .ok (.goto 11, 3) := by decide +kernel
theorem dL_join_15 : decode cL_join 15 = .ok (.astore 5, 2) := by decide +kernel
theorem dL_join_17 : decode cL_join 17 = .ok (.iconst 1, 1) := by decide +kernel
theorem dL_join_18 : decode cL_join 18 = .ok (.ireturn, 1) := by decide +kernel
theorem dL_join_19 : decode cL_join 19 = .ok (.astore 5, 2) := by decide +kernel
theorem dL_join_21 : decode cL_join 21 = .ok (.iconst 2, 1) := by decide +kernel
theorem dL_join_22 : decode cL_join 22 = .ok (.ireturn, 1) := by decide +kernel
theorem dL_join_23 : decode cL_join 23 = .ok (.iconst 0, 1) := by decide +kernel
theorem dL_join_24 : decode cL_join 24 = .ok (.ireturn, 1) := by decide +kernel
theorem dL_split_0 : decode cL_split 0 = .ok (.aload 4, 2) := by decide +kernel
theorem dL_split_2 : decode cL_split 2 = .ok (.iconst 0, 1) := by decide +kernel
theorem dL_split_3 : decode cL_split 3 = .ok (.aload_n 0, 1) := by decide +kernel
theorem dL_split_4 : decode cL_split 4 = .ok (.iload_n 1, 1) := by decide +kernel
theorem dL_split_5 : decode cL_split 5 = .ok (.iload_n 2, 1) := by decide +kernel
theorem dL_split_6 : decode cL_split 6 = .ok (.iload_n 3, 1) := by decide +kernel
theorem dL_split_7 : decode cL_split 7 = .ok (.invokevirtual 77, 3) := by decide +kernel
theorem dL_split_10 : decode cL_split 10 = .ok (.i2l, 1) := by decide +kernel
theorem dL_split_11 : decode cL_split 11 = .ok (.lastore, 1) := by decide +kernel
theorem dL_split_12 : decode cL_split 12 = .ok (.goto 7, 3) := by decide +kernel
theorem dL_split_15 : decode cL_split 15 = .ok (.astore 5, 2) := by decide +kernel
theorem dL_split_17 : decode cL_split 17 = .ok (.iconst 1, 1) := by decide +kernel
theorem dL_split_18 : decode cL_split 18 = .ok (.ireturn, 1) := by decide +kernel
theorem dL_split_19 : decode cL_split 19 = .ok (.iconst 0, 1) := by decide +kernel
theorem dL_split_20 : decode cL_split 20 = .ok (.ireturn, 1) := by decide +kernel
theorem dL_changes_0 : decode cL_changes 0 = .ok (.aload_n 2, 1) := by decide +kernel
theorem dL_changes_1 : decode cL_changes 1 = .ok (.iconst 0, 1) := by decide +kernel
theorem dL_changes_2 : decode cL_changes 2 = .ok (.aload_n 0, 1) := by decide +kernel
theorem dL_changes_3 : decode cL_changes 3 = .ok (.iload_n 1, 1) := by decide +kernel
theorem dL_changes_4 : decode cL_changes 4 = .ok (.invokevirtual 80, 3) := by decide +kernel
theorem dL_changes_7 : decode cL_changes 7 = .ok (.i2l, 1) := by decide +kernel
theorem dL_changes_8 : decode cL_changes 8 = .ok (.lastore, 1) := by decide +kernel
theorem dL_changes_9 : decode cL_changes 9 = .ok (.goto 6, 3) := by decide +kernel
theorem dL_changes_12 : decode cL_changes 12 = .ok (.astore_n 3, 1) := by decide +kernel
theorem dL_changes_13 : decode cL_changes 13 = .ok (.iconst 1, 1) := by decide +kernel
theorem dL_changes_14 : decode cL_changes 14 = .ok (.ireturn, 1) := by decide +kernel
theorem dL_changes_15 : decode cL_changes 15 = .ok (.iconst 0, 1) := by decide +kernel
theorem dL_changes_16 : decode cL_changes 16 = .ok (.ireturn, 1) := by decide +kernel
theorem dL_audit_0 : decode cL_audit 0 = .ok (.aload_n 2, 1) := by decide +kernel
theorem dL_audit_1 : decode cL_audit 1 = .ok (.iconst 0, 1) := by decide +kernel
theorem dL_audit_2 : decode cL_audit 2 = .ok (.aload_n 0, 1) := by decide +kernel
theorem dL_audit_3 : decode cL_audit 3 = .ok (.iload_n 1, 1) := by decide +kernel
theorem dL_audit_4 : decode cL_audit 4 = .ok (.invokevirtual 83, 3) := by decide +kernel
theorem dL_audit_7 : decode cL_audit 7 = .ok (.ifCond .eq 7, 3) := by decide +kernel
theorem dL_audit_10 : decode cL_audit 10 = .ok (.lconst 1, 1) := by decide +kernel
theorem dL_audit_11 : decode cL_audit 11 = .ok (.goto 4, 3) := by decide +kernel
theorem dL_audit_14 : decode cL_audit 14 = .ok (.lconst 0, 1) := by decide +kernel
theorem dL_audit_15 : decode cL_audit 15 = .ok (.lastore, 1) := by decide +kernel
theorem dL_audit_16 : decode cL_audit 16 = .ok (.goto 6, 3) := by decide +kernel
theorem dL_audit_19 : decode cL_audit 19 = .ok (.astore_n 3, 1) := by decide +kernel
theorem dL_audit_20 : decode cL_audit 20 = .ok (.iconst 1, 1) := by decide +kernel
theorem dL_audit_21 : decode cL_audit 21 = .ok (.ireturn, 1) := by decide +kernel
theorem dL_audit_22 : decode cL_audit 22 = .ok (.iconst 0, 1) := by decide +kernel
theorem dL_audit_23 : decode cL_audit 23 = .ok (.ireturn, 1) := by decide +kernel
