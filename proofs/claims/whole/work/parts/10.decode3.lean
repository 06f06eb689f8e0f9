theorem dX11_place_14 : decode cX11_place 14 = .ok (.aload_n 0, 1) := by decide +kernel
theorem dX11_place_15 : decode cX11_place 15 = .ok (.getfield 16, 3) := by decide +kernel
theorem dX11_place_18 : decode cX11_place 18 = .ok (.bipush 64, 2) := by decide +kernel
theorem dX11_place_20 : decode cX11_place 20 = .ok (.iload_n 1, 1) := by decide +kernel
theorem dX11_place_21 : decode cX11_place 21 = .ok (.imul, 1) := by decide +kernel
theorem dX11_place_22 : decode cX11_place 22 = .ok (.iload_n 3, 1) := by decide +kernel
theorem dX11_place_23 : decode cX11_place 23 = .ok (.iadd, 1) := by decide +kernel
theorem dX11_place_24 : decode cX11_place 24 = .ok (.iaload, 1) := by decide +kernel
theorem dX11_place_25 : decode cX11_place 25 = .ok (.iload_n 2, 1) := by decide +kernel
theorem dX11_place_26 : decode cX11_place 26 = .ok (.invokevirtual 63, 3) := by decide +kernel
theorem dX11_place_29 : decode cX11_place 29 = .ok (.ifCond .eq 9, 3) := by decide +kernel
theorem dX11_place_32 : decode cX11_place 32 = .ok (.iinc 3 1, 3) := by decide +kernel
theorem dX11_place_35 : decode cX11_place 35 = .ok (.goto (-33), 3) := by decide +kernel
theorem dX11_place_38 : decode cX11_place 38 = .ok (.iload_n 3, 1) := by decide +kernel
theorem dX11_place_39 : decode cX11_place 39 = .ok (.ireturn, 1) := by decide +kernel
theorem dX11_isAt_0 : decode cX11_isAt 0 = .ok (.iload_n 2, 1) := by decide +kernel
theorem dX11_isAt_1 : decode cX11_isAt 1 = .ok (.aload_n 0, 1) := by decide +kernel
theorem dX11_isAt_2 : decode cX11_isAt 2 = .ok (.getfield 13, 3) := by decide +kernel
theorem dX11_isAt_5 : decode cX11_isAt 5 = .ok (.iload_n 1, 1) := by decide +kernel
theorem dX11_isAt_6 : decode cX11_isAt 6 = .ok (.iaload, 1) := by decide +kernel
theorem dX11_isAt_7 : decode cX11_isAt 7 = .ok (.if_icmp .ge 47, 3) := by decide +kernel
theorem dX11_isAt_10 : decode cX11_isAt 10 = .ok (.aload_n 0, 1) := by decide +kernel
theorem dX11_isAt_11 : decode cX11_isAt 11 = .ok (.iload_n 1, 1) := by decide +kernel
theorem dX11_isAt_12 : decode cX11_isAt 12 = .ok (.iload_n 3, 1) := by decide +kernel
theorem dX11_isAt_13 : decode cX11_isAt 13 = .ok (.aload_n 0, 1) := by decide +kernel
theorem dX11_isAt_14 : decode cX11_isAt 14 = .ok (.getfield 16, 3) := by decide +kernel
theorem dX11_isAt_17 : decode cX11_isAt 17 = .ok (.bipush 64, 2) := by decide +kernel
theorem dX11_isAt_19 : decode cX11_isAt 19 = .ok (.iload_n 1, 1) := by decide +kernel
theorem dX11_isAt_20 : decode cX11_isAt 20 = .ok (.imul, 1) := by decide +kernel
theorem dX11_isAt_21 : decode cX11_isAt 21 = .ok (.iload_n 2, 1) := by decide +kernel
theorem dX11_isAt_22 : decode cX11_isAt 22 = .ok (.iadd, 1) := by decide +kernel
theorem dX11_isAt_23 : decode cX11_isAt 23 = .ok (.iaload, 1) := by decide +kernel
theorem dX11_isAt_24 : decode cX11_isAt 24 = .ok (.invokevirtual 63, 3) := by decide +kernel
theorem dX11_isAt_27 : decode cX11_isAt 27 = .ok (.ifCond .ne 27, 3) := by decide +kernel
theorem dX11_isAt_30 : decode cX11_isAt 30 = .ok (.aload_n 0, 1) := by decide +kernel
theorem dX11_isAt_31 : decode cX11_isAt 31 = .ok (.iload_n 1, 1) := by decide +kernel
theorem dX11_isAt_32 : decode cX11_isAt 32 = .ok (.aload_n 0, 1) := by decide +kernel
theorem dX11_isAt_33 : decode cX11_isAt 33 = .ok (.getfield 16, 3) := by decide +kernel
theorem dX11_isAt_36 : decode cX11_isAt 36 = .ok (.bipush 64, 2) := by decide +kernel
theorem dX11_isAt_38 : decode cX11_isAt 38 = .ok (.iload_n 1, 1) := by decide +kernel
theorem dX11_isAt_39 : decode cX11_isAt 39 = .ok (.imul, 1) := by decide +kernel
theorem dX11_isAt_40 : decode cX11_isAt 40 = .ok (.iload_n 2, 1) := by decide +kernel
theorem dX11_isAt_41 : decode cX11_isAt 41 = .ok (.iadd, 1) := by decide +kernel
theorem dX11_isAt_42 : decode cX11_isAt 42 = .ok (.iaload, 1) := by decide +kernel
theorem dX11_isAt_43 : decode cX11_isAt 43 = .ok (.iload_n 3, 1) := by decide +kernel
theorem dX11_isAt_44 : decode cX11_isAt 44 = .ok (.invokevirtual 63, 3) := by decide +kernel
theorem dX11_isAt_47 : decode cX11_isAt 47 = .ok (.ifCond .ne 7, 3) := by decide +kernel
theorem dX11_isAt_50 : decode cX11_isAt 50 = .ok (.iconst 1, 1) := by decide +kernel
theorem dX11_isAt_51 : decode cX11_isAt 51 = .ok (.goto 4, 3) := by decide +kernel
theorem dX11_isAt_54 : decode cX11_isAt 54 = .ok (.iconst 0, 1) := by decide +kernel
theorem dX11_isAt_55 : decode cX11_isAt 55 = .ok (.ireturn, 1) := by decide +kernel
theorem dX11_make_0 : decode cX11_make 0 = .ok (.aload_n 0, 1) := by decide +kernel
theorem dX11_make_1 : decode cX11_make 1 = .ok (.iload_n 1, 1) := by decide +kernel
theorem dX11_make_2 : decode cX11_make 2 = .ok (.invokestatic 67, 3) := by decide +kernel
theorem dX11_make_5 : decode cX11_make 5 = .ok (.ifCond .eq 25, 3) := by decide +kernel
theorem dX11_make_8 : decode cX11_make 8 = .ok (.iload_n 2, 1) := by decide +kernel
theorem dX11_make_9 : decode cX11_make 9 = .ok (.ifCond .lt 21, 3) := by decide +kernel
theorem dX11_make_12 : decode cX11_make 12 = .ok (.iload_n 2, 1) := by decide +kernel
theorem dX11_make_13 : decode cX11_make 13 = .ok (.iconst 4, 1) := by decide +kernel
theorem dX11_make_14 : decode cX11_make 14 = .ok (.if_icmp .ge 16, 3) := by decide +kernel
theorem dX11_make_17 : decode cX11_make 17 = .ok (.iload_n 3, 1) := by decide +kernel
theorem dX11_make_18 : decode cX11_make 18 = .ok (.ifCond .lt 12, 3) := by decide +kernel
theorem dX11_make_21 : decode cX11_make 21 = .ok (.iload_n 3, 1) := by decide +kernel
theorem dX11_make_22 : decode cX11_make 22 = .ok (.iconst 3, 1) := by decide +kernel
theorem dX11_make_23 : decode cX11_make 23 = .ok (.if_icmp .ge 7, 3) := by decide +kernel
theorem dX11_make_26 : decode cX11_make 26 = .ok (.iconst 0, 1) := by decide +kernel
theorem dX11_make_27 : decode cX11_make 27 = .ok (.goto 4, 3) := by decide +kernel
theorem dX11_make_30 : decode cX11_make 30 = .ok (.iconst 1, 1) := by decide +kernel
theorem dX11_make_31 : decode cX11_make 31 = .ok (.putfield 59, 3) := by decide +kernel
theorem dX11_make_34 : decode cX11_make 34 = .ok (.aload_n 0, 1) := by decide +kernel
theorem dX11_make_35 : decode cX11_make 35 = .ok (.getfield 59, 3) := by decide +kernel
theorem dX11_make_38 : decode cX11_make 38 = .ok (.ifCond .ne 9, 3) := by decide +kernel
theorem dX11_make_41 : decode cX11_make 41 = .ok (.aload_n 0, 1) := by decide +kernel
theorem dX11_make_42 : decode cX11_make 42 = .ok (.iload_n 1, 1) := by decide +kernel
theorem dX11_make_43 : decode cX11_make 43 = .ok (.iload_n 3, 1) := by decide +kernel
theorem dX11_make_44 : decode cX11_make 44 = .ok (.invokevirtual 71, 3) := by decide +kernel
theorem dX11_make_47 : decode cX11_make 47 = .ok (.return_, 1) := by decide +kernel
theorem dX11_renew_0 : decode cX11_renew 0 = .ok (.aload_n 0, 1) := by decide +kernel
theorem dX11_renew_1 : decode cX11_renew 1 = .ok (.getfield 7, 3) := by decide +kernel
theorem dX11_renew_4 : decode cX11_renew 4 = .ok (.iload_n 1, 1) := by decide +kernel
theorem dX11_renew_5 : decode cX11_renew 5 = .ok (.iload_n 2, 1) := by decide +kernel
theorem dX11_renew_6 : decode cX11_renew 6 = .ok (.iastore, 1) := by decide +kernel
theorem dX11_renew_7 : decode cX11_renew 7 = .ok (.aload_n 0, 1) := by decide +kernel
theorem dX11_renew_8 : decode cX11_renew 8 = .ok (.getfield 13, 3) := by decide +kernel
theorem dX11_renew_11 : decode cX11_renew 11 = .ok (.iload_n 1, 1) := by decide +kernel
theorem dX11_renew_12 : decode cX11_renew 12 = .ok (.iconst 0, 1) := by decide +kernel
theorem dX11_renew_13 : decode cX11_renew 13 = .ok (.iastore, 1) := by decide +kernel
theorem dX11_renew_14 : decode cX11_renew 14 = .ok (.aload_n 0, 1) := by decide +kernel
theorem dX11_renew_15 : decode cX11_renew 15 = .ok (.getfield 25, 3) := by decide +kernel
theorem dX11_renew_18 : decode cX11_renew 18 = .ok (.iload_n 1, 1) := by decide +kernel
theorem dX11_renew_19 : decode cX11_renew 19 = .ok (.iconst 0, 1) := by decide +kernel
theorem dX11_renew_20 : decode cX11_renew 20 = .ok (.iastore, 1) := by decide +kernel
theorem dX11_renew_21 : decode cX11_renew 21 = .ok (.aload_n 0, 1) := by decide +kernel
theorem dX11_renew_22 : decode cX11_renew 22 = .ok (.getfield 34, 3) := by decide +kernel
theorem dX11_renew_25 : decode cX11_renew 25 = .ok (.iload_n 1, 1) := by decide +kernel
theorem dX11_renew_26 : decode cX11_renew 26 = .ok (.iconst 0, 1) := by decide +kernel
theorem dX11_renew_27 : decode cX11_renew 27 = .ok (.bastore, 1) := by decide +kernel
theorem dX11_renew_28 : decode cX11_renew 28 = .ok (.aload_n 0, 1) := by decide +kernel
theorem dX11_renew_29 : decode cX11_renew 29 = .ok (.getfield 22, 3) := by decide +kernel
theorem dX11_renew_32 : decode cX11_renew 32 = .ok (.iload_n 1, 1) := by decide +kernel
theorem dX11_renew_33 : decode cX11_renew 33 = .ok (.dup2, 1) := by decide +kernel
theorem dX11_renew_34 : decode cX11_renew 34 = .ok (.iaload, 1) := by decide +kernel
theorem dX11_renew_35 : decode cX11_renew 35 = .ok (.iconst 1, 1) := by decide +kernel
theorem dX11_renew_36 : decode cX11_renew 36 = .ok (.iadd, 1) := by decide +kernel
theorem dX11_renew_37 : decode cX11_renew 37 = .ok (.iastore, 1) := by decide +kernel
theorem dX11_renew_38 : decode cX11_renew 38 = .ok (.return_, 1) := by decide +kernel
theorem dX11_open_0 : decode cX11_open 0 = .ok (.bipush 64, 2) := by decide +kernel
theorem dX11_open_2 : decode cX11_open 2 = .ok (.iload_n 1, 1) := by decide +kernel
theorem dX11_open_3 : decode cX11_open 3 = .ok (.imul, 1) := by decide +kernel
theorem dX11_open_4 : decode cX11_open 4 = .ok (.aload_n 0, 1) := by decide +kernel
theorem dX11_open_5 : decode cX11_open 5 = .ok (.getfield 13, 3) := by decide +kernel
theorem dX11_open_8 : decode cX11_open 8 = .ok (.iload_n 1, 1) := by decide +kernel
theorem dX11_open_9 : decode cX11_open 9 = .ok (.iaload, 1) := by decide +kernel
theorem dX11_open_10 : decode cX11_open 10 = .ok (.iadd, 1) := by decide +kernel
theorem dX11_open_11 : decode cX11_open 11 = .ok (.istore 5, 2) := by decide +kernel
theorem dX11_open_13 : decode cX11_open 13 = .ok (.iload 5, 2) := by decide +kernel
theorem dX11_open_15 : decode cX11_open 15 = .ok (.bipush 64, 2) := by decide +kernel
theorem dX11_open_17 : decode cX11_open 17 = .ok (.iload_n 1, 1) := by decide +kernel
theorem dX11_open_18 : decode cX11_open 18 = .ok (.imul, 1) := by decide +kernel
theorem dX11_open_19 : decode cX11_open 19 = .ok (.iload_n 2, 1) := by decide +kernel
theorem dX11_open_20 : decode cX11_open 20 = .ok (.iadd, 1) := by decide +kernel
theorem dX11_open_21 : decode cX11_open 21 = .ok (.if_icmp .le 41, 3) := by decide +kernel
theorem dX11_open_24 : decode cX11_open 24 = .ok (.aload_n 0, 1) := by decide +kernel
theorem dX11_open_25 : decode cX11_open 25 = .ok (.getfield 16, 3) := by decide +kernel
theorem dX11_open_28 : decode cX11_open 28 = .ok (.iload 5, 2) := by decide +kernel
theorem dX11_open_30 : decode cX11_open 30 = .ok (.aload_n 0, 1) := by decide +kernel
theorem dX11_open_31 : decode cX11_open 31 = .ok (.getfield 16, 3) := by decide +kernel
theorem dX11_open_34 : decode cX11_open 34 = .ok (.iload 5, 2) := by decide +kernel
theorem dX11_open_36 : decode cX11_open 36 = .ok (.iconst 1, 1) := by decide +kernel
theorem dX11_open_37 : decode cX11_open 37 = .ok (.isub, 1) := by decide +kernel
theorem dX11_open_38 : decode cX11_open 38 = .ok (.iaload, 1) := by decide +kernel
theorem dX11_open_39 : decode cX11_open 39 = .ok (.iastore, 1) := by decide +kernel
theorem dX11_open_40 : decode cX11_open 40 = .ok (.aload_n 0, 1) := by decide +kernel
theorem dX11_open_41 : decode cX11_open 41 = .ok (.getfield 19, 3) := by decide +kernel
theorem dX11_open_44 : decode cX11_open 44 = .ok (.iload 5, 2) := by decide +kernel
theorem dX11_open_46 : decode cX11_open 46 = .ok (.aload_n 0, 1) := by decide +kernel
theorem dX11_open_47 : decode cX11_open 47 = .ok (.getfield 19, 3) := by decide +kernel
theorem dX11_open_50 : decode cX11_open 50 = .ok (.iload 5, 2) := by decide +kernel
theorem dX11_open_52 : decode cX11_open 52 = .ok (.iconst 1, 1) := by decide +kernel
theorem dX11_open_53 : decode cX11_open 53 = .ok (.isub, 1) := by decide +kernel
theorem dX11_open_54 : decode cX11_open 54 = .ok (.iaload, 1) := by decide +kernel
theorem dX11_open_55 : decode cX11_open 55 = .ok (.iastore, 1) := by decide +kernel
theorem dX11_open_56 : decode cX11_open 56 = .ok (.iinc 5 (-1), 3) := by decide +kernel
theorem dX11_open_59 : decode cX11_open 59 = .ok (.goto (-46), 3) := by decide +kernel
theorem dX11_open_62 : decode cX11_open 62 = .ok (.aload_n 0, 1) := by decide +kernel
theorem dX11_open_63 : decode cX11_open 63 = .ok (.getfield 16, 3) := by decide +kernel
theorem dX11_open_66 : decode cX11_open 66 = .ok (.bipush 64, 2) := by decide +kernel
theorem dX11_open_68 : decode cX11_open 68 = .ok (.iload_n 1, 1) := by decide +kernel
theorem dX11_open_69 : decode cX11_open 69 = .ok (.imul, 1) := by decide +kernel
theorem dX11_open_70 : decode cX11_open 70 = .ok (.iload_n 2, 1) := by decide +kernel
theorem dX11_open_71 : decode cX11_open 71 = .ok (.iadd, 1) := by decide +kernel
theorem dX11_open_72 : decode cX11_open 72 = .ok (.iload_n 3, 1) := by decide +kernel
theorem dX11_open_73 : decode cX11_open 73 = .ok (.iastore, 1) := by decide +kernel
theorem dX11_open_74 : decode cX11_open 74 = .ok (.aload_n 0, 1) := by decide +kernel
theorem dX11_open_75 : decode cX11_open 75 = .ok (.getfield 19, 3) := by decide +kernel
theorem dX11_open_78 : decode cX11_open 78 = .ok (.bipush 64, 2) := by decide +kernel
theorem dX11_open_80 : decode cX11_open 80 = .ok (.iload_n 1, 1) := by decide +kernel
theorem dX11_open_81 : decode cX11_open 81 = .ok (.imul, 1) := by decide +kernel
theorem dX11_open_82 : decode cX11_open 82 = .ok (.iload_n 2, 1) := by decide +kernel
theorem dX11_open_83 : decode cX11_open 83 = .ok (.iadd, 1) := by decide +kernel
theorem dX11_open_84 : decode cX11_open 84 = .ok (.iload 4, 2) := by decide +kernel
theorem dX11_open_86 : decode cX11_open 86 = .ok (.iastore, 1) := by decide +kernel
theorem dX11_open_87 : decode cX11_open 87 = .ok (.aload_n 0, 1) := by decide +kernel
theorem dX11_open_88 : decode cX11_open 88 = .ok (.getfield 13, 3) := by decide +kernel
theorem dX11_open_91 : decode cX11_open 91 = .ok (.iload_n 1, 1) := by decide +kernel
theorem dX11_open_92 : decode cX11_open 92 = .ok (.dup2, 1) := by decide +kernel
theorem dX11_open_93 : decode cX11_open 93 = .ok (.iaload, 1) := by decide +kernel
theorem dX11_open_94 : decode cX11_open 94 = .ok (.iconst 1, 1) := by decide +kernel
theorem dX11_open_95 : decode cX11_open 95 = .ok (.iadd, 1) := by decide +kernel
theorem dX11_open_96 : decode cX11_open 96 = .ok (.iastore, 1) := by decide +kernel
theorem dX11_open_97 : decode cX11_open 97 = .ok (.aload_n 0, 1) := by decide +kernel
theorem dX11_open_98 : decode cX11_open 98 = .ok (.getfield 22, 3) := by decide +kernel
theorem dX11_open_101 : decode cX11_open 101 = .ok (.iload_n 1, 1) := by decide +kernel
theorem dX11_open_102 : decode cX11_open 102 = .ok (.dup2, 1) := by decide +kernel
theorem dX11_open_103 : decode cX11_open 103 = .ok (.iaload, 1) := by decide +kernel
theorem dX11_open_104 : decode cX11_open 104 = .ok (.iconst 1, 1) := by decide +kernel
theorem dX11_open_105 : decode cX11_open 105 = .ok (.iadd, 1) := by decide +kernel
theorem dX11_open_106 : decode cX11_open 106 = .ok (.iastore, 1) := by decide +kernel
theorem dX11_open_107 : decode cX11_open 107 = .ok (.return_, 1) := by decide +kernel
theorem dX11_close_0 : decode cX11_close 0 = .ok (.aload_n 0, 1) := by decide +kernel
theorem dX11_close_1 : decode cX11_close 1 = .ok (.getfield 16, 3) := by decide +kernel
theorem dX11_close_4 : decode cX11_close 4 = .ok (.bipush 64, 2) := by decide +kernel
theorem dX11_close_6 : decode cX11_close 6 = .ok (.iload_n 1, 1) := by decide +kernel
theorem dX11_close_7 : decode cX11_close 7 = .ok (.imul, 1) := by decide +kernel
theorem dX11_close_8 : decode cX11_close 8 = .ok (.iload_n 2, 1) := by decide +kernel
theorem dX11_close_9 : decode cX11_close 9 = .ok (.iadd, 1) := by decide +kernel
theorem dX11_close_10 : decode cX11_close 10 = .ok (.iaload, 1) := by decide +kernel
theorem dX11_close_11 : decode cX11_close 11 = .ok (.istore_n 3, 1) := by decide +kernel
theorem dX11_close_12 : decode cX11_close 12 = .ok (.aload_n 0, 1) := by decide +kernel
theorem dX11_close_13 : decode cX11_close 13 = .ok (.getfield 13, 3) := by decide +kernel
theorem dX11_close_16 : decode cX11_close 16 = .ok (.iload_n 1, 1) := by decide +kernel
theorem dX11_close_17 : decode cX11_close 17 = .ok (.dup2, 1) := by decide +kernel
theorem dX11_close_18 : decode cX11_close 18 = .ok (.iaload, 1) := by decide +kernel
theorem dX11_close_19 : decode cX11_close 19 = .ok (.iconst 1, 1) := by decide +kernel
theorem dX11_close_20 : decode cX11_close 20 = .ok (.isub, 1) := by decide +kernel
theorem dX11_close_21 : decode cX11_close 21 = .ok (.iastore, 1) := by decide +kernel
theorem dX11_close_22 : decode cX11_close 22 = .ok (.bipush 64, 2) := by decide +kernel
theorem dX11_close_24 : decode cX11_close 24 = .ok (.iload_n 1, 1) := by decide +kernel
theorem dX11_close_25 : decode cX11_close 25 = .ok (.imul, 1) := by decide +kernel
theorem dX11_close_26 : decode cX11_close 26 = .ok (.iload_n 2, 1) := by decide +kernel
theorem dX11_close_27 : decode cX11_close 27 = .ok (.iadd, 1) := by decide +kernel
theorem dX11_close_28 : decode cX11_close 28 = .ok (.istore 4, 2) := by decide +kernel
theorem dX11_close_30 : decode cX11_close 30 = .ok (.iload 4, 2) := by decide +kernel
theorem dX11_close_32 : decode cX11_close 32 = .ok (.bipush 64, 2) := by decide +kernel
theorem dX11_close_34 : decode cX11_close 34 = .ok (.iload_n 1, 1) := by decide +kernel
theorem dX11_close_35 : decode cX11_close 35 = .ok (.imul, 1) := by decide +kernel
theorem dX11_close_36 : decode cX11_close 36 = .ok (.aload_n 0, 1) := by decide +kernel
theorem dX11_close_37 : decode cX11_close 37 = .ok (.getfield 13, 3) := by decide +kernel
theorem dX11_close_40 : decode cX11_close 40 = .ok (.iload_n 1, 1) := by decide +kernel
theorem dX11_close_41 : decode cX11_close 41 = .ok (.iaload, 1) := by decide +kernel
theorem dX11_close_42 : decode cX11_close 42 = .ok (.iadd, 1) := by decide +kernel
theorem dX11_close_43 : decode cX11_close 43 = .ok (.if_icmp .ge 41, 3) := by decide +kernel
theorem dX11_close_46 : decode cX11_close 46 = .ok (.aload_n 0, 1) := by decide +kernel
theorem dX11_close_47 : decode cX11_close 47 = .ok (.getfield 16, 3) := by decide +kernel
theorem dX11_close_50 : decode cX11_close 50 = .ok (.iload 4, 2) := by decide +kernel
theorem dX11_close_52 : decode cX11_close 52 = .ok (.aload_n 0, 1) := by decide +kernel
theorem dX11_close_53 : decode cX11_close 53 = .ok (.getfield 16, 3) := by decide +kernel
theorem dX11_close_56 : decode cX11_close 56 = .ok (.iload 4, 2) := by decide +kernel
theorem dX11_close_58 : decode cX11_close 58 = .ok (.iconst 1, 1) := by decide +kernel
theorem dX11_close_59 : decode cX11_close 59 = .ok (.iadd, 1) := by decide +kernel
theorem dX11_close_60 : decode cX11_close 60 = .ok (.iaload, 1) := by decide +kernel
theorem dX11_close_61 : decode cX11_close 61 = .ok (.iastore, 1) := by decide +kernel
theorem dX11_close_62 : decode cX11_close 62 = .ok (.aload_n 0, 1) := by decide +kernel
theorem dX11_close_63 : decode cX11_close 63 = .ok (.getfield 19, 3) := by decide +kernel
theorem dX11_close_66 : decode cX11_close 66 = .ok (.iload 4, 2) := by decide +kernel
theorem dX11_close_68 : decode cX11_close 68 = .ok (.aload_n 0, 1) := by decide +kernel
theorem dX11_close_69 : decode cX11_close 69 = .ok (.getfield 19, 3) := by decide +kernel
theorem dX11_close_72 : decode cX11_close 72 = .ok (.iload 4, 2) := by decide +kernel
theorem dX11_close_74 : decode cX11_close 74 = .ok (.iconst 1, 1) := by decide +kernel
theorem dX11_close_75 : decode cX11_close 75 = .ok (.iadd, 1) := by decide +kernel
theorem dX11_close_76 : decode cX11_close 76 = .ok (.iaload, 1) := by decide +kernel
theorem dX11_close_77 : decode cX11_close 77 = .ok (.iastore, 1) := by decide +kernel
theorem dX11_close_78 : decode cX11_close 78 = .ok (.iinc 4 1, 3) := by decide +kernel
theorem dX11_close_81 : decode cX11_close 81 = .ok (.goto (-51), 3) := by decide +kernel
theorem dX11_close_84 : decode cX11_close 84 = .ok (.aload_n 0, 1) := by decide +kernel
theorem dX11_close_85 : decode cX11_close 85 = .ok (.getfield 22, 3) := by decide +kernel
theorem dX11_close_88 : decode cX11_close 88 = .ok (.iload_n 1, 1) := by decide +kernel
theorem dX11_close_89 : decode cX11_close 89 = .ok (.dup2, 1) := by decide +kernel
theorem dX11_close_90 : decode cX11_close 90 = .ok (.iaload, 1) := by decide +kernel
theorem dX11_close_91 : decode cX11_close 91 = .ok (.iconst 1, 1) := by decide +kernel
theorem dX11_close_92 : decode cX11_close 92 = .ok (.iadd, 1) := by decide +kernel
theorem dX11_close_93 : decode cX11_close 93 = .ok (.iastore, 1) := by decide +kernel
theorem dX11_close_94 : decode cX11_close 94 = .ok (.iload_n 3, 1) := by decide +kernel
theorem dX11_close_95 : decode cX11_close 95 = .ok (.ireturn, 1) := by decide +kernel
theorem dX11_put_0 : decode cX11_put 0 = .ok (.aload_n 0, 1) := by decide +kernel
theorem dX11_put_1 : decode cX11_put 1 = .ok (.iload_n 1, 1) := by decide +kernel
theorem dX11_put_2 : decode cX11_put 2 = .ok (.invokestatic 67, 3) := by decide +kernel
theorem dX11_put_5 : decode cX11_put 5 = .ok (.ifCond .eq 7, 3) := by decide +kernel
theorem dX11_put_8 : decode cX11_put 8 = .ok (.iconst 0, 1) := by decide +kernel
theorem dX11_put_9 : decode cX11_put 9 = .ok (.goto 4, 3) := by decide +kernel
theorem dX11_put_12 : decode cX11_put 12 = .ok (.iconst 1, 1) := by decide +kernel
theorem dX11_put_13 : decode cX11_put 13 = .ok (.putfield 59, 3) := by decide +kernel
theorem dX11_put_16 : decode cX11_put 16 = .ok (.aload_n 0, 1) := by decide +kernel
theorem dX11_put_17 : decode cX11_put 17 = .ok (.getfield 59, 3) := by decide +kernel
theorem dX11_put_20 : decode cX11_put 20 = .ok (.ifCond .ne 17, 3) := by decide +kernel
theorem dX11_put_23 : decode cX11_put 23 = .ok (.aload_n 0, 1) := by decide +kernel
theorem dX11_put_24 : decode cX11_put 24 = .ok (.iload_n 1, 1) := by decide +kernel
theorem dX11_put_25 : decode cX11_put 25 = .ok (.iload_n 2, 1) := by decide +kernel
theorem dX11_put_26 : decode cX11_put 26 = .ok (.iload_n 3, 1) := by decide +kernel
theorem dX11_put_27 : decode cX11_put 27 = .ok (.invokevirtual 75, 3) := by decide +kernel
theorem dX11_put_30 : decode cX11_put 30 = .ok (.ifCond .eq 7, 3) := by decide +kernel
theorem dX11_put_33 : decode cX11_put 33 = .ok (.iconst 1, 1) := by decide +kernel
theorem dX11_put_34 : decode cX11_put 34 = .ok (.goto 4, 3) := by decide +kernel
theorem dX11_put_37 : decode cX11_put 37 = .ok (.iconst 0, 1) := by decide +kernel
theorem dX11_put_38 : decode cX11_put 38 = .ok (.ireturn, 1) := by decide +kernel
theorem dX11_enter_0 : decode cX11_enter 0 = .ok (.aload_n 0, 1) := by decide +kernel
theorem dX11_enter_1 : decode cX11_enter 1 = .ok (.iload_n 1, 1) := by decide +kernel
theorem dX11_enter_2 : decode cX11_enter 2 = .ok (.iload_n 2, 1) := by decide +kernel
theorem dX11_enter_3 : decode cX11_enter 3 = .ok (.invokevirtual 78, 3) := by decide +kernel
theorem dX11_enter_6 : decode cX11_enter 6 = .ok (.istore 4, 2) := by decide +kernel
theorem dX11_enter_8 : decode cX11_enter 8 = .ok (.aload_n 0, 1) := by decide +kernel
theorem dX11_enter_9 : decode cX11_enter 9 = .ok (.iload_n 1, 1) := by decide +kernel
theorem dX11_enter_10 : decode cX11_enter 10 = .ok (.iload 4, 2) := by decide +kernel
theorem dX11_enter_12 : decode cX11_enter 12 = .ok (.iload_n 2, 1) := by decide +kernel
theorem dX11_enter_13 : decode cX11_enter 13 = .ok (.invokevirtual 82, 3) := by decide +kernel
theorem dX11_enter_16 : decode cX11_enter 16 = .ok (.ifCond .eq 18, 3) := by decide +kernel
theorem dX11_enter_19 : decode cX11_enter 19 = .ok (.aload_n 0, 1) := by decide +kernel
theorem dX11_enter_20 : decode cX11_enter 20 = .ok (.getfield 19, 3) := by decide +kernel
theorem dX11_enter_23 : decode cX11_enter 23 = .ok (.bipush 64, 2) := by decide +kernel
theorem dX11_enter_25 : decode cX11_enter 25 = .ok (.iload_n 1, 1) := by decide +kernel
theorem dX11_enter_26 : decode cX11_enter 26 = .ok (.imul, 1) := by decide +kernel
theorem dX11_enter_27 : decode cX11_enter 27 = .ok (.iload 4, 2) := by decide +kernel
theorem dX11_enter_29 : decode cX11_enter 29 = .ok (.iadd, 1) := by decide +kernel
theorem dX11_enter_30 : decode cX11_enter 30 = .ok (.iload_n 3, 1) := by decide +kernel
theorem dX11_enter_31 : decode cX11_enter 31 = .ok (.iastore, 1) := by decide +kernel
theorem dX11_enter_32 : decode cX11_enter 32 = .ok (.iconst 0, 1) := by decide +kernel
theorem dX11_enter_33 : decode cX11_enter 33 = .ok (.ireturn, 1) := by decide +kernel
theorem dX11_enter_34 : decode cX11_enter 34 = .ok (.aload_n 0, 1) := by decide +kernel
theorem dX11_enter_35 : decode cX11_enter 35 = .ok (.getfield 13, 3) := by decide +kernel
theorem dX11_enter_38 : decode cX11_enter 38 = .ok (.iload_n 1, 1) := by decide +kernel
theorem dX11_enter_39 : decode cX11_enter 39 = .ok (.iaload, 1) := by decide +kernel
theorem dX11_enter_40 : decode cX11_enter 40 = .ok (.bipush 60, 2) := by decide +kernel
theorem dX11_enter_42 : decode cX11_enter 42 = .ok (.if_icmp .ne 10, 3) := by decide +kernel
theorem dX11_enter_45 : decode cX11_enter 45 = .ok (.aload_n 0, 1) := by decide +kernel
theorem dX11_enter_46 : decode cX11_enter 46 = .ok (.iconst 2, 1) := by decide +kernel
theorem dX11_enter_47 : decode cX11_enter 47 = .ok (.putfield 59, 3) := by decide +kernel
theorem dX11_enter_50 : decode cX11_enter 50 = .ok (.iconst 0, 1) := by decide +kernel
theorem dX11_enter_51 : decode cX11_enter 51 = .ok (.ireturn, 1) := by decide +kernel
theorem dX11_enter_52 : decode cX11_enter 52 = .ok (.aload_n 0, 1) := by decide +kernel
theorem dX11_enter_53 : decode cX11_enter 53 = .ok (.iload_n 1, 1) := by decide +kernel
theorem dX11_enter_54 : decode cX11_enter 54 = .ok (.iload 4, 2) := by decide +kernel
theorem dX11_enter_56 : decode cX11_enter 56 = .ok (.iload_n 2, 1) := by decide +kernel
theorem dX11_enter_57 : decode cX11_enter 57 = .ok (.iload_n 3, 1) := by decide +kernel
theorem dX11_enter_58 : decode cX11_enter 58 = .ok (.invokevirtual 85, 3) := by decide +kernel
theorem dX11_enter_61 : decode cX11_enter 61 = .ok (.iconst 1, 1) := by decide +kernel
theorem dX11_enter_62 : decode cX11_enter 62 = .ok (.ireturn, 1) := by decide +kernel
theorem dX11_remove_0 : decode cX11_remove 0 = .ok (.aload_n 0, 1) := by decide +kernel
theorem dX11_remove_1 : decode cX11_remove 1 = .ok (.iload_n 1, 1) := by decide +kernel
theorem dX11_remove_2 : decode cX11_remove 2 = .ok (.invokestatic 67, 3) := by decide +kernel
theorem dX11_remove_5 : decode cX11_remove 5 = .ok (.ifCond .eq 7, 3) := by decide +kernel
theorem dX11_remove_8 : decode cX11_remove 8 = .ok (.iconst 0, 1) := by decide +kernel
theorem dX11_remove_9 : decode cX11_remove 9 = .ok (.goto 4, 3) := by decide +kernel
theorem dX11_remove_12 : decode cX11_remove 12 = .ok (.iconst 1, 1) := by decide +kernel
theorem dX11_remove_13 : decode cX11_remove 13 = .ok (.putfield 59, 3) := by decide +kernel
theorem dX11_remove_16 : decode cX11_remove 16 = .ok (.aload_n 0, 1) := by decide +kernel
theorem dX11_remove_17 : decode cX11_remove 17 = .ok (.getfield 59, 3) := by decide +kernel
theorem dX11_remove_20 : decode cX11_remove 20 = .ok (.ifCond .le 5, 3) := by decide +kernel
theorem dX11_remove_23 : decode cX11_remove 23 = .ok (.iconst 0, 1) := by decide +kernel
theorem dX11_remove_24 : decode cX11_remove 24 = .ok (.ireturn, 1) := by decide +kernel
theorem dX11_remove_25 : decode cX11_remove 25 = .ok (.aload_n 0, 1) := by decide +kernel
theorem dX11_remove_26 : decode cX11_remove 26 = .ok (.iload_n 1, 1) := by decide +kernel
theorem dX11_remove_27 : decode cX11_remove 27 = .ok (.iload_n 2, 1) := by decide +kernel
theorem dX11_remove_28 : decode cX11_remove 28 = .ok (.invokevirtual 78, 3) := by decide +kernel
theorem dX11_remove_31 : decode cX11_remove 31 = .ok (.istore_n 3, 1) := by decide +kernel
theorem dX11_remove_32 : decode cX11_remove 32 = .ok (.aload_n 0, 1) := by decide +kernel
theorem dX11_remove_33 : decode cX11_remove 33 = .ok (.iload_n 1, 1) := by decide +kernel
theorem dX11_remove_34 : decode cX11_remove 34 = .ok (.iload_n 3, 1) := by decide +kernel
theorem dX11_remove_35 : decode cX11_remove 35 = .ok (.iload_n 2, 1) := by decide +kernel
theorem dX11_remove_36 : decode cX11_remove 36 = .ok (.invokevirtual 82, 3) := by decide +kernel
theorem dX11_remove_39 : decode cX11_remove 39 = .ok (.ifCond .ne 5, 3) := by decide +kernel
theorem dX11_remove_42 : decode cX11_remove 42 = .ok (.iconst 0, 1) := by decide +kernel
theorem dX11_remove_43 : decode cX11_remove 43 = .ok (.ireturn, 1) := by decide +kernel
theorem dX11_remove_44 : decode cX11_remove 44 = .ok (.aload_n 0, 1) := by decide +kernel
theorem dX11_remove_45 : decode cX11_remove 45 = .ok (.iload_n 1, 1) := by decide +kernel
theorem dX11_remove_46 : decode cX11_remove 46 = .ok (.iload_n 3, 1) := by decide +kernel
theorem dX11_remove_47 : decode cX11_remove 47 = .ok (.invokevirtual 89, 3) := by decide +kernel
theorem dX11_remove_50 : decode cX11_remove 50 = .ok (.istore 4, 2) := by decide +kernel
theorem dX11_remove_52 : decode cX11_remove 52 = .ok (.iconst 1, 1) := by decide +kernel
theorem dX11_remove_53 : decode cX11_remove 53 = .ok (.ireturn, 1) := by decide +kernel
theorem dX11_get_0 : decode cX11_get 0 = .ok (.aload_n 0, 1) := by decide +kernel
theorem dX11_get_1 : decode cX11_get 1 = .ok (.iconst 0, 1) := by decide +kernel
theorem dX11_get_2 : decode cX11_get 2 = .ok (.putfield 59, 3) := by decide +kernel
theorem dX11_get_5 : decode cX11_get 5 = .ok (.iload_n 1, 1) := by decide +kernel
theorem dX11_get_6 : decode cX11_get 6 = .ok (.invokestatic 67, 3) := by decide +kernel
theorem dX11_get_9 : decode cX11_get 9 = .ok (.ifCond .ne 9, 3) := by decide +kernel
theorem dX11_get_12 : decode cX11_get 12 = .ok (.aload_n 0, 1) := by decide +kernel
theorem dX11_get_13 : decode cX11_get 13 = .ok (.iconst 1, 1) := by decide +kernel
theorem dX11_get_14 : decode cX11_get 14 = .ok (.invokevirtual 92, 3) := by decide +kernel
theorem dX11_get_17 : decode cX11_get 17 = .ok (.ireturn, 1) := by decide +kernel
theorem dX11_get_18 : decode cX11_get 18 = .ok (.aload_n 0, 1) := by decide +kernel
theorem dX11_get_19 : decode cX11_get 19 = .ok (.iload_n 1, 1) := by decide +kernel
theorem dX11_get_20 : decode cX11_get 20 = .ok (.iload_n 2, 1) := by decide +kernel
theorem dX11_get_21 : decode cX11_get 21 = .ok (.invokevirtual 78, 3) := by decide +kernel
theorem dX11_get_24 : decode cX11_get 24 = .ok (.istore_n 3, 1) := by decide +kernel
theorem dX11_get_25 : decode cX11_get 25 = .ok (.aload_n 0, 1) := by decide +kernel
theorem dX11_get_26 : decode cX11_get 26 = .ok (.iload_n 1, 1) := by decide +kernel
theorem dX11_get_27 : decode cX11_get 27 = .ok (.iload_n 3, 1) := by decide +kernel
theorem dX11_get_28 : decode cX11_get 28 = .ok (.iload_n 2, 1) := by decide +kernel
theorem dX11_get_29 : decode cX11_get 29 = .ok (.invokevirtual 82, 3) := by decide +kernel
theorem dX11_get_32 : decode cX11_get 32 = .ok (.ifCond .eq 17, 3) := by decide +kernel
theorem dX11_get_35 : decode cX11_get 35 = .ok (.aload_n 0, 1) := by decide +kernel
theorem dX11_get_36 : decode cX11_get 36 = .ok (.getfield 19, 3) := by decide +kernel
theorem dX11_get_39 : decode cX11_get 39 = .ok (.bipush 64, 2) := by decide +kernel
theorem dX11_get_41 : decode cX11_get 41 = .ok (.iload_n 1, 1) := by decide +kernel
theorem dX11_get_42 : decode cX11_get 42 = .ok (.imul, 1) := by decide +kernel
theorem dX11_get_43 : decode cX11_get 43 = .ok (.iload_n 3, 1) := by decide +kernel
theorem dX11_get_44 : decode cX11_get 44 = .ok (.iadd, 1) := by decide +kernel
theorem dX11_get_45 : decode cX11_get 45 = .ok (.iaload, 1) := by decide +kernel
theorem dX11_get_46 : decode cX11_get 46 = .ok (.goto 8, 3) := by decide +kernel
theorem dX11_get_49 : decode cX11_get 49 = .ok (.aload_n 0, 1) := by decide +kernel
theorem dX11_get_50 : decode cX11_get 50 = .ok (.iconst 2, 1) := by decide +kernel
theorem dX11_get_51 : decode cX11_get 51 = .ok (.invokevirtual 92, 3) := by decide +kernel
theorem dX11_get_54 : decode cX11_get 54 = .ok (.ireturn, 1) := by decide +kernel
theorem dX11_near_0 : decode cX11_near 0 = .ok (.aload_n 0, 1) := by decide +kernel
theorem dX11_near_1 : decode cX11_near 1 = .ok (.iconst 0, 1) := by decide +kernel
theorem dX11_near_2 : decode cX11_near 2 = .ok (.putfield 59, 3) := by decide +kernel
theorem dX11_near_5 : decode cX11_near 5 = .ok (.iload_n 1, 1) := by decide +kernel
theorem dX11_near_6 : decode cX11_near 6 = .ok (.invokestatic 67, 3) := by decide +kernel
theorem dX11_near_9 : decode cX11_near 9 = .ok (.ifCond .eq 12, 3) := by decide +kernel
theorem dX11_near_12 : decode cX11_near 12 = .ok (.iload_n 2, 1) := by decide +kernel
theorem dX11_near_13 : decode cX11_near 13 = .ok (.ifCond .lt 8, 3) := by decide +kernel
theorem dX11_near_16 : decode cX11_near 16 = .ok (.iload_n 2, 1) := by decide +kernel
theorem dX11_near_17 : decode cX11_near 17 = .ok (.iconst 3, 1) := by decide +kernel
theorem dX11_near_18 : decode cX11_near 18 = .ok (.if_icmp .le 9, 3) := by decide +kernel
theorem dX11_near_21 : decode cX11_near 21 = .ok (.aload_n 0, 1) := by decide +kernel
theorem dX11_near_22 : decode cX11_near 22 = .ok (.iconst 1, 1) := by decide +kernel
theorem dX11_near_23 : decode cX11_near 23 = .ok (.invokevirtual 92, 3) := by decide +kernel
theorem dX11_near_26 : decode cX11_near 26 = .ok (.ireturn, 1) := by decide +kernel
theorem dX11_near_27 : decode cX11_near 27 = .ok (.aload_n 0, 1) := by decide +kernel
theorem dX11_near_28 : decode cX11_near 28 = .ok (.iload_n 1, 1) := by decide +kernel
theorem dX11_near_29 : decode cX11_near 29 = .ok (.iload_n 3, 1) := by decide +kernel
theorem dX11_near_30 : decode cX11_near 30 = .ok (.invokevirtual 78, 3) := by decide +kernel
theorem dX11_near_33 : decode cX11_near 33 = .ok (.istore 4, 2) := by decide +kernel
theorem dX11_near_35 : decode cX11_near 35 = .ok (.aload_n 0, 1) := by decide +kernel
theorem dX11_near_36 : decode cX11_near 36 = .ok (.iload_n 1, 1) := by decide +kernel
theorem dX11_near_37 : decode cX11_near 37 = .ok (.iload 4, 2) := by decide +kernel
theorem dX11_near_39 : decode cX11_near 39 = .ok (.iload_n 3, 1) := by decide +kernel
theorem dX11_near_40 : decode cX11_near 40 = .ok (.invokevirtual 82, 3) := by decide +kernel
theorem dX11_near_43 : decode cX11_near 43 = .ok (.istore 5, 2) := by decide +kernel
theorem dX11_near_45 : decode cX11_near 45 = .ok (.iload_n 2, 1) := by decide +kernel
theorem dX11_near_46 : decode cX11_near 46 = .ok (.iconst 1, 1) := by decide +kernel
theorem dX11_near_47 : decode cX11_near 47 = .ok (.if_icmp .ne 8, 3) := by decide +kernel
theorem dX11_near_50 : decode cX11_near 50 = .ok (.iload 4, 2) := by decide +kernel
theorem dX11_near_52 : decode cX11_near 52 = .ok (.goto 50, 3) := by decide +kernel
theorem dX11_near_55 : decode cX11_near 55 = .ok (.iload_n 2, 1) := by decide +kernel
theorem dX11_near_56 : decode cX11_near 56 = .ok (.iconst 2, 1) := by decide +kernel
theorem dX11_near_57 : decode cX11_near 57 = .ok (.if_icmp .ne 10, 3) := by decide +kernel
theorem dX11_near_60 : decode cX11_near 60 = .ok (.iload 4, 2) := by decide +kernel
theorem dX11_near_62 : decode cX11_near 62 = .ok (.iconst 1, 1) := by decide +kernel
theorem dX11_near_63 : decode cX11_near 63 = .ok (.isub, 1) := by decide +kernel
theorem dX11_near_64 : decode cX11_near 64 = .ok (.goto 38, 3) := by decide +kernel
theorem dX11_near_67 : decode cX11_near 67 = .ok (.iload_n 2, 1) := by decide +kernel
theorem dX11_near_68 : decode cX11_near 68 = .ok (.ifCond .ne 20, 3) := by decide +kernel
theorem dX11_near_71 : decode cX11_near 71 = .ok (.iload 5, 2) := by decide +kernel
theorem dX11_near_73 : decode cX11_near 73 = .ok (.ifCond .eq 8, 3) := by decide +kernel
theorem dX11_near_76 : decode cX11_near 76 = .ok (.iload 4, 2) := by decide +kernel
theorem dX11_near_78 : decode cX11_near 78 = .ok (.goto 24, 3) := by decide +kernel
theorem dX11_near_81 : decode cX11_near 81 = .ok (.iload 4, 2) := by decide +kernel
theorem dX11_near_83 : decode cX11_near 83 = .ok (.iconst 1, 1) := by decide +kernel
theorem dX11_near_84 : decode cX11_near 84 = .ok (.isub, 1) := by decide +kernel
theorem dX11_near_85 : decode cX11_near 85 = .ok (.goto 17, 3) := by decide +kernel
theorem dX11_near_88 : decode cX11_near 88 = .ok (.iload 5, 2) := by decide +kernel
theorem dX11_near_90 : decode cX11_near 90 = .ok (.ifCond .eq 10, 3) := by decide +kernel
theorem dX11_near_93 : decode cX11_near 93 = .ok (.iload 4, 2) := by decide +kernel
theorem dX11_near_95 : decode cX11_near 95 = .ok (.iconst 1, 1) := by decide +kernel
theorem dX11_near_96 : decode cX11_near 96 = .ok (.iadd, 1) := by decide +kernel
theorem dX11_near_97 : decode cX11_near 97 = .ok (.goto 5, 3) := by decide +kernel
theorem dX11_near_100 : decode cX11_near 100 = .ok (.iload 4, 2) := by decide +kernel
theorem dX11_near_102 : decode cX11_near 102 = .ok (.istore 6, 2) := by decide +kernel
theorem dX11_near_104 : decode cX11_near 104 = .ok (.iload 6, 2) := by decide +kernel
theorem dX11_near_106 : decode cX11_near 106 = .ok (.ifCond .lt 14, 3) := by decide +kernel
theorem dX11_near_109 : decode cX11_near 109 = .ok (.iload 6, 2) := by decide +kernel
theorem dX11_near_111 : decode cX11_near 111 = .ok (.aload_n 0, 1) := by decide +kernel
theorem dX11_near_112 : decode cX11_near 112 = .ok (.getfield 13, 3) := by decide +kernel
theorem dX11_near_115 : decode cX11_near 115 = .ok (.iload_n 1, 1) := by decide +kernel
theorem dX11_near_116 : decode cX11_near 116 = .ok (.iaload, 1) := by decide +kernel
theorem dX11_near_117 : decode cX11_near 117 = .ok (.if_icmp .lt 11, 3) := by decide +kernel
theorem dX11_near_120 : decode cX11_near 120 = .ok (.aload_n 0, 1) := by decide +kernel
theorem dX11_near_121 : decode cX11_near 121 = .ok (.iconst 2, 1) := by decide +kernel
theorem dX11_near_122 : decode cX11_near 122 = .ok (.invokevirtual 92, 3) := by decide +kernel
theorem dX11_near_125 : decode cX11_near 125 = .ok (.goto 15, 3) := by decide +kernel
theorem dX11_near_128 : decode cX11_near 128 = .ok (.aload_n 0, 1) := by decide +kernel
theorem dX11_near_129 : decode cX11_near 129 = .ok (.getfield 16, 3) := by decide +kernel
theorem dX11_near_132 : decode cX11_near 132 = .ok (.bipush 64, 2) := by decide +kernel
theorem dX11_near_134 : decode cX11_near 134 = .ok (.iload_n 1, 1) := by decide +kernel
theorem dX11_near_135 : decode cX11_near 135 = .ok (.imul, 1) := by decide +kernel
theorem dX11_near_136 : decode cX11_near 136 = .ok (.iload 6, 2) := by decide +kernel
theorem dX11_near_138 : decode cX11_near 138 = .ok (.iadd, 1) := by decide +kernel
theorem dX11_near_139 : decode cX11_near 139 = .ok (.iaload, 1) := by decide +kernel
theorem dX11_near_140 : decode cX11_near 140 = .ok (.ireturn, 1) := by decide +kernel
theorem dX11_size_0 : decode cX11_size 0 = .ok (.aload_n 0, 1) := by decide +kernel
theorem dX11_size_1 : decode cX11_size 1 = .ok (.iload_n 1, 1) := by decide +kernel
theorem dX11_size_2 : decode cX11_size 2 = .ok (.invokestatic 67, 3) := by decide +kernel
theorem dX11_size_5 : decode cX11_size 5 = .ok (.ifCond .eq 7, 3) := by decide +kernel
theorem dX11_size_8 : decode cX11_size 8 = .ok (.iconst 0, 1) := by decide +kernel
theorem dX11_size_9 : decode cX11_size 9 = .ok (.goto 4, 3) := by decide +kernel
theorem dX11_size_12 : decode cX11_size 12 = .ok (.iconst 1, 1) := by decide +kernel
theorem dX11_size_13 : decode cX11_size 13 = .ok (.putfield 59, 3) := by decide +kernel
theorem dX11_size_16 : decode cX11_size 16 = .ok (.aload_n 0, 1) := by decide +kernel
theorem dX11_size_17 : decode cX11_size 17 = .ok (.getfield 59, 3) := by decide +kernel
theorem dX11_size_20 : decode cX11_size 20 = .ok (.ifCond .ne 12, 3) := by decide +kernel
theorem dX11_size_23 : decode cX11_size 23 = .ok (.aload_n 0, 1) := by decide +kernel
theorem dX11_size_24 : decode cX11_size 24 = .ok (.getfield 13, 3) := by decide +kernel
theorem dX11_size_27 : decode cX11_size 27 = .ok (.iload_n 1, 1) := by decide +kernel
theorem dX11_size_28 : decode cX11_size 28 = .ok (.iaload, 1) := by decide +kernel
theorem dX11_size_29 : decode cX11_size 29 = .ok (.goto 4, 3) := by decide +kernel
theorem dX11_size_32 : decode cX11_size 32 = .ok (.iconst 0, 1) := by decide +kernel
theorem dX11_size_33 : decode cX11_size 33 = .ok (.ireturn, 1) := by decide +kernel
theorem dX11_rank_0 : decode cX11_rank 0 = .ok (.aload_n 0, 1) := by decide +kernel
theorem dX11_rank_1 : decode cX11_rank 1 = .ok (.iload_n 1, 1) := by decide +kernel
theorem dX11_rank_2 : decode cX11_rank 2 = .ok (.invokestatic 67, 3) := by decide +kernel
theorem dX11_rank_5 : decode cX11_rank 5 = .ok (.ifCond .eq 7, 3) := by decide +kernel
theorem dX11_rank_8 : decode cX11_rank 8 = .ok (.iconst 0, 1) := by decide +kernel
theorem dX11_rank_9 : decode cX11_rank 9 = .ok (.goto 4, 3) := by decide +kernel
theorem dX11_rank_12 : decode cX11_rank 12 = .ok (.iconst 1, 1) := by decide +kernel
theorem dX11_rank_13 : decode cX11_rank 13 = .ok (.putfield 59, 3) := by decide +kernel
theorem dX11_rank_16 : decode cX11_rank 16 = .ok (.aload_n 0, 1) := by decide +kernel
theorem dX11_rank_17 : decode cX11_rank 17 = .ok (.getfield 59, 3) := by decide +kernel
theorem dX11_rank_20 : decode cX11_rank 20 = .ok (.ifCond .ne 12, 3) := by decide +kernel
theorem dX11_rank_23 : decode cX11_rank 23 = .ok (.aload_n 0, 1) := by decide +kernel
theorem dX11_rank_24 : decode cX11_rank 24 = .ok (.iload_n 1, 1) := by decide +kernel
theorem dX11_rank_25 : decode cX11_rank 25 = .ok (.iload_n 2, 1) := by decide +kernel
theorem dX11_rank_26 : decode cX11_rank 26 = .ok (.invokevirtual 78, 3) := by decide +kernel
theorem dX11_rank_29 : decode cX11_rank 29 = .ok (.goto 4, 3) := by decide +kernel
theorem dX11_rank_32 : decode cX11_rank 32 = .ok (.iconst 0, 1) := by decide +kernel
theorem dX11_rank_33 : decode cX11_rank 33 = .ok (.ireturn, 1) := by decide +kernel
theorem dX11_select_0 : decode cX11_select 0 = .ok (.aload_n 0, 1) := by decide +kernel
theorem dX11_select_1 : decode cX11_select 1 = .ok (.iload_n 1, 1) := by decide +kernel
theorem dX11_select_2 : decode cX11_select 2 = .ok (.invokestatic 67, 3) := by decide +kernel
theorem dX11_select_5 : decode cX11_select 5 = .ok (.ifCond .ne 7, 3) := by decide +kernel
theorem dX11_select_8 : decode cX11_select 8 = .ok (.iconst 1, 1) := by decide +kernel
theorem dX11_select_9 : decode cX11_select 9 = .ok (.goto 22, 3) := by decide +kernel
theorem dX11_select_12 : decode cX11_select 12 = .ok (.iload_n 2, 1) := by decide +kernel
theorem dX11_select_13 : decode cX11_select 13 = .ok (.ifCond .lt 13, 3) := by decide +kernel
theorem dX11_select_16 : decode cX11_select 16 = .ok (.iload_n 2, 1) := by decide +kernel
theorem dX11_select_17 : decode cX11_select 17 = .ok (.aload_n 0, 1) := by decide +kernel
theorem dX11_select_18 : decode cX11_select 18 = .ok (.getfield 13, 3) := by decide +kernel
theorem dX11_select_21 : decode cX11_select 21 = .ok (.iload_n 1, 1) := by decide +kernel
theorem dX11_select_22 : decode cX11_select 22 = .ok (.iaload, 1) := by decide +kernel
theorem dX11_select_23 : decode cX11_select 23 = .ok (.if_icmp .lt 7, 3) := by decide +kernel
theorem dX11_select_26 : decode cX11_select 26 = .ok (.iconst 2, 1) := by decide +kernel
theorem dX11_select_27 : decode cX11_select 27 = .ok (.goto 4, 3) := by decide +kernel
theorem dX11_select_30 : decode cX11_select 30 = .ok (.iconst 0, 1) := by decide +kernel
theorem dX11_select_31 : decode cX11_select 31 = .ok (.putfield 59, 3) := by decide +kernel
theorem dX11_select_34 : decode cX11_select 34 = .ok (.aload_n 0, 1) := by decide +kernel
theorem dX11_select_35 : decode cX11_select 35 = .ok (.getfield 59, 3) := by decide +kernel
theorem dX11_select_38 : decode cX11_select 38 = .ok (.ifCond .ne 17, 3) := by decide +kernel
theorem dX11_select_41 : decode cX11_select 41 = .ok (.aload_n 0, 1) := by decide +kernel
theorem dX11_select_42 : decode cX11_select 42 = .ok (.getfield 16, 3) := by decide +kernel
theorem dX11_select_45 : decode cX11_select 45 = .ok (.bipush 64, 2) := by decide +kernel
theorem dX11_select_47 : decode cX11_select 47 = .ok (.iload_n 1, 1) := by decide +kernel
theorem dX11_select_48 : decode cX11_select 48 = .ok (.imul, 1) := by decide +kernel
theorem dX11_select_49 : decode cX11_select 49 = .ok (.iload_n 2, 1) := by decide +kernel
theorem dX11_select_50 : decode cX11_select 50 = .ok (.iadd, 1) := by decide +kernel
theorem dX11_select_51 : decode cX11_select 51 = .ok (.iaload, 1) := by decide +kernel
theorem dX11_select_52 : decode cX11_select 52 = .ok (.goto 4, 3) := by decide +kernel
theorem dX11_select_55 : decode cX11_select 55 = .ok (.iconst 0, 1) := by decide +kernel
theorem dX11_select_56 : decode cX11_select 56 = .ok (.ireturn, 1) := by decide +kernel
theorem dX11_sum_0 : decode cX11_sum 0 = .ok (.aload_n 0, 1) := by decide +kernel
theorem dX11_sum_1 : decode cX11_sum 1 = .ok (.iload_n 1, 1) := by decide +kernel
theorem dX11_sum_2 : decode cX11_sum 2 = .ok (.invokestatic 67, 3) := by decide +kernel
theorem dX11_sum_5 : decode cX11_sum 5 = .ok (.ifCond .eq 7, 3) := by decide +kernel
theorem dX11_sum_8 : decode cX11_sum 8 = .ok (.iconst 0, 1) := by decide +kernel
theorem dX11_sum_9 : decode cX11_sum 9 = .ok (.goto 4, 3) := by decide +kernel
theorem dX11_sum_12 : decode cX11_sum 12 = .ok (.iconst 1, 1) := by decide +kernel
theorem dX11_sum_13 : decode cX11_sum 13 = .ok (.putfield 59, 3) := by decide +kernel
theorem dX11_sum_16 : decode cX11_sum 16 = .ok (.lconst 0, 1) := by decide +kernel
theorem dX11_sum_17 : decode cX11_sum 17 = .ok (.lstore_n 3, 1) := by decide +kernel
theorem dX11_sum_18 : decode cX11_sum 18 = .ok (.iconst 0, 1) := by decide +kernel
theorem dX11_sum_19 : decode cX11_sum 19 = .ok (.istore 5, 2) := by decide +kernel
theorem dX11_sum_21 : decode cX11_sum 21 = .ok (.aload_n 0, 1) := by decide +kernel
theorem dX11_sum_22 : decode cX11_sum 22 = .ok (.getfield 59, 3) := by decide +kernel
theorem dX11_sum_25 : decode cX11_sum 25 = .ok (.ifCond .ne 36, 3) := by decide +kernel
theorem dX11_sum_28 : decode cX11_sum 28 = .ok (.iload 5, 2) := by decide +kernel
theorem dX11_sum_30 : decode cX11_sum 30 = .ok (.aload_n 0, 1) := by decide +kernel
theorem dX11_sum_31 : decode cX11_sum 31 = .ok (.iload_n 1, 1) := by decide +kernel
theorem dX11_sum_32 : decode cX11_sum 32 = .ok (.iload_n 2, 1) := by decide +kernel
theorem dX11_sum_33 : decode cX11_sum 33 = .ok (.invokevirtual 78, 3) := by decide +kernel
theorem dX11_sum_36 : decode cX11_sum 36 = .ok (.if_icmp .ge 25, 3) := by decide +kernel
theorem dX11_sum_39 : decode cX11_sum 39 = .ok (.lload_n 3, 1) := by decide +kernel
theorem dX11_sum_40 : decode cX11_sum 40 = .ok (.aload_n 0, 1) := by decide +kernel
theorem dX11_sum_41 : decode cX11_sum 41 = .ok (.getfield 19, 3) := by decide +kernel
theorem dX11_sum_44 : decode cX11_sum 44 = .ok (.bipush 64, 2) := by decide +kernel
theorem dX11_sum_46 : decode cX11_sum 46 = .ok (.iload_n 1, 1) := by decide +kernel
theorem dX11_sum_47 : decode cX11_sum 47 = .ok (.imul, 1) := by decide +kernel
theorem dX11_sum_48 : decode cX11_sum 48 = .ok (.iload 5, 2) := by decide +kernel
theorem dX11_sum_50 : decode cX11_sum 50 = .ok (.iadd, 1) := by decide +kernel
theorem dX11_sum_51 : decode cX11_sum 51 = .ok (.iaload, 1) := by decide +kernel
theorem dX11_sum_52 : decode cX11_sum 52 = .ok (.i2l, 1) := by decide +kernel
theorem dX11_sum_53 : decode cX11_sum 53 = .ok (.ladd, 1) := by decide +kernel
theorem dX11_sum_54 : decode cX11_sum 54 = .ok (.lstore_n 3, 1) := by decide +kernel
theorem dX11_sum_55 : decode cX11_sum 55 = .ok (.iinc 5 1, 3) := by decide +kernel
theorem dX11_sum_58 : decode cX11_sum 58 = .ok (.goto (-37), 3) := by decide +kernel
theorem dX11_sum_61 : decode cX11_sum 61 = .ok (.lload_n 3, 1) := by decide +kernel
theorem dX11_sum_62 : decode cX11_sum 62 = .ok (.lreturn, 1) := by decide +kernel
theorem dX11_range_0 : decode cX11_range 0 = .ok (.aload_n 0, 1) := by decide +kernel
theorem dX11_range_1 : decode cX11_range 1 = .ok (.iload_n 1, 1) := by decide +kernel
theorem dX11_range_2 : decode cX11_range 2 = .ok (.invokestatic 67, 3) := by decide +kernel
theorem dX11_range_5 : decode cX11_range 5 = .ok (.ifCond .eq 28, 3) := by decide +kernel
theorem dX11_range_8 : decode cX11_range 8 = .ok (.iload_n 2, 1) := by decide +kernel
theorem dX11_range_9 : decode cX11_range 9 = .ok (.ifCond .lt 24, 3) := by decide +kernel
theorem dX11_range_12 : decode cX11_range 12 = .ok (.iload_n 2, 1) := by decide +kernel
theorem dX11_range_13 : decode cX11_range 13 = .ok (.iconst 3, 1) := by decide +kernel
theorem dX11_range_14 : decode cX11_range 14 = .ok (.if_icmp .gt 19, 3) := by decide +kernel
theorem dX11_range_17 : decode cX11_range 17 = .ok (.iload_n 2, 1) := by decide +kernel
theorem dX11_range_18 : decode cX11_range 18 = .ok (.iconst 3, 1) := by decide +kernel
theorem dX11_range_19 : decode cX11_range 19 = .ok (.if_icmp .ne 18, 3) := by decide +kernel
theorem dX11_range_22 : decode cX11_range 22 = .ok (.aload_n 0, 1) := by decide +kernel
theorem dX11_range_23 : decode cX11_range 23 = .ok (.iload_n 1, 1) := by decide +kernel
theorem dX11_range_24 : decode cX11_range 24 = .ok (.iload 4, 2) := by decide +kernel
theorem dX11_range_26 : decode cX11_range 26 = .ok (.iload_n 3, 1) := by decide +kernel
theorem dX11_range_27 : decode cX11_range 27 = .ok (.invokevirtual 63, 3) := by decide +kernel
theorem dX11_range_30 : decode cX11_range 30 = .ok (.ifCond .eq 7, 3) := by decide +kernel
theorem dX11_range_33 : decode cX11_range 33 = .ok (.iconst 1, 1) := by decide +kernel
theorem dX11_range_34 : decode cX11_range 34 = .ok (.goto 4, 3) := by decide +kernel
theorem dX11_range_37 : decode cX11_range 37 = .ok (.iconst 0, 1) := by decide +kernel
theorem dX11_range_38 : decode cX11_range 38 = .ok (.putfield 59, 3) := by decide +kernel
theorem dX11_range_41 : decode cX11_range 41 = .ok (.aload_n 0, 1) := by decide +kernel
theorem dX11_range_42 : decode cX11_range 42 = .ok (.getfield 59, 3) := by decide +kernel
theorem dX11_range_45 : decode cX11_range 45 = .ok (.ifCond .le 4, 3) := by decide +kernel
theorem dX11_range_48 : decode cX11_range 48 = .ok (.return_, 1) := by decide +kernel
theorem dX11_range_49 : decode cX11_range 49 = .ok (.aload_n 0, 1) := by decide +kernel
theorem dX11_range_50 : decode cX11_range 50 = .ok (.getfield 25, 3) := by decide +kernel
theorem dX11_range_53 : decode cX11_range 53 = .ok (.iload_n 1, 1) := by decide +kernel
theorem dX11_range_54 : decode cX11_range 54 = .ok (.iload_n 2, 1) := by decide +kernel
theorem dX11_range_55 : decode cX11_range 55 = .ok (.iastore, 1) := by decide +kernel
theorem dX11_range_56 : decode cX11_range 56 = .ok (.aload_n 0, 1) := by decide +kernel
theorem dX11_range_57 : decode cX11_range 57 = .ok (.getfield 28, 3) := by decide +kernel
theorem dX11_range_60 : decode cX11_range 60 = .ok (.iload_n 1, 1) := by decide +kernel
theorem dX11_range_61 : decode cX11_range 61 = .ok (.iload_n 3, 1) := by decide +kernel
theorem dX11_range_62 : decode cX11_range 62 = .ok (.iastore, 1) := by decide +kernel
theorem dX11_range_63 : decode cX11_range 63 = .ok (.aload_n 0, 1) := by decide +kernel
theorem dX11_range_64 : decode cX11_range 64 = .ok (.getfield 31, 3) := by decide +kernel
theorem dX11_range_67 : decode cX11_range 67 = .ok (.iload_n 1, 1) := by decide +kernel
theorem dX11_range_68 : decode cX11_range 68 = .ok (.iload 4, 2) := by decide +kernel
theorem dX11_range_70 : decode cX11_range 70 = .ok (.iastore, 1) := by decide +kernel
theorem dX11_range_71 : decode cX11_range 71 = .ok (.return_, 1) := by decide +kernel
theorem dX11_begins_0 : decode cX11_begins 0 = .ok (.aload_n 0, 1) := by decide +kernel
theorem dX11_begins_1 : decode cX11_begins 1 = .ok (.getfield 25, 3) := by decide +kernel
theorem dX11_begins_4 : decode cX11_begins 4 = .ok (.iload_n 1, 1) := by decide +kernel
theorem dX11_begins_5 : decode cX11_begins 5 = .ok (.iaload, 1) := by decide +kernel
theorem dX11_begins_6 : decode cX11_begins 6 = .ok (.iconst 2, 1) := by decide +kernel
theorem dX11_begins_7 : decode cX11_begins 7 = .ok (.irem, 1) := by decide +kernel
theorem dX11_begins_8 : decode cX11_begins 8 = .ok (.iconst 1, 1) := by decide +kernel
theorem dX11_begins_9 : decode cX11_begins 9 = .ok (.if_icmp .ne 17, 3) := by decide +kernel
theorem dX11_begins_12 : decode cX11_begins 12 = .ok (.aload_n 0, 1) := by decide +kernel
theorem dX11_begins_13 : decode cX11_begins 13 = .ok (.iload_n 1, 1) := by decide +kernel
theorem dX11_begins_14 : decode cX11_begins 14 = .ok (.aload_n 0, 1) := by decide +kernel
theorem dX11_begins_15 : decode cX11_begins 15 = .ok (.getfield 28, 3) := by decide +kernel
theorem dX11_begins_18 : decode cX11_begins 18 = .ok (.iload_n 1, 1) := by decide +kernel
theorem dX11_begins_19 : decode cX11_begins 19 = .ok (.iaload, 1) := by decide +kernel
theorem dX11_begins_20 : decode cX11_begins 20 = .ok (.invokevirtual 78, 3) := by decide +kernel
theorem dX11_begins_23 : decode cX11_begins 23 = .ok (.goto 4, 3) := by decide +kernel
theorem dX11_begins_26 : decode cX11_begins 26 = .ok (.iconst 0, 1) := by decide +kernel
theorem dX11_begins_27 : decode cX11_begins 27 = .ok (.ireturn, 1) := by decide +kernel
theorem dX11_ends_0 : decode cX11_ends 0 = .ok (.aload_n 0, 1) := by decide +kernel
theorem dX11_ends_1 : decode cX11_ends 1 = .ok (.getfield 25, 3) := by decide +kernel
theorem dX11_ends_4 : decode cX11_ends 4 = .ok (.iload_n 1, 1) := by decide +kernel
theorem dX11_ends_5 : decode cX11_ends 5 = .ok (.iaload, 1) := by decide +kernel
theorem dX11_ends_6 : decode cX11_ends 6 = .ok (.iconst 1, 1) := by decide +kernel
theorem dX11_ends_7 : decode cX11_ends 7 = .ok (.if_icmp .le 17, 3) := by decide +kernel
theorem dX11_ends_10 : decode cX11_ends 10 = .ok (.aload_n 0, 1) := by decide +kernel
theorem dX11_ends_11 : decode cX11_ends 11 = .ok (.iload_n 1, 1) := by decide +kernel
theorem dX11_ends_12 : decode cX11_ends 12 = .ok (.aload_n 0, 1) := by decide +kernel
theorem dX11_ends_13 : decode cX11_ends 13 = .ok (.getfield 31, 3) := by decide +kernel
theorem dX11_ends_16 : decode cX11_ends 16 = .ok (.iload_n 1, 1) := by decide +kernel
theorem dX11_ends_17 : decode cX11_ends 17 = .ok (.iaload, 1) := by decide +kernel
theorem dX11_ends_18 : decode cX11_ends 18 = .ok (.invokevirtual 78, 3) := by decide +kernel
theorem dX11_ends_21 : decode cX11_ends 21 = .ok (.goto 9, 3) := by decide +kernel
theorem dX11_ends_24 : decode cX11_ends 24 = .ok (.aload_n 0, 1) := by decide +kernel
theorem dX11_ends_25 : decode cX11_ends 25 = .ok (.getfield 13, 3) := by decide +kernel
theorem dX11_ends_28 : decode cX11_ends 28 = .ok (.iload_n 1, 1) := by decide +kernel
theorem dX11_ends_29 : decode cX11_ends 29 = .ok (.iaload, 1) := by decide +kernel
theorem dX11_ends_30 : decode cX11_ends 30 = .ok (.ireturn, 1) := by decide +kernel
theorem dX11_within_0 : decode cX11_within 0 = .ok (.aload_n 0, 1) := by decide +kernel
theorem dX11_within_1 : decode cX11_within 1 = .ok (.iload_n 1, 1) := by decide +kernel
theorem dX11_within_2 : decode cX11_within 2 = .ok (.invokestatic 67, 3) := by decide +kernel
theorem dX11_within_5 : decode cX11_within 5 = .ok (.ifCond .eq 12, 3) := by decide +kernel
theorem dX11_within_8 : decode cX11_within 8 = .ok (.iload_n 2, 1) := by decide +kernel
theorem dX11_within_9 : decode cX11_within 9 = .ok (.ifCond .lt 8, 3) := by decide +kernel
theorem dX11_within_12 : decode cX11_within 12 = .ok (.iload_n 2, 1) := by decide +kernel
theorem dX11_within_13 : decode cX11_within 13 = .ok (.iconst 2, 1) := by decide +kernel
theorem dX11_within_14 : decode cX11_within 14 = .ok (.if_icmp .le 7, 3) := by decide +kernel
theorem dX11_within_17 : decode cX11_within 17 = .ok (.iconst 1, 1) := by decide +kernel
theorem dX11_within_18 : decode cX11_within 18 = .ok (.goto 4, 3) := by decide +kernel
theorem dX11_within_21 : decode cX11_within 21 = .ok (.iconst 0, 1) := by decide +kernel
theorem dX11_within_22 : decode cX11_within 22 = .ok (.putfield 59, 3) := by decide +kernel
theorem dX11_within_25 : decode cX11_within 25 = .ok (.aload_n 0, 1) := by decide +kernel
theorem dX11_within_26 : decode cX11_within 26 = .ok (.getfield 59, 3) := by decide +kernel
theorem dX11_within_29 : decode cX11_within 29 = .ok (.ifCond .le 5, 3) := by decide +kernel
theorem dX11_within_32 : decode cX11_within 32 = .ok (.iconst 0, 1) := by decide +kernel
theorem dX11_within_33 : decode cX11_within 33 = .ok (.ireturn, 1) := by decide +kernel
theorem dX11_within_34 : decode cX11_within 34 = .ok (.aload_n 0, 1) := by decide +kernel
theorem dX11_within_35 : decode cX11_within 35 = .ok (.iload_n 1, 1) := by decide +kernel
theorem dX11_within_36 : decode cX11_within 36 = .ok (.invokevirtual 96, 3) := by decide +kernel
theorem dX11_within_39 : decode cX11_within 39 = .ok (.istore_n 3, 1) := by decide +kernel
theorem dX11_within_40 : decode cX11_within 40 = .ok (.aload_n 0, 1) := by decide +kernel
theorem dX11_within_41 : decode cX11_within 41 = .ok (.iload_n 1, 1) := by decide +kernel
theorem dX11_within_42 : decode cX11_within 42 = .ok (.invokevirtual 99, 3) := by decide +kernel
theorem dX11_within_45 : decode cX11_within 45 = .ok (.istore 4, 2) := by decide +kernel
theorem dX11_within_47 : decode cX11_within 47 = .ok (.iload_n 2, 1) := by decide +kernel
theorem dX11_within_48 : decode cX11_within 48 = .ok (.ifCond .ne 8, 3) := by decide +kernel
theorem dX11_within_51 : decode cX11_within 51 = .ok (.iload 4, 2) := by decide +kernel
theorem dX11_within_53 : decode cX11_within 53 = .ok (.iload_n 3, 1) := by decide +kernel
theorem dX11_within_54 : decode cX11_within 54 = .ok (.isub, 1) := by decide +kernel
theorem dX11_within_55 : decode cX11_within 55 = .ok (.ireturn, 1) := by decide +kernel
theorem dX11_within_56 : decode cX11_within 56 = .ok (.iload 4, 2) := by decide +kernel
theorem dX11_within_58 : decode cX11_within 58 = .ok (.iload_n 3, 1) := by decide +kernel
theorem dX11_within_59 : decode cX11_within 59 = .ok (.if_icmp .ne 9, 3) := by decide +kernel
theorem dX11_within_62 : decode cX11_within 62 = .ok (.aload_n 0, 1) := by decide +kernel
theorem dX11_within_63 : decode cX11_within 63 = .ok (.iconst 2, 1) := by decide +kernel
theorem dX11_within_64 : decode cX11_within 64 = .ok (.invokevirtual 92, 3) := by decide +kernel
theorem dX11_within_67 : decode cX11_within 67 = .ok (.ireturn, 1) := by decide +kernel
theorem dX11_within_68 : decode cX11_within 68 = .ok (.aload_n 0, 1) := by decide +kernel
theorem dX11_within_69 : decode cX11_within 69 = .ok (.getfield 16, 3) := by decide +kernel
theorem dX11_within_72 : decode cX11_within 72 = .ok (.bipush 64, 2) := by decide +kernel
theorem dX11_within_74 : decode cX11_within 74 = .ok (.iload_n 1, 1) := by decide +kernel
theorem dX11_within_75 : decode cX11_within 75 = .ok (.imul, 1) := by decide +kernel
theorem dX11_within_76 : decode cX11_within 76 = .ok (.iload_n 2, 1) := by decide +kernel
theorem dX11_within_77 : decode cX11_within 77 = .ok (.iconst 1, 1) := by decide +kernel
theorem dX11_within_78 : decode cX11_within 78 = .ok (.if_icmp .ne 7, 3) := by decide +kernel
theorem dX11_within_81 : decode cX11_within 81 = .ok (.iload_n 3, 1) := by decide +kernel
theorem dX11_within_82 : decode cX11_within 82 = .ok (.goto 7, 3) := by decide +kernel
theorem dX11_within_85 : decode cX11_within 85 = .ok (.iload 4, 2) := by decide +kernel
theorem dX11_within_87 : decode cX11_within 87 = .ok (.iconst 1, 1) := by decide +kernel
theorem dX11_within_88 : decode cX11_within 88 = .ok (.isub, 1) := by decide +kernel
theorem dX11_within_89 : decode cX11_within 89 = .ok (.iadd, 1) := by decide +kernel
theorem dX11_within_90 : decode cX11_within 90 = .ok (.iaload, 1) := by decide +kernel
theorem dX11_within_91 : decode cX11_within 91 = .ok (.ireturn, 1) := by decide +kernel
theorem dX11_putWithin_0 : decode cX11_putWithin 0 = .ok (.aload_n 0, 1) := by decide +kernel
theorem dX11_putWithin_1 : decode cX11_putWithin 1 = .ok (.iload_n 1, 1) := by decide +kernel
theorem dX11_putWithin_2 : decode cX11_putWithin 2 = .ok (.invokestatic 67, 3) := by decide +kernel
theorem dX11_putWithin_5 : decode cX11_putWithin 5 = .ok (.ifCond .eq 55, 3) := by decide +kernel
theorem dX11_putWithin_8 : decode cX11_putWithin 8 = .ok (.aload_n 0, 1) := by decide +kernel
theorem dX11_putWithin_9 : decode cX11_putWithin 9 = .ok (.getfield 25, 3) := by decide +kernel
theorem dX11_putWithin_12 : decode cX11_putWithin 12 = .ok (.iload_n 1, 1) := by decide +kernel
theorem dX11_putWithin_13 : decode cX11_putWithin 13 = .ok (.iaload, 1) := by decide +kernel
theorem dX11_putWithin_14 : decode cX11_putWithin 14 = .ok (.iconst 2, 1) := by decide +kernel
theorem dX11_putWithin_15 : decode cX11_putWithin 15 = .ok (.irem, 1) := by decide +kernel
theorem dX11_putWithin_16 : decode cX11_putWithin 16 = .ok (.iconst 1, 1) := by decide +kernel
theorem dX11_putWithin_17 : decode cX11_putWithin 17 = .ok (.if_icmp .ne 18, 3) := by decide +kernel
theorem dX11_putWithin_20 : decode cX11_putWithin 20 = .ok (.aload_n 0, 1) := by decide +kernel
theorem dX11_putWithin_21 : decode cX11_putWithin 21 = .ok (.iload_n 1, 1) := by decide +kernel
theorem dX11_putWithin_22 : decode cX11_putWithin 22 = .ok (.iload_n 2, 1) := by decide +kernel
theorem dX11_putWithin_23 : decode cX11_putWithin 23 = .ok (.aload_n 0, 1) := by decide +kernel
theorem dX11_putWithin_24 : decode cX11_putWithin 24 = .ok (.getfield 28, 3) := by decide +kernel
theorem dX11_putWithin_27 : decode cX11_putWithin 27 = .ok (.iload_n 1, 1) := by decide +kernel
theorem dX11_putWithin_28 : decode cX11_putWithin 28 = .ok (.iaload, 1) := by decide +kernel
theorem dX11_putWithin_29 : decode cX11_putWithin 29 = .ok (.invokevirtual 63, 3) := by decide +kernel
theorem dX11_putWithin_32 : decode cX11_putWithin 32 = .ok (.ifCond .ne 28, 3) := by decide +kernel
theorem dX11_putWithin_35 : decode cX11_putWithin 35 = .ok (.aload_n 0, 1) := by decide +kernel
theorem dX11_putWithin_36 : decode cX11_putWithin 36 = .ok (.getfield 25, 3) := by decide +kernel
theorem dX11_putWithin_39 : decode cX11_putWithin 39 = .ok (.iload_n 1, 1) := by decide +kernel
theorem dX11_putWithin_40 : decode cX11_putWithin 40 = .ok (.iaload, 1) := by decide +kernel
theorem dX11_putWithin_41 : decode cX11_putWithin 41 = .ok (.iconst 1, 1) := by decide +kernel
theorem dX11_putWithin_42 : decode cX11_putWithin 42 = .ok (.if_icmp .le 22, 3) := by decide +kernel
theorem dX11_putWithin_45 : decode cX11_putWithin 45 = .ok (.aload_n 0, 1) := by decide +kernel
theorem dX11_putWithin_46 : decode cX11_putWithin 46 = .ok (.iload_n 1, 1) := by decide +kernel
theorem dX11_putWithin_47 : decode cX11_putWithin 47 = .ok (.iload_n 2, 1) := by decide +kernel
theorem dX11_putWithin_48 : decode cX11_putWithin 48 = .ok (.aload_n 0, 1) := by decide +kernel
theorem dX11_putWithin_49 : decode cX11_putWithin 49 = .ok (.getfield 31, 3) := by decide +kernel
theorem dX11_putWithin_52 : decode cX11_putWithin 52 = .ok (.iload_n 1, 1) := by decide +kernel
theorem dX11_putWithin_53 : decode cX11_putWithin 53 = .ok (.iaload, 1) := by decide +kernel
theorem dX11_putWithin_54 : decode cX11_putWithin 54 = .ok (.invokevirtual 63, 3) := by decide +kernel
theorem dX11_putWithin_57 : decode cX11_putWithin 57 = .ok (.ifCond .ne 7, 3) := by decide +kernel
theorem dX11_putWithin_60 : decode cX11_putWithin 60 = .ok (.iconst 1, 1) := by decide +kernel
theorem dX11_putWithin_61 : decode cX11_putWithin 61 = .ok (.goto 4, 3) := by decide +kernel
theorem dX11_putWithin_64 : decode cX11_putWithin 64 = .ok (.iconst 0, 1) := by decide +kernel
theorem dX11_putWithin_65 : decode cX11_putWithin 65 = .ok (.putfield 59, 3) := by decide +kernel
theorem dX11_putWithin_68 : decode cX11_putWithin 68 = .ok (.aload_n 0, 1) := by decide +kernel
theorem dX11_putWithin_69 : decode cX11_putWithin 69 = .ok (.getfield 59, 3) := by decide +kernel
theorem dX11_putWithin_72 : decode cX11_putWithin 72 = .ok (.ifCond .ne 17, 3) := by decide +kernel
theorem dX11_putWithin_75 : decode cX11_putWithin 75 = .ok (.aload_n 0, 1) := by decide +kernel
theorem dX11_putWithin_76 : decode cX11_putWithin 76 = .ok (.iload_n 1, 1) := by decide +kernel
theorem dX11_putWithin_77 : decode cX11_putWithin 77 = .ok (.iload_n 2, 1) := by decide +kernel
theorem dX11_putWithin_78 : decode cX11_putWithin 78 = .ok (.iload_n 3, 1) := by decide +kernel
theorem dX11_putWithin_79 : decode cX11_putWithin 79 = .ok (.invokevirtual 75, 3) := by decide +kernel
theorem dX11_putWithin_82 : decode cX11_putWithin 82 = .ok (.ifCond .eq 7, 3) := by decide +kernel
theorem dX11_putWithin_85 : decode cX11_putWithin 85 = .ok (.iconst 1, 1) := by decide +kernel
theorem dX11_putWithin_86 : decode cX11_putWithin 86 = .ok (.goto 4, 3) := by decide +kernel
theorem dX11_putWithin_89 : decode cX11_putWithin 89 = .ok (.iconst 0, 1) := by decide +kernel
theorem dX11_putWithin_90 : decode cX11_putWithin 90 = .ok (.ireturn, 1) := by decide +kernel
theorem dX11_poll_0 : decode cX11_poll 0 = .ok (.aload_n 0, 1) := by decide +kernel
theorem dX11_poll_1 : decode cX11_poll 1 = .ok (.iload_n 1, 1) := by decide +kernel
theorem dX11_poll_2 : decode cX11_poll 2 = .ok (.invokestatic 67, 3) := by decide +kernel
theorem dX11_poll_5 : decode cX11_poll 5 = .ok (.ifCond .ne 7, 3) := by decide +kernel
theorem dX11_poll_8 : decode cX11_poll 8 = .ok (.iconst 1, 1) := by decide +kernel
theorem dX11_poll_9 : decode cX11_poll 9 = .ok (.goto 21, 3) := by decide +kernel
theorem dX11_poll_12 : decode cX11_poll 12 = .ok (.aload_n 0, 1) := by decide +kernel
theorem dX11_poll_13 : decode cX11_poll 13 = .ok (.iload_n 1, 1) := by decide +kernel
theorem dX11_poll_14 : decode cX11_poll 14 = .ok (.invokevirtual 96, 3) := by decide +kernel
theorem dX11_poll_17 : decode cX11_poll 17 = .ok (.aload_n 0, 1) := by decide +kernel
theorem dX11_poll_18 : decode cX11_poll 18 = .ok (.iload_n 1, 1) := by decide +kernel
theorem dX11_poll_19 : decode cX11_poll 19 = .ok (.invokevirtual 99, 3) := by decide +kernel
theorem dX11_poll_22 : decode cX11_poll 22 = .ok (.if_icmp .ne 7, 3) := by decide +kernel
theorem dX11_poll_25 : decode cX11_poll 25 = .ok (.iconst 2, 1) := by decide +kernel
theorem dX11_poll_26 : decode cX11_poll 26 = .ok (.goto 4, 3) := by decide +kernel
theorem dX11_poll_29 : decode cX11_poll 29 = .ok (.iconst 0, 1) := by decide +kernel
theorem dX11_poll_30 : decode cX11_poll 30 = .ok (.putfield 59, 3) := by decide +kernel
theorem dX11_poll_33 : decode cX11_poll 33 = .ok (.aload_n 0, 1) := by decide +kernel
theorem dX11_poll_34 : decode cX11_poll 34 = .ok (.getfield 59, 3) := by decide +kernel
theorem dX11_poll_37 : decode cX11_poll 37 = .ok (.ifCond .le 7, 3) := by decide +kernel
theorem dX11_poll_40 : decode cX11_poll 40 = .ok (.iconst 0, 1) := by decide +kernel
theorem dX11_poll_41 : decode cX11_poll 41 = .ok (.goto 27, 3) := by decide +kernel
theorem dX11_poll_44 : decode cX11_poll 44 = .ok (.aload_n 0, 1) := by decide +kernel
theorem dX11_poll_45 : decode cX11_poll 45 = .ok (.iload_n 1, 1) := by decide +kernel
theorem dX11_poll_46 : decode cX11_poll 46 = .ok (.iload_n 2, 1) := by decide +kernel
theorem dX11_poll_47 : decode cX11_poll 47 = .ok (.ifCond .eq 13, 3) := by decide +kernel
theorem dX11_poll_50 : decode cX11_poll 50 = .ok (.aload_n 0, 1) := by decide +kernel
theorem dX11_poll_51 : decode cX11_poll 51 = .ok (.iload_n 1, 1) := by decide +kernel
theorem dX11_poll_52 : decode cX11_poll 52 = .ok (.invokevirtual 99, 3) := by decide +kernel
theorem dX11_poll_55 : decode cX11_poll 55 = .ok (.iconst 1, 1) := by decide +kernel
theorem dX11_poll_56 : decode cX11_poll 56 = .ok (.isub, 1) := by decide +kernel
theorem dX11_poll_57 : decode cX11_poll 57 = .ok (.goto 8, 3) := by decide +kernel
theorem dX11_poll_60 : decode cX11_poll 60 = .ok (.aload_n 0, 1) := by decide +kernel
theorem dX11_poll_61 : decode cX11_poll 61 = .ok (.iload_n 1, 1) := by decide +kernel
theorem dX11_poll_62 : decode cX11_poll 62 = .ok (.invokevirtual 96, 3) := by decide +kernel
theorem dX11_poll_65 : decode cX11_poll 65 = .ok (.invokevirtual 89, 3) := by decide +kernel
theorem dX11_poll_68 : decode cX11_poll 68 = .ok (.ireturn, 1) := by decide +kernel
theorem dX11_iterate_0 : decode cX11_iterate 0 = .ok (.aload_n 0, 1) := by decide +kernel
theorem dX11_iterate_1 : decode cX11_iterate 1 = .ok (.iload_n 1, 1) := by decide +kernel
theorem dX11_iterate_2 : decode cX11_iterate 2 = .ok (.invokestatic 67, 3) := by decide +kernel
theorem dX11_iterate_5 : decode cX11_iterate 5 = .ok (.ifCond .eq 7, 3) := by decide +kernel
theorem dX11_iterate_8 : decode cX11_iterate 8 = .ok (.iconst 0, 1) := by decide +kernel
theorem dX11_iterate_9 : decode cX11_iterate 9 = .ok (.goto 4, 3) := by decide +kernel
theorem dX11_iterate_12 : decode cX11_iterate 12 = .ok (.iconst 1, 1) := by decide +kernel
theorem dX11_iterate_13 : decode cX11_iterate 13 = .ok (.putfield 59, 3) := by decide +kernel
theorem dX11_iterate_16 : decode cX11_iterate 16 = .ok (.aload_n 0, 1) := by decide +kernel
theorem dX11_iterate_17 : decode cX11_iterate 17 = .ok (.getfield 59, 3) := by decide +kernel
theorem dX11_iterate_20 : decode cX11_iterate 20 = .ok (.ifCond .le 4, 3) := by decide +kernel
theorem dX11_iterate_23 : decode cX11_iterate 23 = .ok (.return_, 1) := by decide +kernel
theorem dX11_iterate_24 : decode cX11_iterate 24 = .ok (.aload_n 0, 1) := by decide +kernel
theorem dX11_iterate_25 : decode cX11_iterate 25 = .ok (.iload_n 1, 1) := by decide +kernel
theorem dX11_iterate_26 : decode cX11_iterate 26 = .ok (.invokevirtual 96, 3) := by decide +kernel
theorem dX11_iterate_29 : decode cX11_iterate 29 = .ok (.istore_n 3, 1) := by decide +kernel
theorem dX11_iterate_30 : decode cX11_iterate 30 = .ok (.aload_n 0, 1) := by decide +kernel
theorem dX11_iterate_31 : decode cX11_iterate 31 = .ok (.iload_n 1, 1) := by decide +kernel
theorem dX11_iterate_32 : decode cX11_iterate 32 = .ok (.invokevirtual 99, 3) := by decide +kernel
theorem dX11_iterate_35 : decode cX11_iterate 35 = .ok (.istore 4, 2) := by decide +kernel
theorem dX11_iterate_37 : decode cX11_iterate 37 = .ok (.aload_n 0, 1) := by decide +kernel
theorem dX11_iterate_38 : decode cX11_iterate 38 = .ok (.getfield 34, 3) := by decide +kernel
theorem dX11_iterate_41 : decode cX11_iterate 41 = .ok (.iload_n 1, 1) := by decide +kernel
theorem dX11_iterate_42 : decode cX11_iterate 42 = .ok (.iconst 1, 1) := by decide +kernel
theorem dX11_iterate_43 : decode cX11_iterate 43 = .ok (.bastore, 1) := by decide +kernel
theorem dX11_iterate_44 : decode cX11_iterate 44 = .ok (.aload_n 0, 1) := by decide +kernel
theorem dX11_iterate_45 : decode cX11_iterate 45 = .ok (.getfield 38, 3) := by decide +kernel
theorem dX11_iterate_48 : decode cX11_iterate 48 = .ok (.iload_n 1, 1) := by decide +kernel
theorem dX11_iterate_49 : decode cX11_iterate 49 = .ok (.aload_n 0, 1) := by decide +kernel
theorem dX11_iterate_50 : decode cX11_iterate 50 = .ok (.getfield 22, 3) := by decide +kernel
theorem dX11_iterate_53 : decode cX11_iterate 53 = .ok (.iload_n 1, 1) := by decide +kernel
theorem dX11_iterate_54 : decode cX11_iterate 54 = .ok (.iaload, 1) := by decide +kernel
theorem dX11_iterate_55 : decode cX11_iterate 55 = .ok (.iastore, 1) := by decide +kernel
theorem dX11_iterate_56 : decode cX11_iterate 56 = .ok (.aload_n 0, 1) := by decide +kernel
theorem dX11_iterate_57 : decode cX11_iterate 57 = .ok (.getfield 41, 3) := by decide +kernel
theorem dX11_iterate_60 : decode cX11_iterate 60 = .ok (.iload_n 1, 1) := by decide +kernel
theorem dX11_iterate_61 : decode cX11_iterate 61 = .ok (.iload 4, 2) := by decide +kernel
theorem dX11_iterate_63 : decode cX11_iterate 63 = .ok (.iload_n 3, 1) := by decide +kernel
theorem dX11_iterate_64 : decode cX11_iterate 64 = .ok (.isub, 1) := by decide +kernel
theorem dX11_iterate_65 : decode cX11_iterate 65 = .ok (.iastore, 1) := by decide +kernel
theorem dX11_iterate_66 : decode cX11_iterate 66 = .ok (.aload_n 0, 1) := by decide +kernel
theorem dX11_iterate_67 : decode cX11_iterate 67 = .ok (.getfield 44, 3) := by decide +kernel
theorem dX11_iterate_70 : decode cX11_iterate 70 = .ok (.iload_n 1, 1) := by decide +kernel
theorem dX11_iterate_71 : decode cX11_iterate 71 = .ok (.iconst 0, 1) := by decide +kernel
theorem dX11_iterate_72 : decode cX11_iterate 72 = .ok (.iastore, 1) := by decide +kernel
theorem dX11_iterate_73 : decode cX11_iterate 73 = .ok (.aload_n 0, 1) := by decide +kernel
theorem dX11_iterate_74 : decode cX11_iterate 74 = .ok (.getfield 50, 3) := by decide +kernel
theorem dX11_iterate_77 : decode cX11_iterate 77 = .ok (.iload_n 1, 1) := by decide +kernel
theorem dX11_iterate_78 : decode cX11_iterate 78 = .ok (.iconst 0, 1) := by decide +kernel
theorem dX11_iterate_79 : decode cX11_iterate 79 = .ok (.bastore, 1) := by decide +kernel
theorem dX11_iterate_80 : decode cX11_iterate 80 = .ok (.iconst 0, 1) := by decide +kernel
theorem dX11_iterate_81 : decode cX11_iterate 81 = .ok (.istore 5, 2) := by decide +kernel
theorem dX11_iterate_83 : decode cX11_iterate 83 = .ok (.iload 5, 2) := by decide +kernel
theorem dX11_iterate_85 : decode cX11_iterate 85 = .ok (.iload 4, 2) := by decide +kernel
theorem dX11_iterate_87 : decode cX11_iterate 87 = .ok (.iload_n 3, 1) := by decide +kernel
theorem dX11_iterate_88 : decode cX11_iterate 88 = .ok (.isub, 1) := by decide +kernel
theorem dX11_iterate_89 : decode cX11_iterate 89 = .ok (.if_icmp .ge 49, 3) := by decide +kernel
theorem dX11_iterate_92 : decode cX11_iterate 92 = .ok (.aload_n 0, 1) := by decide +kernel
theorem dX11_iterate_93 : decode cX11_iterate 93 = .ok (.getfield 47, 3) := by decide +kernel
theorem dX11_iterate_96 : decode cX11_iterate 96 = .ok (.bipush 64, 2) := by decide +kernel
theorem dX11_iterate_98 : decode cX11_iterate 98 = .ok (.iload_n 1, 1) := by decide +kernel
theorem dX11_iterate_99 : decode cX11_iterate 99 = .ok (.imul, 1) := by decide +kernel
theorem dX11_iterate_100 : decode cX11_iterate 100 = .ok (.iload 5, 2) := by decide +kernel
theorem dX11_iterate_102 : decode cX11_iterate 102 = .ok (.iadd, 1) := by decide +kernel
theorem dX11_iterate_103 : decode cX11_iterate 103 = .ok (.aload_n 0, 1) := by decide +kernel
theorem dX11_iterate_104 : decode cX11_iterate 104 = .ok (.getfield 16, 3) := by decide +kernel
theorem dX11_iterate_107 : decode cX11_iterate 107 = .ok (.bipush 64, 2) := by decide +kernel
theorem dX11_iterate_109 : decode cX11_iterate 109 = .ok (.iload_n 1, 1) := by decide +kernel
theorem dX11_iterate_110 : decode cX11_iterate 110 = .ok (.imul, 1) := by decide +kernel
theorem dX11_iterate_111 : decode cX11_iterate 111 = .ok (.iload_n 2, 1) := by decide +kernel
theorem dX11_iterate_112 : decode cX11_iterate 112 = .ok (.ifCond .eq 13, 3) := by decide +kernel
theorem dX11_iterate_115 : decode cX11_iterate 115 = .ok (.iload 4, 2) := by decide +kernel
theorem dX11_iterate_117 : decode cX11_iterate 117 = .ok (.iconst 1, 1) := by decide +kernel
theorem dX11_iterate_118 : decode cX11_iterate 118 = .ok (.isub, 1) := by decide +kernel
theorem dX11_iterate_119 : decode cX11_iterate 119 = .ok (.iload 5, 2) := by decide +kernel
theorem dX11_iterate_121 : decode cX11_iterate 121 = .ok (.isub, 1) := by decide +kernel
theorem dX11_iterate_122 : decode cX11_iterate 122 = .ok (.goto 7, 3) := by decide +kernel
theorem dX11_iterate_125 : decode cX11_iterate 125 = .ok (.iload_n 3, 1) := by decide +kernel
theorem dX11_iterate_126 : decode cX11_iterate 126 = .ok (.iload 5, 2) := by decide +kernel
theorem dX11_iterate_128 : decode cX11_iterate 128 = .ok (.iadd, 1) := by decide +kernel
theorem dX11_iterate_129 : decode cX11_iterate 129 = .ok (.iadd, 1) := by decide +kernel
theorem dX11_iterate_130 : decode cX11_iterate 130 = .ok (.iaload, 1) := by decide +kernel
theorem dX11_iterate_131 : decode cX11_iterate 131 = .ok (.iastore, 1) := by decide +kernel
theorem dX11_iterate_132 : decode cX11_iterate 132 = .ok (.iinc 5 1, 3) := by decide +kernel
theorem dX11_iterate_135 : decode cX11_iterate 135 = .ok (.goto (-52), 3) := by decide +kernel
theorem dX11_iterate_138 : decode cX11_iterate 138 = .ok (.return_, 1) := by decide +kernel
theorem dX11_next_0 : decode cX11_next 0 = .ok (.aload_n 0, 1) := by decide +kernel
theorem dX11_next_1 : decode cX11_next 1 = .ok (.iload_n 1, 1) := by decide +kernel
theorem dX11_next_2 : decode cX11_next 2 = .ok (.invokestatic 67, 3) := by decide +kernel
theorem dX11_next_5 : decode cX11_next 5 = .ok (.ifCond .ne 7, 3) := by decide +kernel
theorem dX11_next_8 : decode cX11_next 8 = .ok (.iconst 1, 1) := by decide +kernel
theorem dX11_next_9 : decode cX11_next 9 = .ok (.goto 51, 3) := by decide +kernel
theorem dX11_next_12 : decode cX11_next 12 = .ok (.aload_n 0, 1) := by decide +kernel
theorem dX11_next_13 : decode cX11_next 13 = .ok (.getfield 34, 3) := by decide +kernel
theorem dX11_next_16 : decode cX11_next 16 = .ok (.iload_n 1, 1) := by decide +kernel
theorem dX11_next_17 : decode cX11_next 17 = .ok (.baload, 1) := by decide +kernel
theorem dX11_next_18 : decode cX11_next 18 = .ok (.ifCond .eq 18, 3) := by decide +kernel
theorem dX11_next_21 : decode cX11_next 21 = .ok (.aload_n 0, 1) := by decide +kernel
theorem dX11_next_22 : decode cX11_next 22 = .ok (.getfield 38, 3) := by decide +kernel
theorem dX11_next_25 : decode cX11_next 25 = .ok (.iload_n 1, 1) := by decide +kernel
theorem dX11_next_26 : decode cX11_next 26 = .ok (.iaload, 1) := by decide +kernel
theorem dX11_next_27 : decode cX11_next 27 = .ok (.aload_n 0, 1) := by decide +kernel
theorem dX11_next_28 : decode cX11_next 28 = .ok (.getfield 22, 3) := by decide +kernel
theorem dX11_next_31 : decode cX11_next 31 = .ok (.iload_n 1, 1) := by decide +kernel
theorem dX11_next_32 : decode cX11_next 32 = .ok (.iaload, 1) := by decide +kernel
theorem dX11_next_33 : decode cX11_next 33 = .ok (.if_icmp .eq 7, 3) := by decide +kernel
theorem dX11_next_36 : decode cX11_next 36 = .ok (.iconst 2, 1) := by decide +kernel
theorem dX11_next_37 : decode cX11_next 37 = .ok (.goto 23, 3) := by decide +kernel
theorem dX11_next_40 : decode cX11_next 40 = .ok (.aload_n 0, 1) := by decide +kernel
theorem dX11_next_41 : decode cX11_next 41 = .ok (.getfield 44, 3) := by decide +kernel
theorem dX11_next_44 : decode cX11_next 44 = .ok (.iload_n 1, 1) := by decide +kernel
theorem dX11_next_45 : decode cX11_next 45 = .ok (.iaload, 1) := by decide +kernel
theorem dX11_next_46 : decode cX11_next 46 = .ok (.aload_n 0, 1) := by decide +kernel
theorem dX11_next_47 : decode cX11_next 47 = .ok (.getfield 41, 3) := by decide +kernel
theorem dX11_next_50 : decode cX11_next 50 = .ok (.iload_n 1, 1) := by decide +kernel
theorem dX11_next_51 : decode cX11_next 51 = .ok (.iaload, 1) := by decide +kernel
theorem dX11_next_52 : decode cX11_next 52 = .ok (.if_icmp .ne 7, 3) := by decide +kernel
theorem dX11_next_55 : decode cX11_next 55 = .ok (.iconst 3, 1) := by decide +kernel
theorem dX11_next_56 : decode cX11_next 56 = .ok (.goto 4, 3) := by decide +kernel
theorem dX11_next_59 : decode cX11_next 59 = .ok (.iconst 0, 1) := by decide +kernel
theorem dX11_next_60 : decode cX11_next 60 = .ok (.putfield 59, 3) := by decide +kernel
theorem dX11_next_63 : decode cX11_next 63 = .ok (.aload_n 0, 1) := by decide +kernel
theorem dX11_next_64 : decode cX11_next 64 = .ok (.getfield 59, 3) := by decide +kernel
theorem dX11_next_67 : decode cX11_next 67 = .ok (.ifCond .le 5, 3) := by decide +kernel
theorem dX11_next_70 : decode cX11_next 70 = .ok (.iconst 0, 1) := by decide +kernel
theorem dX11_next_71 : decode cX11_next 71 = .ok (.ireturn, 1) := by decide +kernel
theorem dX11_next_72 : decode cX11_next 72 = .ok (.aload_n 0, 1) := by decide +kernel
theorem dX11_next_73 : decode cX11_next 73 = .ok (.getfield 44, 3) := by decide +kernel
theorem dX11_next_76 : decode cX11_next 76 = .ok (.iload_n 1, 1) := by decide +kernel
theorem dX11_next_77 : decode cX11_next 77 = .ok (.dup2, 1) := by decide +kernel
theorem dX11_next_78 : decode cX11_next 78 = .ok (.iaload, 1) := by decide +kernel
theorem dX11_next_79 : decode cX11_next 79 = .ok (.iconst 1, 1) := by decide +kernel
theorem dX11_next_80 : decode cX11_next 80 = .ok (.iadd, 1) := by decide +kernel
theorem dX11_next_81 : decode cX11_next 81 = .ok (.iastore, 1) := by decide +kernel
theorem dX11_next_82 : decode cX11_next 82 = .ok (.aload_n 0, 1) := by decide +kernel
theorem dX11_next_83 : decode cX11_next 83 = .ok (.getfield 50, 3) := by decide +kernel
theorem dX11_next_86 : decode cX11_next 86 = .ok (.iload_n 1, 1) := by decide +kernel
theorem dX11_next_87 : decode cX11_next 87 = .ok (.iconst 1, 1) := by decide +kernel
theorem dX11_next_88 : decode cX11_next 88 = .ok (.bastore, 1) := by decide +kernel
theorem dX11_next_89 : decode cX11_next 89 = .ok (.aload_n 0, 1) := by decide +kernel
theorem dX11_next_90 : decode cX11_next 90 = .ok (.getfield 47, 3) := by decide +kernel
theorem dX11_next_93 : decode cX11_next 93 = .ok (.bipush 64, 2) := by decide +kernel
theorem dX11_next_95 : decode cX11_next 95 = .ok (.iload_n 1, 1) := by decide +kernel
theorem dX11_next_96 : decode cX11_next 96 = .ok (.imul, 1) := by decide +kernel
theorem dX11_next_97 : decode cX11_next 97 = .ok (.aload_n 0, 1) := by decide +kernel
theorem dX11_next_98 : decode cX11_next 98 = .ok (.getfield 44, 3) := by decide +kernel
theorem dX11_next_101 : decode cX11_next 101 = .ok (.iload_n 1, 1) := by decide +kernel
theorem dX11_next_102 : decode cX11_next 102 = .ok (.iaload, 1) := by decide +kernel
theorem dX11_next_103 : decode cX11_next 103 = .ok (.iadd, 1) := by decide +kernel
theorem dX11_next_104 : decode cX11_next 104 = .ok (.iconst 1, 1) := by decide +kernel
theorem dX11_next_105 : decode cX11_next 105 = .ok (.isub, 1) := by decide +kernel
theorem dX11_next_106 : decode cX11_next 106 = .ok (.iaload, 1) := by decide +kernel
theorem dX11_next_107 : decode cX11_next 107 = .ok (.ireturn, 1) := by decide +kernel
theorem dX11_drop_0 : decode cX11_drop 0 = .ok (.aload_n 0, 1) := by decide +kernel
theorem dX11_drop_1 : decode cX11_drop 1 = .ok (.iload_n 1, 1) := by decide +kernel
theorem dX11_drop_2 : decode cX11_drop 2 = .ok (.invokestatic 67, 3) := by decide +kernel
theorem dX11_drop_5 : decode cX11_drop 5 = .ok (.ifCond .ne 7, 3) := by decide +kernel
theorem dX11_drop_8 : decode cX11_drop 8 = .ok (.iconst 1, 1) := by decide +kernel
theorem dX11_drop_9 : decode cX11_drop 9 = .ok (.goto 41, 3) := by decide +kernel
theorem dX11_drop_12 : decode cX11_drop 12 = .ok (.aload_n 0, 1) := by decide +kernel
theorem dX11_drop_13 : decode cX11_drop 13 = .ok (.getfield 34, 3) := by decide +kernel
theorem dX11_drop_16 : decode cX11_drop 16 = .ok (.iload_n 1, 1) := by decide +kernel
theorem dX11_drop_17 : decode cX11_drop 17 = .ok (.baload, 1) := by decide +kernel
theorem dX11_drop_18 : decode cX11_drop 18 = .ok (.ifCond .eq 27, 3) := by decide +kernel
theorem dX11_drop_21 : decode cX11_drop 21 = .ok (.aload_n 0, 1) := by decide +kernel
theorem dX11_drop_22 : decode cX11_drop 22 = .ok (.getfield 38, 3) := by decide +kernel
theorem dX11_drop_25 : decode cX11_drop 25 = .ok (.iload_n 1, 1) := by decide +kernel
theorem dX11_drop_26 : decode cX11_drop 26 = .ok (.iaload, 1) := by decide +kernel
theorem dX11_drop_27 : decode cX11_drop 27 = .ok (.aload_n 0, 1) := by decide +kernel
theorem dX11_drop_28 : decode cX11_drop 28 = .ok (.getfield 22, 3) := by decide +kernel
theorem dX11_drop_31 : decode cX11_drop 31 = .ok (.iload_n 1, 1) := by decide +kernel
theorem dX11_drop_32 : decode cX11_drop 32 = .ok (.iaload, 1) := by decide +kernel
theorem dX11_drop_33 : decode cX11_drop 33 = .ok (.if_icmp .ne 12, 3) := by decide +kernel
theorem dX11_drop_36 : decode cX11_drop 36 = .ok (.aload_n 0, 1) := by decide +kernel
theorem dX11_drop_37 : decode cX11_drop 37 = .ok (.getfield 50, 3) := by decide +kernel
theorem dX11_drop_40 : decode cX11_drop 40 = .ok (.iload_n 1, 1) := by decide +kernel
theorem dX11_drop_41 : decode cX11_drop 41 = .ok (.baload, 1) := by decide +kernel
theorem dX11_drop_42 : decode cX11_drop 42 = .ok (.ifCond .ne 7, 3) := by decide +kernel
theorem dX11_drop_45 : decode cX11_drop 45 = .ok (.iconst 2, 1) := by decide +kernel
theorem dX11_drop_46 : decode cX11_drop 46 = .ok (.goto 4, 3) := by decide +kernel
theorem dX11_drop_49 : decode cX11_drop 49 = .ok (.iconst 0, 1) := by decide +kernel
theorem dX11_drop_50 : decode cX11_drop 50 = .ok (.putfield 59, 3) := by decide +kernel
theorem dX11_drop_53 : decode cX11_drop 53 = .ok (.aload_n 0, 1) := by decide +kernel
theorem dX11_drop_54 : decode cX11_drop 54 = .ok (.getfield 59, 3) := by decide +kernel
theorem dX11_drop_57 : decode cX11_drop 57 = .ok (.ifCond .le 4, 3) := by decide +kernel
theorem dX11_drop_60 : decode cX11_drop 60 = .ok (.return_, 1) := by decide +kernel
theorem dX11_drop_61 : decode cX11_drop 61 = .ok (.aload_n 0, 1) := by decide +kernel
theorem dX11_drop_62 : decode cX11_drop 62 = .ok (.iload_n 1, 1) := by decide +kernel
theorem dX11_drop_63 : decode cX11_drop 63 = .ok (.aload_n 0, 1) := by decide +kernel
theorem dX11_drop_64 : decode cX11_drop 64 = .ok (.iload_n 1, 1) := by decide +kernel
theorem dX11_drop_65 : decode cX11_drop 65 = .ok (.aload_n 0, 1) := by decide +kernel
theorem dX11_drop_66 : decode cX11_drop 66 = .ok (.getfield 47, 3) := by decide +kernel
theorem dX11_drop_69 : decode cX11_drop 69 = .ok (.bipush 64, 2) := by decide +kernel
theorem dX11_drop_71 : decode cX11_drop 71 = .ok (.iload_n 1, 1) := by decide +kernel
theorem dX11_drop_72 : decode cX11_drop 72 = .ok (.imul, 1) := by decide +kernel
theorem dX11_drop_73 : decode cX11_drop 73 = .ok (.aload_n 0, 1) := by decide +kernel
theorem dX11_drop_74 : decode cX11_drop 74 = .ok (.getfield 44, 3) := by decide +kernel
theorem dX11_drop_77 : decode cX11_drop 77 = .ok (.iload_n 1, 1) := by decide +kernel
theorem dX11_drop_78 : decode cX11_drop 78 = .ok (.iaload, 1) := by decide +kernel
theorem dX11_drop_79 : decode cX11_drop 79 = .ok (.iadd, 1) := by decide +kernel
theorem dX11_drop_80 : decode cX11_drop 80 = .ok (.iconst 1, 1) := by decide +kernel
theorem dX11_drop_81 : decode cX11_drop 81 = .ok (.isub, 1) := by decide +kernel
theorem dX11_drop_82 : decode cX11_drop 82 = .ok (.iaload, 1) := by decide +kernel
theorem dX11_drop_83 : decode cX11_drop 83 = .ok (.invokevirtual 78, 3) := by decide +kernel
theorem dX11_drop_86 : decode cX11_drop 86 = .ok (.invokevirtual 89, 3) := by decide +kernel
theorem dX11_drop_89 : decode cX11_drop 89 = .ok (.istore_n 2, 1) := by decide +kernel
theorem dX11_drop_90 : decode cX11_drop 90 = .ok (.aload_n 0, 1) := by decide +kernel
theorem dX11_drop_91 : decode cX11_drop 91 = .ok (.getfield 38, 3) := by decide +kernel
theorem dX11_drop_94 : decode cX11_drop 94 = .ok (.iload_n 1, 1) := by decide +kernel
theorem dX11_drop_95 : decode cX11_drop 95 = .ok (.aload_n 0, 1) := by decide +kernel
theorem dX11_drop_96 : decode cX11_drop 96 = .ok (.getfield 22, 3) := by decide +kernel
theorem dX11_drop_99 : decode cX11_drop 99 = .ok (.iload_n 1, 1) := by decide +kernel
theorem dX11_drop_100 : decode cX11_drop 100 = .ok (.iaload, 1) := by decide +kernel
theorem dX11_drop_101 : decode cX11_drop 101 = .ok (.iastore, 1) := by decide +kernel
theorem dX11_drop_102 : decode cX11_drop 102 = .ok (.aload_n 0, 1) := by decide +kernel
theorem dX11_drop_103 : decode cX11_drop 103 = .ok (.getfield 50, 3) := by decide +kernel
theorem dX11_drop_106 : decode cX11_drop 106 = .ok (.iload_n 1, 1) := by decide +kernel
theorem dX11_drop_107 : decode cX11_drop 107 = .ok (.iconst 0, 1) := by decide +kernel
theorem dX11_drop_108 : decode cX11_drop 108 = .ok (.bastore, 1) := by decide +kernel
theorem dX11_drop_109 : decode cX11_drop 109 = .ok (.return_, 1) := by decide +kernel
theorem dX11_join_0 : decode cX11_join 0 = .ok (.aload_n 0, 1) := by decide +kernel
theorem dX11_join_1 : decode cX11_join 1 = .ok (.iconst 0, 1) := by decide +kernel
theorem dX11_join_2 : decode cX11_join 2 = .ok (.putfield 59, 3) := by decide +kernel
theorem dX11_join_5 : decode cX11_join 5 = .ok (.iload_n 1, 1) := by decide +kernel
theorem dX11_join_6 : decode cX11_join 6 = .ok (.invokestatic 67, 3) := by decide +kernel
theorem dX11_join_9 : decode cX11_join 9 = .ok (.ifCond .eq 34, 3) := by decide +kernel
theorem dX11_join_12 : decode cX11_join 12 = .ok (.iload_n 2, 1) := by decide +kernel
theorem dX11_join_13 : decode cX11_join 13 = .ok (.invokestatic 67, 3) := by decide +kernel
theorem dX11_join_16 : decode cX11_join 16 = .ok (.ifCond .eq 27, 3) := by decide +kernel
theorem dX11_join_19 : decode cX11_join 19 = .ok (.iload_n 3, 1) := by decide +kernel
theorem dX11_join_20 : decode cX11_join 20 = .ok (.ifCond .lt 23, 3) := by decide +kernel
theorem dX11_join_23 : decode cX11_join 23 = .ok (.iload_n 3, 1) := by decide +kernel
theorem dX11_join_24 : decode cX11_join 24 = .ok (.iconst 2, 1) := by decide +kernel
theorem dX11_join_25 : decode cX11_join 25 = .ok (.if_icmp .gt 18, 3) := by decide +kernel
theorem dX11_join_28 : decode cX11_join 28 = .ok (.aload_n 0, 1) := by decide +kernel
theorem dX11_join_29 : decode cX11_join 29 = .ok (.getfield 7, 3) := by decide +kernel
theorem dX11_join_32 : decode cX11_join 32 = .ok (.iload_n 1, 1) := by decide +kernel
theorem dX11_join_33 : decode cX11_join 33 = .ok (.iaload, 1) := by decide +kernel
theorem dX11_join_34 : decode cX11_join 34 = .ok (.aload_n 0, 1) := by decide +kernel
theorem dX11_join_35 : decode cX11_join 35 = .ok (.getfield 7, 3) := by decide +kernel
theorem dX11_join_38 : decode cX11_join 38 = .ok (.iload_n 2, 1) := by decide +kernel
theorem dX11_join_39 : decode cX11_join 39 = .ok (.iaload, 1) := by decide +kernel
theorem dX11_join_40 : decode cX11_join 40 = .ok (.if_icmp .eq 9, 3) := by decide +kernel
theorem dX11_join_43 : decode cX11_join 43 = .ok (.aload_n 0, 1) := by decide +kernel
theorem dX11_join_44 : decode cX11_join 44 = .ok (.iconst 1, 1) := by decide +kernel
theorem dX11_join_45 : decode cX11_join 45 = .ok (.invokevirtual 92, 3) := by decide +kernel
theorem dX11_join_48 : decode cX11_join 48 = .ok (.ireturn, 1) := by decide +kernel
theorem dX11_join_49 : decode cX11_join 49 = .ok (.iconst 0, 1) := by decide +kernel
theorem dX11_join_50 : decode cX11_join 50 = .ok (.istore 4, 2) := by decide +kernel
theorem dX11_join_52 : decode cX11_join 52 = .ok (.iconst 0, 1) := by decide +kernel
theorem dX11_join_53 : decode cX11_join 53 = .ok (.istore 5, 2) := by decide +kernel
theorem dX11_join_55 : decode cX11_join 55 = .ok (.iconst 0, 1) := by decide +kernel
theorem dX11_join_56 : decode cX11_join 56 = .ok (.istore 6, 2) := by decide +kernel
theorem dX11_join_58 : decode cX11_join 58 = .ok (.iconst 0, 1) := by decide +kernel
theorem dX11_join_59 : decode cX11_join 59 = .ok (.istore 7, 2) := by decide +kernel
theorem dX11_join_61 : decode cX11_join 61 = .ok (.iload 5, 2) := by decide +kernel
theorem dX11_join_63 : decode cX11_join 63 = .ok (.aload_n 0, 1) := by decide +kernel
theorem dX11_join_64 : decode cX11_join 64 = .ok (.getfield 13, 3) := by decide +kernel
theorem dX11_join_67 : decode cX11_join 67 = .ok (.iload_n 1, 1) := by decide +kernel
theorem dX11_join_68 : decode cX11_join 68 = .ok (.iaload, 1) := by decide +kernel
theorem dX11_join_69 : decode cX11_join 69 = .ok (.if_icmp .lt 14, 3) := by decide +kernel
theorem dX11_join_72 : decode cX11_join 72 = .ok (.iload 6, 2) := by decide +kernel
theorem dX11_join_74 : decode cX11_join 74 = .ok (.aload_n 0, 1) := by decide +kernel
theorem dX11_join_75 : decode cX11_join 75 = .ok (.getfield 13, 3) := by decide +kernel
theorem dX11_join_78 : decode cX11_join 78 = .ok (.iload_n 2, 1) := by decide +kernel
theorem dX11_join_79 : decode cX11_join 79 = .ok (.iaload, 1) := by decide +kernel
theorem dX11_join_80 : decode cX11_join 80 = .ok (.if_icmp .ge 328, 3) := by decide +kernel
theorem dX11_join_83 : decode cX11_join 83 = .ok (.bipush 64, 2) := by decide +kernel
theorem dX11_join_85 : decode cX11_join 85 = .ok (.iload_n 1, 1) := by decide +kernel
theorem dX11_join_86 : decode cX11_join 86 = .ok (.imul, 1) := by decide +kernel
theorem dX11_join_87 : decode cX11_join 87 = .ok (.iload 5, 2) := by decide +kernel
theorem dX11_join_89 : decode cX11_join 89 = .ok (.iadd, 1) := by decide +kernel
theorem dX11_join_90 : decode cX11_join 90 = .ok (.istore 8, 2) := by decide +kernel
theorem dX11_join_92 : decode cX11_join 92 = .ok (.bipush 64, 2) := by decide +kernel
theorem dX11_join_94 : decode cX11_join 94 = .ok (.iload_n 2, 1) := by decide +kernel
theorem dX11_join_95 : decode cX11_join 95 = .ok (.imul, 1) := by decide +kernel
theorem dX11_join_96 : decode cX11_join 96 = .ok (.iload 6, 2) := by decide +kernel
theorem dX11_join_98 : decode cX11_join 98 = .ok (.iadd, 1) := by decide +kernel
theorem dX11_join_99 : decode cX11_join 99 = .ok (.istore 9, 2) := by decide +kernel
theorem dX11_join_101 : decode cX11_join 101 = .ok (.iload 6, 2) := by decide +kernel
theorem dX11_join_103 : decode cX11_join 103 = .ok (.aload_n 0, 1) := by decide +kernel
theorem dX11_join_104 : decode cX11_join 104 = .ok (.getfield 13, 3) := by decide +kernel
theorem dX11_join_107 : decode cX11_join 107 = .ok (.iload_n 2, 1) := by decide +kernel
theorem dX11_join_108 : decode cX11_join 108 = .ok (.iaload, 1) := by decide +kernel
theorem dX11_join_109 : decode cX11_join 109 = .ok (.if_icmp .eq 36, 3) := by decide +kernel
theorem dX11_join_112 : decode cX11_join 112 = .ok (.iload 5, 2) := by decide +kernel
theorem dX11_join_114 : decode cX11_join 114 = .ok (.aload_n 0, 1) := by decide +kernel
theorem dX11_join_115 : decode cX11_join 115 = .ok (.getfield 13, 3) := by decide +kernel
theorem dX11_join_118 : decode cX11_join 118 = .ok (.iload_n 1, 1) := by decide +kernel
theorem dX11_join_119 : decode cX11_join 119 = .ok (.iaload, 1) := by decide +kernel
theorem dX11_join_120 : decode cX11_join 120 = .ok (.if_icmp .ge 29, 3) := by decide +kernel
theorem dX11_join_123 : decode cX11_join 123 = .ok (.aload_n 0, 1) := by decide +kernel
theorem dX11_join_124 : decode cX11_join 124 = .ok (.iload_n 1, 1) := by decide +kernel
theorem dX11_join_125 : decode cX11_join 125 = .ok (.aload_n 0, 1) := by decide +kernel
theorem dX11_join_126 : decode cX11_join 126 = .ok (.getfield 16, 3) := by decide +kernel
theorem dX11_join_129 : decode cX11_join 129 = .ok (.iload 8, 2) := by decide +kernel
theorem dX11_join_131 : decode cX11_join 131 = .ok (.iaload, 1) := by decide +kernel
theorem dX11_join_132 : decode cX11_join 132 = .ok (.aload_n 0, 1) := by decide +kernel
theorem dX11_join_133 : decode cX11_join 133 = .ok (.getfield 16, 3) := by decide +kernel
theorem dX11_join_136 : decode cX11_join 136 = .ok (.iload 9, 2) := by decide +kernel
theorem dX11_join_138 : decode cX11_join 138 = .ok (.iaload, 1) := by decide +kernel
theorem dX11_join_139 : decode cX11_join 139 = .ok (.invokevirtual 63, 3) := by decide +kernel
theorem dX11_join_142 : decode cX11_join 142 = .ok (.ifCond .eq 7, 3) := by decide +kernel
theorem dX11_join_145 : decode cX11_join 145 = .ok (.iconst 1, 1) := by decide +kernel
theorem dX11_join_146 : decode cX11_join 146 = .ok (.goto 4, 3) := by decide +kernel
theorem dX11_join_149 : decode cX11_join 149 = .ok (.iconst 0, 1) := by decide +kernel
theorem dX11_join_150 : decode cX11_join 150 = .ok (.istore 10, 2) := by decide +kernel
theorem dX11_join_152 : decode cX11_join 152 = .ok (.iload 10, 2) := by decide +kernel
theorem dX11_join_154 : decode cX11_join 154 = .ok (.ifCond .ne 40, 3) := by decide +kernel
theorem dX11_join_157 : decode cX11_join 157 = .ok (.iload 5, 2) := by decide +kernel
theorem dX11_join_159 : decode cX11_join 159 = .ok (.aload_n 0, 1) := by decide +kernel
theorem dX11_join_160 : decode cX11_join 160 = .ok (.getfield 13, 3) := by decide +kernel
theorem dX11_join_163 : decode cX11_join 163 = .ok (.iload_n 1, 1) := by decide +kernel
theorem dX11_join_164 : decode cX11_join 164 = .ok (.iaload, 1) := by decide +kernel
theorem dX11_join_165 : decode cX11_join 165 = .ok (.if_icmp .eq 25, 3) := by decide +kernel
theorem dX11_join_168 : decode cX11_join 168 = .ok (.aload_n 0, 1) := by decide +kernel
theorem dX11_join_169 : decode cX11_join 169 = .ok (.iload_n 1, 1) := by decide +kernel
theorem dX11_join_170 : decode cX11_join 170 = .ok (.aload_n 0, 1) := by decide +kernel
theorem dX11_join_171 : decode cX11_join 171 = .ok (.getfield 16, 3) := by decide +kernel
theorem dX11_join_174 : decode cX11_join 174 = .ok (.iload 9, 2) := by decide +kernel
theorem dX11_join_176 : decode cX11_join 176 = .ok (.iaload, 1) := by decide +kernel
theorem dX11_join_177 : decode cX11_join 177 = .ok (.aload_n 0, 1) := by decide +kernel
theorem dX11_join_178 : decode cX11_join 178 = .ok (.getfield 16, 3) := by decide +kernel
theorem dX11_join_181 : decode cX11_join 181 = .ok (.iload 8, 2) := by decide +kernel
theorem dX11_join_183 : decode cX11_join 183 = .ok (.iaload, 1) := by decide +kernel
theorem dX11_join_184 : decode cX11_join 184 = .ok (.invokevirtual 63, 3) := by decide +kernel
theorem dX11_join_187 : decode cX11_join 187 = .ok (.ifCond .eq 7, 3) := by decide +kernel
theorem dX11_join_190 : decode cX11_join 190 = .ok (.iconst 1, 1) := by decide +kernel
theorem dX11_join_191 : decode cX11_join 191 = .ok (.goto 4, 3) := by decide +kernel
theorem dX11_join_194 : decode cX11_join 194 = .ok (.iconst 0, 1) := by decide +kernel
theorem dX11_join_195 : decode cX11_join 195 = .ok (.istore 11, 2) := by decide +kernel
theorem dX11_join_197 : decode cX11_join 197 = .ok (.iload 10, 2) := by decide +kernel
theorem dX11_join_199 : decode cX11_join 199 = .ok (.ifCond .eq 16, 3) := by decide +kernel
theorem dX11_join_202 : decode cX11_join 202 = .ok (.iload_n 3, 1) := by decide +kernel
theorem dX11_join_203 : decode cX11_join 203 = .ok (.iconst 1, 1) := by decide +kernel
theorem dX11_join_204 : decode cX11_join 204 = .ok (.if_icmp .eq 7, 3) := by decide +kernel
theorem dX11_join_207 : decode cX11_join 207 = .ok (.iconst 1, 1) := by decide +kernel
theorem dX11_join_208 : decode cX11_join 208 = .ok (.goto 34, 3) := by decide +kernel
theorem dX11_join_211 : decode cX11_join 211 = .ok (.iconst 0, 1) := by decide +kernel
theorem dX11_join_212 : decode cX11_join 212 = .ok (.goto 30, 3) := by decide +kernel
theorem dX11_join_215 : decode cX11_join 215 = .ok (.iload 11, 2) := by decide +kernel
theorem dX11_join_217 : decode cX11_join 217 = .ok (.ifCond .eq 15, 3) := by decide +kernel
theorem dX11_join_220 : decode cX11_join 220 = .ok (.iload_n 3, 1) := by decide +kernel
theorem dX11_join_221 : decode cX11_join 221 = .ok (.ifCond .ne 7, 3) := by decide +kernel
theorem dX11_join_224 : decode cX11_join 224 = .ok (.iconst 1, 1) := by decide +kernel
theorem dX11_join_225 : decode cX11_join 225 = .ok (.goto 17, 3) := by decide +kernel
theorem dX11_join_228 : decode cX11_join 228 = .ok (.iconst 0, 1) := by decide +kernel
theorem dX11_join_229 : decode cX11_join 229 = .ok (.goto 13, 3) := by decide +kernel
theorem dX11_join_232 : decode cX11_join 232 = .ok (.iload_n 3, 1) := by decide +kernel
theorem dX11_join_233 : decode cX11_join 233 = .ok (.iconst 2, 1) := by decide +kernel
theorem dX11_join_234 : decode cX11_join 234 = .ok (.if_icmp .eq 7, 3) := by decide +kernel
theorem dX11_join_237 : decode cX11_join 237 = .ok (.iconst 1, 1) := by decide +kernel
theorem dX11_join_238 : decode cX11_join 238 = .ok (.goto 4, 3) := by decide +kernel
theorem dX11_join_241 : decode cX11_join 241 = .ok (.iconst 0, 1) := by decide +kernel
theorem dX11_join_242 : decode cX11_join 242 = .ok (.istore 12, 2) := by decide +kernel
theorem dX11_join_244 : decode cX11_join 244 = .ok (.aload_n 0, 1) := by decide +kernel
theorem dX11_join_245 : decode cX11_join 245 = .ok (.getfield 53, 3) := by decide +kernel
theorem dX11_join_248 : decode cX11_join 248 = .ok (.iload 4, 2) := by decide +kernel
theorem dX11_join_250 : decode cX11_join 250 = .ok (.iload 11, 2) := by decide +kernel
theorem dX11_join_252 : decode cX11_join 252 = .ok (.ifCond .eq 13, 3) := by decide +kernel
theorem dX11_join_255 : decode cX11_join 255 = .ok (.aload_n 0, 1) := by decide +kernel
theorem dX11_join_256 : decode cX11_join 256 = .ok (.getfield 16, 3) := by decide +kernel
theorem dX11_join_259 : decode cX11_join 259 = .ok (.iload 9, 2) := by decide +kernel
theorem dX11_join_261 : decode cX11_join 261 = .ok (.iaload, 1) := by decide +kernel
theorem dX11_join_262 : decode cX11_join 262 = .ok (.goto 10, 3) := by decide +kernel
theorem dX11_join_265 : decode cX11_join 265 = .ok (.aload_n 0, 1) := by decide +kernel
theorem dX11_join_266 : decode cX11_join 266 = .ok (.getfield 16, 3) := by decide +kernel
theorem dX11_join_269 : decode cX11_join 269 = .ok (.iload 8, 2) := by decide +kernel
theorem dX11_join_271 : decode cX11_join 271 = .ok (.iaload, 1) := by decide +kernel
theorem dX11_join_272 : decode cX11_join 272 = .ok (.iastore, 1) := by decide +kernel
theorem dX11_join_273 : decode cX11_join 273 = .ok (.aload_n 0, 1) := by decide +kernel
theorem dX11_join_274 : decode cX11_join 274 = .ok (.getfield 56, 3) := by decide +kernel
theorem dX11_join_277 : decode cX11_join 277 = .ok (.iload 4, 2) := by decide +kernel
theorem dX11_join_279 : decode cX11_join 279 = .ok (.iload 10, 2) := by decide +kernel
theorem dX11_join_281 : decode cX11_join 281 = .ok (.ifCond .eq 13, 3) := by decide +kernel
theorem dX11_join_284 : decode cX11_join 284 = .ok (.aload_n 0, 1) := by decide +kernel
theorem dX11_join_285 : decode cX11_join 285 = .ok (.getfield 19, 3) := by decide +kernel
theorem dX11_join_288 : decode cX11_join 288 = .ok (.iload 8, 2) := by decide +kernel
theorem dX11_join_290 : decode cX11_join 290 = .ok (.iaload, 1) := by decide +kernel
theorem dX11_join_291 : decode cX11_join 291 = .ok (.goto 35, 3) := by decide +kernel
theorem dX11_join_294 : decode cX11_join 294 = .ok (.iload 11, 2) := by decide +kernel
theorem dX11_join_296 : decode cX11_join 296 = .ok (.ifCond .eq 13, 3) := by decide +kernel
theorem dX11_join_299 : decode cX11_join 299 = .ok (.aload_n 0, 1) := by decide +kernel
theorem dX11_join_300 : decode cX11_join 300 = .ok (.getfield 19, 3) := by decide +kernel
theorem dX11_join_303 : decode cX11_join 303 = .ok (.iload 9, 2) := by decide +kernel
theorem dX11_join_305 : decode cX11_join 305 = .ok (.iaload, 1) := by decide +kernel
theorem dX11_join_306 : decode cX11_join 306 = .ok (.goto 20, 3) := by decide +kernel
theorem dX11_join_309 : decode cX11_join 309 = .ok (.iconst 2, 1) := by decide +kernel
theorem dX11_join_310 : decode cX11_join 310 = .ok (.aload_n 0, 1) := by decide +kernel
theorem dX11_join_311 : decode cX11_join 311 = .ok (.getfield 19, 3) := by decide +kernel
theorem dX11_join_314 : decode cX11_join 314 = .ok (.iload 8, 2) := by decide +kernel
theorem dX11_join_316 : decode cX11_join 316 = .ok (.iaload, 1) := by decide +kernel
theorem dX11_join_317 : decode cX11_join 317 = .ok (.imul, 1) := by decide +kernel
theorem dX11_join_318 : decode cX11_join 318 = .ok (.aload_n 0, 1) := by decide +kernel
theorem dX11_join_319 : decode cX11_join 319 = .ok (.getfield 19, 3) := by decide +kernel
theorem dX11_join_322 : decode cX11_join 322 = .ok (.iload 9, 2) := by decide +kernel
theorem dX11_join_324 : decode cX11_join 324 = .ok (.iaload, 1) := by decide +kernel
theorem dX11_join_325 : decode cX11_join 325 = .ok (.iadd, 1) := by decide +kernel
theorem dX11_join_326 : decode cX11_join 326 = .ok (.iastore, 1) := by decide +kernel
theorem dX11_join_327 : decode cX11_join 327 = .ok (.iload 4, 2) := by decide +kernel
theorem dX11_join_329 : decode cX11_join 329 = .ok (.iload 12, 2) := by decide +kernel
theorem dX11_join_331 : decode cX11_join 331 = .ok (.ifCond .eq 7, 3) := by decide +kernel
theorem dX11_join_334 : decode cX11_join 334 = .ok (.iconst 1, 1) := by decide +kernel
theorem dX11_join_335 : decode cX11_join 335 = .ok (.goto 4, 3) := by decide +kernel
theorem dX11_join_338 : decode cX11_join 338 = .ok (.iconst 0, 1) := by decide +kernel
theorem dX11_join_339 : decode cX11_join 339 = .ok (.iadd, 1) := by decide +kernel
theorem dX11_join_340 : decode cX11_join 340 = .ok (.istore 4, 2) := by decide +kernel
theorem dX11_join_342 : decode cX11_join 342 = .ok (.iload 7, 2) := by decide +kernel
theorem dX11_join_344 : decode cX11_join 344 = .ok (.iload 11, 2) := by decide +kernel
theorem dX11_join_346 : decode cX11_join 346 = .ok (.ifCond .eq 16, 3) := by decide +kernel
theorem dX11_join_349 : decode cX11_join 349 = .ok (.iload 12, 2) := by decide +kernel
theorem dX11_join_351 : decode cX11_join 351 = .ok (.ifCond .eq 7, 3) := by decide +kernel
theorem dX11_join_354 : decode cX11_join 354 = .ok (.iconst 1, 1) := by decide +kernel
theorem dX11_join_355 : decode cX11_join 355 = .ok (.goto 17, 3) := by decide +kernel
theorem dX11_join_358 : decode cX11_join 358 = .ok (.iconst 0, 1) := by decide +kernel
theorem dX11_join_359 : decode cX11_join 359 = .ok (.goto 13, 3) := by decide +kernel
theorem dX11_join_362 : decode cX11_join 362 = .ok (.iload 12, 2) := by decide +kernel
theorem dX11_join_364 : decode cX11_join 364 = .ok (.ifCond .eq 7, 3) := by decide +kernel
theorem dX11_join_367 : decode cX11_join 367 = .ok (.iconst 0, 1) := by decide +kernel
theorem dX11_join_368 : decode cX11_join 368 = .ok (.goto 4, 3) := by decide +kernel
theorem dX11_join_371 : decode cX11_join 371 = .ok (.iconst 1, 1) := by decide +kernel
theorem dX11_join_372 : decode cX11_join 372 = .ok (.iadd, 1) := by decide +kernel
theorem dX11_join_373 : decode cX11_join 373 = .ok (.istore 7, 2) := by decide +kernel
theorem dX11_join_375 : decode cX11_join 375 = .ok (.iload 5, 2) := by decide +kernel
theorem dX11_join_377 : decode cX11_join 377 = .ok (.iload 11, 2) := by decide +kernel
theorem dX11_join_379 : decode cX11_join 379 = .ok (.ifCond .eq 7, 3) := by decide +kernel
theorem dX11_join_382 : decode cX11_join 382 = .ok (.iconst 0, 1) := by decide +kernel
theorem dX11_join_383 : decode cX11_join 383 = .ok (.goto 4, 3) := by decide +kernel
theorem dX11_join_386 : decode cX11_join 386 = .ok (.iconst 1, 1) := by decide +kernel
theorem dX11_join_387 : decode cX11_join 387 = .ok (.iadd, 1) := by decide +kernel
theorem dX11_join_388 : decode cX11_join 388 = .ok (.istore 5, 2) := by decide +kernel
theorem dX11_join_390 : decode cX11_join 390 = .ok (.iload 6, 2) := by decide +kernel
theorem dX11_join_392 : decode cX11_join 392 = .ok (.iload 10, 2) := by decide +kernel
theorem dX11_join_394 : decode cX11_join 394 = .ok (.ifCond .eq 7, 3) := by decide +kernel
theorem dX11_join_397 : decode cX11_join 397 = .ok (.iconst 0, 1) := by decide +kernel
theorem dX11_join_398 : decode cX11_join 398 = .ok (.goto 4, 3) := by decide +kernel
theorem dX11_join_401 : decode cX11_join 401 = .ok (.iconst 1, 1) := by decide +kernel
theorem dX11_join_402 : decode cX11_join 402 = .ok (.iadd, 1) := by decide +kernel
theorem dX11_join_403 : decode cX11_join 403 = .ok (.istore 6, 2) := by decide +kernel
theorem dX11_join_405 : decode cX11_join 405 = .ok (.goto (-344), 3) := by decide +kernel
theorem dX11_join_408 : decode cX11_join 408 = .ok (.iload 4, 2) := by decide +kernel
theorem dX11_join_410 : decode cX11_join 410 = .ok (.bipush 60, 2) := by decide +kernel
theorem dX11_join_412 : decode cX11_join 412 = .ok (.if_icmp .le 9, 3) := by decide +kernel
theorem dX11_join_415 : decode cX11_join 415 = .ok (.aload_n 0, 1) := by decide +kernel
theorem dX11_join_416 : decode cX11_join 416 = .ok (.iconst 2, 1) := by decide +kernel
theorem dX11_join_417 : decode cX11_join 417 = .ok (.invokevirtual 92, 3) := by decide +kernel
theorem dX11_join_420 : decode cX11_join 420 = .ok (.ireturn, 1) := by decide +kernel
theorem dX11_join_421 : decode cX11_join 421 = .ok (.iconst 0, 1) := by decide +kernel
theorem dX11_join_422 : decode cX11_join 422 = .ok (.istore 8, 2) := by decide +kernel
theorem dX11_join_424 : decode cX11_join 424 = .ok (.iload 8, 2) := by decide +kernel
theorem dX11_join_426 : decode cX11_join 426 = .ok (.iload 4, 2) := by decide +kernel
theorem dX11_join_428 : decode cX11_join 428 = .ok (.if_icmp .ge 47, 3) := by decide +kernel
theorem dX11_join_431 : decode cX11_join 431 = .ok (.aload_n 0, 1) := by decide +kernel
theorem dX11_join_432 : decode cX11_join 432 = .ok (.getfield 16, 3) := by decide +kernel
theorem dX11_join_435 : decode cX11_join 435 = .ok (.bipush 64, 2) := by decide +kernel
theorem dX11_join_437 : decode cX11_join 437 = .ok (.iload_n 1, 1) := by decide +kernel
theorem dX11_join_438 : decode cX11_join 438 = .ok (.imul, 1) := by decide +kernel
theorem dX11_join_439 : decode cX11_join 439 = .ok (.iload 8, 2) := by decide +kernel
theorem dX11_join_441 : decode cX11_join 441 = .ok (.iadd, 1) := by decide +kernel
theorem dX11_join_442 : decode cX11_join 442 = .ok (.aload_n 0, 1) := by decide +kernel
theorem dX11_join_443 : decode cX11_join 443 = .ok (.getfield 53, 3) := by decide +kernel
theorem dX11_join_446 : decode cX11_join 446 = .ok (.iload 8, 2) := by decide +kernel
theorem dX11_join_448 : decode cX11_join 448 = .ok (.iaload, 1) := by decide +kernel
theorem dX11_join_449 : decode cX11_join 449 = .ok (.iastore, 1) := by decide +kernel
theorem dX11_join_450 : decode cX11_join 450 = .ok (.aload_n 0, 1) := by decide +kernel
theorem dX11_join_451 : decode cX11_join 451 = .ok (.getfield 19, 3) := by decide +kernel
theorem dX11_join_454 : decode cX11_join 454 = .ok (.bipush 64, 2) := by decide +kernel
theorem dX11_join_456 : decode cX11_join 456 = .ok (.iload_n 1, 1) := by decide +kernel
theorem dX11_join_457 : decode cX11_join 457 = .ok (.imul, 1) := by decide +kernel
theorem dX11_join_458 : decode cX11_join 458 = .ok (.iload 8, 2) := by decide +kernel
theorem dX11_join_460 : decode cX11_join 460 = .ok (.iadd, 1) := by decide +kernel
theorem dX11_join_461 : decode cX11_join 461 = .ok (.aload_n 0, 1) := by decide +kernel
theorem dX11_join_462 : decode cX11_join 462 = .ok (.getfield 56, 3) := by decide +kernel
theorem dX11_join_465 : decode cX11_join 465 = .ok (.iload 8, 2) := by decide +kernel
theorem dX11_join_467 : decode cX11_join 467 = .ok (.iaload, 1) := by decide +kernel
theorem dX11_join_468 : decode cX11_join 468 = .ok (.iastore, 1) := by decide +kernel
theorem dX11_join_469 : decode cX11_join 469 = .ok (.iinc 8 1, 3) := by decide +kernel
theorem dX11_join_472 : decode cX11_join 472 = .ok (.goto (-48), 3) := by decide +kernel
theorem dX11_join_475 : decode cX11_join 475 = .ok (.aload_n 0, 1) := by decide +kernel
theorem dX11_join_476 : decode cX11_join 476 = .ok (.getfield 13, 3) := by decide +kernel
theorem dX11_join_479 : decode cX11_join 479 = .ok (.iload_n 1, 1) := by decide +kernel
theorem dX11_join_480 : decode cX11_join 480 = .ok (.iload 4, 2) := by decide +kernel
theorem dX11_join_482 : decode cX11_join 482 = .ok (.iastore, 1) := by decide +kernel
theorem dX11_join_483 : decode cX11_join 483 = .ok (.aload_n 0, 1) := by decide +kernel
theorem dX11_join_484 : decode cX11_join 484 = .ok (.getfield 22, 3) := by decide +kernel
theorem dX11_join_487 : decode cX11_join 487 = .ok (.iload_n 1, 1) := by decide +kernel
theorem dX11_join_488 : decode cX11_join 488 = .ok (.dup2, 1) := by decide +kernel
theorem dX11_join_489 : decode cX11_join 489 = .ok (.iaload, 1) := by decide +kernel
theorem dX11_join_490 : decode cX11_join 490 = .ok (.iload 7, 2) := by decide +kernel
theorem dX11_join_492 : decode cX11_join 492 = .ok (.iadd, 1) := by decide +kernel
theorem dX11_join_493 : decode cX11_join 493 = .ok (.iastore, 1) := by decide +kernel
theorem dX11_join_494 : decode cX11_join 494 = .ok (.iload 7, 2) := by decide +kernel
theorem dX11_join_496 : decode cX11_join 496 = .ok (.ireturn, 1) := by decide +kernel
theorem dX11_split_0 : decode cX11_split 0 = .ok (.aload_n 0, 1) := by decide +kernel
theorem dX11_split_1 : decode cX11_split 1 = .ok (.iconst 0, 1) := by decide +kernel
theorem dX11_split_2 : decode cX11_split 2 = .ok (.putfield 59, 3) := by decide +kernel
theorem dX11_split_5 : decode cX11_split 5 = .ok (.iload_n 1, 1) := by decide +kernel
theorem dX11_split_6 : decode cX11_split 6 = .ok (.invokestatic 67, 3) := by decide +kernel
theorem dX11_split_9 : decode cX11_split 9 = .ok (.ifCond .eq 15, 3) := by decide +kernel
theorem dX11_split_12 : decode cX11_split 12 = .ok (.iload_n 3, 1) := by decide +kernel
theorem dX11_split_13 : decode cX11_split 13 = .ok (.invokestatic 67, 3) := by decide +kernel
theorem dX11_split_16 : decode cX11_split 16 = .ok (.ifCond .eq 8, 3) := by decide +kernel
theorem dX11_split_19 : decode cX11_split 19 = .ok (.iload_n 1, 1) := by decide +kernel
theorem dX11_split_20 : decode cX11_split 20 = .ok (.iload_n 3, 1) := by decide +kernel
theorem dX11_split_21 : decode cX11_split 21 = .ok (.if_icmp .ne 9, 3) := by decide +kernel
theorem dX11_split_24 : decode cX11_split 24 = .ok (.aload_n 0, 1) := by decide +kernel
theorem dX11_split_25 : decode cX11_split 25 = .ok (.iconst 1, 1) := by decide +kernel
theorem dX11_split_26 : decode cX11_split 26 = .ok (.invokevirtual 92, 3) := by decide +kernel
theorem dX11_split_29 : decode cX11_split 29 = .ok (.ireturn, 1) := by decide +kernel
theorem dX11_split_30 : decode cX11_split 30 = .ok (.aload_n 0, 1) := by decide +kernel
theorem dX11_split_31 : decode cX11_split 31 = .ok (.iload_n 3, 1) := by decide +kernel
theorem dX11_split_32 : decode cX11_split 32 = .ok (.aload_n 0, 1) := by decide +kernel
theorem dX11_split_33 : decode cX11_split 33 = .ok (.getfield 7, 3) := by decide +kernel
theorem dX11_split_36 : decode cX11_split 36 = .ok (.iload_n 1, 1) := by decide +kernel
theorem dX11_split_37 : decode cX11_split 37 = .ok (.iaload, 1) := by decide +kernel
theorem dX11_split_38 : decode cX11_split 38 = .ok (.invokevirtual 71, 3) := by decide +kernel
theorem dX11_split_41 : decode cX11_split 41 = .ok (.aload_n 0, 1) := by decide +kernel
theorem dX11_split_42 : decode cX11_split 42 = .ok (.iload_n 1, 1) := by decide +kernel
theorem dX11_split_43 : decode cX11_split 43 = .ok (.iload_n 2, 1) := by decide +kernel
theorem dX11_split_44 : decode cX11_split 44 = .ok (.invokevirtual 78, 3) := by decide +kernel
theorem dX11_split_47 : decode cX11_split 47 = .ok (.istore 4, 2) := by decide +kernel
