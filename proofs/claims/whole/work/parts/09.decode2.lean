theorem dX8_nodeAt_42 : decode cX8_nodeAt 42 = .ok (.iload_n 3, 1) := by decide +kernel
theorem dX8_nodeAt_43 : decode cX8_nodeAt 43 = .ok (.iaload, 1) := by decide +kernel
theorem dX8_nodeAt_44 : decode cX8_nodeAt 44 = .ok (.iaload, 1) := by decide +kernel
theorem dX8_nodeAt_45 : decode cX8_nodeAt 45 = .ok (.istore 6, 2) := by decide +kernel
theorem dX8_nodeAt_47 : decode cX8_nodeAt 47 = .ok (.iload 4, 2) := by decide +kernel
theorem dX8_nodeAt_49 : decode cX8_nodeAt 49 = .ok (.iload 6, 2) := by decide +kernel
theorem dX8_nodeAt_51 : decode cX8_nodeAt 51 = .ok (.if_icmp .ne 5, 3) := by decide +kernel
theorem dX8_nodeAt_54 : decode cX8_nodeAt 54 = .ok (.iload_n 3, 1) := by decide +kernel
theorem dX8_nodeAt_55 : decode cX8_nodeAt 55 = .ok (.ireturn, 1) := by decide +kernel
theorem dX8_nodeAt_56 : decode cX8_nodeAt 56 = .ok (.iload 4, 2) := by decide +kernel
theorem dX8_nodeAt_58 : decode cX8_nodeAt 58 = .ok (.iload 6, 2) := by decide +kernel
theorem dX8_nodeAt_60 : decode cX8_nodeAt 60 = .ok (.if_icmp .ge 13, 3) := by decide +kernel
theorem dX8_nodeAt_63 : decode cX8_nodeAt 63 = .ok (.aload_n 0, 1) := by decide +kernel
theorem dX8_nodeAt_64 : decode cX8_nodeAt 64 = .ok (.getfield 18, 3) := by decide +kernel
theorem dX8_nodeAt_67 : decode cX8_nodeAt 67 = .ok (.iload_n 3, 1) := by decide +kernel
theorem dX8_nodeAt_68 : decode cX8_nodeAt 68 = .ok (.iaload, 1) := by decide +kernel
theorem dX8_nodeAt_69 : decode cX8_nodeAt 69 = .ok (.istore_n 3, 1) := by decide +kernel
theorem dX8_nodeAt_70 : decode cX8_nodeAt 70 = .ok (.goto 19, 3) := by decide +kernel
theorem dX8_nodeAt_73 : decode cX8_nodeAt 73 = .ok (.iload 4, 2) := by decide +kernel
theorem dX8_nodeAt_75 : decode cX8_nodeAt 75 = .ok (.iload 6, 2) := by decide +kernel
theorem dX8_nodeAt_77 : decode cX8_nodeAt 77 = .ok (.iconst 1, 1) := by decide +kernel
theorem dX8_nodeAt_78 : decode cX8_nodeAt 78 = .ok (.iadd, 1) := by decide +kernel
theorem dX8_nodeAt_79 : decode cX8_nodeAt 79 = .ok (.isub, 1) := by decide +kernel
theorem dX8_nodeAt_80 : decode cX8_nodeAt 80 = .ok (.istore 4, 2) := by decide +kernel
theorem dX8_nodeAt_82 : decode cX8_nodeAt 82 = .ok (.aload_n 0, 1) := by decide +kernel
theorem dX8_nodeAt_83 : decode cX8_nodeAt 83 = .ok (.getfield 21, 3) := by decide +kernel
theorem dX8_nodeAt_86 : decode cX8_nodeAt 86 = .ok (.iload_n 3, 1) := by decide +kernel
theorem dX8_nodeAt_87 : decode cX8_nodeAt 87 = .ok (.iaload, 1) := by decide +kernel
theorem dX8_nodeAt_88 : decode cX8_nodeAt 88 = .ok (.istore_n 3, 1) := by decide +kernel
theorem dX8_nodeAt_89 : decode cX8_nodeAt 89 = .ok (.iinc 5 1, 3) := by decide +kernel
theorem dX8_nodeAt_92 : decode cX8_nodeAt 92 = .ok (.goto (-69), 3) := by decide +kernel
theorem dX8_nodeAt_95 : decode cX8_nodeAt 95 = .ok (.iconst 0, 1) := by decide +kernel
theorem dX8_nodeAt_96 : decode cX8_nodeAt 96 = .ok (.ireturn, 1) := by decide +kernel
theorem dX8_assign_0 : decode cX8_assign 0 = .ok (.aload_n 0, 1) := by decide +kernel
theorem dX8_assign_1 : decode cX8_assign 1 = .ok (.iload_n 1, 1) := by decide +kernel
theorem dX8_assign_2 : decode cX8_assign 2 = .ok (.invokevirtual 72, 3) := by decide +kernel
theorem dX8_assign_5 : decode cX8_assign 5 = .ok (.istore_n 3, 1) := by decide +kernel
theorem dX8_assign_6 : decode cX8_assign 6 = .ok (.iload_n 3, 1) := by decide +kernel
theorem dX8_assign_7 : decode cX8_assign 7 = .ok (.ifCond .ne 14, 3) := by decide +kernel
theorem dX8_assign_10 : decode cX8_assign 10 = .ok (.aload_n 0, 1) := by decide +kernel
theorem dX8_assign_11 : decode cX8_assign 11 = .ok (.getfield 61, 3) := by decide +kernel
theorem dX8_assign_14 : decode cX8_assign 14 = .ok (.ifCond .le 7, 3) := by decide +kernel
theorem dX8_assign_17 : decode cX8_assign 17 = .ok (.iconst 1, 1) := by decide +kernel
theorem dX8_assign_18 : decode cX8_assign 18 = .ok (.goto 4, 3) := by decide +kernel
theorem dX8_assign_21 : decode cX8_assign 21 = .ok (.iconst 0, 1) := by decide +kernel
theorem dX8_assign_22 : decode cX8_assign 22 = .ok (.istore 4, 2) := by decide +kernel
theorem dX8_assign_24 : decode cX8_assign 24 = .ok (.iload 4, 2) := by decide +kernel
theorem dX8_assign_26 : decode cX8_assign 26 = .ok (.ifCond .eq 9, 3) := by decide +kernel
theorem dX8_assign_29 : decode cX8_assign 29 = .ok (.aload_n 0, 1) := by decide +kernel
theorem dX8_assign_30 : decode cX8_assign 30 = .ok (.iload_n 1, 1) := by decide +kernel
theorem dX8_assign_31 : decode cX8_assign 31 = .ok (.invokevirtual 76, 3) := by decide +kernel
theorem dX8_assign_34 : decode cX8_assign 34 = .ok (.istore_n 3, 1) := by decide +kernel
theorem dX8_assign_35 : decode cX8_assign 35 = .ok (.iload_n 3, 1) := by decide +kernel
theorem dX8_assign_36 : decode cX8_assign 36 = .ok (.ifCond .eq 14, 3) := by decide +kernel
theorem dX8_assign_39 : decode cX8_assign 39 = .ok (.aload_n 0, 1) := by decide +kernel
theorem dX8_assign_40 : decode cX8_assign 40 = .ok (.getfield 15, 3) := by decide +kernel
theorem dX8_assign_43 : decode cX8_assign 43 = .ok (.iload_n 3, 1) := by decide +kernel
theorem dX8_assign_44 : decode cX8_assign 44 = .ok (.iload_n 2, 1) := by decide +kernel
theorem dX8_assign_45 : decode cX8_assign 45 = .ok (.iastore, 1) := by decide +kernel
theorem dX8_assign_46 : decode cX8_assign 46 = .ok (.aload_n 0, 1) := by decide +kernel
theorem dX8_assign_47 : decode cX8_assign 47 = .ok (.invokevirtual 79, 3) := by decide +kernel
theorem dX8_assign_50 : decode cX8_assign 50 = .ok (.iload 4, 2) := by decide +kernel
theorem dX8_assign_52 : decode cX8_assign 52 = .ok (.ireturn, 1) := by decide +kernel
theorem dX8_hang_0 : decode cX8_hang 0 = .ok (.aload_n 0, 1) := by decide +kernel
theorem dX8_hang_1 : decode cX8_hang 1 = .ok (.dup, 1) := by decide +kernel
theorem dX8_hang_2 : decode cX8_hang 2 = .ok (.getfield 61, 3) := by decide +kernel
theorem dX8_hang_5 : decode cX8_hang 5 = .ok (.iconst 1, 1) := by decide +kernel
theorem dX8_hang_6 : decode cX8_hang 6 = .ok (.isub, 1) := by decide +kernel
theorem dX8_hang_7 : decode cX8_hang 7 = .ok (.putfield 61, 3) := by decide +kernel
theorem dX8_hang_10 : decode cX8_hang 10 = .ok (.aload_n 0, 1) := by decide +kernel
theorem dX8_hang_11 : decode cX8_hang 11 = .ok (.getfield 34, 3) := by decide +kernel
theorem dX8_hang_14 : decode cX8_hang 14 = .ok (.aload_n 0, 1) := by decide +kernel
theorem dX8_hang_15 : decode cX8_hang 15 = .ok (.getfield 61, 3) := by decide +kernel
theorem dX8_hang_18 : decode cX8_hang 18 = .ok (.iaload, 1) := by decide +kernel
theorem dX8_hang_19 : decode cX8_hang 19 = .ok (.istore_n 2, 1) := by decide +kernel
theorem dX8_hang_20 : decode cX8_hang 20 = .ok (.aload_n 0, 1) := by decide +kernel
theorem dX8_hang_21 : decode cX8_hang 21 = .ok (.getfield 9, 3) := by decide +kernel
theorem dX8_hang_24 : decode cX8_hang 24 = .ok (.iload_n 2, 1) := by decide +kernel
theorem dX8_hang_25 : decode cX8_hang 25 = .ok (.iload_n 1, 1) := by decide +kernel
theorem dX8_hang_26 : decode cX8_hang 26 = .ok (.iastore, 1) := by decide +kernel
theorem dX8_hang_27 : decode cX8_hang 27 = .ok (.aload_n 0, 1) := by decide +kernel
theorem dX8_hang_28 : decode cX8_hang 28 = .ok (.getfield 18, 3) := by decide +kernel
theorem dX8_hang_31 : decode cX8_hang 31 = .ok (.iload_n 2, 1) := by decide +kernel
theorem dX8_hang_32 : decode cX8_hang 32 = .ok (.iconst 0, 1) := by decide +kernel
theorem dX8_hang_33 : decode cX8_hang 33 = .ok (.iastore, 1) := by decide +kernel
theorem dX8_hang_34 : decode cX8_hang 34 = .ok (.aload_n 0, 1) := by decide +kernel
theorem dX8_hang_35 : decode cX8_hang 35 = .ok (.getfield 21, 3) := by decide +kernel
theorem dX8_hang_38 : decode cX8_hang 38 = .ok (.iload_n 2, 1) := by decide +kernel
theorem dX8_hang_39 : decode cX8_hang 39 = .ok (.iconst 0, 1) := by decide +kernel
theorem dX8_hang_40 : decode cX8_hang 40 = .ok (.iastore, 1) := by decide +kernel
theorem dX8_hang_41 : decode cX8_hang 41 = .ok (.aload_n 0, 1) := by decide +kernel
theorem dX8_hang_42 : decode cX8_hang 42 = .ok (.getfield 58, 3) := by decide +kernel
theorem dX8_hang_45 : decode cX8_hang 45 = .ok (.ifCond .ne 11, 3) := by decide +kernel
theorem dX8_hang_48 : decode cX8_hang 48 = .ok (.aload_n 0, 1) := by decide +kernel
theorem dX8_hang_49 : decode cX8_hang 49 = .ok (.iload_n 2, 1) := by decide +kernel
theorem dX8_hang_50 : decode cX8_hang 50 = .ok (.putfield 55, 3) := by decide +kernel
theorem dX8_hang_53 : decode cX8_hang 53 = .ok (.goto 67, 3) := by decide +kernel
theorem dX8_hang_56 : decode cX8_hang 56 = .ok (.aload_n 0, 1) := by decide +kernel
theorem dX8_hang_57 : decode cX8_hang 57 = .ok (.getfield 51, 3) := by decide +kernel
theorem dX8_hang_60 : decode cX8_hang 60 = .ok (.iload_n 1, 1) := by decide +kernel
theorem dX8_hang_61 : decode cX8_hang 61 = .ok (.aload_n 0, 1) := by decide +kernel
theorem dX8_hang_62 : decode cX8_hang 62 = .ok (.getfield 9, 3) := by decide +kernel
theorem dX8_hang_65 : decode cX8_hang 65 = .ok (.aload_n 0, 1) := by decide +kernel
theorem dX8_hang_66 : decode cX8_hang 66 = .ok (.getfield 37, 3) := by decide +kernel
theorem dX8_hang_69 : decode cX8_hang 69 = .ok (.aload_n 0, 1) := by decide +kernel
theorem dX8_hang_70 : decode cX8_hang 70 = .ok (.getfield 58, 3) := by decide +kernel
theorem dX8_hang_73 : decode cX8_hang 73 = .ok (.iconst 1, 1) := by decide +kernel
theorem dX8_hang_74 : decode cX8_hang 74 = .ok (.isub, 1) := by decide +kernel
theorem dX8_hang_75 : decode cX8_hang 75 = .ok (.iaload, 1) := by decide +kernel
theorem dX8_hang_76 : decode cX8_hang 76 = .ok (.iaload, 1) := by decide +kernel
theorem dX8_hang_77 : decode cX8_hang 77 = .ok (.invokestatic 64, 3) := by decide +kernel
theorem dX8_hang_80 : decode cX8_hang 80 = .ok (.ifCond .eq 23, 3) := by decide +kernel
theorem dX8_hang_83 : decode cX8_hang 83 = .ok (.aload_n 0, 1) := by decide +kernel
theorem dX8_hang_84 : decode cX8_hang 84 = .ok (.getfield 18, 3) := by decide +kernel
theorem dX8_hang_87 : decode cX8_hang 87 = .ok (.aload_n 0, 1) := by decide +kernel
theorem dX8_hang_88 : decode cX8_hang 88 = .ok (.getfield 37, 3) := by decide +kernel
theorem dX8_hang_91 : decode cX8_hang 91 = .ok (.aload_n 0, 1) := by decide +kernel
theorem dX8_hang_92 : decode cX8_hang 92 = .ok (.getfield 58, 3) := by decide +kernel
theorem dX8_hang_95 : decode cX8_hang 95 = .ok (.iconst 1, 1) := by decide +kernel
theorem dX8_hang_96 : decode cX8_hang 96 = .ok (.isub, 1) := by decide +kernel
theorem dX8_hang_97 : decode cX8_hang 97 = .ok (.iaload, 1) := by decide +kernel
theorem dX8_hang_98 : decode cX8_hang 98 = .ok (.iload_n 2, 1) := by decide +kernel
theorem dX8_hang_99 : decode cX8_hang 99 = .ok (.iastore, 1) := by decide +kernel
theorem dX8_hang_100 : decode cX8_hang 100 = .ok (.goto 20, 3) := by decide +kernel
theorem dX8_hang_103 : decode cX8_hang 103 = .ok (.aload_n 0, 1) := by decide +kernel
theorem dX8_hang_104 : decode cX8_hang 104 = .ok (.getfield 21, 3) := by decide +kernel
theorem dX8_hang_107 : decode cX8_hang 107 = .ok (.aload_n 0, 1) := by decide +kernel
theorem dX8_hang_108 : decode cX8_hang 108 = .ok (.getfield 37, 3) := by decide +kernel
theorem dX8_hang_111 : decode cX8_hang 111 = .ok (.aload_n 0, 1) := by decide +kernel
theorem dX8_hang_112 : decode cX8_hang 112 = .ok (.getfield 58, 3) := by decide +kernel
theorem dX8_hang_115 : decode cX8_hang 115 = .ok (.iconst 1, 1) := by decide +kernel
theorem dX8_hang_116 : decode cX8_hang 116 = .ok (.isub, 1) := by decide +kernel
theorem dX8_hang_117 : decode cX8_hang 117 = .ok (.iaload, 1) := by decide +kernel
theorem dX8_hang_118 : decode cX8_hang 118 = .ok (.iload_n 2, 1) := by decide +kernel
theorem dX8_hang_119 : decode cX8_hang 119 = .ok (.iastore, 1) := by decide +kernel
theorem dX8_hang_120 : decode cX8_hang 120 = .ok (.aload_n 0, 1) := by decide +kernel
theorem dX8_hang_121 : decode cX8_hang 121 = .ok (.getfield 37, 3) := by decide +kernel
theorem dX8_hang_124 : decode cX8_hang 124 = .ok (.aload_n 0, 1) := by decide +kernel
theorem dX8_hang_125 : decode cX8_hang 125 = .ok (.getfield 58, 3) := by decide +kernel
theorem dX8_hang_128 : decode cX8_hang 128 = .ok (.iload_n 2, 1) := by decide +kernel
theorem dX8_hang_129 : decode cX8_hang 129 = .ok (.iastore, 1) := by decide +kernel
theorem dX8_hang_130 : decode cX8_hang 130 = .ok (.aload_n 0, 1) := by decide +kernel
theorem dX8_hang_131 : decode cX8_hang 131 = .ok (.dup, 1) := by decide +kernel
theorem dX8_hang_132 : decode cX8_hang 132 = .ok (.getfield 58, 3) := by decide +kernel
theorem dX8_hang_135 : decode cX8_hang 135 = .ok (.iconst 1, 1) := by decide +kernel
theorem dX8_hang_136 : decode cX8_hang 136 = .ok (.iadd, 1) := by decide +kernel
theorem dX8_hang_137 : decode cX8_hang 137 = .ok (.putfield 58, 3) := by decide +kernel
theorem dX8_hang_140 : decode cX8_hang 140 = .ok (.iload_n 2, 1) := by decide +kernel
theorem dX8_hang_141 : decode cX8_hang 141 = .ok (.ireturn, 1) := by decide +kernel
theorem dX8_delete_0 : decode cX8_delete 0 = .ok (.aload_n 0, 1) := by decide +kernel
theorem dX8_delete_1 : decode cX8_delete 1 = .ok (.iload_n 1, 1) := by decide +kernel
theorem dX8_delete_2 : decode cX8_delete 2 = .ok (.invokevirtual 72, 3) := by decide +kernel
theorem dX8_delete_5 : decode cX8_delete 5 = .ok (.istore_n 2, 1) := by decide +kernel
theorem dX8_delete_6 : decode cX8_delete 6 = .ok (.iload_n 2, 1) := by decide +kernel
theorem dX8_delete_7 : decode cX8_delete 7 = .ok (.ifCond .ne 5, 3) := by decide +kernel
theorem dX8_delete_10 : decode cX8_delete 10 = .ok (.iconst 0, 1) := by decide +kernel
theorem dX8_delete_11 : decode cX8_delete 11 = .ok (.ireturn, 1) := by decide +kernel
theorem dX8_delete_12 : decode cX8_delete 12 = .ok (.aload_n 0, 1) := by decide +kernel
theorem dX8_delete_13 : decode cX8_delete 13 = .ok (.getfield 18, 3) := by decide +kernel
theorem dX8_delete_16 : decode cX8_delete 16 = .ok (.iload_n 2, 1) := by decide +kernel
theorem dX8_delete_17 : decode cX8_delete 17 = .ok (.iaload, 1) := by decide +kernel
theorem dX8_delete_18 : decode cX8_delete 18 = .ok (.ifCond .eq 17, 3) := by decide +kernel
theorem dX8_delete_21 : decode cX8_delete 21 = .ok (.aload_n 0, 1) := by decide +kernel
theorem dX8_delete_22 : decode cX8_delete 22 = .ok (.getfield 21, 3) := by decide +kernel
theorem dX8_delete_25 : decode cX8_delete 25 = .ok (.iload_n 2, 1) := by decide +kernel
theorem dX8_delete_26 : decode cX8_delete 26 = .ok (.iaload, 1) := by decide +kernel
theorem dX8_delete_27 : decode cX8_delete 27 = .ok (.ifCond .eq 8, 3) := by decide +kernel
theorem dX8_delete_30 : decode cX8_delete 30 = .ok (.aload_n 0, 1) := by decide +kernel
theorem dX8_delete_31 : decode cX8_delete 31 = .ok (.iload_n 2, 1) := by decide +kernel
theorem dX8_delete_32 : decode cX8_delete 32 = .ok (.invokevirtual 82, 3) := by decide +kernel
theorem dX8_delete_35 : decode cX8_delete 35 = .ok (.aload_n 0, 1) := by decide +kernel
theorem dX8_delete_36 : decode cX8_delete 36 = .ok (.dup, 1) := by decide +kernel
theorem dX8_delete_37 : decode cX8_delete 37 = .ok (.getfield 58, 3) := by decide +kernel
theorem dX8_delete_40 : decode cX8_delete 40 = .ok (.iconst 1, 1) := by decide +kernel
theorem dX8_delete_41 : decode cX8_delete 41 = .ok (.isub, 1) := by decide +kernel
theorem dX8_delete_42 : decode cX8_delete 42 = .ok (.putfield 58, 3) := by decide +kernel
theorem dX8_delete_45 : decode cX8_delete 45 = .ok (.aload_n 0, 1) := by decide +kernel
theorem dX8_delete_46 : decode cX8_delete 46 = .ok (.getfield 37, 3) := by decide +kernel
theorem dX8_delete_49 : decode cX8_delete 49 = .ok (.aload_n 0, 1) := by decide +kernel
theorem dX8_delete_50 : decode cX8_delete 50 = .ok (.getfield 58, 3) := by decide +kernel
theorem dX8_delete_53 : decode cX8_delete 53 = .ok (.iaload, 1) := by decide +kernel
theorem dX8_delete_54 : decode cX8_delete 54 = .ok (.istore_n 3, 1) := by decide +kernel
theorem dX8_delete_55 : decode cX8_delete 55 = .ok (.aload_n 0, 1) := by decide +kernel
theorem dX8_delete_56 : decode cX8_delete 56 = .ok (.aload_n 0, 1) := by decide +kernel
theorem dX8_delete_57 : decode cX8_delete 57 = .ok (.getfield 58, 3) := by decide +kernel
theorem dX8_delete_60 : decode cX8_delete 60 = .ok (.aload_n 0, 1) := by decide +kernel
theorem dX8_delete_61 : decode cX8_delete 61 = .ok (.getfield 18, 3) := by decide +kernel
theorem dX8_delete_64 : decode cX8_delete 64 = .ok (.iload_n 3, 1) := by decide +kernel
theorem dX8_delete_65 : decode cX8_delete 65 = .ok (.iaload, 1) := by decide +kernel
theorem dX8_delete_66 : decode cX8_delete 66 = .ok (.ifCond .eq 12, 3) := by decide +kernel
theorem dX8_delete_69 : decode cX8_delete 69 = .ok (.aload_n 0, 1) := by decide +kernel
theorem dX8_delete_70 : decode cX8_delete 70 = .ok (.getfield 18, 3) := by decide +kernel
theorem dX8_delete_73 : decode cX8_delete 73 = .ok (.iload_n 3, 1) := by decide +kernel
theorem dX8_delete_74 : decode cX8_delete 74 = .ok (.iaload, 1) := by decide +kernel
theorem dX8_delete_75 : decode cX8_delete 75 = .ok (.goto 9, 3) := by decide +kernel
theorem dX8_delete_78 : decode cX8_delete 78 = .ok (.aload_n 0, 1) := by decide +kernel
theorem dX8_delete_79 : decode cX8_delete 79 = .ok (.getfield 21, 3) := by decide +kernel
theorem dX8_delete_82 : decode cX8_delete 82 = .ok (.iload_n 3, 1) := by decide +kernel
theorem dX8_delete_83 : decode cX8_delete 83 = .ok (.iaload, 1) := by decide +kernel
theorem dX8_delete_84 : decode cX8_delete 84 = .ok (.invokevirtual 86, 3) := by decide +kernel
theorem dX8_delete_87 : decode cX8_delete 87 = .ok (.aload_n 0, 1) := by decide +kernel
theorem dX8_delete_88 : decode cX8_delete 88 = .ok (.getfield 34, 3) := by decide +kernel
theorem dX8_delete_91 : decode cX8_delete 91 = .ok (.aload_n 0, 1) := by decide +kernel
theorem dX8_delete_92 : decode cX8_delete 92 = .ok (.getfield 61, 3) := by decide +kernel
theorem dX8_delete_95 : decode cX8_delete 95 = .ok (.iload_n 3, 1) := by decide +kernel
theorem dX8_delete_96 : decode cX8_delete 96 = .ok (.iastore, 1) := by decide +kernel
theorem dX8_delete_97 : decode cX8_delete 97 = .ok (.aload_n 0, 1) := by decide +kernel
theorem dX8_delete_98 : decode cX8_delete 98 = .ok (.dup, 1) := by decide +kernel
theorem dX8_delete_99 : decode cX8_delete 99 = .ok (.getfield 61, 3) := by decide +kernel
theorem dX8_delete_102 : decode cX8_delete 102 = .ok (.iconst 1, 1) := by decide +kernel
theorem dX8_delete_103 : decode cX8_delete 103 = .ok (.iadd, 1) := by decide +kernel
theorem dX8_delete_104 : decode cX8_delete 104 = .ok (.putfield 61, 3) := by decide +kernel
theorem dX8_delete_107 : decode cX8_delete 107 = .ok (.aload_n 0, 1) := by decide +kernel
theorem dX8_delete_108 : decode cX8_delete 108 = .ok (.invokevirtual 79, 3) := by decide +kernel
theorem dX8_delete_111 : decode cX8_delete 111 = .ok (.iconst 1, 1) := by decide +kernel
theorem dX8_delete_112 : decode cX8_delete 112 = .ok (.ireturn, 1) := by decide +kernel
theorem dX8_takeFollower_0 : decode cX8_takeFollower 0 = .ok (.aload_n 0, 1) := by decide +kernel
theorem dX8_takeFollower_1 : decode cX8_takeFollower 1 = .ok (.getfield 21, 3) := by decide +kernel
theorem dX8_takeFollower_4 : decode cX8_takeFollower 4 = .ok (.iload_n 1, 1) := by decide +kernel
theorem dX8_takeFollower_5 : decode cX8_takeFollower 5 = .ok (.iaload, 1) := by decide +kernel
theorem dX8_takeFollower_6 : decode cX8_takeFollower 6 = .ok (.istore_n 2, 1) := by decide +kernel
theorem dX8_takeFollower_7 : decode cX8_takeFollower 7 = .ok (.iload_n 2, 1) := by decide +kernel
theorem dX8_takeFollower_8 : decode cX8_takeFollower 8 = .ok (.ifCond .eq 42, 3) := by decide +kernel
theorem dX8_takeFollower_11 : decode cX8_takeFollower 11 = .ok (.aload_n 0, 1) := by decide +kernel
theorem dX8_takeFollower_12 : decode cX8_takeFollower 12 = .ok (.getfield 58, 3) := by decide +kernel
theorem dX8_takeFollower_15 : decode cX8_takeFollower 15 = .ok (.bipush 60, 2) := by decide +kernel
theorem dX8_takeFollower_17 : decode cX8_takeFollower 17 = .ok (.if_icmp .ge 33, 3) := by decide +kernel
theorem dX8_takeFollower_20 : decode cX8_takeFollower 20 = .ok (.aload_n 0, 1) := by decide +kernel
theorem dX8_takeFollower_21 : decode cX8_takeFollower 21 = .ok (.getfield 37, 3) := by decide +kernel
theorem dX8_takeFollower_24 : decode cX8_takeFollower 24 = .ok (.aload_n 0, 1) := by decide +kernel
theorem dX8_takeFollower_25 : decode cX8_takeFollower 25 = .ok (.getfield 58, 3) := by decide +kernel
theorem dX8_takeFollower_28 : decode cX8_takeFollower 28 = .ok (.iload_n 2, 1) := by decide +kernel
theorem dX8_takeFollower_29 : decode cX8_takeFollower 29 = .ok (.iastore, 1) := by decide +kernel
theorem dX8_takeFollower_30 : decode cX8_takeFollower 30 = .ok (.aload_n 0, 1) := by decide +kernel
theorem dX8_takeFollower_31 : decode cX8_takeFollower 31 = .ok (.dup, 1) := by decide +kernel
theorem dX8_takeFollower_32 : decode cX8_takeFollower 32 = .ok (.getfield 58, 3) := by decide +kernel
theorem dX8_takeFollower_35 : decode cX8_takeFollower 35 = .ok (.iconst 1, 1) := by decide +kernel
theorem dX8_takeFollower_36 : decode cX8_takeFollower 36 = .ok (.iadd, 1) := by decide +kernel
theorem dX8_takeFollower_37 : decode cX8_takeFollower 37 = .ok (.putfield 58, 3) := by decide +kernel
theorem dX8_takeFollower_40 : decode cX8_takeFollower 40 = .ok (.aload_n 0, 1) := by decide +kernel
theorem dX8_takeFollower_41 : decode cX8_takeFollower 41 = .ok (.getfield 18, 3) := by decide +kernel
theorem dX8_takeFollower_44 : decode cX8_takeFollower 44 = .ok (.iload_n 2, 1) := by decide +kernel
theorem dX8_takeFollower_45 : decode cX8_takeFollower 45 = .ok (.iaload, 1) := by decide +kernel
theorem dX8_takeFollower_46 : decode cX8_takeFollower 46 = .ok (.istore_n 2, 1) := by decide +kernel
theorem dX8_takeFollower_47 : decode cX8_takeFollower 47 = .ok (.goto (-40), 3) := by decide +kernel
theorem dX8_takeFollower_50 : decode cX8_takeFollower 50 = .ok (.aload_n 0, 1) := by decide +kernel
theorem dX8_takeFollower_51 : decode cX8_takeFollower 51 = .ok (.getfield 37, 3) := by decide +kernel
theorem dX8_takeFollower_54 : decode cX8_takeFollower 54 = .ok (.aload_n 0, 1) := by decide +kernel
theorem dX8_takeFollower_55 : decode cX8_takeFollower 55 = .ok (.getfield 58, 3) := by decide +kernel
theorem dX8_takeFollower_58 : decode cX8_takeFollower 58 = .ok (.iconst 1, 1) := by decide +kernel
theorem dX8_takeFollower_59 : decode cX8_takeFollower 59 = .ok (.isub, 1) := by decide +kernel
theorem dX8_takeFollower_60 : decode cX8_takeFollower 60 = .ok (.iaload, 1) := by decide +kernel
theorem dX8_takeFollower_61 : decode cX8_takeFollower 61 = .ok (.istore_n 3, 1) := by decide +kernel
theorem dX8_takeFollower_62 : decode cX8_takeFollower 62 = .ok (.aload_n 0, 1) := by decide +kernel
theorem dX8_takeFollower_63 : decode cX8_takeFollower 63 = .ok (.getfield 9, 3) := by decide +kernel
theorem dX8_takeFollower_66 : decode cX8_takeFollower 66 = .ok (.iload_n 1, 1) := by decide +kernel
theorem dX8_takeFollower_67 : decode cX8_takeFollower 67 = .ok (.aload_n 0, 1) := by decide +kernel
theorem dX8_takeFollower_68 : decode cX8_takeFollower 68 = .ok (.getfield 9, 3) := by decide +kernel
theorem dX8_takeFollower_71 : decode cX8_takeFollower 71 = .ok (.iload_n 3, 1) := by decide +kernel
theorem dX8_takeFollower_72 : decode cX8_takeFollower 72 = .ok (.iaload, 1) := by decide +kernel
theorem dX8_takeFollower_73 : decode cX8_takeFollower 73 = .ok (.iastore, 1) := by decide +kernel
theorem dX8_takeFollower_74 : decode cX8_takeFollower 74 = .ok (.aload_n 0, 1) := by decide +kernel
theorem dX8_takeFollower_75 : decode cX8_takeFollower 75 = .ok (.getfield 15, 3) := by decide +kernel
theorem dX8_takeFollower_78 : decode cX8_takeFollower 78 = .ok (.iload_n 1, 1) := by decide +kernel
theorem dX8_takeFollower_79 : decode cX8_takeFollower 79 = .ok (.aload_n 0, 1) := by decide +kernel
theorem dX8_takeFollower_80 : decode cX8_takeFollower 80 = .ok (.getfield 15, 3) := by decide +kernel
theorem dX8_takeFollower_83 : decode cX8_takeFollower 83 = .ok (.iload_n 3, 1) := by decide +kernel
theorem dX8_takeFollower_84 : decode cX8_takeFollower 84 = .ok (.iaload, 1) := by decide +kernel
theorem dX8_takeFollower_85 : decode cX8_takeFollower 85 = .ok (.iastore, 1) := by decide +kernel
theorem dX8_takeFollower_86 : decode cX8_takeFollower 86 = .ok (.return_, 1) := by decide +kernel
theorem dX8_climb_0 : decode cX8_climb 0 = .ok (.aload_n 0, 1) := by decide +kernel
theorem dX8_climb_1 : decode cX8_climb 1 = .ok (.getfield 58, 3) := by decide +kernel
theorem dX8_climb_4 : decode cX8_climb 4 = .ok (.iconst 1, 1) := by decide +kernel
theorem dX8_climb_5 : decode cX8_climb 5 = .ok (.isub, 1) := by decide +kernel
theorem dX8_climb_6 : decode cX8_climb 6 = .ok (.istore_n 1, 1) := by decide +kernel
theorem dX8_climb_7 : decode cX8_climb 7 = .ok (.iload_n 1, 1) := by decide +kernel
theorem dX8_climb_8 : decode cX8_climb 8 = .ok (.ifCond .lt 38, 3) := by decide +kernel
theorem dX8_climb_11 : decode cX8_climb 11 = .ok (.aload_n 0, 1) := by decide +kernel
theorem dX8_climb_12 : decode cX8_climb 12 = .ok (.aload_n 0, 1) := by decide +kernel
theorem dX8_climb_13 : decode cX8_climb 13 = .ok (.getfield 37, 3) := by decide +kernel
theorem dX8_climb_16 : decode cX8_climb 16 = .ok (.iload_n 1, 1) := by decide +kernel
theorem dX8_climb_17 : decode cX8_climb 17 = .ok (.iaload, 1) := by decide +kernel
theorem dX8_climb_18 : decode cX8_climb 18 = .ok (.invokevirtual 90, 3) := by decide +kernel
theorem dX8_climb_21 : decode cX8_climb 21 = .ok (.aload_n 0, 1) := by decide +kernel
theorem dX8_climb_22 : decode cX8_climb 22 = .ok (.iload_n 1, 1) := by decide +kernel
theorem dX8_climb_23 : decode cX8_climb 23 = .ok (.aload_n 0, 1) := by decide +kernel
theorem dX8_climb_24 : decode cX8_climb 24 = .ok (.getfield 47, 3) := by decide +kernel
theorem dX8_climb_27 : decode cX8_climb 27 = .ok (.aload_n 0, 1) := by decide +kernel
theorem dX8_climb_28 : decode cX8_climb 28 = .ok (.aload_n 0, 1) := by decide +kernel
theorem dX8_climb_29 : decode cX8_climb 29 = .ok (.getfield 37, 3) := by decide +kernel
theorem dX8_climb_32 : decode cX8_climb 32 = .ok (.iload_n 1, 1) := by decide +kernel
theorem dX8_climb_33 : decode cX8_climb 33 = .ok (.iaload, 1) := by decide +kernel
theorem dX8_climb_34 : decode cX8_climb 34 = .ok (.invokevirtual 93, 3) := by decide +kernel
theorem dX8_climb_37 : decode cX8_climb 37 = .ok (.invokevirtual 86, 3) := by decide +kernel
theorem dX8_climb_40 : decode cX8_climb 40 = .ok (.iinc 1 (-1), 3) := by decide +kernel
theorem dX8_climb_43 : decode cX8_climb 43 = .ok (.goto (-36), 3) := by decide +kernel
theorem dX8_climb_46 : decode cX8_climb 46 = .ok (.return_, 1) := by decide +kernel
theorem dX8_setAt_0 : decode cX8_setAt 0 = .ok (.iload_n 1, 1) := by decide +kernel
theorem dX8_setAt_1 : decode cX8_setAt 1 = .ok (.ifCond .ne 11, 3) := by decide +kernel
theorem dX8_setAt_4 : decode cX8_setAt 4 = .ok (.aload_n 0, 1) := by decide +kernel
theorem dX8_setAt_5 : decode cX8_setAt 5 = .ok (.iload_n 2, 1) := by decide +kernel
theorem dX8_setAt_6 : decode cX8_setAt 6 = .ok (.putfield 55, 3) := by decide +kernel
theorem dX8_setAt_9 : decode cX8_setAt 9 = .ok (.goto 56, 3) := by decide +kernel
theorem dX8_setAt_12 : decode cX8_setAt 12 = .ok (.aload_n 0, 1) := by decide +kernel
theorem dX8_setAt_13 : decode cX8_setAt 13 = .ok (.getfield 18, 3) := by decide +kernel
theorem dX8_setAt_16 : decode cX8_setAt 16 = .ok (.aload_n 0, 1) := by decide +kernel
theorem dX8_setAt_17 : decode cX8_setAt 17 = .ok (.getfield 37, 3) := by decide +kernel
theorem dX8_setAt_20 : decode cX8_setAt 20 = .ok (.iload_n 1, 1) := by decide +kernel
theorem dX8_setAt_21 : decode cX8_setAt 21 = .ok (.iconst 1, 1) := by decide +kernel
theorem dX8_setAt_22 : decode cX8_setAt 22 = .ok (.isub, 1) := by decide +kernel
theorem dX8_setAt_23 : decode cX8_setAt 23 = .ok (.iaload, 1) := by decide +kernel
theorem dX8_setAt_24 : decode cX8_setAt 24 = .ok (.iaload, 1) := by decide +kernel
theorem dX8_setAt_25 : decode cX8_setAt 25 = .ok (.aload_n 0, 1) := by decide +kernel
theorem dX8_setAt_26 : decode cX8_setAt 26 = .ok (.getfield 37, 3) := by decide +kernel
theorem dX8_setAt_29 : decode cX8_setAt 29 = .ok (.iload_n 1, 1) := by decide +kernel
theorem dX8_setAt_30 : decode cX8_setAt 30 = .ok (.iaload, 1) := by decide +kernel
theorem dX8_setAt_31 : decode cX8_setAt 31 = .ok (.if_icmp .ne 20, 3) := by decide +kernel
theorem dX8_setAt_34 : decode cX8_setAt 34 = .ok (.aload_n 0, 1) := by decide +kernel
theorem dX8_setAt_35 : decode cX8_setAt 35 = .ok (.getfield 18, 3) := by decide +kernel
theorem dX8_setAt_38 : decode cX8_setAt 38 = .ok (.aload_n 0, 1) := by decide +kernel
theorem dX8_setAt_39 : decode cX8_setAt 39 = .ok (.getfield 37, 3) := by decide +kernel
theorem dX8_setAt_42 : decode cX8_setAt 42 = .ok (.iload_n 1, 1) := by decide +kernel
theorem dX8_setAt_43 : decode cX8_setAt 43 = .ok (.iconst 1, 1) := by decide +kernel
theorem dX8_setAt_44 : decode cX8_setAt 44 = .ok (.isub, 1) := by decide +kernel
theorem dX8_setAt_45 : decode cX8_setAt 45 = .ok (.iaload, 1) := by decide +kernel
theorem dX8_setAt_46 : decode cX8_setAt 46 = .ok (.iload_n 2, 1) := by decide +kernel
theorem dX8_setAt_47 : decode cX8_setAt 47 = .ok (.iastore, 1) := by decide +kernel
theorem dX8_setAt_48 : decode cX8_setAt 48 = .ok (.goto 17, 3) := by decide +kernel
theorem dX8_setAt_51 : decode cX8_setAt 51 = .ok (.aload_n 0, 1) := by decide +kernel
theorem dX8_setAt_52 : decode cX8_setAt 52 = .ok (.getfield 21, 3) := by decide +kernel
theorem dX8_setAt_55 : decode cX8_setAt 55 = .ok (.aload_n 0, 1) := by decide +kernel
theorem dX8_setAt_56 : decode cX8_setAt 56 = .ok (.getfield 37, 3) := by decide +kernel
theorem dX8_setAt_59 : decode cX8_setAt 59 = .ok (.iload_n 1, 1) := by decide +kernel
theorem dX8_setAt_60 : decode cX8_setAt 60 = .ok (.iconst 1, 1) := by decide +kernel
theorem dX8_setAt_61 : decode cX8_setAt 61 = .ok (.isub, 1) := by decide +kernel
theorem dX8_setAt_62 : decode cX8_setAt 62 = .ok (.iaload, 1) := by decide +kernel
theorem dX8_setAt_63 : decode cX8_setAt 63 = .ok (.iload_n 2, 1) := by decide +kernel
theorem dX8_setAt_64 : decode cX8_setAt 64 = .ok (.iastore, 1) := by decide +kernel
theorem dX8_setAt_65 : decode cX8_setAt 65 = .ok (.return_, 1) := by decide +kernel
theorem dX8_refresh_0 : decode cX8_refresh 0 = .ok (.aload_n 0, 1) := by decide +kernel
theorem dX8_refresh_1 : decode cX8_refresh 1 = .ok (.getfield 18, 3) := by decide +kernel
theorem dX8_refresh_4 : decode cX8_refresh 4 = .ok (.iload_n 1, 1) := by decide +kernel
theorem dX8_refresh_5 : decode cX8_refresh 5 = .ok (.iaload, 1) := by decide +kernel
theorem dX8_refresh_6 : decode cX8_refresh 6 = .ok (.istore_n 2, 1) := by decide +kernel
theorem dX8_refresh_7 : decode cX8_refresh 7 = .ok (.aload_n 0, 1) := by decide +kernel
theorem dX8_refresh_8 : decode cX8_refresh 8 = .ok (.getfield 21, 3) := by decide +kernel
theorem dX8_refresh_11 : decode cX8_refresh 11 = .ok (.iload_n 1, 1) := by decide +kernel
theorem dX8_refresh_12 : decode cX8_refresh 12 = .ok (.iaload, 1) := by decide +kernel
theorem dX8_refresh_13 : decode cX8_refresh 13 = .ok (.istore_n 3, 1) := by decide +kernel
theorem dX8_refresh_14 : decode cX8_refresh 14 = .ok (.aload_n 0, 1) := by decide +kernel
theorem dX8_refresh_15 : decode cX8_refresh 15 = .ok (.getfield 24, 3) := by decide +kernel
theorem dX8_refresh_18 : decode cX8_refresh 18 = .ok (.iload_n 1, 1) := by decide +kernel
theorem dX8_refresh_19 : decode cX8_refresh 19 = .ok (.aload_n 0, 1) := by decide +kernel
theorem dX8_refresh_20 : decode cX8_refresh 20 = .ok (.getfield 24, 3) := by decide +kernel
theorem dX8_refresh_23 : decode cX8_refresh 23 = .ok (.iload_n 2, 1) := by decide +kernel
theorem dX8_refresh_24 : decode cX8_refresh 24 = .ok (.iaload, 1) := by decide +kernel
theorem dX8_refresh_25 : decode cX8_refresh 25 = .ok (.aload_n 0, 1) := by decide +kernel
theorem dX8_refresh_26 : decode cX8_refresh 26 = .ok (.getfield 24, 3) := by decide +kernel
theorem dX8_refresh_29 : decode cX8_refresh 29 = .ok (.iload_n 3, 1) := by decide +kernel
theorem dX8_refresh_30 : decode cX8_refresh 30 = .ok (.iaload, 1) := by decide +kernel
theorem dX8_refresh_31 : decode cX8_refresh 31 = .ok (.iadd, 1) := by decide +kernel
theorem dX8_refresh_32 : decode cX8_refresh 32 = .ok (.iconst 1, 1) := by decide +kernel
theorem dX8_refresh_33 : decode cX8_refresh 33 = .ok (.iadd, 1) := by decide +kernel
theorem dX8_refresh_34 : decode cX8_refresh 34 = .ok (.iastore, 1) := by decide +kernel
theorem dX8_refresh_35 : decode cX8_refresh 35 = .ok (.aload_n 0, 1) := by decide +kernel
theorem dX8_refresh_36 : decode cX8_refresh 36 = .ok (.getfield 30, 3) := by decide +kernel
theorem dX8_refresh_39 : decode cX8_refresh 39 = .ok (.iload_n 1, 1) := by decide +kernel
theorem dX8_refresh_40 : decode cX8_refresh 40 = .ok (.aload_n 0, 1) := by decide +kernel
theorem dX8_refresh_41 : decode cX8_refresh 41 = .ok (.getfield 30, 3) := by decide +kernel
theorem dX8_refresh_44 : decode cX8_refresh 44 = .ok (.iload_n 2, 1) := by decide +kernel
theorem dX8_refresh_45 : decode cX8_refresh 45 = .ok (.laload, 1) := by decide +kernel
theorem dX8_refresh_46 : decode cX8_refresh 46 = .ok (.aload_n 0, 1) := by decide +kernel
theorem dX8_refresh_47 : decode cX8_refresh 47 = .ok (.getfield 30, 3) := by decide +kernel
theorem dX8_refresh_50 : decode cX8_refresh 50 = .ok (.iload_n 3, 1) := by decide +kernel
theorem dX8_refresh_51 : decode cX8_refresh 51 = .ok (.laload, 1) := by decide +kernel
theorem dX8_refresh_52 : decode cX8_refresh 52 = .ok (.ladd, 1) := by decide +kernel
theorem dX8_refresh_53 : decode cX8_refresh 53 = .ok (.aload_n 0, 1) := by decide +kernel
theorem dX8_refresh_54 : decode cX8_refresh 54 = .ok (.getfield 15, 3) := by decide +kernel
theorem dX8_refresh_57 : decode cX8_refresh 57 = .ok (.iload_n 1, 1) := by decide +kernel
theorem dX8_refresh_58 : decode cX8_refresh 58 = .ok (.iaload, 1) := by decide +kernel
theorem dX8_refresh_59 : decode cX8_refresh 59 = .ok (.i2l, 1) := by decide +kernel
theorem dX8_refresh_60 : decode cX8_refresh 60 = .ok (.ladd, 1) := by decide +kernel
theorem dX8_refresh_61 : decode cX8_refresh 61 = .ok (.lastore, 1) := by decide +kernel
theorem dX8_refresh_62 : decode cX8_refresh 62 = .ok (.aload_n 0, 1) := by decide +kernel
theorem dX8_refresh_63 : decode cX8_refresh 63 = .ok (.getfield 27, 3) := by decide +kernel
theorem dX8_refresh_66 : decode cX8_refresh 66 = .ok (.iload_n 1, 1) := by decide +kernel
theorem dX8_refresh_67 : decode cX8_refresh 67 = .ok (.aload_n 0, 1) := by decide +kernel
theorem dX8_refresh_68 : decode cX8_refresh 68 = .ok (.getfield 27, 3) := by decide +kernel
theorem dX8_refresh_71 : decode cX8_refresh 71 = .ok (.iload_n 2, 1) := by decide +kernel
theorem dX8_refresh_72 : decode cX8_refresh 72 = .ok (.iaload, 1) := by decide +kernel
theorem dX8_refresh_73 : decode cX8_refresh 73 = .ok (.aload_n 0, 1) := by decide +kernel
theorem dX8_refresh_74 : decode cX8_refresh 74 = .ok (.getfield 27, 3) := by decide +kernel
theorem dX8_refresh_77 : decode cX8_refresh 77 = .ok (.iload_n 3, 1) := by decide +kernel
theorem dX8_refresh_78 : decode cX8_refresh 78 = .ok (.iaload, 1) := by decide +kernel
theorem dX8_refresh_79 : decode cX8_refresh 79 = .ok (.if_icmp .le 12, 3) := by decide +kernel
theorem dX8_refresh_82 : decode cX8_refresh 82 = .ok (.aload_n 0, 1) := by decide +kernel
theorem dX8_refresh_83 : decode cX8_refresh 83 = .ok (.getfield 27, 3) := by decide +kernel
theorem dX8_refresh_86 : decode cX8_refresh 86 = .ok (.iload_n 2, 1) := by decide +kernel
theorem dX8_refresh_87 : decode cX8_refresh 87 = .ok (.iaload, 1) := by decide +kernel
theorem dX8_refresh_88 : decode cX8_refresh 88 = .ok (.goto 9, 3) := by decide +kernel
theorem dX8_refresh_91 : decode cX8_refresh 91 = .ok (.aload_n 0, 1) := by decide +kernel
theorem dX8_refresh_92 : decode cX8_refresh 92 = .ok (.getfield 27, 3) := by decide +kernel
theorem dX8_refresh_95 : decode cX8_refresh 95 = .ok (.iload_n 3, 1) := by decide +kernel
theorem dX8_refresh_96 : decode cX8_refresh 96 = .ok (.iaload, 1) := by decide +kernel
theorem dX8_refresh_97 : decode cX8_refresh 97 = .ok (.iconst 1, 1) := by decide +kernel
theorem dX8_refresh_98 : decode cX8_refresh 98 = .ok (.iadd, 1) := by decide +kernel
theorem dX8_refresh_99 : decode cX8_refresh 99 = .ok (.iastore, 1) := by decide +kernel
theorem dX8_refresh_100 : decode cX8_refresh 100 = .ok (.return_, 1) := by decide +kernel
theorem dX8_raiseLeft_0 : decode cX8_raiseLeft 0 = .ok (.aload_n 0, 1) := by decide +kernel
theorem dX8_raiseLeft_1 : decode cX8_raiseLeft 1 = .ok (.getfield 18, 3) := by decide +kernel
theorem dX8_raiseLeft_4 : decode cX8_raiseLeft 4 = .ok (.iload_n 1, 1) := by decide +kernel
theorem dX8_raiseLeft_5 : decode cX8_raiseLeft 5 = .ok (.iaload, 1) := by decide +kernel
theorem dX8_raiseLeft_6 : decode cX8_raiseLeft 6 = .ok (.istore_n 2, 1) := by decide +kernel
theorem dX8_raiseLeft_7 : decode cX8_raiseLeft 7 = .ok (.aload_n 0, 1) := by decide +kernel
theorem dX8_raiseLeft_8 : decode cX8_raiseLeft 8 = .ok (.getfield 18, 3) := by decide +kernel
theorem dX8_raiseLeft_11 : decode cX8_raiseLeft 11 = .ok (.iload_n 1, 1) := by decide +kernel
theorem dX8_raiseLeft_12 : decode cX8_raiseLeft 12 = .ok (.aload_n 0, 1) := by decide +kernel
theorem dX8_raiseLeft_13 : decode cX8_raiseLeft 13 = .ok (.getfield 21, 3) := by decide +kernel
theorem dX8_raiseLeft_16 : decode cX8_raiseLeft 16 = .ok (.iload_n 2, 1) := by decide +kernel
theorem dX8_raiseLeft_17 : decode cX8_raiseLeft 17 = .ok (.iaload, 1) := by decide +kernel
theorem dX8_raiseLeft_18 : decode cX8_raiseLeft 18 = .ok (.iastore, 1) := by decide +kernel
theorem dX8_raiseLeft_19 : decode cX8_raiseLeft 19 = .ok (.aload_n 0, 1) := by decide +kernel
theorem dX8_raiseLeft_20 : decode cX8_raiseLeft 20 = .ok (.getfield 21, 3) := by decide +kernel
theorem dX8_raiseLeft_23 : decode cX8_raiseLeft 23 = .ok (.iload_n 2, 1) := by decide +kernel
theorem dX8_raiseLeft_24 : decode cX8_raiseLeft 24 = .ok (.iload_n 1, 1) := by decide +kernel
theorem dX8_raiseLeft_25 : decode cX8_raiseLeft 25 = .ok (.iastore, 1) := by decide +kernel
theorem dX8_raiseLeft_26 : decode cX8_raiseLeft 26 = .ok (.aload_n 0, 1) := by decide +kernel
theorem dX8_raiseLeft_27 : decode cX8_raiseLeft 27 = .ok (.iload_n 1, 1) := by decide +kernel
theorem dX8_raiseLeft_28 : decode cX8_raiseLeft 28 = .ok (.invokevirtual 90, 3) := by decide +kernel
theorem dX8_raiseLeft_31 : decode cX8_raiseLeft 31 = .ok (.aload_n 0, 1) := by decide +kernel
theorem dX8_raiseLeft_32 : decode cX8_raiseLeft 32 = .ok (.iload_n 2, 1) := by decide +kernel
theorem dX8_raiseLeft_33 : decode cX8_raiseLeft 33 = .ok (.invokevirtual 90, 3) := by decide +kernel
theorem dX8_raiseLeft_36 : decode cX8_raiseLeft 36 = .ok (.iload_n 2, 1) := by decide +kernel
theorem dX8_raiseLeft_37 : decode cX8_raiseLeft 37 = .ok (.ireturn, 1) := by decide +kernel
theorem dX8_raiseRight_0 : decode cX8_raiseRight 0 = .ok (.aload_n 0, 1) := by decide +kernel
theorem dX8_raiseRight_1 : decode cX8_raiseRight 1 = .ok (.getfield 21, 3) := by decide +kernel
theorem dX8_raiseRight_4 : decode cX8_raiseRight 4 = .ok (.iload_n 1, 1) := by decide +kernel
theorem dX8_raiseRight_5 : decode cX8_raiseRight 5 = .ok (.iaload, 1) := by decide +kernel
theorem dX8_raiseRight_6 : decode cX8_raiseRight 6 = .ok (.istore_n 2, 1) := by decide +kernel
theorem dX8_raiseRight_7 : decode cX8_raiseRight 7 = .ok (.aload_n 0, 1) := by decide +kernel
theorem dX8_raiseRight_8 : decode cX8_raiseRight 8 = .ok (.getfield 21, 3) := by decide +kernel
theorem dX8_raiseRight_11 : decode cX8_raiseRight 11 = .ok (.iload_n 1, 1) := by decide +kernel
theorem dX8_raiseRight_12 : decode cX8_raiseRight 12 = .ok (.aload_n 0, 1) := by decide +kernel
theorem dX8_raiseRight_13 : decode cX8_raiseRight 13 = .ok (.getfield 18, 3) := by decide +kernel
theorem dX8_raiseRight_16 : decode cX8_raiseRight 16 = .ok (.iload_n 2, 1) := by decide +kernel
theorem dX8_raiseRight_17 : decode cX8_raiseRight 17 = .ok (.iaload, 1) := by decide +kernel
theorem dX8_raiseRight_18 : decode cX8_raiseRight 18 = .ok (.iastore, 1) := by decide +kernel
theorem dX8_raiseRight_19 : decode cX8_raiseRight 19 = .ok (.aload_n 0, 1) := by decide +kernel
theorem dX8_raiseRight_20 : decode cX8_raiseRight 20 = .ok (.getfield 18, 3) := by decide +kernel
theorem dX8_raiseRight_23 : decode cX8_raiseRight 23 = .ok (.iload_n 2, 1) := by decide +kernel
theorem dX8_raiseRight_24 : decode cX8_raiseRight 24 = .ok (.iload_n 1, 1) := by decide +kernel
theorem dX8_raiseRight_25 : decode cX8_raiseRight 25 = .ok (.iastore, 1) := by decide +kernel
theorem dX8_raiseRight_26 : decode cX8_raiseRight 26 = .ok (.aload_n 0, 1) := by decide +kernel
theorem dX8_raiseRight_27 : decode cX8_raiseRight 27 = .ok (.iload_n 1, 1) := by decide +kernel
theorem dX8_raiseRight_28 : decode cX8_raiseRight 28 = .ok (.invokevirtual 90, 3) := by decide +kernel
theorem dX8_raiseRight_31 : decode cX8_raiseRight 31 = .ok (.aload_n 0, 1) := by decide +kernel
theorem dX8_raiseRight_32 : decode cX8_raiseRight 32 = .ok (.iload_n 2, 1) := by decide +kernel
theorem dX8_raiseRight_33 : decode cX8_raiseRight 33 = .ok (.invokevirtual 90, 3) := by decide +kernel
theorem dX8_raiseRight_36 : decode cX8_raiseRight 36 = .ok (.iload_n 2, 1) := by decide +kernel
theorem dX8_raiseRight_37 : decode cX8_raiseRight 37 = .ok (.ireturn, 1) := by decide +kernel
theorem dX8_rebuild_0 : decode cX8_rebuild 0 = .ok (.aload_n 0, 1) := by decide +kernel
theorem dX8_rebuild_1 : decode cX8_rebuild 1 = .ok (.getfield 24, 3) := by decide +kernel
theorem dX8_rebuild_4 : decode cX8_rebuild 4 = .ok (.iload_n 1, 1) := by decide +kernel
theorem dX8_rebuild_5 : decode cX8_rebuild 5 = .ok (.iaload, 1) := by decide +kernel
theorem dX8_rebuild_6 : decode cX8_rebuild 6 = .ok (.istore_n 2, 1) := by decide +kernel
theorem dX8_rebuild_7 : decode cX8_rebuild 7 = .ok (.iconst 0, 1) := by decide +kernel
theorem dX8_rebuild_8 : decode cX8_rebuild 8 = .ok (.istore_n 3, 1) := by decide +kernel
theorem dX8_rebuild_9 : decode cX8_rebuild 9 = .ok (.iload_n 3, 1) := by decide +kernel
theorem dX8_rebuild_10 : decode cX8_rebuild 10 = .ok (.iload_n 2, 1) := by decide +kernel
theorem dX8_rebuild_11 : decode cX8_rebuild 11 = .ok (.if_icmp .ge 21, 3) := by decide +kernel
theorem dX8_rebuild_14 : decode cX8_rebuild 14 = .ok (.aload_n 0, 1) := by decide +kernel
theorem dX8_rebuild_15 : decode cX8_rebuild 15 = .ok (.getfield 40, 3) := by decide +kernel
theorem dX8_rebuild_18 : decode cX8_rebuild 18 = .ok (.iload_n 3, 1) := by decide +kernel
theorem dX8_rebuild_19 : decode cX8_rebuild 19 = .ok (.aload_n 0, 1) := by decide +kernel
theorem dX8_rebuild_20 : decode cX8_rebuild 20 = .ok (.iload_n 1, 1) := by decide +kernel
theorem dX8_rebuild_21 : decode cX8_rebuild 21 = .ok (.iload_n 3, 1) := by decide +kernel
theorem dX8_rebuild_22 : decode cX8_rebuild 22 = .ok (.invokevirtual 99, 3) := by decide +kernel
theorem dX8_rebuild_25 : decode cX8_rebuild 25 = .ok (.iastore, 1) := by decide +kernel
theorem dX8_rebuild_26 : decode cX8_rebuild 26 = .ok (.iinc 3 1, 3) := by decide +kernel
theorem dX8_rebuild_29 : decode cX8_rebuild 29 = .ok (.goto (-20), 3) := by decide +kernel
theorem dX8_rebuild_32 : decode cX8_rebuild 32 = .ok (.aload_n 0, 1) := by decide +kernel
theorem dX8_rebuild_33 : decode cX8_rebuild 33 = .ok (.iconst 0, 1) := by decide +kernel
theorem dX8_rebuild_34 : decode cX8_rebuild 34 = .ok (.iload_n 2, 1) := by decide +kernel
theorem dX8_rebuild_35 : decode cX8_rebuild 35 = .ok (.bipush 60, 2) := by decide +kernel
theorem dX8_rebuild_37 : decode cX8_rebuild 37 = .ok (.invokevirtual 103, 3) := by decide +kernel
theorem dX8_rebuild_40 : decode cX8_rebuild 40 = .ok (.ireturn, 1) := by decide +kernel
theorem dX8_halve_0 : decode cX8_halve 0 = .ok (.iload_n 1, 1) := by decide +kernel
theorem dX8_halve_1 : decode cX8_halve 1 = .ok (.iload_n 2, 1) := by decide +kernel
theorem dX8_halve_2 : decode cX8_halve 2 = .ok (.if_icmp .ge 7, 3) := by decide +kernel
theorem dX8_halve_5 : decode cX8_halve 5 = .ok (.iload_n 3, 1) := by decide +kernel
theorem dX8_halve_6 : decode cX8_halve 6 = .ok (.ifCond .ne 5, 3) := by decide +kernel
theorem dX8_halve_9 : decode cX8_halve 9 = .ok (.iconst 0, 1) := by decide +kernel
theorem dX8_halve_10 : decode cX8_halve 10 = .ok (.ireturn, 1) := by decide +kernel
theorem dX8_halve_11 : decode cX8_halve 11 = .ok (.iload_n 1, 1) := by decide +kernel
theorem dX8_halve_12 : decode cX8_halve 12 = .ok (.iload_n 2, 1) := by decide +kernel
theorem dX8_halve_13 : decode cX8_halve 13 = .ok (.iload_n 1, 1) := by decide +kernel
theorem dX8_halve_14 : decode cX8_halve 14 = .ok (.isub, 1) := by decide +kernel
theorem dX8_halve_15 : decode cX8_halve 15 = .ok (.iconst 2, 1) := by decide +kernel
theorem dX8_halve_16 : decode cX8_halve 16 = .ok (.idiv, 1) := by decide +kernel
theorem dX8_halve_17 : decode cX8_halve 17 = .ok (.iadd, 1) := by decide +kernel
theorem dX8_halve_18 : decode cX8_halve 18 = .ok (.istore 4, 2) := by decide +kernel
theorem dX8_halve_20 : decode cX8_halve 20 = .ok (.aload_n 0, 1) := by decide +kernel
theorem dX8_halve_21 : decode cX8_halve 21 = .ok (.getfield 40, 3) := by decide +kernel
theorem dX8_halve_24 : decode cX8_halve 24 = .ok (.iload 4, 2) := by decide +kernel
theorem dX8_halve_26 : decode cX8_halve 26 = .ok (.iaload, 1) := by decide +kernel
theorem dX8_halve_27 : decode cX8_halve 27 = .ok (.istore 5, 2) := by decide +kernel
theorem dX8_halve_29 : decode cX8_halve 29 = .ok (.aload_n 0, 1) := by decide +kernel
theorem dX8_halve_30 : decode cX8_halve 30 = .ok (.getfield 18, 3) := by decide +kernel
theorem dX8_halve_33 : decode cX8_halve 33 = .ok (.iload 5, 2) := by decide +kernel
theorem dX8_halve_35 : decode cX8_halve 35 = .ok (.aload_n 0, 1) := by decide +kernel
theorem dX8_halve_36 : decode cX8_halve 36 = .ok (.iload_n 1, 1) := by decide +kernel
theorem dX8_halve_37 : decode cX8_halve 37 = .ok (.iload 4, 2) := by decide +kernel
theorem dX8_halve_39 : decode cX8_halve 39 = .ok (.iload_n 3, 1) := by decide +kernel
theorem dX8_halve_40 : decode cX8_halve 40 = .ok (.iconst 1, 1) := by decide +kernel
theorem dX8_halve_41 : decode cX8_halve 41 = .ok (.isub, 1) := by decide +kernel
theorem dX8_halve_42 : decode cX8_halve 42 = .ok (.invokevirtual 103, 3) := by decide +kernel
theorem dX8_halve_45 : decode cX8_halve 45 = .ok (.iastore, 1) := by decide +kernel
theorem dX8_halve_46 : decode cX8_halve 46 = .ok (.aload_n 0, 1) := by decide +kernel
theorem dX8_halve_47 : decode cX8_halve 47 = .ok (.getfield 21, 3) := by decide +kernel
theorem dX8_halve_50 : decode cX8_halve 50 = .ok (.iload 5, 2) := by decide +kernel
theorem dX8_halve_52 : decode cX8_halve 52 = .ok (.aload_n 0, 1) := by decide +kernel
theorem dX8_halve_53 : decode cX8_halve 53 = .ok (.iload 4, 2) := by decide +kernel
theorem dX8_halve_55 : decode cX8_halve 55 = .ok (.iconst 1, 1) := by decide +kernel
theorem dX8_halve_56 : decode cX8_halve 56 = .ok (.iadd, 1) := by decide +kernel
theorem dX8_halve_57 : decode cX8_halve 57 = .ok (.iload_n 2, 1) := by decide +kernel
theorem dX8_halve_58 : decode cX8_halve 58 = .ok (.iload_n 3, 1) := by decide +kernel
theorem dX8_halve_59 : decode cX8_halve 59 = .ok (.iconst 1, 1) := by decide +kernel
theorem dX8_halve_60 : decode cX8_halve 60 = .ok (.isub, 1) := by decide +kernel
theorem dX8_halve_61 : decode cX8_halve 61 = .ok (.invokevirtual 103, 3) := by decide +kernel
theorem dX8_halve_64 : decode cX8_halve 64 = .ok (.iastore, 1) := by decide +kernel
theorem dX8_halve_65 : decode cX8_halve 65 = .ok (.aload_n 0, 1) := by decide +kernel
theorem dX8_halve_66 : decode cX8_halve 66 = .ok (.iload 5, 2) := by decide +kernel
theorem dX8_halve_68 : decode cX8_halve 68 = .ok (.invokevirtual 90, 3) := by decide +kernel
theorem dX8_halve_71 : decode cX8_halve 71 = .ok (.iload 5, 2) := by decide +kernel
theorem dX8_halve_73 : decode cX8_halve 73 = .ok (.ireturn, 1) := by decide +kernel
theorem dX8_isSound_0 : decode cX8_isSound 0 = .ok (.aload_n 0, 1) := by decide +kernel
theorem dX8_isSound_1 : decode cX8_isSound 1 = .ok (.getfield 24, 3) := by decide +kernel
theorem dX8_isSound_4 : decode cX8_isSound 4 = .ok (.aload_n 0, 1) := by decide +kernel
theorem dX8_isSound_5 : decode cX8_isSound 5 = .ok (.getfield 55, 3) := by decide +kernel
theorem dX8_isSound_8 : decode cX8_isSound 8 = .ok (.iaload, 1) := by decide +kernel
theorem dX8_isSound_9 : decode cX8_isSound 9 = .ok (.istore_n 1, 1) := by decide +kernel
theorem dX8_isSound_10 : decode cX8_isSound 10 = .ok (.iconst 0, 1) := by decide +kernel
theorem dX8_isSound_11 : decode cX8_isSound 11 = .ok (.istore_n 2, 1) := by decide +kernel
theorem dX8_isSound_12 : decode cX8_isSound 12 = .ok (.iload_n 2, 1) := by decide +kernel
theorem dX8_isSound_13 : decode cX8_isSound 13 = .ok (.iload_n 1, 1) := by decide +kernel
theorem dX8_isSound_14 : decode cX8_isSound 14 = .ok (.if_icmp .ge 83, 3) := by decide +kernel
theorem dX8_isSound_17 : decode cX8_isSound 17 = .ok (.aload_n 0, 1) := by decide +kernel
theorem dX8_isSound_18 : decode cX8_isSound 18 = .ok (.aload_n 0, 1) := by decide +kernel
theorem dX8_isSound_19 : decode cX8_isSound 19 = .ok (.getfield 55, 3) := by decide +kernel
theorem dX8_isSound_22 : decode cX8_isSound 22 = .ok (.iload_n 2, 1) := by decide +kernel
theorem dX8_isSound_23 : decode cX8_isSound 23 = .ok (.invokevirtual 99, 3) := by decide +kernel
theorem dX8_isSound_26 : decode cX8_isSound 26 = .ok (.istore_n 3, 1) := by decide +kernel
theorem dX8_isSound_27 : decode cX8_isSound 27 = .ok (.iload_n 3, 1) := by decide +kernel
theorem dX8_isSound_28 : decode cX8_isSound 28 = .ok (.ifCond .eq 23, 3) := by decide +kernel
theorem dX8_isSound_31 : decode cX8_isSound 31 = .ok (.aload_n 0, 1) := by decide +kernel
theorem dX8_isSound_32 : decode cX8_isSound 32 = .ok (.iload_n 3, 1) := by decide +kernel
theorem dX8_isSound_33 : decode cX8_isSound 33 = .ok (.invokevirtual 107, 3) := by decide +kernel
theorem dX8_isSound_36 : decode cX8_isSound 36 = .ok (.ifCond .eq 15, 3) := by decide +kernel
theorem dX8_isSound_39 : decode cX8_isSound 39 = .ok (.aload_n 0, 1) := by decide +kernel
theorem dX8_isSound_40 : decode cX8_isSound 40 = .ok (.getfield 47, 3) := by decide +kernel
theorem dX8_isSound_43 : decode cX8_isSound 43 = .ok (.aload_n 0, 1) := by decide +kernel
theorem dX8_isSound_44 : decode cX8_isSound 44 = .ok (.iload_n 3, 1) := by decide +kernel
theorem dX8_isSound_45 : decode cX8_isSound 45 = .ok (.invokevirtual 111, 3) := by decide +kernel
theorem dX8_isSound_48 : decode cX8_isSound 48 = .ok (.ifCond .ne 5, 3) := by decide +kernel
theorem dX8_isSound_51 : decode cX8_isSound 51 = .ok (.iconst 0, 1) := by decide +kernel
theorem dX8_isSound_52 : decode cX8_isSound 52 = .ok (.ireturn, 1) := by decide +kernel
theorem dX8_isSound_53 : decode cX8_isSound 53 = .ok (.iload_n 2, 1) := by decide +kernel
theorem dX8_isSound_54 : decode cX8_isSound 54 = .ok (.ifCond .le 37, 3) := by decide +kernel
theorem dX8_isSound_57 : decode cX8_isSound 57 = .ok (.aload_n 0, 1) := by decide +kernel
theorem dX8_isSound_58 : decode cX8_isSound 58 = .ok (.getfield 51, 3) := by decide +kernel
theorem dX8_isSound_61 : decode cX8_isSound 61 = .ok (.aload_n 0, 1) := by decide +kernel
theorem dX8_isSound_62 : decode cX8_isSound 62 = .ok (.getfield 9, 3) := by decide +kernel
theorem dX8_isSound_65 : decode cX8_isSound 65 = .ok (.aload_n 0, 1) := by decide +kernel
theorem dX8_isSound_66 : decode cX8_isSound 66 = .ok (.aload_n 0, 1) := by decide +kernel
theorem dX8_isSound_67 : decode cX8_isSound 67 = .ok (.getfield 55, 3) := by decide +kernel
theorem dX8_isSound_70 : decode cX8_isSound 70 = .ok (.iload_n 2, 1) := by decide +kernel
theorem dX8_isSound_71 : decode cX8_isSound 71 = .ok (.iconst 1, 1) := by decide +kernel
theorem dX8_isSound_72 : decode cX8_isSound 72 = .ok (.isub, 1) := by decide +kernel
theorem dX8_isSound_73 : decode cX8_isSound 73 = .ok (.invokevirtual 99, 3) := by decide +kernel
theorem dX8_isSound_76 : decode cX8_isSound 76 = .ok (.iaload, 1) := by decide +kernel
theorem dX8_isSound_77 : decode cX8_isSound 77 = .ok (.aload_n 0, 1) := by decide +kernel
theorem dX8_isSound_78 : decode cX8_isSound 78 = .ok (.getfield 9, 3) := by decide +kernel
theorem dX8_isSound_81 : decode cX8_isSound 81 = .ok (.iload_n 3, 1) := by decide +kernel
theorem dX8_isSound_82 : decode cX8_isSound 82 = .ok (.iaload, 1) := by decide +kernel
theorem dX8_isSound_83 : decode cX8_isSound 83 = .ok (.invokestatic 64, 3) := by decide +kernel
theorem dX8_isSound_86 : decode cX8_isSound 86 = .ok (.ifCond .ne 5, 3) := by decide +kernel
theorem dX8_isSound_89 : decode cX8_isSound 89 = .ok (.iconst 0, 1) := by decide +kernel
theorem dX8_isSound_90 : decode cX8_isSound 90 = .ok (.ireturn, 1) := by decide +kernel
theorem dX8_isSound_91 : decode cX8_isSound 91 = .ok (.iinc 2 1, 3) := by decide +kernel
theorem dX8_isSound_94 : decode cX8_isSound 94 = .ok (.goto (-82), 3) := by decide +kernel
theorem dX8_isSound_97 : decode cX8_isSound 97 = .ok (.iload_n 1, 1) := by decide +kernel
theorem dX8_isSound_98 : decode cX8_isSound 98 = .ok (.aload_n 0, 1) := by decide +kernel
theorem dX8_isSound_99 : decode cX8_isSound 99 = .ok (.getfield 61, 3) := by decide +kernel
theorem dX8_isSound_102 : decode cX8_isSound 102 = .ok (.iadd, 1) := by decide +kernel
theorem dX8_isSound_103 : decode cX8_isSound 103 = .ok (.bipush 60, 2) := by decide +kernel
theorem dX8_isSound_105 : decode cX8_isSound 105 = .ok (.if_icmp .ne 7, 3) := by decide +kernel
theorem dX8_isSound_108 : decode cX8_isSound 108 = .ok (.iconst 1, 1) := by decide +kernel
theorem dX8_isSound_109 : decode cX8_isSound 109 = .ok (.goto 4, 3) := by decide +kernel
theorem dX8_isSound_112 : decode cX8_isSound 112 = .ok (.iconst 0, 1) := by decide +kernel
theorem dX8_isSound_113 : decode cX8_isSound 113 = .ok (.ireturn, 1) := by decide +kernel
theorem dX8_addsUp_0 : decode cX8_addsUp 0 = .ok (.aload_n 0, 1) := by decide +kernel
theorem dX8_addsUp_1 : decode cX8_addsUp 1 = .ok (.getfield 18, 3) := by decide +kernel
theorem dX8_addsUp_4 : decode cX8_addsUp 4 = .ok (.iload_n 1, 1) := by decide +kernel
theorem dX8_addsUp_5 : decode cX8_addsUp 5 = .ok (.iaload, 1) := by decide +kernel
theorem dX8_addsUp_6 : decode cX8_addsUp 6 = .ok (.istore_n 2, 1) := by decide +kernel
theorem dX8_addsUp_7 : decode cX8_addsUp 7 = .ok (.aload_n 0, 1) := by decide +kernel
theorem dX8_addsUp_8 : decode cX8_addsUp 8 = .ok (.getfield 21, 3) := by decide +kernel
theorem dX8_addsUp_11 : decode cX8_addsUp 11 = .ok (.iload_n 1, 1) := by decide +kernel
theorem dX8_addsUp_12 : decode cX8_addsUp 12 = .ok (.iaload, 1) := by decide +kernel
theorem dX8_addsUp_13 : decode cX8_addsUp 13 = .ok (.istore_n 3, 1) := by decide +kernel
theorem dX8_addsUp_14 : decode cX8_addsUp 14 = .ok (.aload_n 0, 1) := by decide +kernel
theorem dX8_addsUp_15 : decode cX8_addsUp 15 = .ok (.getfield 24, 3) := by decide +kernel
theorem dX8_addsUp_18 : decode cX8_addsUp 18 = .ok (.iload_n 1, 1) := by decide +kernel
theorem dX8_addsUp_19 : decode cX8_addsUp 19 = .ok (.iaload, 1) := by decide +kernel
theorem dX8_addsUp_20 : decode cX8_addsUp 20 = .ok (.aload_n 0, 1) := by decide +kernel
theorem dX8_addsUp_21 : decode cX8_addsUp 21 = .ok (.getfield 24, 3) := by decide +kernel
theorem dX8_addsUp_24 : decode cX8_addsUp 24 = .ok (.iload_n 2, 1) := by decide +kernel
theorem dX8_addsUp_25 : decode cX8_addsUp 25 = .ok (.iaload, 1) := by decide +kernel
theorem dX8_addsUp_26 : decode cX8_addsUp 26 = .ok (.aload_n 0, 1) := by decide +kernel
theorem dX8_addsUp_27 : decode cX8_addsUp 27 = .ok (.getfield 24, 3) := by decide +kernel
theorem dX8_addsUp_30 : decode cX8_addsUp 30 = .ok (.iload_n 3, 1) := by decide +kernel
theorem dX8_addsUp_31 : decode cX8_addsUp 31 = .ok (.iaload, 1) := by decide +kernel
theorem dX8_addsUp_32 : decode cX8_addsUp 32 = .ok (.iadd, 1) := by decide +kernel
theorem dX8_addsUp_33 : decode cX8_addsUp 33 = .ok (.iconst 1, 1) := by decide +kernel
theorem dX8_addsUp_34 : decode cX8_addsUp 34 = .ok (.iadd, 1) := by decide +kernel
theorem dX8_addsUp_35 : decode cX8_addsUp 35 = .ok (.if_icmp .ne 79, 3) := by decide +kernel
theorem dX8_addsUp_38 : decode cX8_addsUp 38 = .ok (.aload_n 0, 1) := by decide +kernel
theorem dX8_addsUp_39 : decode cX8_addsUp 39 = .ok (.getfield 30, 3) := by decide +kernel
theorem dX8_addsUp_42 : decode cX8_addsUp 42 = .ok (.iload_n 1, 1) := by decide +kernel
theorem dX8_addsUp_43 : decode cX8_addsUp 43 = .ok (.laload, 1) := by decide +kernel
theorem dX8_addsUp_44 : decode cX8_addsUp 44 = .ok (.aload_n 0, 1) := by decide +kernel
theorem dX8_addsUp_45 : decode cX8_addsUp 45 = .ok (.getfield 30, 3) := by decide +kernel
theorem dX8_addsUp_48 : decode cX8_addsUp 48 = .ok (.iload_n 2, 1) := by decide +kernel
theorem dX8_addsUp_49 : decode cX8_addsUp 49 = .ok (.laload, 1) := by decide +kernel
theorem dX8_addsUp_50 : decode cX8_addsUp 50 = .ok (.aload_n 0, 1) := by decide +kernel
theorem dX8_addsUp_51 : decode cX8_addsUp 51 = .ok (.getfield 30, 3) := by decide +kernel
theorem dX8_addsUp_54 : decode cX8_addsUp 54 = .ok (.iload_n 3, 1) := by decide +kernel
theorem dX8_addsUp_55 : decode cX8_addsUp 55 = .ok (.laload, 1) := by decide +kernel
theorem dX8_addsUp_56 : decode cX8_addsUp 56 = .ok (.ladd, 1) := by decide +kernel
theorem dX8_addsUp_57 : decode cX8_addsUp 57 = .ok (.aload_n 0, 1) := by decide +kernel
theorem dX8_addsUp_58 : decode cX8_addsUp 58 = .ok (.getfield 15, 3) := by decide +kernel
theorem dX8_addsUp_61 : decode cX8_addsUp 61 = .ok (.iload_n 1, 1) := by decide +kernel
theorem dX8_addsUp_62 : decode cX8_addsUp 62 = .ok (.iaload, 1) := by decide +kernel
theorem dX8_addsUp_63 : decode cX8_addsUp 63 = .ok (.i2l, 1) := by decide +kernel
theorem dX8_addsUp_64 : decode cX8_addsUp 64 = .ok (.ladd, 1) := by decide +kernel
theorem dX8_addsUp_65 : decode cX8_addsUp 65 = .ok (.lcmp, 1) := by decide +kernel
theorem dX8_addsUp_66 : decode cX8_addsUp 66 = .ok (.ifCond .ne 48, 3) := by decide +kernel
theorem dX8_addsUp_69 : decode cX8_addsUp 69 = .ok (.aload_n 0, 1) := by decide +kernel
theorem dX8_addsUp_70 : decode cX8_addsUp 70 = .ok (.getfield 27, 3) := by decide +kernel
theorem dX8_addsUp_73 : decode cX8_addsUp 73 = .ok (.iload_n 1, 1) := by decide +kernel
theorem dX8_addsUp_74 : decode cX8_addsUp 74 = .ok (.iaload, 1) := by decide +kernel
theorem dX8_addsUp_75 : decode cX8_addsUp 75 = .ok (.aload_n 0, 1) := by decide +kernel
theorem dX8_addsUp_76 : decode cX8_addsUp 76 = .ok (.getfield 27, 3) := by decide +kernel
theorem dX8_addsUp_79 : decode cX8_addsUp 79 = .ok (.iload_n 2, 1) := by decide +kernel
theorem dX8_addsUp_80 : decode cX8_addsUp 80 = .ok (.iaload, 1) := by decide +kernel
theorem dX8_addsUp_81 : decode cX8_addsUp 81 = .ok (.aload_n 0, 1) := by decide +kernel
theorem dX8_addsUp_82 : decode cX8_addsUp 82 = .ok (.getfield 27, 3) := by decide +kernel
theorem dX8_addsUp_85 : decode cX8_addsUp 85 = .ok (.iload_n 3, 1) := by decide +kernel
theorem dX8_addsUp_86 : decode cX8_addsUp 86 = .ok (.iaload, 1) := by decide +kernel
theorem dX8_addsUp_87 : decode cX8_addsUp 87 = .ok (.if_icmp .le 12, 3) := by decide +kernel
theorem dX8_addsUp_90 : decode cX8_addsUp 90 = .ok (.aload_n 0, 1) := by decide +kernel
theorem dX8_addsUp_91 : decode cX8_addsUp 91 = .ok (.getfield 27, 3) := by decide +kernel
theorem dX8_addsUp_94 : decode cX8_addsUp 94 = .ok (.iload_n 2, 1) := by decide +kernel
theorem dX8_addsUp_95 : decode cX8_addsUp 95 = .ok (.iaload, 1) := by decide +kernel
theorem dX8_addsUp_96 : decode cX8_addsUp 96 = .ok (.goto 9, 3) := by decide +kernel
theorem dX8_addsUp_99 : decode cX8_addsUp 99 = .ok (.aload_n 0, 1) := by decide +kernel
theorem dX8_addsUp_100 : decode cX8_addsUp 100 = .ok (.getfield 27, 3) := by decide +kernel
theorem dX8_addsUp_103 : decode cX8_addsUp 103 = .ok (.iload_n 3, 1) := by decide +kernel
theorem dX8_addsUp_104 : decode cX8_addsUp 104 = .ok (.iaload, 1) := by decide +kernel
theorem dX8_addsUp_105 : decode cX8_addsUp 105 = .ok (.iconst 1, 1) := by decide +kernel
theorem dX8_addsUp_106 : decode cX8_addsUp 106 = .ok (.iadd, 1) := by decide +kernel
theorem dX8_addsUp_107 : decode cX8_addsUp 107 = .ok (.if_icmp .ne 7, 3) := by decide +kernel
theorem dX8_addsUp_110 : decode cX8_addsUp 110 = .ok (.iconst 1, 1) := by decide +kernel
theorem dX8_addsUp_111 : decode cX8_addsUp 111 = .ok (.goto 4, 3) := by decide +kernel
theorem dX8_addsUp_114 : decode cX8_addsUp 114 = .ok (.iconst 0, 1) := by decide +kernel
theorem dX8_addsUp_115 : decode cX8_addsUp 115 = .ok (.ireturn, 1) := by decide +kernel
theorem dX9_init_0 : decode cX9_init 0 = .ok (.aload_n 0, 1) := by decide +kernel
theorem dX9_init_1 : decode cX9_init 1 = .ok (.invokespecial 1, 3) := by decide +kernel
theorem dX9_init_4 : decode cX9_init 4 = .ok (.return_, 1) := by decide +kernel
theorem dX9_begin_0 : decode cX9_begin 0 = .ok (.aload_n 0, 1) := by decide +kernel
theorem dX9_begin_1 : decode cX9_begin 1 = .ok (.iconst 1, 1) := by decide +kernel
theorem dX9_begin_2 : decode cX9_begin 2 = .ok (.putfield 7, 3) := by decide +kernel
theorem dX9_begin_5 : decode cX9_begin 5 = .ok (.aload_n 0, 1) := by decide +kernel
theorem dX9_begin_6 : decode cX9_begin 6 = .ok (.iload_n 3, 1) := by decide +kernel
theorem dX9_begin_7 : decode cX9_begin 7 = .ok (.putfield 13, 3) := by decide +kernel
theorem dX9_begin_10 : decode cX9_begin 10 = .ok (.aload_n 0, 1) := by decide +kernel
theorem dX9_begin_11 : decode cX9_begin 11 = .ok (.iconst 0, 1) := by decide +kernel
theorem dX9_begin_12 : decode cX9_begin 12 = .ok (.putfield 16, 3) := by decide +kernel
theorem dX9_begin_15 : decode cX9_begin 15 = .ok (.aload_n 0, 1) := by decide +kernel
theorem dX9_begin_16 : decode cX9_begin 16 = .ok (.iload_n 1, 1) := by decide +kernel
theorem dX9_begin_17 : decode cX9_begin 17 = .ok (.putfield 19, 3) := by decide +kernel
theorem dX9_begin_20 : decode cX9_begin 20 = .ok (.aload_n 0, 1) := by decide +kernel
theorem dX9_begin_21 : decode cX9_begin 21 = .ok (.iload_n 2, 1) := by decide +kernel
theorem dX9_begin_22 : decode cX9_begin 22 = .ok (.putfield 23, 3) := by decide +kernel
theorem dX9_begin_25 : decode cX9_begin 25 = .ok (.aload_n 0, 1) := by decide +kernel
theorem dX9_begin_26 : decode cX9_begin 26 = .ok (.iload_n 3, 1) := by decide +kernel
theorem dX9_begin_27 : decode cX9_begin 27 = .ok (.ifCond .eq 7, 3) := by decide +kernel
theorem dX9_begin_30 : decode cX9_begin 30 = .ok (.iload_n 2, 1) := by decide +kernel
theorem dX9_begin_31 : decode cX9_begin 31 = .ok (.goto 4, 3) := by decide +kernel
theorem dX9_begin_34 : decode cX9_begin 34 = .ok (.iload_n 1, 1) := by decide +kernel
theorem dX9_begin_35 : decode cX9_begin 35 = .ok (.putfield 26, 3) := by decide +kernel
theorem dX9_begin_38 : decode cX9_begin 38 = .ok (.return_, 1) := by decide +kernel
theorem dX9_ahead_0 : decode cX9_ahead 0 = .ok (.aload_n 0, 1) := by decide +kernel
theorem dX9_ahead_1 : decode cX9_ahead 1 = .ok (.getfield 13, 3) := by decide +kernel
theorem dX9_ahead_4 : decode cX9_ahead 4 = .ok (.ifCond .eq 25, 3) := by decide +kernel
theorem dX9_ahead_7 : decode cX9_ahead 7 = .ok (.aload_n 0, 1) := by decide +kernel
theorem dX9_ahead_8 : decode cX9_ahead 8 = .ok (.getfield 26, 3) := by decide +kernel
theorem dX9_ahead_11 : decode cX9_ahead 11 = .ok (.aload_n 0, 1) := by decide +kernel
theorem dX9_ahead_12 : decode cX9_ahead 12 = .ok (.getfield 19, 3) := by decide +kernel
theorem dX9_ahead_15 : decode cX9_ahead 15 = .ok (.if_icmp .le 12, 3) := by decide +kernel
theorem dX9_ahead_18 : decode cX9_ahead 18 = .ok (.aload_n 0, 1) := by decide +kernel
theorem dX9_ahead_19 : decode cX9_ahead 19 = .ok (.getfield 26, 3) := by decide +kernel
theorem dX9_ahead_22 : decode cX9_ahead 22 = .ok (.iconst 1, 1) := by decide +kernel
theorem dX9_ahead_23 : decode cX9_ahead 23 = .ok (.isub, 1) := by decide +kernel
theorem dX9_ahead_24 : decode cX9_ahead 24 = .ok (.goto 4, 3) := by decide +kernel
theorem dX9_ahead_27 : decode cX9_ahead 27 = .ok (.iconst (-1), 1) := by decide +kernel
theorem dX9_ahead_28 : decode cX9_ahead 28 = .ok (.ireturn, 1) := by decide +kernel
theorem dX9_ahead_29 : decode cX9_ahead 29 = .ok (.aload_n 0, 1) := by decide +kernel
theorem dX9_ahead_30 : decode cX9_ahead 30 = .ok (.getfield 26, 3) := by decide +kernel
theorem dX9_ahead_33 : decode cX9_ahead 33 = .ok (.aload_n 0, 1) := by decide +kernel
theorem dX9_ahead_34 : decode cX9_ahead 34 = .ok (.getfield 23, 3) := by decide +kernel
theorem dX9_ahead_37 : decode cX9_ahead 37 = .ok (.if_icmp .ge 10, 3) := by decide +kernel
theorem dX9_ahead_40 : decode cX9_ahead 40 = .ok (.aload_n 0, 1) := by decide +kernel
theorem dX9_ahead_41 : decode cX9_ahead 41 = .ok (.getfield 26, 3) := by decide +kernel
theorem dX9_ahead_44 : decode cX9_ahead 44 = .ok (.goto 4, 3) := by decide +kernel
theorem dX9_ahead_47 : decode cX9_ahead 47 = .ok (.iconst (-1), 1) := by decide +kernel
theorem dX9_ahead_48 : decode cX9_ahead 48 = .ok (.ireturn, 1) := by decide +kernel
theorem dX9_step_0 : decode cX9_step 0 = .ok (.aload_n 0, 1) := by decide +kernel
theorem dX9_step_1 : decode cX9_step 1 = .ok (.dup, 1) := by decide +kernel
theorem dX9_step_2 : decode cX9_step 2 = .ok (.getfield 26, 3) := by decide +kernel
theorem dX9_step_5 : decode cX9_step 5 = .ok (.aload_n 0, 1) := by decide +kernel
theorem dX9_step_6 : decode cX9_step 6 = .ok (.getfield 13, 3) := by decide +kernel
theorem dX9_step_9 : decode cX9_step 9 = .ok (.ifCond .eq 7, 3) := by decide +kernel
theorem dX9_step_12 : decode cX9_step 12 = .ok (.iconst (-1), 1) := by decide +kernel
theorem dX9_step_13 : decode cX9_step 13 = .ok (.goto 4, 3) := by decide +kernel
theorem dX9_step_16 : decode cX9_step 16 = .ok (.iconst 1, 1) := by decide +kernel
theorem dX9_step_17 : decode cX9_step 17 = .ok (.iadd, 1) := by decide +kernel
theorem dX9_step_18 : decode cX9_step 18 = .ok (.putfield 26, 3) := by decide +kernel
theorem dX9_step_21 : decode cX9_step 21 = .ok (.aload_n 0, 1) := by decide +kernel
theorem dX9_step_22 : decode cX9_step 22 = .ok (.iconst 1, 1) := by decide +kernel
theorem dX9_step_23 : decode cX9_step 23 = .ok (.putfield 16, 3) := by decide +kernel
theorem dX9_step_26 : decode cX9_step 26 = .ok (.return_, 1) := by decide +kernel
theorem dX9_latest_0 : decode cX9_latest 0 = .ok (.aload_n 0, 1) := by decide +kernel
theorem dX9_latest_1 : decode cX9_latest 1 = .ok (.getfield 13, 3) := by decide +kernel
theorem dX9_latest_4 : decode cX9_latest 4 = .ok (.ifCond .eq 10, 3) := by decide +kernel
theorem dX9_latest_7 : decode cX9_latest 7 = .ok (.aload_n 0, 1) := by decide +kernel
theorem dX9_latest_8 : decode cX9_latest 8 = .ok (.getfield 26, 3) := by decide +kernel
theorem dX9_latest_11 : decode cX9_latest 11 = .ok (.goto 9, 3) := by decide +kernel
theorem dX9_latest_14 : decode cX9_latest 14 = .ok (.aload_n 0, 1) := by decide +kernel
theorem dX9_latest_15 : decode cX9_latest 15 = .ok (.getfield 26, 3) := by decide +kernel
theorem dX9_latest_18 : decode cX9_latest 18 = .ok (.iconst 1, 1) := by decide +kernel
theorem dX9_latest_19 : decode cX9_latest 19 = .ok (.isub, 1) := by decide +kernel
theorem dX9_latest_20 : decode cX9_latest 20 = .ok (.ireturn, 1) := by decide +kernel
theorem dX9_forgetLatest_0 : decode cX9_forgetLatest 0 = .ok (.aload_n 0, 1) := by decide +kernel
theorem dX9_forgetLatest_1 : decode cX9_forgetLatest 1 = .ok (.getfield 13, 3) := by decide +kernel
theorem dX9_forgetLatest_4 : decode cX9_forgetLatest 4 = .ok (.ifCond .ne 23, 3) := by decide +kernel
theorem dX9_forgetLatest_7 : decode cX9_forgetLatest 7 = .ok (.aload_n 0, 1) := by decide +kernel
theorem dX9_forgetLatest_8 : decode cX9_forgetLatest 8 = .ok (.dup, 1) := by decide +kernel
theorem dX9_forgetLatest_9 : decode cX9_forgetLatest 9 = .ok (.getfield 26, 3) := by decide +kernel
theorem dX9_forgetLatest_12 : decode cX9_forgetLatest 12 = .ok (.iconst 1, 1) := by decide +kernel
theorem dX9_forgetLatest_13 : decode cX9_forgetLatest 13 = .ok (.isub, 1) := by decide +kernel
theorem dX9_forgetLatest_14 : decode cX9_forgetLatest 14 = .ok (.putfield 26, 3) := by decide +kernel
theorem dX9_forgetLatest_17 : decode cX9_forgetLatest 17 = .ok (.aload_n 0, 1) := by decide +kernel
theorem dX9_forgetLatest_18 : decode cX9_forgetLatest 18 = .ok (.dup, 1) := by decide +kernel
theorem dX9_forgetLatest_19 : decode cX9_forgetLatest 19 = .ok (.getfield 23, 3) := by decide +kernel
theorem dX9_forgetLatest_22 : decode cX9_forgetLatest 22 = .ok (.iconst 1, 1) := by decide +kernel
theorem dX9_forgetLatest_23 : decode cX9_forgetLatest 23 = .ok (.isub, 1) := by decide +kernel
theorem dX9_forgetLatest_24 : decode cX9_forgetLatest 24 = .ok (.putfield 23, 3) := by decide +kernel
theorem dX9_forgetLatest_27 : decode cX9_forgetLatest 27 = .ok (.aload_n 0, 1) := by decide +kernel
theorem dX9_forgetLatest_28 : decode cX9_forgetLatest 28 = .ok (.iconst 0, 1) := by decide +kernel
theorem dX9_forgetLatest_29 : decode cX9_forgetLatest 29 = .ok (.putfield 16, 3) := by decide +kernel
theorem dX9_forgetLatest_32 : decode cX9_forgetLatest 32 = .ok (.return_, 1) := by decide +kernel
theorem dX10_init_0 : decode cX10_init 0 = .ok (.aload_n 0, 1) := by decide +kernel
theorem dX10_init_1 : decode cX10_init 1 = .ok (.invokespecial 1, 3) := by decide +kernel
theorem dX10_init_4 : decode cX10_init 4 = .ok (.new 7, 3) := by decide +kernel
theorem dX10_init_7 : decode cX10_init 7 = .ok (.dup, 1) := by decide +kernel
theorem dX10_init_8 : decode cX10_init 8 = .ok (.invokespecial 9, 3) := by decide +kernel
theorem dX10_init_11 : decode cX10_init 11 = .ok (.astore_n 1, 1) := by decide +kernel
theorem dX10_init_12 : decode cX10_init 12 = .ok (.aload_n 0, 1) := by decide +kernel
theorem dX10_init_13 : decode cX10_init 13 = .ok (.iconst 4, 1) := by decide +kernel
theorem dX10_init_14 : decode cX10_init 14 = .ok (.anewarray 10, 3) := by decide +kernel
theorem dX10_init_17 : decode cX10_init 17 = .ok (.dup, 1) := by decide +kernel
theorem dX10_init_18 : decode cX10_init 18 = .ok (.iconst 0, 1) := by decide +kernel
theorem dX10_init_19 : decode cX10_init 19 = .ok (.aload_n 1, 1) := by decide +kernel
theorem dX10_init_20 : decode cX10_init 20 = .ok (.aastore, 1) := by decide +kernel
theorem dX10_init_21 : decode cX10_init 21 = .ok (.dup, 1) := by decide +kernel
theorem dX10_init_22 : decode cX10_init 22 = .ok (.iconst 1, 1) := by decide +kernel
theorem dX10_init_23 : decode cX10_init 23 = .ok (.new 12, 3) := by decide +kernel
theorem dX10_init_26 : decode cX10_init 26 = .ok (.dup, 1) := by decide +kernel
theorem dX10_init_27 : decode cX10_init 27 = .ok (.invokespecial 14, 3) := by decide +kernel
theorem dX10_init_30 : decode cX10_init 30 = .ok (.aastore, 1) := by decide +kernel
theorem dX10_init_31 : decode cX10_init 31 = .ok (.dup, 1) := by decide +kernel
theorem dX10_init_32 : decode cX10_init 32 = .ok (.iconst 2, 1) := by decide +kernel
theorem dX10_init_33 : decode cX10_init 33 = .ok (.new 15, 3) := by decide +kernel
theorem dX10_init_36 : decode cX10_init 36 = .ok (.dup, 1) := by decide +kernel
theorem dX10_init_37 : decode cX10_init 37 = .ok (.invokespecial 17, 3) := by decide +kernel
theorem dX10_init_40 : decode cX10_init 40 = .ok (.aastore, 1) := by decide +kernel
theorem dX10_init_41 : decode cX10_init 41 = .ok (.dup, 1) := by decide +kernel
theorem dX10_init_42 : decode cX10_init 42 = .ok (.iconst 3, 1) := by decide +kernel
theorem dX10_init_43 : decode cX10_init 43 = .ok (.new 18, 3) := by decide +kernel
theorem dX10_init_46 : decode cX10_init 46 = .ok (.dup, 1) := by decide +kernel
theorem dX10_init_47 : decode cX10_init 47 = .ok (.invokespecial 20, 3) := by decide +kernel
theorem dX10_init_50 : decode cX10_init 50 = .ok (.aastore, 1) := by decide +kernel
theorem dX10_init_51 : decode cX10_init 51 = .ok (.putfield 21, 3) := by decide +kernel
theorem dX10_init_54 : decode cX10_init 54 = .ok (.aload_n 0, 1) := by decide +kernel
theorem dX10_init_55 : decode cX10_init 55 = .ok (.iconst 3, 1) := by decide +kernel
theorem dX10_init_56 : decode cX10_init 56 = .ok (.anewarray 27, 3) := by decide +kernel
theorem dX10_init_59 : decode cX10_init 59 = .ok (.putfield 29, 3) := by decide +kernel
theorem dX10_init_62 : decode cX10_init 62 = .ok (.iconst 0, 1) := by decide +kernel
theorem dX10_init_63 : decode cX10_init 63 = .ok (.istore_n 2, 1) := by decide +kernel
theorem dX10_init_64 : decode cX10_init 64 = .ok (.iload_n 2, 1) := by decide +kernel
theorem dX10_init_65 : decode cX10_init 65 = .ok (.iconst 3, 1) := by decide +kernel
theorem dX10_init_66 : decode cX10_init 66 = .ok (.if_icmp .ge 23, 3) := by decide +kernel
theorem dX10_init_69 : decode cX10_init 69 = .ok (.aload_n 0, 1) := by decide +kernel
theorem dX10_init_70 : decode cX10_init 70 = .ok (.getfield 29, 3) := by decide +kernel
theorem dX10_init_73 : decode cX10_init 73 = .ok (.iload_n 2, 1) := by decide +kernel
theorem dX10_init_74 : decode cX10_init 74 = .ok (.new 27, 3) := by decide +kernel
theorem dX10_init_77 : decode cX10_init 77 = .ok (.dup, 1) := by decide +kernel
theorem dX10_init_78 : decode cX10_init 78 = .ok (.aload_n 1, 1) := by decide +kernel
theorem dX10_init_79 : decode cX10_init 79 = .ok (.invokespecial 33, 3) := by decide +kernel
theorem dX10_init_82 : decode cX10_init 82 = .ok (.aastore, 1) := by decide +kernel
theorem dX10_init_83 : decode cX10_init 83 = .ok (.iinc 2 1, 3) := by decide +kernel
theorem dX10_init_86 : decode cX10_init 86 = .ok (.goto (-22), 3) := by decide +kernel
theorem dX10_init_89 : decode cX10_init 89 = .ok (.return_, 1) := by decide +kernel
theorem dX10_make_0 : decode cX10_make 0 = .ok (.aload_n 0, 1) := by decide +kernel
theorem dX10_make_1 : decode cX10_make 1 = .ok (.iload_n 1, 1) := by decide +kernel
theorem dX10_make_2 : decode cX10_make 2 = .ok (.invokevirtual 36, 3) := by decide +kernel
theorem dX10_make_5 : decode cX10_make 5 = .ok (.astore 4, 2) := by decide +kernel
theorem dX10_make_7 : decode cX10_make 7 = .ok (.iload_n 2, 1) := by decide +kernel
theorem dX10_make_8 : decode cX10_make 8 = .ok (.iconst 4, 1) := by decide +kernel
theorem dX10_make_9 : decode cX10_make 9 = .ok (.invokestatic 40, 3) := by decide +kernel
theorem dX10_make_12 : decode cX10_make 12 = .ok (.ifCond .eq 11, 3) := by decide +kernel
theorem dX10_make_15 : decode cX10_make 15 = .ok (.iload_n 3, 1) := by decide +kernel
theorem dX10_make_16 : decode cX10_make 16 = .ok (.iconst 3, 1) := by decide +kernel
theorem dX10_make_17 : decode cX10_make 17 = .ok (.invokestatic 40, 3) := by decide +kernel
theorem dX10_make_20 : decode cX10_make 20 = .ok (.ifCond .ne 13, 3) := by decide +kernel
theorem dX10_make_23 : decode cX10_make 23 = .ok (.new 44, 3) := by decide +kernel
theorem dX10_make_26 : decode cX10_make 26 = .ok (.dup, 1) := by decide +kernel
theorem dX10_make_27 : decode cX10_make 27 = .ok (.ldc 46, 2) := by decide +kernel
theorem dX10_make_29 : decode cX10_make 29 = .ok (.invokespecial 48, 3) := by decide +kernel
theorem dX10_make_32 : decode cX10_make 32 = .ok (.athrow, 1) := by decide +kernel
theorem dX10_make_33 : decode cX10_make 33 = .ok (.aload 4, 2) := by decide +kernel
theorem dX10_make_35 : decode cX10_make 35 = .ok (.aload_n 0, 1) := by decide +kernel
theorem dX10_make_36 : decode cX10_make 36 = .ok (.getfield 21, 3) := by decide +kernel
theorem dX10_make_39 : decode cX10_make 39 = .ok (.iload_n 2, 1) := by decide +kernel
theorem dX10_make_40 : decode cX10_make 40 = .ok (.aaload, 1) := by decide +kernel
theorem dX10_make_41 : decode cX10_make 41 = .ok (.iload_n 3, 1) := by decide +kernel
theorem dX10_make_42 : decode cX10_make 42 = .ok (.invokevirtual 51, 3) := by decide +kernel
theorem dX10_make_45 : decode cX10_make 45 = .ok (.return_, 1) := by decide +kernel
theorem dX10_put_0 : decode cX10_put 0 = .ok (.aload_n 0, 1) := by decide +kernel
theorem dX10_put_1 : decode cX10_put 1 = .ok (.iload_n 1, 1) := by decide +kernel
theorem dX10_put_2 : decode cX10_put 2 = .ok (.invokevirtual 36, 3) := by decide +kernel
theorem dX10_put_5 : decode cX10_put 5 = .ok (.iload_n 2, 1) := by decide +kernel
theorem dX10_put_6 : decode cX10_put 6 = .ok (.iload_n 3, 1) := by decide +kernel
theorem dX10_put_7 : decode cX10_put 7 = .ok (.invokevirtual 55, 3) := by decide +kernel
theorem dX10_put_10 : decode cX10_put 10 = .ok (.ireturn, 1) := by decide +kernel
theorem dX10_remove_0 : decode cX10_remove 0 = .ok (.aload_n 0, 1) := by decide +kernel
theorem dX10_remove_1 : decode cX10_remove 1 = .ok (.iload_n 1, 1) := by decide +kernel
theorem dX10_remove_2 : decode cX10_remove 2 = .ok (.invokevirtual 36, 3) := by decide +kernel
theorem dX10_remove_5 : decode cX10_remove 5 = .ok (.iload_n 2, 1) := by decide +kernel
theorem dX10_remove_6 : decode cX10_remove 6 = .ok (.invokevirtual 58, 3) := by decide +kernel
theorem dX10_remove_9 : decode cX10_remove 9 = .ok (.ireturn, 1) := by decide +kernel
theorem dX10_get_0 : decode cX10_get 0 = .ok (.aload_n 0, 1) := by decide +kernel
theorem dX10_get_1 : decode cX10_get 1 = .ok (.iload_n 1, 1) := by decide +kernel
theorem dX10_get_2 : decode cX10_get 2 = .ok (.invokevirtual 36, 3) := by decide +kernel
theorem dX10_get_5 : decode cX10_get 5 = .ok (.iload_n 2, 1) := by decide +kernel
theorem dX10_get_6 : decode cX10_get 6 = .ok (.invokevirtual 62, 3) := by decide +kernel
theorem dX10_get_9 : decode cX10_get 9 = .ok (.ireturn, 1) := by decide +kernel
theorem dX10_near_0 : decode cX10_near 0 = .ok (.aload_n 0, 1) := by decide +kernel
theorem dX10_near_1 : decode cX10_near 1 = .ok (.iload_n 1, 1) := by decide +kernel
theorem dX10_near_2 : decode cX10_near 2 = .ok (.invokevirtual 36, 3) := by decide +kernel
theorem dX10_near_5 : decode cX10_near 5 = .ok (.astore 4, 2) := by decide +kernel
theorem dX10_near_7 : decode cX10_near 7 = .ok (.iload_n 2, 1) := by decide +kernel
theorem dX10_near_8 : decode cX10_near 8 = .ok (.tableswitch 84 0 3 #[32, 46, 58, 72], 32) := by decide +kernel
theorem dX10_near_40 : decode cX10_near 40 = .ok (.aload 4, 2) := by decide +kernel
theorem dX10_near_42 : decode cX10_near 42 = .ok (.aload 4, 2) := by decide +kernel
theorem dX10_near_44 : decode cX10_near 44 = .ok (.iload_n 3, 1) := by decide +kernel
theorem dX10_near_45 : decode cX10_near 45 = .ok (.invokevirtual 66, 3) := by decide +kernel
theorem dX10_near_48 : decode cX10_near 48 = .ok (.iconst 1, 1) := by decide +kernel
theorem dX10_near_49 : decode cX10_near 49 = .ok (.isub, 1) := by decide +kernel
theorem dX10_near_50 : decode cX10_near 50 = .ok (.invokevirtual 69, 3) := by decide +kernel
theorem dX10_near_53 : decode cX10_near 53 = .ok (.ireturn, 1) := by decide +kernel
theorem dX10_near_54 : decode cX10_near 54 = .ok (.aload 4, 2) := by decide +kernel
theorem dX10_near_56 : decode cX10_near 56 = .ok (.aload 4, 2) := by decide +kernel
theorem dX10_near_58 : decode cX10_near 58 = .ok (.iload_n 3, 1) := by decide +kernel
theorem dX10_near_59 : decode cX10_near 59 = .ok (.invokevirtual 72, 3) := by decide +kernel
theorem dX10_near_62 : decode cX10_near 62 = .ok (.invokevirtual 69, 3) := by decide +kernel
theorem dX10_near_65 : decode cX10_near 65 = .ok (.ireturn, 1) := by decide +kernel
theorem dX10_near_66 : decode cX10_near 66 = .ok (.aload 4, 2) := by decide +kernel
theorem dX10_near_68 : decode cX10_near 68 = .ok (.aload 4, 2) := by decide +kernel
theorem dX10_near_70 : decode cX10_near 70 = .ok (.iload_n 3, 1) := by decide +kernel
theorem dX10_near_71 : decode cX10_near 71 = .ok (.invokevirtual 72, 3) := by decide +kernel
theorem dX10_near_74 : decode cX10_near 74 = .ok (.iconst 1, 1) := by decide +kernel
theorem dX10_near_75 : decode cX10_near 75 = .ok (.isub, 1) := by decide +kernel
theorem dX10_near_76 : decode cX10_near 76 = .ok (.invokevirtual 69, 3) := by decide +kernel
theorem dX10_near_79 : decode cX10_near 79 = .ok (.ireturn, 1) := by decide +kernel
theorem dX10_near_80 : decode cX10_near 80 = .ok (.aload 4, 2) := by decide +kernel
theorem dX10_near_82 : decode cX10_near 82 = .ok (.aload 4, 2) := by decide +kernel
theorem dX10_near_84 : decode cX10_near 84 = .ok (.iload_n 3, 1) := by decide +kernel
theorem dX10_near_85 : decode cX10_near 85 = .ok (.invokevirtual 66, 3) := by decide +kernel
theorem dX10_near_88 : decode cX10_near 88 = .ok (.invokevirtual 69, 3) := by decide +kernel
theorem dX10_near_91 : decode cX10_near 91 = .ok (.ireturn, 1) := by decide +kernel
theorem dX10_near_92 : decode cX10_near 92 = .ok (.new 44, 3) := by decide +kernel
theorem dX10_near_95 : decode cX10_near 95 = .ok (.dup, 1) := by decide +kernel
theorem dX10_near_96 : decode cX10_near 96 = .ok (.ldc 75, 2) := by decide +kernel
theorem dX10_near_98 : decode cX10_near 98 = .ok (.invokespecial 48, 3) := by decide +kernel
theorem dX10_near_101 : decode cX10_near 101 = .ok (.athrow, 1) := by decide +kernel
theorem dX10_size_0 : decode cX10_size 0 = .ok (.aload_n 0, 1) := by decide +kernel
theorem dX10_size_1 : decode cX10_size 1 = .ok (.iload_n 1, 1) := by decide +kernel
theorem dX10_size_2 : decode cX10_size 2 = .ok (.invokevirtual 36, 3) := by decide +kernel
theorem dX10_size_5 : decode cX10_size 5 = .ok (.invokevirtual 77, 3) := by decide +kernel
theorem dX10_size_8 : decode cX10_size 8 = .ok (.ireturn, 1) := by decide +kernel
theorem dX10_rank_0 : decode cX10_rank 0 = .ok (.aload_n 0, 1) := by decide +kernel
theorem dX10_rank_1 : decode cX10_rank 1 = .ok (.iload_n 1, 1) := by decide +kernel
theorem dX10_rank_2 : decode cX10_rank 2 = .ok (.invokevirtual 36, 3) := by decide +kernel
theorem dX10_rank_5 : decode cX10_rank 5 = .ok (.iload_n 2, 1) := by decide +kernel
theorem dX10_rank_6 : decode cX10_rank 6 = .ok (.invokevirtual 72, 3) := by decide +kernel
theorem dX10_rank_9 : decode cX10_rank 9 = .ok (.ireturn, 1) := by decide +kernel
theorem dX10_select_0 : decode cX10_select 0 = .ok (.aload_n 0, 1) := by decide +kernel
theorem dX10_select_1 : decode cX10_select 1 = .ok (.iload_n 1, 1) := by decide +kernel
theorem dX10_select_2 : decode cX10_select 2 = .ok (.invokevirtual 36, 3) := by decide +kernel
theorem dX10_select_5 : decode cX10_select 5 = .ok (.iload_n 2, 1) := by decide +kernel
theorem dX10_select_6 : decode cX10_select 6 = .ok (.invokevirtual 69, 3) := by decide +kernel
theorem dX10_select_9 : decode cX10_select 9 = .ok (.ireturn, 1) := by decide +kernel
theorem dX10_sum_0 : decode cX10_sum 0 = .ok (.aload_n 0, 1) := by decide +kernel
theorem dX10_sum_1 : decode cX10_sum 1 = .ok (.iload_n 1, 1) := by decide +kernel
theorem dX10_sum_2 : decode cX10_sum 2 = .ok (.invokevirtual 36, 3) := by decide +kernel
theorem dX10_sum_5 : decode cX10_sum 5 = .ok (.iload_n 2, 1) := by decide +kernel
theorem dX10_sum_6 : decode cX10_sum 6 = .ok (.invokevirtual 81, 3) := by decide +kernel
theorem dX10_sum_9 : decode cX10_sum 9 = .ok (.lreturn, 1) := by decide +kernel
theorem dX10_range_0 : decode cX10_range 0 = .ok (.aload_n 0, 1) := by decide +kernel
theorem dX10_range_1 : decode cX10_range 1 = .ok (.iload_n 1, 1) := by decide +kernel
theorem dX10_range_2 : decode cX10_range 2 = .ok (.invokevirtual 36, 3) := by decide +kernel
theorem dX10_range_5 : decode cX10_range 5 = .ok (.astore 5, 2) := by decide +kernel
theorem dX10_range_7 : decode cX10_range 7 = .ok (.iload_n 2, 1) := by decide +kernel
theorem dX10_range_8 : decode cX10_range 8 = .ok (.iconst 4, 1) := by decide +kernel
theorem dX10_range_9 : decode cX10_range 9 = .ok (.invokestatic 40, 3) := by decide +kernel
theorem dX10_range_12 : decode cX10_range 12 = .ok (.ifCond .eq 19, 3) := by decide +kernel
theorem dX10_range_15 : decode cX10_range 15 = .ok (.iload_n 2, 1) := by decide +kernel
theorem dX10_range_16 : decode cX10_range 16 = .ok (.iconst 3, 1) := by decide +kernel
theorem dX10_range_17 : decode cX10_range 17 = .ok (.if_icmp .ne 24, 3) := by decide +kernel
theorem dX10_range_20 : decode cX10_range 20 = .ok (.aload 5, 2) := by decide +kernel
theorem dX10_range_22 : decode cX10_range 22 = .ok (.iload 4, 2) := by decide +kernel
theorem dX10_range_24 : decode cX10_range 24 = .ok (.iload_n 3, 1) := by decide +kernel
theorem dX10_range_25 : decode cX10_range 25 = .ok (.invokevirtual 85, 3) := by decide +kernel
theorem dX10_range_28 : decode cX10_range 28 = .ok (.ifCond .eq 13, 3) := by decide +kernel
theorem dX10_range_31 : decode cX10_range 31 = .ok (.new 44, 3) := by decide +kernel
theorem dX10_range_34 : decode cX10_range 34 = .ok (.dup, 1) := by decide +kernel
theorem dX10_range_35 : decode cX10_range 35 = .ok (.ldc 88, 2) := by decide +kernel
theorem dX10_range_37 : decode cX10_range 37 = .ok (.invokespecial 48, 3) := by decide +kernel
theorem dX10_range_40 : decode cX10_range 40 = .ok (.athrow, 1) := by decide +kernel
theorem dX10_range_41 : decode cX10_range 41 = .ok (.aload 5, 2) := by decide +kernel
theorem dX10_range_43 : decode cX10_range 43 = .ok (.iload_n 2, 1) := by decide +kernel
theorem dX10_range_44 : decode cX10_range 44 = .ok (.iload_n 3, 1) := by decide +kernel
theorem dX10_range_45 : decode cX10_range 45 = .ok (.iload 4, 2) := by decide +kernel
theorem dX10_range_47 : decode cX10_range 47 = .ok (.invokevirtual 90, 3) := by decide +kernel
theorem dX10_range_50 : decode cX10_range 50 = .ok (.return_, 1) := by decide +kernel
theorem dX10_within_0 : decode cX10_within 0 = .ok (.aload_n 0, 1) := by decide +kernel
theorem dX10_within_1 : decode cX10_within 1 = .ok (.iload_n 1, 1) := by decide +kernel
theorem dX10_within_2 : decode cX10_within 2 = .ok (.invokevirtual 36, 3) := by decide +kernel
theorem dX10_within_5 : decode cX10_within 5 = .ok (.astore_n 3, 1) := by decide +kernel
theorem dX10_within_6 : decode cX10_within 6 = .ok (.iload_n 2, 1) := by decide +kernel
theorem dX10_within_7 : decode cX10_within 7 = .ok (.tableswitch 50 0 2 #[25, 30, 40], 25) := by decide +kernel
theorem dX10_within_32 : decode cX10_within 32 = .ok (.aload_n 3, 1) := by decide +kernel
theorem dX10_within_33 : decode cX10_within 33 = .ok (.invokevirtual 94, 3) := by decide +kernel
theorem dX10_within_36 : decode cX10_within 36 = .ok (.ireturn, 1) := by decide +kernel
theorem dX10_within_37 : decode cX10_within 37 = .ok (.aload_n 3, 1) := by decide +kernel
theorem dX10_within_38 : decode cX10_within 38 = .ok (.aload_n 3, 1) := by decide +kernel
theorem dX10_within_39 : decode cX10_within 39 = .ok (.iconst 0, 1) := by decide +kernel
theorem dX10_within_40 : decode cX10_within 40 = .ok (.invokevirtual 97, 3) := by decide +kernel
theorem dX10_within_43 : decode cX10_within 43 = .ok (.invokevirtual 69, 3) := by decide +kernel
theorem dX10_within_46 : decode cX10_within 46 = .ok (.ireturn, 1) := by decide +kernel
theorem dX10_within_47 : decode cX10_within 47 = .ok (.aload_n 3, 1) := by decide +kernel
theorem dX10_within_48 : decode cX10_within 48 = .ok (.aload_n 3, 1) := by decide +kernel
theorem dX10_within_49 : decode cX10_within 49 = .ok (.iconst 1, 1) := by decide +kernel
theorem dX10_within_50 : decode cX10_within 50 = .ok (.invokevirtual 97, 3) := by decide +kernel
theorem dX10_within_53 : decode cX10_within 53 = .ok (.invokevirtual 69, 3) := by decide +kernel
theorem dX10_within_56 : decode cX10_within 56 = .ok (.ireturn, 1) := by decide +kernel
theorem dX10_within_57 : decode cX10_within 57 = .ok (.new 44, 3) := by decide +kernel
theorem dX10_within_60 : decode cX10_within 60 = .ok (.dup, 1) := by decide +kernel
theorem dX10_within_61 : decode cX10_within 61 = .ok (.ldc 101, 2) := by decide +kernel
theorem dX10_within_63 : decode cX10_within 63 = .ok (.invokespecial 48, 3) := by decide +kernel
theorem dX10_within_66 : decode cX10_within 66 = .ok (.athrow, 1) := by decide +kernel
theorem dX10_putWithin_0 : decode cX10_putWithin 0 = .ok (.aload_n 0, 1) := by decide +kernel
theorem dX10_putWithin_1 : decode cX10_putWithin 1 = .ok (.iload_n 1, 1) := by decide +kernel
theorem dX10_putWithin_2 : decode cX10_putWithin 2 = .ok (.invokevirtual 36, 3) := by decide +kernel
theorem dX10_putWithin_5 : decode cX10_putWithin 5 = .ok (.astore 4, 2) := by decide +kernel
theorem dX10_putWithin_7 : decode cX10_putWithin 7 = .ok (.aload 4, 2) := by decide +kernel
theorem dX10_putWithin_9 : decode cX10_putWithin 9 = .ok (.iload_n 2, 1) := by decide +kernel
theorem dX10_putWithin_10 : decode cX10_putWithin 10 = .ok (.invokevirtual 103, 3) := by decide +kernel
theorem dX10_putWithin_13 : decode cX10_putWithin 13 = .ok (.ifCond .ne 13, 3) := by decide +kernel
theorem dX10_putWithin_16 : decode cX10_putWithin 16 = .ok (.new 44, 3) := by decide +kernel
theorem dX10_putWithin_19 : decode cX10_putWithin 19 = .ok (.dup, 1) := by decide +kernel
theorem dX10_putWithin_20 : decode cX10_putWithin 20 = .ok (.ldc 106, 2) := by decide +kernel
theorem dX10_putWithin_22 : decode cX10_putWithin 22 = .ok (.invokespecial 48, 3) := by decide +kernel
theorem dX10_putWithin_25 : decode cX10_putWithin 25 = .ok (.athrow, 1) := by decide +kernel
theorem dX10_putWithin_26 : decode cX10_putWithin 26 = .ok (.aload 4, 2) := by decide +kernel
theorem dX10_putWithin_28 : decode cX10_putWithin 28 = .ok (.iload_n 2, 1) := by decide +kernel
theorem dX10_putWithin_29 : decode cX10_putWithin 29 = .ok (.iload_n 3, 1) := by decide +kernel
theorem dX10_putWithin_30 : decode cX10_putWithin 30 = .ok (.invokevirtual 55, 3) := by decide +kernel
theorem dX10_putWithin_33 : decode cX10_putWithin 33 = .ok (.ireturn, 1) := by decide +kernel
theorem dX10_poll_0 : decode cX10_poll 0 = .ok (.aload_n 0, 1) := by decide +kernel
theorem dX10_poll_1 : decode cX10_poll 1 = .ok (.iload_n 1, 1) := by decide +kernel
theorem dX10_poll_2 : decode cX10_poll 2 = .ok (.invokevirtual 36, 3) := by decide +kernel
theorem dX10_poll_5 : decode cX10_poll 5 = .ok (.astore_n 3, 1) := by decide +kernel
theorem dX10_poll_6 : decode cX10_poll 6 = .ok (.aload_n 3, 1) := by decide +kernel
theorem dX10_poll_7 : decode cX10_poll 7 = .ok (.aload_n 3, 1) := by decide +kernel
theorem dX10_poll_8 : decode cX10_poll 8 = .ok (.iload_n 2, 1) := by decide +kernel
theorem dX10_poll_9 : decode cX10_poll 9 = .ok (.invokevirtual 97, 3) := by decide +kernel
theorem dX10_poll_12 : decode cX10_poll 12 = .ok (.invokevirtual 69, 3) := by decide +kernel
theorem dX10_poll_15 : decode cX10_poll 15 = .ok (.istore 4, 2) := by decide +kernel
theorem dX10_poll_17 : decode cX10_poll 17 = .ok (.aload_n 3, 1) := by decide +kernel
theorem dX10_poll_18 : decode cX10_poll 18 = .ok (.iload 4, 2) := by decide +kernel
theorem dX10_poll_20 : decode cX10_poll 20 = .ok (.invokevirtual 58, 3) := by decide +kernel
theorem dX10_poll_23 : decode cX10_poll 23 = .ok (.pop, 1) := by decide +kernel
theorem dX10_poll_24 : decode cX10_poll 24 = .ok (.iload 4, 2) := by decide +kernel
theorem dX10_poll_26 : decode cX10_poll 26 = .ok (.ireturn, 1) := by decide +kernel
theorem dX10_iterate_0 : decode cX10_iterate 0 = .ok (.aload_n 0, 1) := by decide +kernel
theorem dX10_iterate_1 : decode cX10_iterate 1 = .ok (.iload_n 1, 1) := by decide +kernel
theorem dX10_iterate_2 : decode cX10_iterate 2 = .ok (.invokevirtual 36, 3) := by decide +kernel
theorem dX10_iterate_5 : decode cX10_iterate 5 = .ok (.iload_n 2, 1) := by decide +kernel
theorem dX10_iterate_6 : decode cX10_iterate 6 = .ok (.invokevirtual 108, 3) := by decide +kernel
theorem dX10_iterate_9 : decode cX10_iterate 9 = .ok (.return_, 1) := by decide +kernel
theorem dX10_next_0 : decode cX10_next 0 = .ok (.aload_n 0, 1) := by decide +kernel
theorem dX10_next_1 : decode cX10_next 1 = .ok (.iload_n 1, 1) := by decide +kernel
theorem dX10_next_2 : decode cX10_next 2 = .ok (.invokevirtual 36, 3) := by decide +kernel
theorem dX10_next_5 : decode cX10_next 5 = .ok (.astore_n 2, 1) := by decide +kernel
theorem dX10_next_6 : decode cX10_next 6 = .ok (.aload_n 2, 1) := by decide +kernel
theorem dX10_next_7 : decode cX10_next 7 = .ok (.invokevirtual 112, 3) := by decide +kernel
theorem dX10_next_10 : decode cX10_next 10 = .ok (.ifCond .ne 13, 3) := by decide +kernel
theorem dX10_next_13 : decode cX10_next 13 = .ok (.new 116, 3) := by decide +kernel
theorem dX10_next_16 : decode cX10_next 16 = .ok (.dup, 1) := by decide +kernel
theorem dX10_next_17 : decode cX10_next 17 = .ok (.ldc 118, 2) := by decide +kernel
theorem dX10_next_19 : decode cX10_next 19 = .ok (.invokespecial 120, 3) := by decide +kernel
theorem dX10_next_22 : decode cX10_next 22 = .ok (.athrow, 1) := by decide +kernel
theorem dX10_next_23 : decode cX10_next 23 = .ok (.aload_n 2, 1) := by decide +kernel
theorem dX10_next_24 : decode cX10_next 24 = .ok (.invokevirtual 121, 3) := by decide +kernel
theorem dX10_next_27 : decode cX10_next 27 = .ok (.ireturn, 1) := by decide +kernel
theorem dX10_drop_0 : decode cX10_drop 0 = .ok (.aload_n 0, 1) := by decide +kernel
theorem dX10_drop_1 : decode cX10_drop 1 = .ok (.iload_n 1, 1) := by decide +kernel
theorem dX10_drop_2 : decode cX10_drop 2 = .ok (.invokevirtual 36, 3) := by decide +kernel
theorem dX10_drop_5 : decode cX10_drop 5 = .ok (.astore_n 2, 1) := by decide +kernel
theorem dX10_drop_6 : decode cX10_drop 6 = .ok (.aload_n 2, 1) := by decide +kernel
theorem dX10_drop_7 : decode cX10_drop 7 = .ok (.invokevirtual 124, 3) := by decide +kernel
theorem dX10_drop_10 : decode cX10_drop 10 = .ok (.ifCond .ne 13, 3) := by decide +kernel
theorem dX10_drop_13 : decode cX10_drop 13 = .ok (.new 116, 3) := by decide +kernel
theorem dX10_drop_16 : decode cX10_drop 16 = .ok (.dup, 1) := by decide +kernel
theorem dX10_drop_17 : decode cX10_drop 17 = .ok (.ldc 127, 2) := by decide +kernel
theorem dX10_drop_19 : decode cX10_drop 19 = .ok (.invokespecial 120, 3) := by decide +kernel
theorem dX10_drop_22 : decode cX10_drop 22 = .ok (.athrow, 1) := by decide +kernel
theorem dX10_drop_23 : decode cX10_drop 23 = .ok (.aload_n 2, 1) := by decide +kernel
theorem dX10_drop_24 : decode cX10_drop 24 = .ok (.invokevirtual 129, 3) := by decide +kernel
theorem dX10_drop_27 : decode cX10_drop 27 = .ok (.return_, 1) := by decide +kernel
theorem dX10_join_0 : decode cX10_join 0 = .ok (.aload_n 0, 1) := by decide +kernel
theorem dX10_join_1 : decode cX10_join 1 = .ok (.iload_n 1, 1) := by decide +kernel
theorem dX10_join_2 : decode cX10_join 2 = .ok (.invokevirtual 36, 3) := by decide +kernel
theorem dX10_join_5 : decode cX10_join 5 = .ok (.astore 4, 2) := by decide +kernel
theorem dX10_join_7 : decode cX10_join 7 = .ok (.aload_n 0, 1) := by decide +kernel
theorem dX10_join_8 : decode cX10_join 8 = .ok (.iload_n 2, 1) := by decide +kernel
theorem dX10_join_9 : decode cX10_join 9 = .ok (.invokevirtual 36, 3) := by decide +kernel
theorem dX10_join_12 : decode cX10_join 12 = .ok (.astore 5, 2) := by decide +kernel
theorem dX10_join_14 : decode cX10_join 14 = .ok (.iload_n 3, 1) := by decide +kernel
theorem dX10_join_15 : decode cX10_join 15 = .ok (.iconst 3, 1) := by decide +kernel
theorem dX10_join_16 : decode cX10_join 16 = .ok (.invokestatic 40, 3) := by decide +kernel
theorem dX10_join_19 : decode cX10_join 19 = .ok (.ifCond .eq 13, 3) := by decide +kernel
theorem dX10_join_22 : decode cX10_join 22 = .ok (.aload 4, 2) := by decide +kernel
theorem dX10_join_24 : decode cX10_join 24 = .ok (.aload 5, 2) := by decide +kernel
theorem dX10_join_26 : decode cX10_join 26 = .ok (.invokevirtual 132, 3) := by decide +kernel
theorem dX10_join_29 : decode cX10_join 29 = .ok (.ifCond .ne 13, 3) := by decide +kernel
theorem dX10_join_32 : decode cX10_join 32 = .ok (.new 44, 3) := by decide +kernel
theorem dX10_join_35 : decode cX10_join 35 = .ok (.dup, 1) := by decide +kernel
theorem dX10_join_36 : decode cX10_join 36 = .ok (.ldc 136, 2) := by decide +kernel
theorem dX10_join_38 : decode cX10_join 38 = .ok (.invokespecial 48, 3) := by decide +kernel
theorem dX10_join_41 : decode cX10_join 41 = .ok (.athrow, 1) := by decide +kernel
theorem dX10_join_42 : decode cX10_join 42 = .ok (.iload_n 3, 1) := by decide +kernel
theorem dX10_join_43 : decode cX10_join 43 = .ok (.lookupswitch 41 #[(0, 25), (1, 33)], 25) := by decide +kernel
theorem dX10_join_68 : decode cX10_join 68 = .ok (.aload 4, 2) := by decide +kernel
theorem dX10_join_70 : decode cX10_join 70 = .ok (.aload 5, 2) := by decide +kernel
theorem dX10_join_72 : decode cX10_join 72 = .ok (.invokevirtual 138, 3) := by decide +kernel
theorem dX10_join_75 : decode cX10_join 75 = .ok (.ireturn, 1) := by decide +kernel
theorem dX10_join_76 : decode cX10_join 76 = .ok (.aload 4, 2) := by decide +kernel
theorem dX10_join_78 : decode cX10_join 78 = .ok (.aload 5, 2) := by decide +kernel
theorem dX10_join_80 : decode cX10_join 80 = .ok (.invokevirtual 142, 3) := by decide +kernel
theorem dX10_join_83 : decode cX10_join 83 = .ok (.ireturn, 1) := by decide +kernel
theorem dX10_join_84 : decode cX10_join 84 = .ok (.aload 4, 2) := by decide +kernel
theorem dX10_join_86 : decode cX10_join 86 = .ok (.aload 5, 2) := by decide +kernel
theorem dX10_join_88 : decode cX10_join 88 = .ok (.invokevirtual 145, 3) := by decide +kernel
theorem dX10_join_91 : decode cX10_join 91 = .ok (.ireturn, 1) := by decide +kernel
theorem dX10_split_0 : decode cX10_split 0 = .ok (.aload_n 0, 1) := by decide +kernel
theorem dX10_split_1 : decode cX10_split 1 = .ok (.iload_n 1, 1) := by decide +kernel
theorem dX10_split_2 : decode cX10_split 2 = .ok (.invokevirtual 36, 3) := by decide +kernel
theorem dX10_split_5 : decode cX10_split 5 = .ok (.astore 4, 2) := by decide +kernel
theorem dX10_split_7 : decode cX10_split 7 = .ok (.aload_n 0, 1) := by decide +kernel
theorem dX10_split_8 : decode cX10_split 8 = .ok (.iload_n 3, 1) := by decide +kernel
theorem dX10_split_9 : decode cX10_split 9 = .ok (.invokevirtual 36, 3) := by decide +kernel
theorem dX10_split_12 : decode cX10_split 12 = .ok (.astore 5, 2) := by decide +kernel
theorem dX10_split_14 : decode cX10_split 14 = .ok (.iload_n 3, 1) := by decide +kernel
theorem dX10_split_15 : decode cX10_split 15 = .ok (.iload_n 1, 1) := by decide +kernel
theorem dX10_split_16 : decode cX10_split 16 = .ok (.if_icmp .ne 13, 3) := by decide +kernel
theorem dX10_split_19 : decode cX10_split 19 = .ok (.new 44, 3) := by decide +kernel
theorem dX10_split_22 : decode cX10_split 22 = .ok (.dup, 1) := by decide +kernel
theorem dX10_split_23 : decode cX10_split 23 = .ok (.ldc 148, 2) := by decide +kernel
theorem dX10_split_25 : decode cX10_split 25 = .ok (.invokespecial 48, 3) := by decide +kernel
theorem dX10_split_28 : decode cX10_split 28 = .ok (.athrow, 1) := by decide +kernel
theorem dX10_split_29 : decode cX10_split 29 = .ok (.aload 4, 2) := by decide +kernel
theorem dX10_split_31 : decode cX10_split 31 = .ok (.iload_n 2, 1) := by decide +kernel
theorem dX10_split_32 : decode cX10_split 32 = .ok (.aload 5, 2) := by decide +kernel
theorem dX10_split_34 : decode cX10_split 34 = .ok (.invokevirtual 150, 3) := by decide +kernel
theorem dX10_split_37 : decode cX10_split 37 = .ok (.ireturn, 1) := by decide +kernel
theorem dX10_changes_0 : decode cX10_changes 0 = .ok (.aload_n 0, 1) := by decide +kernel
theorem dX10_changes_1 : decode cX10_changes 1 = .ok (.iload_n 1, 1) := by decide +kernel
theorem dX10_changes_2 : decode cX10_changes 2 = .ok (.invokevirtual 36, 3) := by decide +kernel
theorem dX10_changes_5 : decode cX10_changes 5 = .ok (.getfield 154, 3) := by decide +kernel
theorem dX10_changes_8 : decode cX10_changes 8 = .ok (.ireturn, 1) := by decide +kernel
theorem dX10_audit_0 : decode cX10_audit 0 = .ok (.aload_n 0, 1) := by decide +kernel
theorem dX10_audit_1 : decode cX10_audit 1 = .ok (.iload_n 1, 1) := by decide +kernel
theorem dX10_audit_2 : decode cX10_audit 2 = .ok (.invokevirtual 36, 3) := by decide +kernel
theorem dX10_audit_5 : decode cX10_audit 5 = .ok (.invokevirtual 158, 3) := by decide +kernel
theorem dX10_audit_8 : decode cX10_audit 8 = .ok (.ireturn, 1) := by decide +kernel
theorem dX10_mapAt_0 : decode cX10_mapAt 0 = .ok (.iload_n 1, 1) := by decide +kernel
theorem dX10_mapAt_1 : decode cX10_mapAt 1 = .ok (.iconst 3, 1) := by decide +kernel
theorem dX10_mapAt_2 : decode cX10_mapAt 2 = .ok (.invokestatic 40, 3) := by decide +kernel
theorem dX10_mapAt_5 : decode cX10_mapAt 5 = .ok (.ifCond .ne 13, 3) := by decide +kernel
theorem dX10_mapAt_8 : decode cX10_mapAt 8 = .ok (.new 44, 3) := by decide +kernel
theorem dX10_mapAt_11 : decode cX10_mapAt 11 = .ok (.dup, 1) := by decide +kernel
theorem dX10_mapAt_12 : decode cX10_mapAt 12 = .ok (.ldc 161, 2) := by decide +kernel
theorem dX10_mapAt_14 : decode cX10_mapAt 14 = .ok (.invokespecial 48, 3) := by decide +kernel
theorem dX10_mapAt_17 : decode cX10_mapAt 17 = .ok (.athrow, 1) := by decide +kernel
theorem dX10_mapAt_18 : decode cX10_mapAt 18 = .ok (.aload_n 0, 1) := by decide +kernel
theorem dX10_mapAt_19 : decode cX10_mapAt 19 = .ok (.getfield 29, 3) := by decide +kernel
theorem dX10_mapAt_22 : decode cX10_mapAt 22 = .ok (.iload_n 1, 1) := by decide +kernel
theorem dX10_mapAt_23 : decode cX10_mapAt 23 = .ok (.aaload, 1) := by decide +kernel
theorem dX10_mapAt_24 : decode cX10_mapAt 24 = .ok (.areturn, 1) := by decide +kernel
theorem dX10_isBelow_0 : decode cX10_isBelow 0 = .ok (.iload_n 0, 1) := by decide +kernel
theorem dX10_isBelow_1 : decode cX10_isBelow 1 = .ok (.ifCond .lt 12, 3) := by decide +kernel
theorem dX10_isBelow_4 : decode cX10_isBelow 4 = .ok (.iload_n 0, 1) := by decide +kernel
theorem dX10_isBelow_5 : decode cX10_isBelow 5 = .ok (.iload_n 1, 1) := by decide +kernel
theorem dX10_isBelow_6 : decode cX10_isBelow 6 = .ok (.if_icmp .ge 7, 3) := by decide +kernel
theorem dX10_isBelow_9 : decode cX10_isBelow 9 = .ok (.iconst 1, 1) := by decide +kernel
theorem dX10_isBelow_10 : decode cX10_isBelow 10 = .ok (.goto 4, 3) := by decide +kernel
theorem dX10_isBelow_13 : decode cX10_isBelow 13 = .ok (.iconst 0, 1) := by decide +kernel
theorem dX10_isBelow_14 : decode cX10_isBelow 14 = .ok (.ireturn, 1) := by decide +kernel
theorem dX10_goesBefore_0 : decode cX10_goesBefore 0 = .ok (.iload_n 0, 1) := by decide +kernel
theorem dX10_goesBefore_1 : decode cX10_goesBefore 1 = .ok (.lookupswitch 57 #[(1, 27), (2, 38)], 27) := by decide +kernel
theorem dX10_goesBefore_28 : decode cX10_goesBefore 28 = .ok (.iload_n 1, 1) := by decide +kernel
theorem dX10_goesBefore_29 : decode cX10_goesBefore 29 = .ok (.iload_n 2, 1) := by decide +kernel
theorem dX10_goesBefore_30 : decode cX10_goesBefore 30 = .ok (.if_icmp .le 7, 3) := by decide +kernel
theorem dX10_goesBefore_33 : decode cX10_goesBefore 33 = .ok (.iconst 1, 1) := by decide +kernel
theorem dX10_goesBefore_34 : decode cX10_goesBefore 34 = .ok (.goto 4, 3) := by decide +kernel
theorem dX10_goesBefore_37 : decode cX10_goesBefore 37 = .ok (.iconst 0, 1) := by decide +kernel
theorem dX10_goesBefore_38 : decode cX10_goesBefore 38 = .ok (.ireturn, 1) := by decide +kernel
theorem dX10_goesBefore_39 : decode cX10_goesBefore 39 = .ok (.iload_n 1, 1) := by decide +kernel
theorem dX10_goesBefore_40 : decode cX10_goesBefore 40 = .ok (.iconst 4, 1) := by decide +kernel
theorem dX10_goesBefore_41 : decode cX10_goesBefore 41 = .ok (.invokestatic 163, 3) := by decide +kernel
theorem dX10_goesBefore_44 : decode cX10_goesBefore 44 = .ok (.iload_n 2, 1) := by decide +kernel
theorem dX10_goesBefore_45 : decode cX10_goesBefore 45 = .ok (.iconst 4, 1) := by decide +kernel
theorem dX10_goesBefore_46 : decode cX10_goesBefore 46 = .ok (.invokestatic 163, 3) := by decide +kernel
theorem dX10_goesBefore_49 : decode cX10_goesBefore 49 = .ok (.if_icmp .ge 7, 3) := by decide +kernel
theorem dX10_goesBefore_52 : decode cX10_goesBefore 52 = .ok (.iconst 1, 1) := by decide +kernel
theorem dX10_goesBefore_53 : decode cX10_goesBefore 53 = .ok (.goto 4, 3) := by decide +kernel
theorem dX10_goesBefore_56 : decode cX10_goesBefore 56 = .ok (.iconst 0, 1) := by decide +kernel
theorem dX10_goesBefore_57 : decode cX10_goesBefore 57 = .ok (.ireturn, 1) := by decide +kernel
theorem dX10_goesBefore_58 : decode cX10_goesBefore 58 = .ok (.iload_n 1, 1) := by decide +kernel
theorem dX10_goesBefore_59 : decode cX10_goesBefore 59 = .ok (.iload_n 2, 1) := by decide +kernel
theorem dX10_goesBefore_60 : decode cX10_goesBefore 60 = .ok (.if_icmp .ge 7, 3) := by decide +kernel
theorem dX10_goesBefore_63 : decode cX10_goesBefore 63 = .ok (.iconst 1, 1) := by decide +kernel
theorem dX10_goesBefore_64 : decode cX10_goesBefore 64 = .ok (.goto 4, 3) := by decide +kernel
theorem dX10_goesBefore_67 : decode cX10_goesBefore 67 = .ok (.iconst 0, 1) := by decide +kernel
theorem dX10_goesBefore_68 : decode cX10_goesBefore 68 = .ok (.ireturn, 1) := by decide +kernel
theorem dX11_init_0 : decode cX11_init 0 = .ok (.aload_n 0, 1) := by decide +kernel
theorem dX11_init_1 : decode cX11_init 1 = .ok (.invokespecial 1, 3) := by decide +kernel
theorem dX11_init_4 : decode cX11_init 4 = .ok (.aload_n 0, 1) := by decide +kernel
theorem dX11_init_5 : decode cX11_init 5 = .ok (.iconst 3, 1) := by decide +kernel
theorem dX11_init_6 : decode cX11_init 6 = .ok (.newarray .int, 2) := by decide +kernel
theorem dX11_init_8 : decode cX11_init 8 = .ok (.putfield 7, 3) := by decide +kernel
theorem dX11_init_11 : decode cX11_init 11 = .ok (.aload_n 0, 1) := by decide +kernel
theorem dX11_init_12 : decode cX11_init 12 = .ok (.iconst 3, 1) := by decide +kernel
theorem dX11_init_13 : decode cX11_init 13 = .ok (.newarray .int, 2) := by decide +kernel
theorem dX11_init_15 : decode cX11_init 15 = .ok (.putfield 13, 3) := by decide +kernel
theorem dX11_init_18 : decode cX11_init 18 = .ok (.aload_n 0, 1) := by decide +kernel
theorem dX11_init_19 : decode cX11_init 19 = .ok (.sipush 192, 3) := by decide +kernel
theorem dX11_init_22 : decode cX11_init 22 = .ok (.newarray .int, 2) := by decide +kernel
theorem dX11_init_24 : decode cX11_init 24 = .ok (.putfield 16, 3) := by decide +kernel
theorem dX11_init_27 : decode cX11_init 27 = .ok (.aload_n 0, 1) := by decide +kernel
theorem dX11_init_28 : decode cX11_init 28 = .ok (.sipush 192, 3) := by decide +kernel
theorem dX11_init_31 : decode cX11_init 31 = .ok (.newarray .int, 2) := by decide +kernel
theorem dX11_init_33 : decode cX11_init 33 = .ok (.putfield 19, 3) := by decide +kernel
theorem dX11_init_36 : decode cX11_init 36 = .ok (.aload_n 0, 1) := by decide +kernel
theorem dX11_init_37 : decode cX11_init 37 = .ok (.iconst 3, 1) := by decide +kernel
theorem dX11_init_38 : decode cX11_init 38 = .ok (.newarray .int, 2) := by decide +kernel
theorem dX11_init_40 : decode cX11_init 40 = .ok (.putfield 22, 3) := by decide +kernel
theorem dX11_init_43 : decode cX11_init 43 = .ok (.aload_n 0, 1) := by decide +kernel
theorem dX11_init_44 : decode cX11_init 44 = .ok (.iconst 3, 1) := by decide +kernel
theorem dX11_init_45 : decode cX11_init 45 = .ok (.newarray .int, 2) := by decide +kernel
theorem dX11_init_47 : decode cX11_init 47 = .ok (.putfield 25, 3) := by decide +kernel
theorem dX11_init_50 : decode cX11_init 50 = .ok (.aload_n 0, 1) := by decide +kernel
theorem dX11_init_51 : decode cX11_init 51 = .ok (.iconst 3, 1) := by decide +kernel
theorem dX11_init_52 : decode cX11_init 52 = .ok (.newarray .int, 2) := by decide +kernel
theorem dX11_init_54 : decode cX11_init 54 = .ok (.putfield 28, 3) := by decide +kernel
theorem dX11_init_57 : decode cX11_init 57 = .ok (.aload_n 0, 1) := by decide +kernel
theorem dX11_init_58 : decode cX11_init 58 = .ok (.iconst 3, 1) := by decide +kernel
theorem dX11_init_59 : decode cX11_init 59 = .ok (.newarray .int, 2) := by decide +kernel
theorem dX11_init_61 : decode cX11_init 61 = .ok (.putfield 31, 3) := by decide +kernel
theorem dX11_init_64 : decode cX11_init 64 = .ok (.aload_n 0, 1) := by decide +kernel
theorem dX11_init_65 : decode cX11_init 65 = .ok (.iconst 3, 1) := by decide +kernel
theorem dX11_init_66 : decode cX11_init 66 = .ok (.newarray .boolean, 2) := by decide +kernel
theorem dX11_init_68 : decode cX11_init 68 = .ok (.putfield 34, 3) := by decide +kernel
theorem dX11_init_71 : decode cX11_init 71 = .ok (.aload_n 0, 1) := by decide +kernel
theorem dX11_init_72 : decode cX11_init 72 = .ok (.iconst 3, 1) := by decide +kernel
theorem dX11_init_73 : decode cX11_init 73 = .ok (.newarray .int, 2) := by decide +kernel
theorem dX11_init_75 : decode cX11_init 75 = .ok (.putfield 38, 3) := by decide +kernel
theorem dX11_init_78 : decode cX11_init 78 = .ok (.aload_n 0, 1) := by decide +kernel
theorem dX11_init_79 : decode cX11_init 79 = .ok (.iconst 3, 1) := by decide +kernel
theorem dX11_init_80 : decode cX11_init 80 = .ok (.newarray .int, 2) := by decide +kernel
theorem dX11_init_82 : decode cX11_init 82 = .ok (.putfield 41, 3) := by decide +kernel
theorem dX11_init_85 : decode cX11_init 85 = .ok (.aload_n 0, 1) := by decide +kernel
theorem dX11_init_86 : decode cX11_init 86 = .ok (.iconst 3, 1) := by decide +kernel
theorem dX11_init_87 : decode cX11_init 87 = .ok (.newarray .int, 2) := by decide +kernel
theorem dX11_init_89 : decode cX11_init 89 = .ok (.putfield 44, 3) := by decide +kernel
theorem dX11_init_92 : decode cX11_init 92 = .ok (.aload_n 0, 1) := by decide +kernel
theorem dX11_init_93 : decode cX11_init 93 = .ok (.sipush 192, 3) := by decide +kernel
theorem dX11_init_96 : decode cX11_init 96 = .ok (.newarray .int, 2) := by decide +kernel
theorem dX11_init_98 : decode cX11_init 98 = .ok (.putfield 47, 3) := by decide +kernel
theorem dX11_init_101 : decode cX11_init 101 = .ok (.aload_n 0, 1) := by decide +kernel
theorem dX11_init_102 : decode cX11_init 102 = .ok (.iconst 3, 1) := by decide +kernel
theorem dX11_init_103 : decode cX11_init 103 = .ok (.newarray .boolean, 2) := by decide +kernel
theorem dX11_init_105 : decode cX11_init 105 = .ok (.putfield 50, 3) := by decide +kernel
theorem dX11_init_108 : decode cX11_init 108 = .ok (.aload_n 0, 1) := by decide +kernel
theorem dX11_init_109 : decode cX11_init 109 = .ok (.sipush 128, 3) := by decide +kernel
theorem dX11_init_112 : decode cX11_init 112 = .ok (.newarray .int, 2) := by decide +kernel
theorem dX11_init_114 : decode cX11_init 114 = .ok (.putfield 53, 3) := by decide +kernel
theorem dX11_init_117 : decode cX11_init 117 = .ok (.aload_n 0, 1) := by decide +kernel
theorem dX11_init_118 : decode cX11_init 118 = .ok (.sipush 128, 3) := by decide +kernel
theorem dX11_init_121 : decode cX11_init 121 = .ok (.newarray .int, 2) := by decide +kernel
theorem dX11_init_123 : decode cX11_init 123 = .ok (.putfield 56, 3) := by decide +kernel
theorem dX11_init_126 : decode cX11_init 126 = .ok (.return_, 1) := by decide +kernel
theorem dX11_thrown_0 : decode cX11_thrown 0 = .ok (.aload_n 0, 1) := by decide +kernel
theorem dX11_thrown_1 : decode cX11_thrown 1 = .ok (.getfield 59, 3) := by decide +kernel
theorem dX11_thrown_4 : decode cX11_thrown 4 = .ok (.ireturn, 1) := by decide +kernel
theorem dX11_refuse_0 : decode cX11_refuse 0 = .ok (.aload_n 0, 1) := by decide +kernel
theorem dX11_refuse_1 : decode cX11_refuse 1 = .ok (.iload_n 1, 1) := by decide +kernel
theorem dX11_refuse_2 : decode cX11_refuse 2 = .ok (.putfield 59, 3) := by decide +kernel
theorem dX11_refuse_5 : decode cX11_refuse 5 = .ok (.iconst 0, 1) := by decide +kernel
theorem dX11_refuse_6 : decode cX11_refuse 6 = .ok (.ireturn, 1) := by decide +kernel
theorem dX11_isMap_0 : decode cX11_isMap 0 = .ok (.iload_n 0, 1) := by decide +kernel
theorem dX11_isMap_1 : decode cX11_isMap 1 = .ok (.ifCond .lt 12, 3) := by decide +kernel
theorem dX11_isMap_4 : decode cX11_isMap 4 = .ok (.iload_n 0, 1) := by decide +kernel
theorem dX11_isMap_5 : decode cX11_isMap 5 = .ok (.iconst 3, 1) := by decide +kernel
theorem dX11_isMap_6 : decode cX11_isMap 6 = .ok (.if_icmp .ge 7, 3) := by decide +kernel
theorem dX11_isMap_9 : decode cX11_isMap 9 = .ok (.iconst 1, 1) := by decide +kernel
theorem dX11_isMap_10 : decode cX11_isMap 10 = .ok (.goto 4, 3) := by decide +kernel
theorem dX11_isMap_13 : decode cX11_isMap 13 = .ok (.iconst 0, 1) := by decide +kernel
theorem dX11_isMap_14 : decode cX11_isMap 14 = .ok (.ireturn, 1) := by decide +kernel
theorem dX11_before_0 : decode cX11_before 0 = .ok (.aload_n 0, 1) := by decide +kernel
theorem dX11_before_1 : decode cX11_before 1 = .ok (.getfield 7, 3) := by decide +kernel
theorem dX11_before_4 : decode cX11_before 4 = .ok (.iload_n 1, 1) := by decide +kernel
theorem dX11_before_5 : decode cX11_before 5 = .ok (.iaload, 1) := by decide +kernel
theorem dX11_before_6 : decode cX11_before 6 = .ok (.iconst 1, 1) := by decide +kernel
theorem dX11_before_7 : decode cX11_before 7 = .ok (.if_icmp .ne 14, 3) := by decide +kernel
theorem dX11_before_10 : decode cX11_before 10 = .ok (.iload_n 2, 1) := by decide +kernel
theorem dX11_before_11 : decode cX11_before 11 = .ok (.iload_n 3, 1) := by decide +kernel
theorem dX11_before_12 : decode cX11_before 12 = .ok (.if_icmp .le 7, 3) := by decide +kernel
theorem dX11_before_15 : decode cX11_before 15 = .ok (.iconst 1, 1) := by decide +kernel
theorem dX11_before_16 : decode cX11_before 16 = .ok (.goto 4, 3) := by decide +kernel
theorem dX11_before_19 : decode cX11_before 19 = .ok (.iconst 0, 1) := by decide +kernel
theorem dX11_before_20 : decode cX11_before 20 = .ok (.ireturn, 1) := by decide +kernel
theorem dX11_before_21 : decode cX11_before 21 = .ok (.aload_n 0, 1) := by decide +kernel
theorem dX11_before_22 : decode cX11_before 22 = .ok (.getfield 7, 3) := by decide +kernel
theorem dX11_before_25 : decode cX11_before 25 = .ok (.iload_n 1, 1) := by decide +kernel
theorem dX11_before_26 : decode cX11_before 26 = .ok (.iaload, 1) := by decide +kernel
theorem dX11_before_27 : decode cX11_before 27 = .ok (.iconst 2, 1) := by decide +kernel
theorem dX11_before_28 : decode cX11_before 28 = .ok (.if_icmp .ne 20, 3) := by decide +kernel
theorem dX11_before_31 : decode cX11_before 31 = .ok (.iload_n 2, 1) := by decide +kernel
theorem dX11_before_32 : decode cX11_before 32 = .ok (.iconst 2, 1) := by decide +kernel
theorem dX11_before_33 : decode cX11_before 33 = .ok (.ishr, 1) := by decide +kernel
theorem dX11_before_34 : decode cX11_before 34 = .ok (.iload_n 3, 1) := by decide +kernel
theorem dX11_before_35 : decode cX11_before 35 = .ok (.iconst 2, 1) := by decide +kernel
theorem dX11_before_36 : decode cX11_before 36 = .ok (.ishr, 1) := by decide +kernel
theorem dX11_before_37 : decode cX11_before 37 = .ok (.if_icmp .ge 7, 3) := by decide +kernel
theorem dX11_before_40 : decode cX11_before 40 = .ok (.iconst 1, 1) := by decide +kernel
theorem dX11_before_41 : decode cX11_before 41 = .ok (.goto 17, 3) := by decide +kernel
theorem dX11_before_44 : decode cX11_before 44 = .ok (.iconst 0, 1) := by decide +kernel
theorem dX11_before_45 : decode cX11_before 45 = .ok (.goto 13, 3) := by decide +kernel
theorem dX11_before_48 : decode cX11_before 48 = .ok (.iload_n 2, 1) := by decide +kernel
theorem dX11_before_49 : decode cX11_before 49 = .ok (.iload_n 3, 1) := by decide +kernel
theorem dX11_before_50 : decode cX11_before 50 = .ok (.if_icmp .ge 7, 3) := by decide +kernel
theorem dX11_before_53 : decode cX11_before 53 = .ok (.iconst 1, 1) := by decide +kernel
theorem dX11_before_54 : decode cX11_before 54 = .ok (.goto 4, 3) := by decide +kernel
theorem dX11_before_57 : decode cX11_before 57 = .ok (.iconst 0, 1) := by decide +kernel
theorem dX11_before_58 : decode cX11_before 58 = .ok (.ireturn, 1) := by decide +kernel
theorem dX11_place_0 : decode cX11_place 0 = .ok (.iconst 0, 1) := by decide +kernel
theorem dX11_place_1 : decode cX11_place 1 = .ok (.istore_n 3, 1) := by decide +kernel
theorem dX11_place_2 : decode cX11_place 2 = .ok (.iload_n 3, 1) := by decide +kernel
theorem dX11_place_3 : decode cX11_place 3 = .ok (.aload_n 0, 1) := by decide +kernel
theorem dX11_place_4 : decode cX11_place 4 = .ok (.getfield 13, 3) := by decide +kernel
theorem dX11_place_7 : decode cX11_place 7 = .ok (.iload_n 1, 1) := by decide +kernel
theorem dX11_place_8 : decode cX11_place 8 = .ok (.iaload, 1) := by decide +kernel
theorem dX11_place_9 : decode cX11_place 9 = .ok (.if_icmp .ge 29, 3) := by decide +kernel
theorem dX11_place_12 : decode cX11_place 12 = .ok (.aload_n 0, 1) := by decide +kernel
theorem dX11_place_13 : decode cX11_place 13 = .ok (.iload_n 1, 1) := by decide +kernel
