theorem dX0_init_0 : decode cX0_init 0 = .ok (.aload_n 0, 1) := by decide +kernel
theorem dX0_init_1 : decode cX0_init 1 = .ok (.invokespecial 1, 3) := by decide +kernel
theorem dX0_init_4 : decode cX0_init 4 = .ok (.return_, 1) := by decide +kernel
theorem dX0_isTooMuch_0 : decode cX0_isTooMuch 0 = .ok (.aload_n 1, 1) := by decide +kernel
theorem dX0_isTooMuch_1 : decode cX0_isTooMuch 1 = .ok (.getfield 7, 3) := by decide +kernel
theorem dX0_isTooMuch_4 : decode cX0_isTooMuch 4 = .ok (.iload_n 2, 1) := by decide +kernel
theorem dX0_isTooMuch_5 : decode cX0_isTooMuch 5 = .ok (.iaload, 1) := by decide +kernel
theorem dX0_isTooMuch_6 : decode cX0_isTooMuch 6 = .ok (.aload_n 1, 1) := by decide +kernel
theorem dX0_isTooMuch_7 : decode cX0_isTooMuch 7 = .ok (.getfield 7, 3) := by decide +kernel
theorem dX0_isTooMuch_10 : decode cX0_isTooMuch 10 = .ok (.iload_n 3, 1) := by decide +kernel
theorem dX0_isTooMuch_11 : decode cX0_isTooMuch 11 = .ok (.iaload, 1) := by decide +kernel
theorem dX0_isTooMuch_12 : decode cX0_isTooMuch 12 = .ok (.iconst 1, 1) := by decide +kernel
theorem dX0_isTooMuch_13 : decode cX0_isTooMuch 13 = .ok (.iadd, 1) := by decide +kernel
theorem dX0_isTooMuch_14 : decode cX0_isTooMuch 14 = .ok (.if_icmp .le 7, 3) := by decide +kernel
theorem dX0_isTooMuch_17 : decode cX0_isTooMuch 17 = .ok (.iconst 1, 1) := by decide +kernel
theorem dX0_isTooMuch_18 : decode cX0_isTooMuch 18 = .ok (.goto 4, 3) := by decide +kernel
theorem dX0_isTooMuch_21 : decode cX0_isTooMuch 21 = .ok (.iconst 0, 1) := by decide +kernel
theorem dX0_isTooMuch_22 : decode cX0_isTooMuch 22 = .ok (.ireturn, 1) := by decide +kernel
theorem dX0_hasToPart_0 : decode cX0_hasToPart 0 = .ok (.aload_n 1, 1) := by decide +kernel
theorem dX0_hasToPart_1 : decode cX0_hasToPart 1 = .ok (.getfield 7, 3) := by decide +kernel
theorem dX0_hasToPart_4 : decode cX0_hasToPart 4 = .ok (.iload_n 2, 1) := by decide +kernel
theorem dX0_hasToPart_5 : decode cX0_hasToPart 5 = .ok (.iaload, 1) := by decide +kernel
theorem dX0_hasToPart_6 : decode cX0_hasToPart 6 = .ok (.aload_n 1, 1) := by decide +kernel
theorem dX0_hasToPart_7 : decode cX0_hasToPart 7 = .ok (.getfield 7, 3) := by decide +kernel
theorem dX0_hasToPart_10 : decode cX0_hasToPart 10 = .ok (.iload_n 3, 1) := by decide +kernel
theorem dX0_hasToPart_11 : decode cX0_hasToPart 11 = .ok (.iaload, 1) := by decide +kernel
theorem dX0_hasToPart_12 : decode cX0_hasToPart 12 = .ok (.if_icmp .le 7, 3) := by decide +kernel
theorem dX0_hasToPart_15 : decode cX0_hasToPart 15 = .ok (.iconst 1, 1) := by decide +kernel
theorem dX0_hasToPart_16 : decode cX0_hasToPart 16 = .ok (.goto 4, 3) := by decide +kernel
theorem dX0_hasToPart_19 : decode cX0_hasToPart 19 = .ok (.iconst 0, 1) := by decide +kernel
theorem dX0_hasToPart_20 : decode cX0_hasToPart 20 = .ok (.ireturn, 1) := by decide +kernel
theorem dX1_init_0 : decode cX1_init 0 = .ok (.aload_n 0, 1) := by decide +kernel
theorem dX1_init_1 : decode cX1_init 1 = .ok (.invokespecial 3, 3) := by decide +kernel
theorem dX1_init_4 : decode cX1_init 4 = .ok (.return_, 1) := by decide +kernel
theorem dX1_settle_0 : decode cX1_settle 0 = .ok (.aload_n 1, 1) := by decide +kernel
theorem dX1_settle_1 : decode cX1_settle 1 = .ok (.iload_n 2, 1) := by decide +kernel
theorem dX1_settle_2 : decode cX1_settle 2 = .ok (.bipush 60, 2) := by decide +kernel
theorem dX1_settle_4 : decode cX1_settle 4 = .ok (.invokestatic 9, 3) := by decide +kernel
theorem dX1_settle_7 : decode cX1_settle 7 = .ok (.ireturn, 1) := by decide +kernel
theorem dX1_suits_0 : decode cX1_suits 0 = .ok (.aload_n 1, 1) := by decide +kernel
theorem dX1_suits_1 : decode cX1_suits 1 = .ok (.iload_n 2, 1) := by decide +kernel
theorem dX1_suits_2 : decode cX1_suits 2 = .ok (.invokestatic 15, 3) := by decide +kernel
theorem dX1_suits_5 : decode cX1_suits 5 = .ok (.iload_n 2, 1) := by decide +kernel
theorem dX1_suits_6 : decode cX1_suits 6 = .ok (.if_icmp .ne 7, 3) := by decide +kernel
theorem dX1_suits_9 : decode cX1_suits 9 = .ok (.iconst 1, 1) := by decide +kernel
theorem dX1_suits_10 : decode cX1_suits 10 = .ok (.goto 4, 3) := by decide +kernel
theorem dX1_suits_13 : decode cX1_suits 13 = .ok (.iconst 0, 1) := by decide +kernel
theorem dX1_suits_14 : decode cX1_suits 14 = .ok (.ireturn, 1) := by decide +kernel
theorem dX1_sink_0 : decode cX1_sink 0 = .ok (.aload_n 0, 1) := by decide +kernel
theorem dX1_sink_1 : decode cX1_sink 1 = .ok (.iload_n 1, 1) := by decide +kernel
theorem dX1_sink_2 : decode cX1_sink 2 = .ok (.invokestatic 15, 3) := by decide +kernel
theorem dX1_sink_5 : decode cX1_sink 5 = .ok (.istore_n 3, 1) := by decide +kernel
theorem dX1_sink_6 : decode cX1_sink 6 = .ok (.iload_n 3, 1) := by decide +kernel
theorem dX1_sink_7 : decode cX1_sink 7 = .ok (.iload_n 1, 1) := by decide +kernel
theorem dX1_sink_8 : decode cX1_sink 8 = .ok (.if_icmp .eq 7, 3) := by decide +kernel
theorem dX1_sink_11 : decode cX1_sink 11 = .ok (.iload_n 2, 1) := by decide +kernel
theorem dX1_sink_12 : decode cX1_sink 12 = .ok (.ifCond .ne 5, 3) := by decide +kernel
theorem dX1_sink_15 : decode cX1_sink 15 = .ok (.iload_n 1, 1) := by decide +kernel
theorem dX1_sink_16 : decode cX1_sink 16 = .ok (.ireturn, 1) := by decide +kernel
theorem dX1_sink_17 : decode cX1_sink 17 = .ok (.iload_n 3, 1) := by decide +kernel
theorem dX1_sink_18 : decode cX1_sink 18 = .ok (.aload_n 0, 1) := by decide +kernel
theorem dX1_sink_19 : decode cX1_sink 19 = .ok (.getfield 19, 3) := by decide +kernel
theorem dX1_sink_22 : decode cX1_sink 22 = .ok (.iload_n 1, 1) := by decide +kernel
theorem dX1_sink_23 : decode cX1_sink 23 = .ok (.iaload, 1) := by decide +kernel
theorem dX1_sink_24 : decode cX1_sink 24 = .ok (.if_icmp .ne 26, 3) := by decide +kernel
theorem dX1_sink_27 : decode cX1_sink 27 = .ok (.aload_n 0, 1) := by decide +kernel
theorem dX1_sink_28 : decode cX1_sink 28 = .ok (.iload_n 1, 1) := by decide +kernel
theorem dX1_sink_29 : decode cX1_sink 29 = .ok (.invokevirtual 25, 3) := by decide +kernel
theorem dX1_sink_32 : decode cX1_sink 32 = .ok (.pop, 1) := by decide +kernel
theorem dX1_sink_33 : decode cX1_sink 33 = .ok (.aload_n 0, 1) := by decide +kernel
theorem dX1_sink_34 : decode cX1_sink 34 = .ok (.getfield 29, 3) := by decide +kernel
theorem dX1_sink_37 : decode cX1_sink 37 = .ok (.iload_n 3, 1) := by decide +kernel
theorem dX1_sink_38 : decode cX1_sink 38 = .ok (.aload_n 0, 1) := by decide +kernel
theorem dX1_sink_39 : decode cX1_sink 39 = .ok (.iload_n 1, 1) := by decide +kernel
theorem dX1_sink_40 : decode cX1_sink 40 = .ok (.iload_n 2, 1) := by decide +kernel
theorem dX1_sink_41 : decode cX1_sink 41 = .ok (.iconst 1, 1) := by decide +kernel
theorem dX1_sink_42 : decode cX1_sink 42 = .ok (.isub, 1) := by decide +kernel
theorem dX1_sink_43 : decode cX1_sink 43 = .ok (.invokestatic 9, 3) := by decide +kernel
theorem dX1_sink_46 : decode cX1_sink 46 = .ok (.iastore, 1) := by decide +kernel
theorem dX1_sink_47 : decode cX1_sink 47 = .ok (.goto 23, 3) := by decide +kernel
theorem dX1_sink_50 : decode cX1_sink 50 = .ok (.aload_n 0, 1) := by decide +kernel
theorem dX1_sink_51 : decode cX1_sink 51 = .ok (.iload_n 1, 1) := by decide +kernel
theorem dX1_sink_52 : decode cX1_sink 52 = .ok (.invokevirtual 32, 3) := by decide +kernel
theorem dX1_sink_55 : decode cX1_sink 55 = .ok (.pop, 1) := by decide +kernel
theorem dX1_sink_56 : decode cX1_sink 56 = .ok (.aload_n 0, 1) := by decide +kernel
theorem dX1_sink_57 : decode cX1_sink 57 = .ok (.getfield 19, 3) := by decide +kernel
theorem dX1_sink_60 : decode cX1_sink 60 = .ok (.iload_n 3, 1) := by decide +kernel
theorem dX1_sink_61 : decode cX1_sink 61 = .ok (.aload_n 0, 1) := by decide +kernel
theorem dX1_sink_62 : decode cX1_sink 62 = .ok (.iload_n 1, 1) := by decide +kernel
theorem dX1_sink_63 : decode cX1_sink 63 = .ok (.iload_n 2, 1) := by decide +kernel
theorem dX1_sink_64 : decode cX1_sink 64 = .ok (.iconst 1, 1) := by decide +kernel
theorem dX1_sink_65 : decode cX1_sink 65 = .ok (.isub, 1) := by decide +kernel
theorem dX1_sink_66 : decode cX1_sink 66 = .ok (.invokestatic 9, 3) := by decide +kernel
theorem dX1_sink_69 : decode cX1_sink 69 = .ok (.iastore, 1) := by decide +kernel
theorem dX1_sink_70 : decode cX1_sink 70 = .ok (.aload_n 0, 1) := by decide +kernel
theorem dX1_sink_71 : decode cX1_sink 71 = .ok (.iload_n 3, 1) := by decide +kernel
theorem dX1_sink_72 : decode cX1_sink 72 = .ok (.invokevirtual 35, 3) := by decide +kernel
theorem dX1_sink_75 : decode cX1_sink 75 = .ok (.iload_n 3, 1) := by decide +kernel
theorem dX1_sink_76 : decode cX1_sink 76 = .ok (.ireturn, 1) := by decide +kernel
theorem dX1_preferred_0 : decode cX1_preferred 0 = .ok (.iload_n 1, 1) := by decide +kernel
theorem dX1_preferred_1 : decode cX1_preferred 1 = .ok (.istore_n 2, 1) := by decide +kernel
theorem dX1_preferred_2 : decode cX1_preferred 2 = .ok (.aload_n 0, 1) := by decide +kernel
theorem dX1_preferred_3 : decode cX1_preferred 3 = .ok (.getfield 19, 3) := by decide +kernel
theorem dX1_preferred_6 : decode cX1_preferred 6 = .ok (.iload_n 1, 1) := by decide +kernel
theorem dX1_preferred_7 : decode cX1_preferred 7 = .ok (.iaload, 1) := by decide +kernel
theorem dX1_preferred_8 : decode cX1_preferred 8 = .ok (.istore_n 3, 1) := by decide +kernel
theorem dX1_preferred_9 : decode cX1_preferred 9 = .ok (.aload_n 0, 1) := by decide +kernel
theorem dX1_preferred_10 : decode cX1_preferred 10 = .ok (.getfield 29, 3) := by decide +kernel
theorem dX1_preferred_13 : decode cX1_preferred 13 = .ok (.iload_n 1, 1) := by decide +kernel
theorem dX1_preferred_14 : decode cX1_preferred 14 = .ok (.iaload, 1) := by decide +kernel
theorem dX1_preferred_15 : decode cX1_preferred 15 = .ok (.istore 4, 2) := by decide +kernel
theorem dX1_preferred_17 : decode cX1_preferred 17 = .ok (.iload_n 3, 1) := by decide +kernel
theorem dX1_preferred_18 : decode cX1_preferred 18 = .ok (.ifCond .eq 26, 3) := by decide +kernel
theorem dX1_preferred_21 : decode cX1_preferred 21 = .ok (.aload_n 0, 1) := by decide +kernel
theorem dX1_preferred_22 : decode cX1_preferred 22 = .ok (.getfield 39, 3) := by decide +kernel
theorem dX1_preferred_25 : decode cX1_preferred 25 = .ok (.iload_n 3, 1) := by decide +kernel
theorem dX1_preferred_26 : decode cX1_preferred 26 = .ok (.iaload, 1) := by decide +kernel
theorem dX1_preferred_27 : decode cX1_preferred 27 = .ok (.invokestatic 42, 3) := by decide +kernel
theorem dX1_preferred_30 : decode cX1_preferred 30 = .ok (.aload_n 0, 1) := by decide +kernel
theorem dX1_preferred_31 : decode cX1_preferred 31 = .ok (.getfield 39, 3) := by decide +kernel
theorem dX1_preferred_34 : decode cX1_preferred 34 = .ok (.iload_n 2, 1) := by decide +kernel
theorem dX1_preferred_35 : decode cX1_preferred 35 = .ok (.iaload, 1) := by decide +kernel
theorem dX1_preferred_36 : decode cX1_preferred 36 = .ok (.invokestatic 42, 3) := by decide +kernel
theorem dX1_preferred_39 : decode cX1_preferred 39 = .ok (.if_icmp .le 5, 3) := by decide +kernel
theorem dX1_preferred_42 : decode cX1_preferred 42 = .ok (.iload_n 3, 1) := by decide +kernel
theorem dX1_preferred_43 : decode cX1_preferred 43 = .ok (.istore_n 2, 1) := by decide +kernel
theorem dX1_preferred_44 : decode cX1_preferred 44 = .ok (.iload 4, 2) := by decide +kernel
theorem dX1_preferred_46 : decode cX1_preferred 46 = .ok (.ifCond .eq 28, 3) := by decide +kernel
theorem dX1_preferred_49 : decode cX1_preferred 49 = .ok (.aload_n 0, 1) := by decide +kernel
theorem dX1_preferred_50 : decode cX1_preferred 50 = .ok (.getfield 39, 3) := by decide +kernel
theorem dX1_preferred_53 : decode cX1_preferred 53 = .ok (.iload 4, 2) := by decide +kernel
theorem dX1_preferred_55 : decode cX1_preferred 55 = .ok (.iaload, 1) := by decide +kernel
theorem dX1_preferred_56 : decode cX1_preferred 56 = .ok (.invokestatic 42, 3) := by decide +kernel
theorem dX1_preferred_59 : decode cX1_preferred 59 = .ok (.aload_n 0, 1) := by decide +kernel
theorem dX1_preferred_60 : decode cX1_preferred 60 = .ok (.getfield 39, 3) := by decide +kernel
theorem dX1_preferred_63 : decode cX1_preferred 63 = .ok (.iload_n 2, 1) := by decide +kernel
theorem dX1_preferred_64 : decode cX1_preferred 64 = .ok (.iaload, 1) := by decide +kernel
theorem dX1_preferred_65 : decode cX1_preferred 65 = .ok (.invokestatic 42, 3) := by decide +kernel
theorem dX1_preferred_68 : decode cX1_preferred 68 = .ok (.if_icmp .le 6, 3) := by decide +kernel
theorem dX1_preferred_71 : decode cX1_preferred 71 = .ok (.iload 4, 2) := by decide +kernel
theorem dX1_preferred_73 : decode cX1_preferred 73 = .ok (.istore_n 2, 1) := by decide +kernel
theorem dX1_preferred_74 : decode cX1_preferred 74 = .ok (.iload_n 2, 1) := by decide +kernel
theorem dX1_preferred_75 : decode cX1_preferred 75 = .ok (.ireturn, 1) := by decide +kernel
theorem dX1_priority_0 : decode cX1_priority 0 = .ok (.iload_n 0, 1) := by decide +kernel
theorem dX1_priority_1 : decode cX1_priority 1 = .ok (.ldc 45, 2) := by decide +kernel
theorem dX1_priority_3 : decode cX1_priority 3 = .ok (.imul, 1) := by decide +kernel
theorem dX1_priority_4 : decode cX1_priority 4 = .ok (.istore_n 1, 1) := by decide +kernel
theorem dX1_priority_5 : decode cX1_priority 5 = .ok (.iload_n 1, 1) := by decide +kernel
theorem dX1_priority_6 : decode cX1_priority 6 = .ok (.iload_n 1, 1) := by decide +kernel
theorem dX1_priority_7 : decode cX1_priority 7 = .ok (.bipush 15, 2) := by decide +kernel
theorem dX1_priority_9 : decode cX1_priority 9 = .ok (.iushr, 1) := by decide +kernel
theorem dX1_priority_10 : decode cX1_priority 10 = .ok (.ixor, 1) := by decide +kernel
theorem dX1_priority_11 : decode cX1_priority 11 = .ok (.ldc 46, 2) := by decide +kernel
theorem dX1_priority_13 : decode cX1_priority 13 = .ok (.imul, 1) := by decide +kernel
theorem dX1_priority_14 : decode cX1_priority 14 = .ok (.istore_n 1, 1) := by decide +kernel
theorem dX1_priority_15 : decode cX1_priority 15 = .ok (.iload_n 1, 1) := by decide +kernel
theorem dX1_priority_16 : decode cX1_priority 16 = .ok (.iload_n 1, 1) := by decide +kernel
theorem dX1_priority_17 : decode cX1_priority 17 = .ok (.bipush 13, 2) := by decide +kernel
theorem dX1_priority_19 : decode cX1_priority 19 = .ok (.iushr, 1) := by decide +kernel
theorem dX1_priority_20 : decode cX1_priority 20 = .ok (.ixor, 1) := by decide +kernel
theorem dX1_priority_21 : decode cX1_priority 21 = .ok (.ireturn, 1) := by decide +kernel
theorem dX2_init_0 : decode cX2_init 0 = .ok (.aload_n 0, 1) := by decide +kernel
theorem dX2_init_1 : decode cX2_init 1 = .ok (.invokespecial 1, 3) := by decide +kernel
theorem dX2_init_4 : decode cX2_init 4 = .ok (.return_, 1) := by decide +kernel
theorem dX2_settle_0 : decode cX2_settle 0 = .ok (.aload_n 0, 1) := by decide +kernel
theorem dX2_settle_1 : decode cX2_settle 1 = .ok (.aload_n 1, 1) := by decide +kernel
theorem dX2_settle_2 : decode cX2_settle 2 = .ok (.iload_n 2, 1) := by decide +kernel
theorem dX2_settle_3 : decode cX2_settle 3 = .ok (.invokevirtual 7, 3) := by decide +kernel
theorem dX2_settle_6 : decode cX2_settle 6 = .ok (.ifCond .eq 7, 3) := by decide +kernel
theorem dX2_settle_9 : decode cX2_settle 9 = .ok (.iload_n 2, 1) := by decide +kernel
theorem dX2_settle_10 : decode cX2_settle 10 = .ok (.goto 8, 3) := by decide +kernel
theorem dX2_settle_13 : decode cX2_settle 13 = .ok (.aload_n 1, 1) := by decide +kernel
theorem dX2_settle_14 : decode cX2_settle 14 = .ok (.iload_n 2, 1) := by decide +kernel
theorem dX2_settle_15 : decode cX2_settle 15 = .ok (.invokevirtual 13, 3) := by decide +kernel
theorem dX2_settle_18 : decode cX2_settle 18 = .ok (.ireturn, 1) := by decide +kernel
theorem dX2_suits_0 : decode cX2_suits 0 = .ok (.aload_n 1, 1) := by decide +kernel
theorem dX2_suits_1 : decode cX2_suits 1 = .ok (.getfield 19, 3) := by decide +kernel
theorem dX2_suits_4 : decode cX2_suits 4 = .ok (.iload_n 2, 1) := by decide +kernel
theorem dX2_suits_5 : decode cX2_suits 5 = .ok (.iaload, 1) := by decide +kernel
theorem dX2_suits_6 : decode cX2_suits 6 = .ok (.aload_n 1, 1) := by decide +kernel
theorem dX2_suits_7 : decode cX2_suits 7 = .ok (.getfield 23, 3) := by decide +kernel
theorem dX2_suits_10 : decode cX2_suits 10 = .ok (.iload_n 2, 1) := by decide +kernel
theorem dX2_suits_11 : decode cX2_suits 11 = .ok (.iaload, 1) := by decide +kernel
theorem dX2_suits_12 : decode cX2_suits 12 = .ok (.invokestatic 26, 3) := by decide +kernel
theorem dX2_suits_15 : decode cX2_suits 15 = .ok (.if_icmp .gt 7, 3) := by decide +kernel
theorem dX2_suits_18 : decode cX2_suits 18 = .ok (.iconst 1, 1) := by decide +kernel
theorem dX2_suits_19 : decode cX2_suits 19 = .ok (.goto 4, 3) := by decide +kernel
theorem dX2_suits_22 : decode cX2_suits 22 = .ok (.iconst 0, 1) := by decide +kernel
theorem dX2_suits_23 : decode cX2_suits 23 = .ok (.ireturn, 1) := by decide +kernel
theorem dX2_highest_0 : decode cX2_highest 0 = .ok (.iconst 0, 1) := by decide +kernel
theorem dX2_highest_1 : decode cX2_highest 1 = .ok (.istore_n 1, 1) := by decide +kernel
theorem dX2_highest_2 : decode cX2_highest 2 = .ok (.lconst 1, 1) := by decide +kernel
theorem dX2_highest_3 : decode cX2_highest 3 = .ok (.lstore_n 2, 1) := by decide +kernel
theorem dX2_highest_4 : decode cX2_highest 4 = .ok (.iload_n 0, 1) := by decide +kernel
theorem dX2_highest_5 : decode cX2_highest 5 = .ok (.i2l, 1) := by decide +kernel
theorem dX2_highest_6 : decode cX2_highest 6 = .ok (.lstore 4, 2) := by decide +kernel
theorem dX2_highest_8 : decode cX2_highest 8 = .ok (.lload_n 2, 1) := by decide +kernel
theorem dX2_highest_9 : decode cX2_highest 9 = .ok (.lload 4, 2) := by decide +kernel
theorem dX2_highest_11 : decode cX2_highest 11 = .ok (.lcmp, 1) := by decide +kernel
theorem dX2_highest_12 : decode cX2_highest 12 = .ok (.ifCond .gt 29, 3) := by decide +kernel
theorem dX2_highest_15 : decode cX2_highest 15 = .ok (.iload_n 1, 1) := by decide +kernel
theorem dX2_highest_16 : decode cX2_highest 16 = .ok (.bipush 30, 2) := by decide +kernel
theorem dX2_highest_18 : decode cX2_highest 18 = .ok (.if_icmp .ge 23, 3) := by decide +kernel
theorem dX2_highest_21 : decode cX2_highest 21 = .ok (.iinc 1 1, 3) := by decide +kernel
theorem dX2_highest_24 : decode cX2_highest 24 = .ok (.lload_n 2, 1) := by decide +kernel
theorem dX2_highest_25 : decode cX2_highest 25 = .ok (.ldc2_w 29, 3) := by decide +kernel
theorem dX2_highest_28 : decode cX2_highest 28 = .ok (.lmul, 1) := by decide +kernel
theorem dX2_highest_29 : decode cX2_highest 29 = .ok (.lstore_n 2, 1) := by decide +kernel
theorem dX2_highest_30 : decode cX2_highest 30 = .ok (.lload 4, 2) := by decide +kernel
theorem dX2_highest_32 : decode cX2_highest 32 = .ok (.ldc2_w 31, 3) := by decide +kernel
theorem dX2_highest_35 : decode cX2_highest 35 = .ok (.lmul, 1) := by decide +kernel
theorem dX2_highest_36 : decode cX2_highest 36 = .ok (.lstore 4, 2) := by decide +kernel
theorem dX2_highest_38 : decode cX2_highest 38 = .ok (.goto (-30), 3) := by decide +kernel
theorem dX2_highest_41 : decode cX2_highest 41 = .ok (.iload_n 1, 1) := by decide +kernel
theorem dX2_highest_42 : decode cX2_highest 42 = .ok (.ireturn, 1) := by decide +kernel
theorem dX3_init_0 : decode cX3_init 0 = .ok (.aload_n 0, 1) := by decide +kernel
theorem dX3_init_1 : decode cX3_init 1 = .ok (.invokespecial 1, 3) := by decide +kernel
theorem dX3_init_4 : decode cX3_init 4 = .ok (.return_, 1) := by decide +kernel
theorem dX3_settle_0 : decode cX3_settle 0 = .ok (.aload_n 1, 1) := by decide +kernel
theorem dX3_settle_1 : decode cX3_settle 1 = .ok (.getfield 7, 3) := by decide +kernel
theorem dX3_settle_4 : decode cX3_settle 4 = .ok (.iload_n 2, 1) := by decide +kernel
theorem dX3_settle_5 : decode cX3_settle 5 = .ok (.iaload, 1) := by decide +kernel
theorem dX3_settle_6 : decode cX3_settle 6 = .ok (.istore_n 3, 1) := by decide +kernel
theorem dX3_settle_7 : decode cX3_settle 7 = .ok (.aload_n 1, 1) := by decide +kernel
theorem dX3_settle_8 : decode cX3_settle 8 = .ok (.getfield 13, 3) := by decide +kernel
theorem dX3_settle_11 : decode cX3_settle 11 = .ok (.iload_n 2, 1) := by decide +kernel
theorem dX3_settle_12 : decode cX3_settle 12 = .ok (.iaload, 1) := by decide +kernel
theorem dX3_settle_13 : decode cX3_settle 13 = .ok (.istore 4, 2) := by decide +kernel
theorem dX3_settle_15 : decode cX3_settle 15 = .ok (.aload_n 0, 1) := by decide +kernel
theorem dX3_settle_16 : decode cX3_settle 16 = .ok (.aload_n 1, 1) := by decide +kernel
theorem dX3_settle_17 : decode cX3_settle 17 = .ok (.iload_n 3, 1) := by decide +kernel
theorem dX3_settle_18 : decode cX3_settle 18 = .ok (.iload 4, 2) := by decide +kernel
theorem dX3_settle_20 : decode cX3_settle 20 = .ok (.invokevirtual 16, 3) := by decide +kernel
theorem dX3_settle_23 : decode cX3_settle 23 = .ok (.ifCond .eq 40, 3) := by decide +kernel
theorem dX3_settle_26 : decode cX3_settle 26 = .ok (.aload_n 0, 1) := by decide +kernel
theorem dX3_settle_27 : decode cX3_settle 27 = .ok (.aload_n 1, 1) := by decide +kernel
theorem dX3_settle_28 : decode cX3_settle 28 = .ok (.aload_n 1, 1) := by decide +kernel
theorem dX3_settle_29 : decode cX3_settle 29 = .ok (.getfield 13, 3) := by decide +kernel
theorem dX3_settle_32 : decode cX3_settle 32 = .ok (.iload_n 3, 1) := by decide +kernel
theorem dX3_settle_33 : decode cX3_settle 33 = .ok (.iaload, 1) := by decide +kernel
theorem dX3_settle_34 : decode cX3_settle 34 = .ok (.aload_n 1, 1) := by decide +kernel
theorem dX3_settle_35 : decode cX3_settle 35 = .ok (.getfield 7, 3) := by decide +kernel
theorem dX3_settle_38 : decode cX3_settle 38 = .ok (.iload_n 3, 1) := by decide +kernel
theorem dX3_settle_39 : decode cX3_settle 39 = .ok (.iaload, 1) := by decide +kernel
theorem dX3_settle_40 : decode cX3_settle 40 = .ok (.invokevirtual 22, 3) := by decide +kernel
theorem dX3_settle_43 : decode cX3_settle 43 = .ok (.ifCond .eq 14, 3) := by decide +kernel
theorem dX3_settle_46 : decode cX3_settle 46 = .ok (.aload_n 1, 1) := by decide +kernel
theorem dX3_settle_47 : decode cX3_settle 47 = .ok (.getfield 7, 3) := by decide +kernel
theorem dX3_settle_50 : decode cX3_settle 50 = .ok (.iload_n 2, 1) := by decide +kernel
theorem dX3_settle_51 : decode cX3_settle 51 = .ok (.aload_n 1, 1) := by decide +kernel
theorem dX3_settle_52 : decode cX3_settle 52 = .ok (.iload_n 3, 1) := by decide +kernel
theorem dX3_settle_53 : decode cX3_settle 53 = .ok (.invokevirtual 25, 3) := by decide +kernel
theorem dX3_settle_56 : decode cX3_settle 56 = .ok (.iastore, 1) := by decide +kernel
theorem dX3_settle_57 : decode cX3_settle 57 = .ok (.aload_n 1, 1) := by decide +kernel
theorem dX3_settle_58 : decode cX3_settle 58 = .ok (.iload_n 2, 1) := by decide +kernel
theorem dX3_settle_59 : decode cX3_settle 59 = .ok (.invokevirtual 29, 3) := by decide +kernel
theorem dX3_settle_62 : decode cX3_settle 62 = .ok (.ireturn, 1) := by decide +kernel
theorem dX3_settle_63 : decode cX3_settle 63 = .ok (.aload_n 0, 1) := by decide +kernel
theorem dX3_settle_64 : decode cX3_settle 64 = .ok (.aload_n 1, 1) := by decide +kernel
theorem dX3_settle_65 : decode cX3_settle 65 = .ok (.iload 4, 2) := by decide +kernel
theorem dX3_settle_67 : decode cX3_settle 67 = .ok (.iload_n 3, 1) := by decide +kernel
theorem dX3_settle_68 : decode cX3_settle 68 = .ok (.invokevirtual 16, 3) := by decide +kernel
theorem dX3_settle_71 : decode cX3_settle 71 = .ok (.ifCond .eq 43, 3) := by decide +kernel
theorem dX3_settle_74 : decode cX3_settle 74 = .ok (.aload_n 0, 1) := by decide +kernel
theorem dX3_settle_75 : decode cX3_settle 75 = .ok (.aload_n 1, 1) := by decide +kernel
theorem dX3_settle_76 : decode cX3_settle 76 = .ok (.aload_n 1, 1) := by decide +kernel
theorem dX3_settle_77 : decode cX3_settle 77 = .ok (.getfield 7, 3) := by decide +kernel
theorem dX3_settle_80 : decode cX3_settle 80 = .ok (.iload 4, 2) := by decide +kernel
theorem dX3_settle_82 : decode cX3_settle 82 = .ok (.iaload, 1) := by decide +kernel
theorem dX3_settle_83 : decode cX3_settle 83 = .ok (.aload_n 1, 1) := by decide +kernel
theorem dX3_settle_84 : decode cX3_settle 84 = .ok (.getfield 13, 3) := by decide +kernel
theorem dX3_settle_87 : decode cX3_settle 87 = .ok (.iload 4, 2) := by decide +kernel
theorem dX3_settle_89 : decode cX3_settle 89 = .ok (.iaload, 1) := by decide +kernel
theorem dX3_settle_90 : decode cX3_settle 90 = .ok (.invokevirtual 22, 3) := by decide +kernel
theorem dX3_settle_93 : decode cX3_settle 93 = .ok (.ifCond .eq 15, 3) := by decide +kernel
theorem dX3_settle_96 : decode cX3_settle 96 = .ok (.aload_n 1, 1) := by decide +kernel
theorem dX3_settle_97 : decode cX3_settle 97 = .ok (.getfield 13, 3) := by decide +kernel
theorem dX3_settle_100 : decode cX3_settle 100 = .ok (.iload_n 2, 1) := by decide +kernel
theorem dX3_settle_101 : decode cX3_settle 101 = .ok (.aload_n 1, 1) := by decide +kernel
theorem dX3_settle_102 : decode cX3_settle 102 = .ok (.iload 4, 2) := by decide +kernel
theorem dX3_settle_104 : decode cX3_settle 104 = .ok (.invokevirtual 29, 3) := by decide +kernel
theorem dX3_settle_107 : decode cX3_settle 107 = .ok (.iastore, 1) := by decide +kernel
theorem dX3_settle_108 : decode cX3_settle 108 = .ok (.aload_n 1, 1) := by decide +kernel
theorem dX3_settle_109 : decode cX3_settle 109 = .ok (.iload_n 2, 1) := by decide +kernel
theorem dX3_settle_110 : decode cX3_settle 110 = .ok (.invokevirtual 25, 3) := by decide +kernel
theorem dX3_settle_113 : decode cX3_settle 113 = .ok (.ireturn, 1) := by decide +kernel
theorem dX3_settle_114 : decode cX3_settle 114 = .ok (.iload_n 2, 1) := by decide +kernel
theorem dX3_settle_115 : decode cX3_settle 115 = .ok (.ireturn, 1) := by decide +kernel
theorem dX3_suits_0 : decode cX3_suits 0 = .ok (.aload_n 1, 1) := by decide +kernel
theorem dX3_suits_1 : decode cX3_suits 1 = .ok (.getfield 7, 3) := by decide +kernel
theorem dX3_suits_4 : decode cX3_suits 4 = .ok (.iload_n 2, 1) := by decide +kernel
theorem dX3_suits_5 : decode cX3_suits 5 = .ok (.iaload, 1) := by decide +kernel
theorem dX3_suits_6 : decode cX3_suits 6 = .ok (.istore_n 3, 1) := by decide +kernel
theorem dX3_suits_7 : decode cX3_suits 7 = .ok (.aload_n 1, 1) := by decide +kernel
theorem dX3_suits_8 : decode cX3_suits 8 = .ok (.getfield 13, 3) := by decide +kernel
theorem dX3_suits_11 : decode cX3_suits 11 = .ok (.iload_n 2, 1) := by decide +kernel
theorem dX3_suits_12 : decode cX3_suits 12 = .ok (.iaload, 1) := by decide +kernel
theorem dX3_suits_13 : decode cX3_suits 13 = .ok (.istore 4, 2) := by decide +kernel
theorem dX3_suits_15 : decode cX3_suits 15 = .ok (.aload_n 0, 1) := by decide +kernel
theorem dX3_suits_16 : decode cX3_suits 16 = .ok (.aload_n 1, 1) := by decide +kernel
theorem dX3_suits_17 : decode cX3_suits 17 = .ok (.iload_n 3, 1) := by decide +kernel
theorem dX3_suits_18 : decode cX3_suits 18 = .ok (.iload 4, 2) := by decide +kernel
theorem dX3_suits_20 : decode cX3_suits 20 = .ok (.invokevirtual 16, 3) := by decide +kernel
theorem dX3_suits_23 : decode cX3_suits 23 = .ok (.ifCond .ne 18, 3) := by decide +kernel
theorem dX3_suits_26 : decode cX3_suits 26 = .ok (.aload_n 0, 1) := by decide +kernel
theorem dX3_suits_27 : decode cX3_suits 27 = .ok (.aload_n 1, 1) := by decide +kernel
theorem dX3_suits_28 : decode cX3_suits 28 = .ok (.iload 4, 2) := by decide +kernel
theorem dX3_suits_30 : decode cX3_suits 30 = .ok (.iload_n 3, 1) := by decide +kernel
theorem dX3_suits_31 : decode cX3_suits 31 = .ok (.invokevirtual 16, 3) := by decide +kernel
theorem dX3_suits_34 : decode cX3_suits 34 = .ok (.ifCond .ne 7, 3) := by decide +kernel
theorem dX3_suits_37 : decode cX3_suits 37 = .ok (.iconst 1, 1) := by decide +kernel
theorem dX3_suits_38 : decode cX3_suits 38 = .ok (.goto 4, 3) := by decide +kernel
theorem dX3_suits_41 : decode cX3_suits 41 = .ok (.iconst 0, 1) := by decide +kernel
theorem dX3_suits_42 : decode cX3_suits 42 = .ok (.ireturn, 1) := by decide +kernel
theorem dX4_init_0 : decode cX4_init 0 = .ok (.aload_n 0, 1) := by decide +kernel
theorem dX4_init_1 : decode cX4_init 1 = .ok (.invokespecial 1, 3) := by decide +kernel
theorem dX4_init_4 : decode cX4_init 4 = .ok (.return_, 1) := by decide +kernel
theorem dX4_isTooMuch_0 : decode cX4_isTooMuch 0 = .ok (.aload_n 1, 1) := by decide +kernel
theorem dX4_isTooMuch_1 : decode cX4_isTooMuch 1 = .ok (.getfield 7, 3) := by decide +kernel
theorem dX4_isTooMuch_4 : decode cX4_isTooMuch 4 = .ok (.iload_n 2, 1) := by decide +kernel
theorem dX4_isTooMuch_5 : decode cX4_isTooMuch 5 = .ok (.iaload, 1) := by decide +kernel
theorem dX4_isTooMuch_6 : decode cX4_isTooMuch 6 = .ok (.iconst 1, 1) := by decide +kernel
theorem dX4_isTooMuch_7 : decode cX4_isTooMuch 7 = .ok (.iadd, 1) := by decide +kernel
theorem dX4_isTooMuch_8 : decode cX4_isTooMuch 8 = .ok (.iconst 3, 1) := by decide +kernel
theorem dX4_isTooMuch_9 : decode cX4_isTooMuch 9 = .ok (.aload_n 1, 1) := by decide +kernel
theorem dX4_isTooMuch_10 : decode cX4_isTooMuch 10 = .ok (.getfield 7, 3) := by decide +kernel
theorem dX4_isTooMuch_13 : decode cX4_isTooMuch 13 = .ok (.iload_n 3, 1) := by decide +kernel
theorem dX4_isTooMuch_14 : decode cX4_isTooMuch 14 = .ok (.iaload, 1) := by decide +kernel
theorem dX4_isTooMuch_15 : decode cX4_isTooMuch 15 = .ok (.iconst 1, 1) := by decide +kernel
theorem dX4_isTooMuch_16 : decode cX4_isTooMuch 16 = .ok (.iadd, 1) := by decide +kernel
theorem dX4_isTooMuch_17 : decode cX4_isTooMuch 17 = .ok (.imul, 1) := by decide +kernel
theorem dX4_isTooMuch_18 : decode cX4_isTooMuch 18 = .ok (.if_icmp .le 7, 3) := by decide +kernel
theorem dX4_isTooMuch_21 : decode cX4_isTooMuch 21 = .ok (.iconst 1, 1) := by decide +kernel
theorem dX4_isTooMuch_22 : decode cX4_isTooMuch 22 = .ok (.goto 4, 3) := by decide +kernel
theorem dX4_isTooMuch_25 : decode cX4_isTooMuch 25 = .ok (.iconst 0, 1) := by decide +kernel
theorem dX4_isTooMuch_26 : decode cX4_isTooMuch 26 = .ok (.ireturn, 1) := by decide +kernel
theorem dX4_hasToPart_0 : decode cX4_hasToPart 0 = .ok (.aload_n 1, 1) := by decide +kernel
theorem dX4_hasToPart_1 : decode cX4_hasToPart 1 = .ok (.getfield 7, 3) := by decide +kernel
theorem dX4_hasToPart_4 : decode cX4_hasToPart 4 = .ok (.iload_n 2, 1) := by decide +kernel
theorem dX4_hasToPart_5 : decode cX4_hasToPart 5 = .ok (.iaload, 1) := by decide +kernel
theorem dX4_hasToPart_6 : decode cX4_hasToPart 6 = .ok (.iconst 1, 1) := by decide +kernel
theorem dX4_hasToPart_7 : decode cX4_hasToPart 7 = .ok (.iadd, 1) := by decide +kernel
theorem dX4_hasToPart_8 : decode cX4_hasToPart 8 = .ok (.iconst 2, 1) := by decide +kernel
theorem dX4_hasToPart_9 : decode cX4_hasToPart 9 = .ok (.aload_n 1, 1) := by decide +kernel
theorem dX4_hasToPart_10 : decode cX4_hasToPart 10 = .ok (.getfield 7, 3) := by decide +kernel
theorem dX4_hasToPart_13 : decode cX4_hasToPart 13 = .ok (.iload_n 3, 1) := by decide +kernel
theorem dX4_hasToPart_14 : decode cX4_hasToPart 14 = .ok (.iaload, 1) := by decide +kernel
theorem dX4_hasToPart_15 : decode cX4_hasToPart 15 = .ok (.iconst 1, 1) := by decide +kernel
theorem dX4_hasToPart_16 : decode cX4_hasToPart 16 = .ok (.iadd, 1) := by decide +kernel
theorem dX4_hasToPart_17 : decode cX4_hasToPart 17 = .ok (.imul, 1) := by decide +kernel
theorem dX4_hasToPart_18 : decode cX4_hasToPart 18 = .ok (.if_icmp .lt 7, 3) := by decide +kernel
theorem dX4_hasToPart_21 : decode cX4_hasToPart 21 = .ok (.iconst 1, 1) := by decide +kernel
theorem dX4_hasToPart_22 : decode cX4_hasToPart 22 = .ok (.goto 4, 3) := by decide +kernel
theorem dX4_hasToPart_25 : decode cX4_hasToPart 25 = .ok (.iconst 0, 1) := by decide +kernel
theorem dX4_hasToPart_26 : decode cX4_hasToPart 26 = .ok (.ireturn, 1) := by decide +kernel
theorem dX5_init_0 : decode cX5_init 0 = .ok (.aload_n 0, 1) := by decide +kernel
theorem dX5_init_1 : decode cX5_init 1 = .ok (.invokespecial 1, 3) := by decide +kernel
theorem dX5_init_4 : decode cX5_init 4 = .ok (.return_, 1) := by decide +kernel
theorem dX6_init_0 : decode cX6_init 0 = .ok (.aload_n 0, 1) := by decide +kernel
theorem dX6_init_1 : decode cX6_init 1 = .ok (.invokespecial 3, 3) := by decide +kernel
theorem dX6_init_4 : decode cX6_init 4 = .ok (.aload_n 0, 1) := by decide +kernel
theorem dX6_init_5 : decode cX6_init 5 = .ok (.new 9, 3) := by decide +kernel
theorem dX6_init_8 : decode cX6_init 8 = .ok (.dup, 1) := by decide +kernel
theorem dX6_init_9 : decode cX6_init 9 = .ok (.aload_n 1, 1) := by decide +kernel
theorem dX6_init_10 : decode cX6_init 10 = .ok (.invokespecial 11, 3) := by decide +kernel
theorem dX6_init_13 : decode cX6_init 13 = .ok (.putfield 14, 3) := by decide +kernel
theorem dX6_init_16 : decode cX6_init 16 = .ok (.aload_n 0, 1) := by decide +kernel
theorem dX6_init_17 : decode cX6_init 17 = .ok (.new 20, 3) := by decide +kernel
theorem dX6_init_20 : decode cX6_init 20 = .ok (.dup, 1) := by decide +kernel
theorem dX6_init_21 : decode cX6_init 21 = .ok (.invokespecial 22, 3) := by decide +kernel
theorem dX6_init_24 : decode cX6_init 24 = .ok (.putfield 23, 3) := by decide +kernel
theorem dX6_init_27 : decode cX6_init 27 = .ok (.aload_n 0, 1) := by decide +kernel
theorem dX6_init_28 : decode cX6_init 28 = .ok (.new 27, 3) := by decide +kernel
theorem dX6_init_31 : decode cX6_init 31 = .ok (.dup, 1) := by decide +kernel
theorem dX6_init_32 : decode cX6_init 32 = .ok (.invokespecial 29, 3) := by decide +kernel
theorem dX6_init_35 : decode cX6_init 35 = .ok (.putfield 30, 3) := by decide +kernel
theorem dX6_init_38 : decode cX6_init 38 = .ok (.aload_n 0, 1) := by decide +kernel
theorem dX6_init_39 : decode cX6_init 39 = .ok (.iconst 0, 1) := by decide +kernel
theorem dX6_init_40 : decode cX6_init 40 = .ok (.putfield 34, 3) := by decide +kernel
theorem dX6_init_43 : decode cX6_init 43 = .ok (.return_, 1) := by decide +kernel
theorem dX6_beginAnew_0 : decode cX6_beginAnew 0 = .ok (.aload_n 0, 1) := by decide +kernel
theorem dX6_beginAnew_1 : decode cX6_beginAnew 1 = .ok (.getfield 14, 3) := by decide +kernel
theorem dX6_beginAnew_4 : decode cX6_beginAnew 4 = .ok (.aload_n 1, 1) := by decide +kernel
theorem dX6_beginAnew_5 : decode cX6_beginAnew 5 = .ok (.iload_n 2, 1) := by decide +kernel
theorem dX6_beginAnew_6 : decode cX6_beginAnew 6 = .ok (.invokevirtual 38, 3) := by decide +kernel
theorem dX6_beginAnew_9 : decode cX6_beginAnew 9 = .ok (.aload_n 0, 1) := by decide +kernel
theorem dX6_beginAnew_10 : decode cX6_beginAnew 10 = .ok (.getfield 23, 3) := by decide +kernel
theorem dX6_beginAnew_13 : decode cX6_beginAnew 13 = .ok (.iconst 0, 1) := by decide +kernel
theorem dX6_beginAnew_14 : decode cX6_beginAnew 14 = .ok (.putfield 42, 3) := by decide +kernel
theorem dX6_beginAnew_17 : decode cX6_beginAnew 17 = .ok (.aload_n 0, 1) := by decide +kernel
theorem dX6_beginAnew_18 : decode cX6_beginAnew 18 = .ok (.getfield 23, 3) := by decide +kernel
theorem dX6_beginAnew_21 : decode cX6_beginAnew 21 = .ok (.iconst 0, 1) := by decide +kernel
theorem dX6_beginAnew_22 : decode cX6_beginAnew 22 = .ok (.putfield 46, 3) := by decide +kernel
theorem dX6_beginAnew_25 : decode cX6_beginAnew 25 = .ok (.aload_n 0, 1) := by decide +kernel
theorem dX6_beginAnew_26 : decode cX6_beginAnew 26 = .ok (.getfield 30, 3) := by decide +kernel
theorem dX6_beginAnew_29 : decode cX6_beginAnew 29 = .ok (.iconst 0, 1) := by decide +kernel
theorem dX6_beginAnew_30 : decode cX6_beginAnew 30 = .ok (.putfield 49, 3) := by decide +kernel
theorem dX6_beginAnew_33 : decode cX6_beginAnew 33 = .ok (.aload_n 0, 1) := by decide +kernel
theorem dX6_beginAnew_34 : decode cX6_beginAnew 34 = .ok (.dup, 1) := by decide +kernel
theorem dX6_beginAnew_35 : decode cX6_beginAnew 35 = .ok (.getfield 34, 3) := by decide +kernel
theorem dX6_beginAnew_38 : decode cX6_beginAnew 38 = .ok (.iconst 1, 1) := by decide +kernel
theorem dX6_beginAnew_39 : decode cX6_beginAnew 39 = .ok (.iadd, 1) := by decide +kernel
theorem dX6_beginAnew_40 : decode cX6_beginAnew 40 = .ok (.putfield 34, 3) := by decide +kernel
theorem dX6_beginAnew_43 : decode cX6_beginAnew 43 = .ok (.return_, 1) := by decide +kernel
theorem dX6_store_0 : decode cX6_store 0 = .ok (.aload_n 0, 1) := by decide +kernel
theorem dX6_store_1 : decode cX6_store 1 = .ok (.invokevirtual 52, 3) := by decide +kernel
theorem dX6_store_4 : decode cX6_store 4 = .ok (.bipush 60, 2) := by decide +kernel
theorem dX6_store_6 : decode cX6_store 6 = .ok (.if_icmp .lt 24, 3) := by decide +kernel
theorem dX6_store_9 : decode cX6_store 9 = .ok (.aload_n 0, 1) := by decide +kernel
theorem dX6_store_10 : decode cX6_store 10 = .ok (.getfield 14, 3) := by decide +kernel
theorem dX6_store_13 : decode cX6_store 13 = .ok (.iload_n 1, 1) := by decide +kernel
theorem dX6_store_14 : decode cX6_store 14 = .ok (.invokevirtual 56, 3) := by decide +kernel
theorem dX6_store_17 : decode cX6_store 17 = .ok (.ifCond .ne 13, 3) := by decide +kernel
theorem dX6_store_20 : decode cX6_store 20 = .ok (.new 60, 3) := by decide +kernel
theorem dX6_store_23 : decode cX6_store 23 = .ok (.dup, 1) := by decide +kernel
theorem dX6_store_24 : decode cX6_store 24 = .ok (.ldc 62, 2) := by decide +kernel
theorem dX6_store_26 : decode cX6_store 26 = .ok (.invokespecial 64, 3) := by decide +kernel
theorem dX6_store_29 : decode cX6_store 29 = .ok (.athrow, 1) := by decide +kernel
theorem dX6_store_30 : decode cX6_store 30 = .ok (.aload_n 0, 1) := by decide +kernel
theorem dX6_store_31 : decode cX6_store 31 = .ok (.getfield 14, 3) := by decide +kernel
theorem dX6_store_34 : decode cX6_store 34 = .ok (.iload_n 1, 1) := by decide +kernel
theorem dX6_store_35 : decode cX6_store 35 = .ok (.iload_n 2, 1) := by decide +kernel
theorem dX6_store_36 : decode cX6_store 36 = .ok (.invokevirtual 67, 3) := by decide +kernel
theorem dX6_store_39 : decode cX6_store 39 = .ok (.istore_n 3, 1) := by decide +kernel
theorem dX6_store_40 : decode cX6_store 40 = .ok (.iload_n 3, 1) := by decide +kernel
theorem dX6_store_41 : decode cX6_store 41 = .ok (.ifCond .eq 13, 3) := by decide +kernel
theorem dX6_store_44 : decode cX6_store 44 = .ok (.aload_n 0, 1) := by decide +kernel
theorem dX6_store_45 : decode cX6_store 45 = .ok (.dup, 1) := by decide +kernel
theorem dX6_store_46 : decode cX6_store 46 = .ok (.getfield 34, 3) := by decide +kernel
theorem dX6_store_49 : decode cX6_store 49 = .ok (.iconst 1, 1) := by decide +kernel
theorem dX6_store_50 : decode cX6_store 50 = .ok (.iadd, 1) := by decide +kernel
theorem dX6_store_51 : decode cX6_store 51 = .ok (.putfield 34, 3) := by decide +kernel
theorem dX6_store_54 : decode cX6_store 54 = .ok (.iload_n 3, 1) := by decide +kernel
theorem dX6_store_55 : decode cX6_store 55 = .ok (.ireturn, 1) := by decide +kernel
theorem dX6_takeOut_0 : decode cX6_takeOut 0 = .ok (.aload_n 0, 1) := by decide +kernel
theorem dX6_takeOut_1 : decode cX6_takeOut 1 = .ok (.getfield 14, 3) := by decide +kernel
theorem dX6_takeOut_4 : decode cX6_takeOut 4 = .ok (.iload_n 1, 1) := by decide +kernel
theorem dX6_takeOut_5 : decode cX6_takeOut 5 = .ok (.invokevirtual 71, 3) := by decide +kernel
theorem dX6_takeOut_8 : decode cX6_takeOut 8 = .ok (.istore_n 2, 1) := by decide +kernel
theorem dX6_takeOut_9 : decode cX6_takeOut 9 = .ok (.iload_n 2, 1) := by decide +kernel
theorem dX6_takeOut_10 : decode cX6_takeOut 10 = .ok (.ifCond .eq 13, 3) := by decide +kernel
theorem dX6_takeOut_13 : decode cX6_takeOut 13 = .ok (.aload_n 0, 1) := by decide +kernel
theorem dX6_takeOut_14 : decode cX6_takeOut 14 = .ok (.dup, 1) := by decide +kernel
theorem dX6_takeOut_15 : decode cX6_takeOut 15 = .ok (.getfield 34, 3) := by decide +kernel
theorem dX6_takeOut_18 : decode cX6_takeOut 18 = .ok (.iconst 1, 1) := by decide +kernel
theorem dX6_takeOut_19 : decode cX6_takeOut 19 = .ok (.iadd, 1) := by decide +kernel
theorem dX6_takeOut_20 : decode cX6_takeOut 20 = .ok (.putfield 34, 3) := by decide +kernel
theorem dX6_takeOut_23 : decode cX6_takeOut 23 = .ok (.iload_n 2, 1) := by decide +kernel
theorem dX6_takeOut_24 : decode cX6_takeOut 24 = .ok (.ireturn, 1) := by decide +kernel
theorem dX6_valueOf_0 : decode cX6_valueOf 0 = .ok (.aload_n 0, 1) := by decide +kernel
theorem dX6_valueOf_1 : decode cX6_valueOf 1 = .ok (.getfield 14, 3) := by decide +kernel
theorem dX6_valueOf_4 : decode cX6_valueOf 4 = .ok (.iload_n 1, 1) := by decide +kernel
theorem dX6_valueOf_5 : decode cX6_valueOf 5 = .ok (.invokevirtual 56, 3) := by decide +kernel
theorem dX6_valueOf_8 : decode cX6_valueOf 8 = .ok (.istore_n 2, 1) := by decide +kernel
theorem dX6_valueOf_9 : decode cX6_valueOf 9 = .ok (.iload_n 2, 1) := by decide +kernel
theorem dX6_valueOf_10 : decode cX6_valueOf 10 = .ok (.ifCond .ne 13, 3) := by decide +kernel
theorem dX6_valueOf_13 : decode cX6_valueOf 13 = .ok (.new 60, 3) := by decide +kernel
theorem dX6_valueOf_16 : decode cX6_valueOf 16 = .ok (.dup, 1) := by decide +kernel
theorem dX6_valueOf_17 : decode cX6_valueOf 17 = .ok (.ldc 75, 2) := by decide +kernel
theorem dX6_valueOf_19 : decode cX6_valueOf 19 = .ok (.invokespecial 64, 3) := by decide +kernel
theorem dX6_valueOf_22 : decode cX6_valueOf 22 = .ok (.athrow, 1) := by decide +kernel
theorem dX6_valueOf_23 : decode cX6_valueOf 23 = .ok (.aload_n 0, 1) := by decide +kernel
theorem dX6_valueOf_24 : decode cX6_valueOf 24 = .ok (.getfield 14, 3) := by decide +kernel
theorem dX6_valueOf_27 : decode cX6_valueOf 27 = .ok (.getfield 77, 3) := by decide +kernel
theorem dX6_valueOf_30 : decode cX6_valueOf 30 = .ok (.iload_n 2, 1) := by decide +kernel
theorem dX6_valueOf_31 : decode cX6_valueOf 31 = .ok (.iaload, 1) := by decide +kernel
theorem dX6_valueOf_32 : decode cX6_valueOf 32 = .ok (.ireturn, 1) := by decide +kernel
theorem dX6_keyAt_0 : decode cX6_keyAt 0 = .ok (.aload_n 0, 1) := by decide +kernel
theorem dX6_keyAt_1 : decode cX6_keyAt 1 = .ok (.getfield 14, 3) := by decide +kernel
theorem dX6_keyAt_4 : decode cX6_keyAt 4 = .ok (.aload_n 0, 1) := by decide +kernel
theorem dX6_keyAt_5 : decode cX6_keyAt 5 = .ok (.getfield 14, 3) := by decide +kernel
theorem dX6_keyAt_8 : decode cX6_keyAt 8 = .ok (.getfield 81, 3) := by decide +kernel
theorem dX6_keyAt_11 : decode cX6_keyAt 11 = .ok (.iload_n 1, 1) := by decide +kernel
theorem dX6_keyAt_12 : decode cX6_keyAt 12 = .ok (.invokevirtual 84, 3) := by decide +kernel
theorem dX6_keyAt_15 : decode cX6_keyAt 15 = .ok (.istore_n 2, 1) := by decide +kernel
theorem dX6_keyAt_16 : decode cX6_keyAt 16 = .ok (.iload_n 2, 1) := by decide +kernel
theorem dX6_keyAt_17 : decode cX6_keyAt 17 = .ok (.ifCond .ne 13, 3) := by decide +kernel
theorem dX6_keyAt_20 : decode cX6_keyAt 20 = .ok (.new 60, 3) := by decide +kernel
theorem dX6_keyAt_23 : decode cX6_keyAt 23 = .ok (.dup, 1) := by decide +kernel
theorem dX6_keyAt_24 : decode cX6_keyAt 24 = .ok (.ldc 88, 2) := by decide +kernel
theorem dX6_keyAt_26 : decode cX6_keyAt 26 = .ok (.invokespecial 64, 3) := by decide +kernel
theorem dX6_keyAt_29 : decode cX6_keyAt 29 = .ok (.athrow, 1) := by decide +kernel
theorem dX6_keyAt_30 : decode cX6_keyAt 30 = .ok (.aload_n 0, 1) := by decide +kernel
theorem dX6_keyAt_31 : decode cX6_keyAt 31 = .ok (.getfield 14, 3) := by decide +kernel
theorem dX6_keyAt_34 : decode cX6_keyAt 34 = .ok (.getfield 90, 3) := by decide +kernel
theorem dX6_keyAt_37 : decode cX6_keyAt 37 = .ok (.iload_n 2, 1) := by decide +kernel
theorem dX6_keyAt_38 : decode cX6_keyAt 38 = .ok (.iaload, 1) := by decide +kernel
theorem dX6_keyAt_39 : decode cX6_keyAt 39 = .ok (.ireturn, 1) := by decide +kernel
theorem dX6_entryCount_0 : decode cX6_entryCount 0 = .ok (.aload_n 0, 1) := by decide +kernel
theorem dX6_entryCount_1 : decode cX6_entryCount 1 = .ok (.getfield 14, 3) := by decide +kernel
theorem dX6_entryCount_4 : decode cX6_entryCount 4 = .ok (.getfield 93, 3) := by decide +kernel
theorem dX6_entryCount_7 : decode cX6_entryCount 7 = .ok (.aload_n 0, 1) := by decide +kernel
theorem dX6_entryCount_8 : decode cX6_entryCount 8 = .ok (.getfield 14, 3) := by decide +kernel
theorem dX6_entryCount_11 : decode cX6_entryCount 11 = .ok (.getfield 81, 3) := by decide +kernel
theorem dX6_entryCount_14 : decode cX6_entryCount 14 = .ok (.iaload, 1) := by decide +kernel
theorem dX6_entryCount_15 : decode cX6_entryCount 15 = .ok (.ireturn, 1) := by decide +kernel
theorem dX6_countBefore_0 : decode cX6_countBefore 0 = .ok (.aload_n 0, 1) := by decide +kernel
theorem dX6_countBefore_1 : decode cX6_countBefore 1 = .ok (.getfield 14, 3) := by decide +kernel
theorem dX6_countBefore_4 : decode cX6_countBefore 4 = .ok (.iload_n 1, 1) := by decide +kernel
theorem dX6_countBefore_5 : decode cX6_countBefore 5 = .ok (.invokevirtual 96, 3) := by decide +kernel
theorem dX6_countBefore_8 : decode cX6_countBefore 8 = .ok (.ireturn, 1) := by decide +kernel
theorem dX6_countUpTo_0 : decode cX6_countUpTo 0 = .ok (.aload_n 0, 1) := by decide +kernel
theorem dX6_countUpTo_1 : decode cX6_countUpTo 1 = .ok (.getfield 14, 3) := by decide +kernel
theorem dX6_countUpTo_4 : decode cX6_countUpTo 4 = .ok (.iload_n 1, 1) := by decide +kernel
theorem dX6_countUpTo_5 : decode cX6_countUpTo 5 = .ok (.invokevirtual 96, 3) := by decide +kernel
theorem dX6_countUpTo_8 : decode cX6_countUpTo 8 = .ok (.aload_n 0, 1) := by decide +kernel
theorem dX6_countUpTo_9 : decode cX6_countUpTo 9 = .ok (.getfield 14, 3) := by decide +kernel
theorem dX6_countUpTo_12 : decode cX6_countUpTo 12 = .ok (.iload_n 1, 1) := by decide +kernel
theorem dX6_countUpTo_13 : decode cX6_countUpTo 13 = .ok (.invokevirtual 56, 3) := by decide +kernel
theorem dX6_countUpTo_16 : decode cX6_countUpTo 16 = .ok (.ifCond .ne 7, 3) := by decide +kernel
theorem dX6_countUpTo_19 : decode cX6_countUpTo 19 = .ok (.iconst 0, 1) := by decide +kernel
theorem dX6_countUpTo_20 : decode cX6_countUpTo 20 = .ok (.goto 4, 3) := by decide +kernel
theorem dX6_countUpTo_23 : decode cX6_countUpTo 23 = .ok (.iconst 1, 1) := by decide +kernel
theorem dX6_countUpTo_24 : decode cX6_countUpTo 24 = .ok (.iadd, 1) := by decide +kernel
theorem dX6_countUpTo_25 : decode cX6_countUpTo 25 = .ok (.ireturn, 1) := by decide +kernel
theorem dX6_totalBefore_0 : decode cX6_totalBefore 0 = .ok (.aload_n 0, 1) := by decide +kernel
theorem dX6_totalBefore_1 : decode cX6_totalBefore 1 = .ok (.getfield 14, 3) := by decide +kernel
theorem dX6_totalBefore_4 : decode cX6_totalBefore 4 = .ok (.iload_n 1, 1) := by decide +kernel
theorem dX6_totalBefore_5 : decode cX6_totalBefore 5 = .ok (.invokevirtual 99, 3) := by decide +kernel
theorem dX6_totalBefore_8 : decode cX6_totalBefore 8 = .ok (.lreturn, 1) := by decide +kernel
theorem dX6_putsBefore_0 : decode cX6_putsBefore 0 = .ok (.aload_n 0, 1) := by decide +kernel
theorem dX6_putsBefore_1 : decode cX6_putsBefore 1 = .ok (.getfield 14, 3) := by decide +kernel
theorem dX6_putsBefore_4 : decode cX6_putsBefore 4 = .ok (.getfield 103, 3) := by decide +kernel
theorem dX6_putsBefore_7 : decode cX6_putsBefore 7 = .ok (.iload_n 1, 1) := by decide +kernel
theorem dX6_putsBefore_8 : decode cX6_putsBefore 8 = .ok (.iload_n 2, 1) := by decide +kernel
theorem dX6_putsBefore_9 : decode cX6_putsBefore 9 = .ok (.invokestatic 106, 3) := by decide +kernel
theorem dX6_putsBefore_12 : decode cX6_putsBefore 12 = .ok (.ireturn, 1) := by decide +kernel
theorem dX6_hasOrderOf_0 : decode cX6_hasOrderOf 0 = .ok (.aload_n 0, 1) := by decide +kernel
theorem dX6_hasOrderOf_1 : decode cX6_hasOrderOf 1 = .ok (.getfield 14, 3) := by decide +kernel
theorem dX6_hasOrderOf_4 : decode cX6_hasOrderOf 4 = .ok (.getfield 103, 3) := by decide +kernel
theorem dX6_hasOrderOf_7 : decode cX6_hasOrderOf 7 = .ok (.aload_n 1, 1) := by decide +kernel
theorem dX6_hasOrderOf_8 : decode cX6_hasOrderOf 8 = .ok (.getfield 14, 3) := by decide +kernel
theorem dX6_hasOrderOf_11 : decode cX6_hasOrderOf 11 = .ok (.getfield 103, 3) := by decide +kernel
theorem dX6_hasOrderOf_14 : decode cX6_hasOrderOf 14 = .ok (.if_icmp .ne 7, 3) := by decide +kernel
theorem dX6_hasOrderOf_17 : decode cX6_hasOrderOf 17 = .ok (.iconst 1, 1) := by decide +kernel
theorem dX6_hasOrderOf_18 : decode cX6_hasOrderOf 18 = .ok (.goto 4, 3) := by decide +kernel
theorem dX6_hasOrderOf_21 : decode cX6_hasOrderOf 21 = .ok (.iconst 0, 1) := by decide +kernel
theorem dX6_hasOrderOf_22 : decode cX6_hasOrderOf 22 = .ok (.ireturn, 1) := by decide +kernel
theorem dX6_narrow_0 : decode cX6_narrow 0 = .ok (.aload_n 0, 1) := by decide +kernel
theorem dX6_narrow_1 : decode cX6_narrow 1 = .ok (.getfield 23, 3) := by decide +kernel
theorem dX6_narrow_4 : decode cX6_narrow 4 = .ok (.iload_n 1, 1) := by decide +kernel
theorem dX6_narrow_5 : decode cX6_narrow 5 = .ok (.iconst 1, 1) := by decide +kernel
theorem dX6_narrow_6 : decode cX6_narrow 6 = .ok (.iand, 1) := by decide +kernel
theorem dX6_narrow_7 : decode cX6_narrow 7 = .ok (.ifCond .eq 7, 3) := by decide +kernel
theorem dX6_narrow_10 : decode cX6_narrow 10 = .ok (.iconst 1, 1) := by decide +kernel
theorem dX6_narrow_11 : decode cX6_narrow 11 = .ok (.goto 4, 3) := by decide +kernel
theorem dX6_narrow_14 : decode cX6_narrow 14 = .ok (.iconst 0, 1) := by decide +kernel
theorem dX6_narrow_15 : decode cX6_narrow 15 = .ok (.putfield 42, 3) := by decide +kernel
theorem dX6_narrow_18 : decode cX6_narrow 18 = .ok (.aload_n 0, 1) := by decide +kernel
theorem dX6_narrow_19 : decode cX6_narrow 19 = .ok (.getfield 23, 3) := by decide +kernel
theorem dX6_narrow_22 : decode cX6_narrow 22 = .ok (.iload_n 1, 1) := by decide +kernel
theorem dX6_narrow_23 : decode cX6_narrow 23 = .ok (.iconst 2, 1) := by decide +kernel
theorem dX6_narrow_24 : decode cX6_narrow 24 = .ok (.iand, 1) := by decide +kernel
theorem dX6_narrow_25 : decode cX6_narrow 25 = .ok (.ifCond .eq 7, 3) := by decide +kernel
theorem dX6_narrow_28 : decode cX6_narrow 28 = .ok (.iconst 1, 1) := by decide +kernel
theorem dX6_narrow_29 : decode cX6_narrow 29 = .ok (.goto 4, 3) := by decide +kernel
theorem dX6_narrow_32 : decode cX6_narrow 32 = .ok (.iconst 0, 1) := by decide +kernel
theorem dX6_narrow_33 : decode cX6_narrow 33 = .ok (.putfield 46, 3) := by decide +kernel
theorem dX6_narrow_36 : decode cX6_narrow 36 = .ok (.aload_n 0, 1) := by decide +kernel
theorem dX6_narrow_37 : decode cX6_narrow 37 = .ok (.getfield 23, 3) := by decide +kernel
theorem dX6_narrow_40 : decode cX6_narrow 40 = .ok (.iload_n 2, 1) := by decide +kernel
theorem dX6_narrow_41 : decode cX6_narrow 41 = .ok (.putfield 110, 3) := by decide +kernel
theorem dX6_narrow_44 : decode cX6_narrow 44 = .ok (.aload_n 0, 1) := by decide +kernel
theorem dX6_narrow_45 : decode cX6_narrow 45 = .ok (.getfield 23, 3) := by decide +kernel
theorem dX6_narrow_48 : decode cX6_narrow 48 = .ok (.iload_n 3, 1) := by decide +kernel
theorem dX6_narrow_49 : decode cX6_narrow 49 = .ok (.putfield 113, 3) := by decide +kernel
theorem dX6_narrow_52 : decode cX6_narrow 52 = .ok (.return_, 1) := by decide +kernel
theorem dX6_isInRange_0 : decode cX6_isInRange 0 = .ok (.aload_n 0, 1) := by decide +kernel
theorem dX6_isInRange_1 : decode cX6_isInRange 1 = .ok (.getfield 23, 3) := by decide +kernel
theorem dX6_isInRange_4 : decode cX6_isInRange 4 = .ok (.aload_n 0, 1) := by decide +kernel
theorem dX6_isInRange_5 : decode cX6_isInRange 5 = .ok (.getfield 14, 3) := by decide +kernel
theorem dX6_isInRange_8 : decode cX6_isInRange 8 = .ok (.getfield 103, 3) := by decide +kernel
theorem dX6_isInRange_11 : decode cX6_isInRange 11 = .ok (.iload_n 1, 1) := by decide +kernel
theorem dX6_isInRange_12 : decode cX6_isInRange 12 = .ok (.invokevirtual 116, 3) := by decide +kernel
theorem dX6_isInRange_15 : decode cX6_isInRange 15 = .ok (.ireturn, 1) := by decide +kernel
theorem dX6_countInRange_0 : decode cX6_countInRange 0 = .ok (.aload_n 0, 1) := by decide +kernel
theorem dX6_countInRange_1 : decode cX6_countInRange 1 = .ok (.getfield 23, 3) := by decide +kernel
theorem dX6_countInRange_4 : decode cX6_countInRange 4 = .ok (.aload_n 0, 1) := by decide +kernel
theorem dX6_countInRange_5 : decode cX6_countInRange 5 = .ok (.getfield 14, 3) := by decide +kernel
theorem dX6_countInRange_8 : decode cX6_countInRange 8 = .ok (.invokevirtual 119, 3) := by decide +kernel
theorem dX6_countInRange_11 : decode cX6_countInRange 11 = .ok (.aload_n 0, 1) := by decide +kernel
theorem dX6_countInRange_12 : decode cX6_countInRange 12 = .ok (.getfield 23, 3) := by decide +kernel
theorem dX6_countInRange_15 : decode cX6_countInRange 15 = .ok (.aload_n 0, 1) := by decide +kernel
theorem dX6_countInRange_16 : decode cX6_countInRange 16 = .ok (.getfield 14, 3) := by decide +kernel
theorem dX6_countInRange_19 : decode cX6_countInRange 19 = .ok (.invokevirtual 123, 3) := by decide +kernel
theorem dX6_countInRange_22 : decode cX6_countInRange 22 = .ok (.isub, 1) := by decide +kernel
theorem dX6_countInRange_23 : decode cX6_countInRange 23 = .ok (.ireturn, 1) := by decide +kernel
theorem dX6_endOfRange_0 : decode cX6_endOfRange 0 = .ok (.aload_n 0, 1) := by decide +kernel
theorem dX6_endOfRange_1 : decode cX6_endOfRange 1 = .ok (.getfield 23, 3) := by decide +kernel
theorem dX6_endOfRange_4 : decode cX6_endOfRange 4 = .ok (.aload_n 0, 1) := by decide +kernel
theorem dX6_endOfRange_5 : decode cX6_endOfRange 5 = .ok (.getfield 14, 3) := by decide +kernel
theorem dX6_endOfRange_8 : decode cX6_endOfRange 8 = .ok (.invokevirtual 123, 3) := by decide +kernel
theorem dX6_endOfRange_11 : decode cX6_endOfRange 11 = .ok (.istore_n 2, 1) := by decide +kernel
theorem dX6_endOfRange_12 : decode cX6_endOfRange 12 = .ok (.aload_n 0, 1) := by decide +kernel
theorem dX6_endOfRange_13 : decode cX6_endOfRange 13 = .ok (.getfield 23, 3) := by decide +kernel
theorem dX6_endOfRange_16 : decode cX6_endOfRange 16 = .ok (.aload_n 0, 1) := by decide +kernel
theorem dX6_endOfRange_17 : decode cX6_endOfRange 17 = .ok (.getfield 14, 3) := by decide +kernel
theorem dX6_endOfRange_20 : decode cX6_endOfRange 20 = .ok (.invokevirtual 119, 3) := by decide +kernel
theorem dX6_endOfRange_23 : decode cX6_endOfRange 23 = .ok (.istore_n 3, 1) := by decide +kernel
theorem dX6_endOfRange_24 : decode cX6_endOfRange 24 = .ok (.iload_n 2, 1) := by decide +kernel
theorem dX6_endOfRange_25 : decode cX6_endOfRange 25 = .ok (.iload_n 3, 1) := by decide +kernel
theorem dX6_endOfRange_26 : decode cX6_endOfRange 26 = .ok (.if_icmp .lt 5, 3) := by decide +kernel
theorem dX6_endOfRange_29 : decode cX6_endOfRange 29 = .ok (.iconst (-1), 1) := by decide +kernel
theorem dX6_endOfRange_30 : decode cX6_endOfRange 30 = .ok (.ireturn, 1) := by decide +kernel
theorem dX6_endOfRange_31 : decode cX6_endOfRange 31 = .ok (.iload_n 1, 1) := by decide +kernel
theorem dX6_endOfRange_32 : decode cX6_endOfRange 32 = .ok (.ifCond .eq 9, 3) := by decide +kernel
theorem dX6_endOfRange_35 : decode cX6_endOfRange 35 = .ok (.iload_n 3, 1) := by decide +kernel
theorem dX6_endOfRange_36 : decode cX6_endOfRange 36 = .ok (.iconst 1, 1) := by decide +kernel
theorem dX6_endOfRange_37 : decode cX6_endOfRange 37 = .ok (.isub, 1) := by decide +kernel
theorem dX6_endOfRange_38 : decode cX6_endOfRange 38 = .ok (.goto 4, 3) := by decide +kernel
theorem dX6_endOfRange_41 : decode cX6_endOfRange 41 = .ok (.iload_n 2, 1) := by decide +kernel
theorem dX6_endOfRange_42 : decode cX6_endOfRange 42 = .ok (.ireturn, 1) := by decide +kernel
theorem dX6_startWalk_0 : decode cX6_startWalk 0 = .ok (.aload_n 0, 1) := by decide +kernel
theorem dX6_startWalk_1 : decode cX6_startWalk 1 = .ok (.getfield 30, 3) := by decide +kernel
theorem dX6_startWalk_4 : decode cX6_startWalk 4 = .ok (.aload_n 0, 1) := by decide +kernel
theorem dX6_startWalk_5 : decode cX6_startWalk 5 = .ok (.getfield 23, 3) := by decide +kernel
theorem dX6_startWalk_8 : decode cX6_startWalk 8 = .ok (.aload_n 0, 1) := by decide +kernel
theorem dX6_startWalk_9 : decode cX6_startWalk 9 = .ok (.getfield 14, 3) := by decide +kernel
theorem dX6_startWalk_12 : decode cX6_startWalk 12 = .ok (.invokevirtual 123, 3) := by decide +kernel
theorem dX6_startWalk_15 : decode cX6_startWalk 15 = .ok (.aload_n 0, 1) := by decide +kernel
theorem dX6_startWalk_16 : decode cX6_startWalk 16 = .ok (.getfield 23, 3) := by decide +kernel
theorem dX6_startWalk_19 : decode cX6_startWalk 19 = .ok (.aload_n 0, 1) := by decide +kernel
theorem dX6_startWalk_20 : decode cX6_startWalk 20 = .ok (.getfield 14, 3) := by decide +kernel
theorem dX6_startWalk_23 : decode cX6_startWalk 23 = .ok (.invokevirtual 119, 3) := by decide +kernel
theorem dX6_startWalk_26 : decode cX6_startWalk 26 = .ok (.iload_n 1, 1) := by decide +kernel
theorem dX6_startWalk_27 : decode cX6_startWalk 27 = .ok (.invokevirtual 126, 3) := by decide +kernel
theorem dX6_startWalk_30 : decode cX6_startWalk 30 = .ok (.aload_n 0, 1) := by decide +kernel
theorem dX6_startWalk_31 : decode cX6_startWalk 31 = .ok (.getfield 30, 3) := by decide +kernel
theorem dX6_startWalk_34 : decode cX6_startWalk 34 = .ok (.aload_n 0, 1) := by decide +kernel
theorem dX6_startWalk_35 : decode cX6_startWalk 35 = .ok (.getfield 34, 3) := by decide +kernel
theorem dX6_startWalk_38 : decode cX6_startWalk 38 = .ok (.putfield 130, 3) := by decide +kernel
theorem dX6_startWalk_41 : decode cX6_startWalk 41 = .ok (.return_, 1) := by decide +kernel
theorem dX6_canWalk_0 : decode cX6_canWalk 0 = .ok (.aload_n 0, 1) := by decide +kernel
theorem dX6_canWalk_1 : decode cX6_canWalk 1 = .ok (.getfield 30, 3) := by decide +kernel
theorem dX6_canWalk_4 : decode cX6_canWalk 4 = .ok (.getfield 49, 3) := by decide +kernel
theorem dX6_canWalk_7 : decode cX6_canWalk 7 = .ok (.ifCond .eq 21, 3) := by decide +kernel
theorem dX6_canWalk_10 : decode cX6_canWalk 10 = .ok (.aload_n 0, 1) := by decide +kernel
theorem dX6_canWalk_11 : decode cX6_canWalk 11 = .ok (.getfield 30, 3) := by decide +kernel
theorem dX6_canWalk_14 : decode cX6_canWalk 14 = .ok (.getfield 130, 3) := by decide +kernel
theorem dX6_canWalk_17 : decode cX6_canWalk 17 = .ok (.aload_n 0, 1) := by decide +kernel
theorem dX6_canWalk_18 : decode cX6_canWalk 18 = .ok (.getfield 34, 3) := by decide +kernel
theorem dX6_canWalk_21 : decode cX6_canWalk 21 = .ok (.if_icmp .ne 7, 3) := by decide +kernel
theorem dX6_canWalk_24 : decode cX6_canWalk 24 = .ok (.iconst 1, 1) := by decide +kernel
theorem dX6_canWalk_25 : decode cX6_canWalk 25 = .ok (.goto 4, 3) := by decide +kernel
theorem dX6_canWalk_28 : decode cX6_canWalk 28 = .ok (.iconst 0, 1) := by decide +kernel
theorem dX6_canWalk_29 : decode cX6_canWalk 29 = .ok (.ireturn, 1) := by decide +kernel
theorem dX6_walkOn_0 : decode cX6_walkOn 0 = .ok (.aload_n 0, 1) := by decide +kernel
theorem dX6_walkOn_1 : decode cX6_walkOn 1 = .ok (.aload_n 0, 1) := by decide +kernel
theorem dX6_walkOn_2 : decode cX6_walkOn 2 = .ok (.getfield 30, 3) := by decide +kernel
theorem dX6_walkOn_5 : decode cX6_walkOn 5 = .ok (.invokevirtual 133, 3) := by decide +kernel
theorem dX6_walkOn_8 : decode cX6_walkOn 8 = .ok (.invokevirtual 136, 3) := by decide +kernel
theorem dX6_walkOn_11 : decode cX6_walkOn 11 = .ok (.istore_n 1, 1) := by decide +kernel
theorem dX6_walkOn_12 : decode cX6_walkOn 12 = .ok (.aload_n 0, 1) := by decide +kernel
theorem dX6_walkOn_13 : decode cX6_walkOn 13 = .ok (.getfield 30, 3) := by decide +kernel
theorem dX6_walkOn_16 : decode cX6_walkOn 16 = .ok (.invokevirtual 139, 3) := by decide +kernel
theorem dX6_walkOn_19 : decode cX6_walkOn 19 = .ok (.iload_n 1, 1) := by decide +kernel
theorem dX6_walkOn_20 : decode cX6_walkOn 20 = .ok (.ireturn, 1) := by decide +kernel
theorem dX6_canDrop_0 : decode cX6_canDrop 0 = .ok (.aload_n 0, 1) := by decide +kernel
theorem dX6_canDrop_1 : decode cX6_canDrop 1 = .ok (.invokevirtual 142, 3) := by decide +kernel
theorem dX6_canDrop_4 : decode cX6_canDrop 4 = .ok (.ifCond .eq 17, 3) := by decide +kernel
theorem dX6_canDrop_7 : decode cX6_canDrop 7 = .ok (.aload_n 0, 1) := by decide +kernel
theorem dX6_canDrop_8 : decode cX6_canDrop 8 = .ok (.getfield 30, 3) := by decide +kernel
theorem dX6_canDrop_11 : decode cX6_canDrop 11 = .ok (.getfield 146, 3) := by decide +kernel
theorem dX6_canDrop_14 : decode cX6_canDrop 14 = .ok (.ifCond .eq 7, 3) := by decide +kernel
theorem dX6_canDrop_17 : decode cX6_canDrop 17 = .ok (.iconst 1, 1) := by decide +kernel
theorem dX6_canDrop_18 : decode cX6_canDrop 18 = .ok (.goto 4, 3) := by decide +kernel
theorem dX6_canDrop_21 : decode cX6_canDrop 21 = .ok (.iconst 0, 1) := by decide +kernel
theorem dX6_canDrop_22 : decode cX6_canDrop 22 = .ok (.ireturn, 1) := by decide +kernel
theorem dX6_dropLatest_0 : decode cX6_dropLatest 0 = .ok (.aload_n 0, 1) := by decide +kernel
theorem dX6_dropLatest_1 : decode cX6_dropLatest 1 = .ok (.getfield 14, 3) := by decide +kernel
theorem dX6_dropLatest_4 : decode cX6_dropLatest 4 = .ok (.aload_n 0, 1) := by decide +kernel
theorem dX6_dropLatest_5 : decode cX6_dropLatest 5 = .ok (.aload_n 0, 1) := by decide +kernel
theorem dX6_dropLatest_6 : decode cX6_dropLatest 6 = .ok (.getfield 30, 3) := by decide +kernel
theorem dX6_dropLatest_9 : decode cX6_dropLatest 9 = .ok (.invokevirtual 149, 3) := by decide +kernel
theorem dX6_dropLatest_12 : decode cX6_dropLatest 12 = .ok (.invokevirtual 136, 3) := by decide +kernel
theorem dX6_dropLatest_15 : decode cX6_dropLatest 15 = .ok (.invokevirtual 71, 3) := by decide +kernel
theorem dX6_dropLatest_18 : decode cX6_dropLatest 18 = .ok (.pop, 1) := by decide +kernel
theorem dX6_dropLatest_19 : decode cX6_dropLatest 19 = .ok (.aload_n 0, 1) := by decide +kernel
theorem dX6_dropLatest_20 : decode cX6_dropLatest 20 = .ok (.dup, 1) := by decide +kernel
theorem dX6_dropLatest_21 : decode cX6_dropLatest 21 = .ok (.getfield 34, 3) := by decide +kernel
theorem dX6_dropLatest_24 : decode cX6_dropLatest 24 = .ok (.iconst 1, 1) := by decide +kernel
theorem dX6_dropLatest_25 : decode cX6_dropLatest 25 = .ok (.iadd, 1) := by decide +kernel
theorem dX6_dropLatest_26 : decode cX6_dropLatest 26 = .ok (.putfield 34, 3) := by decide +kernel
theorem dX6_dropLatest_29 : decode cX6_dropLatest 29 = .ok (.aload_n 0, 1) := by decide +kernel
theorem dX6_dropLatest_30 : decode cX6_dropLatest 30 = .ok (.getfield 30, 3) := by decide +kernel
theorem dX6_dropLatest_33 : decode cX6_dropLatest 33 = .ok (.invokevirtual 152, 3) := by decide +kernel
theorem dX6_dropLatest_36 : decode cX6_dropLatest 36 = .ok (.aload_n 0, 1) := by decide +kernel
theorem dX6_dropLatest_37 : decode cX6_dropLatest 37 = .ok (.getfield 30, 3) := by decide +kernel
theorem dX6_dropLatest_40 : decode cX6_dropLatest 40 = .ok (.aload_n 0, 1) := by decide +kernel
theorem dX6_dropLatest_41 : decode cX6_dropLatest 41 = .ok (.getfield 34, 3) := by decide +kernel
theorem dX6_dropLatest_44 : decode cX6_dropLatest 44 = .ok (.putfield 130, 3) := by decide +kernel
theorem dX6_dropLatest_47 : decode cX6_dropLatest 47 = .ok (.return_, 1) := by decide +kernel
theorem dX6_unite_0 : decode cX6_unite 0 = .ok (.aload_n 0, 1) := by decide +kernel
theorem dX6_unite_1 : decode cX6_unite 1 = .ok (.aload_n 1, 1) := by decide +kernel
theorem dX6_unite_2 : decode cX6_unite 2 = .ok (.invokevirtual 155, 3) := by decide +kernel
theorem dX6_unite_5 : decode cX6_unite 5 = .ok (.istore_n 2, 1) := by decide +kernel
theorem dX6_unite_6 : decode cX6_unite 6 = .ok (.aload_n 0, 1) := by decide +kernel
theorem dX6_unite_7 : decode cX6_unite 7 = .ok (.invokevirtual 52, 3) := by decide +kernel
theorem dX6_unite_10 : decode cX6_unite 10 = .ok (.iload_n 2, 1) := by decide +kernel
theorem dX6_unite_11 : decode cX6_unite 11 = .ok (.iadd, 1) := by decide +kernel
theorem dX6_unite_12 : decode cX6_unite 12 = .ok (.bipush 60, 2) := by decide +kernel
theorem dX6_unite_14 : decode cX6_unite 14 = .ok (.if_icmp .le 13, 3) := by decide +kernel
theorem dX6_unite_17 : decode cX6_unite 17 = .ok (.new 60, 3) := by decide +kernel
theorem dX6_unite_20 : decode cX6_unite 20 = .ok (.dup, 1) := by decide +kernel
theorem dX6_unite_21 : decode cX6_unite 21 = .ok (.ldc 159, 2) := by decide +kernel
theorem dX6_unite_23 : decode cX6_unite 23 = .ok (.invokespecial 64, 3) := by decide +kernel
theorem dX6_unite_26 : decode cX6_unite 26 = .ok (.athrow, 1) := by decide +kernel
theorem dX6_unite_27 : decode cX6_unite 27 = .ok (.aload_n 1, 1) := by decide +kernel
theorem dX6_unite_28 : decode cX6_unite 28 = .ok (.invokevirtual 52, 3) := by decide +kernel
theorem dX6_unite_31 : decode cX6_unite 31 = .ok (.istore_n 3, 1) := by decide +kernel
theorem dX6_unite_32 : decode cX6_unite 32 = .ok (.iconst 0, 1) := by decide +kernel
theorem dX6_unite_33 : decode cX6_unite 33 = .ok (.istore 4, 2) := by decide +kernel
theorem dX6_unite_35 : decode cX6_unite 35 = .ok (.iload 4, 2) := by decide +kernel
theorem dX6_unite_37 : decode cX6_unite 37 = .ok (.iload_n 3, 1) := by decide +kernel
theorem dX6_unite_38 : decode cX6_unite 38 = .ok (.if_icmp .ge 97, 3) := by decide +kernel
theorem dX6_unite_41 : decode cX6_unite 41 = .ok (.aload_n 1, 1) := by decide +kernel
theorem dX6_unite_42 : decode cX6_unite 42 = .ok (.getfield 14, 3) := by decide +kernel
theorem dX6_unite_45 : decode cX6_unite 45 = .ok (.aload_n 1, 1) := by decide +kernel
theorem dX6_unite_46 : decode cX6_unite 46 = .ok (.getfield 14, 3) := by decide +kernel
theorem dX6_unite_49 : decode cX6_unite 49 = .ok (.getfield 81, 3) := by decide +kernel
theorem dX6_unite_52 : decode cX6_unite 52 = .ok (.iload 4, 2) := by decide +kernel
theorem dX6_unite_54 : decode cX6_unite 54 = .ok (.invokevirtual 84, 3) := by decide +kernel
theorem dX6_unite_57 : decode cX6_unite 57 = .ok (.istore 5, 2) := by decide +kernel
theorem dX6_unite_59 : decode cX6_unite 59 = .ok (.aload_n 1, 1) := by decide +kernel
theorem dX6_unite_60 : decode cX6_unite 60 = .ok (.getfield 14, 3) := by decide +kernel
theorem dX6_unite_63 : decode cX6_unite 63 = .ok (.getfield 90, 3) := by decide +kernel
theorem dX6_unite_66 : decode cX6_unite 66 = .ok (.iload 5, 2) := by decide +kernel
theorem dX6_unite_68 : decode cX6_unite 68 = .ok (.iaload, 1) := by decide +kernel
theorem dX6_unite_69 : decode cX6_unite 69 = .ok (.istore 6, 2) := by decide +kernel
theorem dX6_unite_71 : decode cX6_unite 71 = .ok (.aload_n 1, 1) := by decide +kernel
theorem dX6_unite_72 : decode cX6_unite 72 = .ok (.getfield 14, 3) := by decide +kernel
theorem dX6_unite_75 : decode cX6_unite 75 = .ok (.getfield 77, 3) := by decide +kernel
theorem dX6_unite_78 : decode cX6_unite 78 = .ok (.iload 5, 2) := by decide +kernel
theorem dX6_unite_80 : decode cX6_unite 80 = .ok (.iaload, 1) := by decide +kernel
theorem dX6_unite_81 : decode cX6_unite 81 = .ok (.istore 7, 2) := by decide +kernel
theorem dX6_unite_83 : decode cX6_unite 83 = .ok (.aload_n 0, 1) := by decide +kernel
theorem dX6_unite_84 : decode cX6_unite 84 = .ok (.getfield 14, 3) := by decide +kernel
theorem dX6_unite_87 : decode cX6_unite 87 = .ok (.iload 6, 2) := by decide +kernel
theorem dX6_unite_89 : decode cX6_unite 89 = .ok (.invokevirtual 56, 3) := by decide +kernel
theorem dX6_unite_92 : decode cX6_unite 92 = .ok (.istore 8, 2) := by decide +kernel
theorem dX6_unite_94 : decode cX6_unite 94 = .ok (.aload_n 0, 1) := by decide +kernel
theorem dX6_unite_95 : decode cX6_unite 95 = .ok (.getfield 14, 3) := by decide +kernel
theorem dX6_unite_98 : decode cX6_unite 98 = .ok (.iload 6, 2) := by decide +kernel
theorem dX6_unite_100 : decode cX6_unite 100 = .ok (.iload 8, 2) := by decide +kernel
theorem dX6_unite_102 : decode cX6_unite 102 = .ok (.ifCond .ne 8, 3) := by decide +kernel
theorem dX6_unite_105 : decode cX6_unite 105 = .ok (.iload 7, 2) := by decide +kernel
theorem dX6_unite_107 : decode cX6_unite 107 = .ok (.goto 18, 3) := by decide +kernel
theorem dX6_unite_110 : decode cX6_unite 110 = .ok (.iconst 2, 1) := by decide +kernel
theorem dX6_unite_111 : decode cX6_unite 111 = .ok (.aload_n 0, 1) := by decide +kernel
theorem dX6_unite_112 : decode cX6_unite 112 = .ok (.getfield 14, 3) := by decide +kernel
theorem dX6_unite_115 : decode cX6_unite 115 = .ok (.getfield 77, 3) := by decide +kernel
theorem dX6_unite_118 : decode cX6_unite 118 = .ok (.iload 8, 2) := by decide +kernel
theorem dX6_unite_120 : decode cX6_unite 120 = .ok (.iaload, 1) := by decide +kernel
theorem dX6_unite_121 : decode cX6_unite 121 = .ok (.imul, 1) := by decide +kernel
theorem dX6_unite_122 : decode cX6_unite 122 = .ok (.iload 7, 2) := by decide +kernel
theorem dX6_unite_124 : decode cX6_unite 124 = .ok (.iadd, 1) := by decide +kernel
theorem dX6_unite_125 : decode cX6_unite 125 = .ok (.invokevirtual 67, 3) := by decide +kernel
theorem dX6_unite_128 : decode cX6_unite 128 = .ok (.pop, 1) := by decide +kernel
theorem dX6_unite_129 : decode cX6_unite 129 = .ok (.iinc 4 1, 3) := by decide +kernel
theorem dX6_unite_132 : decode cX6_unite 132 = .ok (.goto (-97), 3) := by decide +kernel
theorem dX6_unite_135 : decode cX6_unite 135 = .ok (.aload_n 0, 1) := by decide +kernel
theorem dX6_unite_136 : decode cX6_unite 136 = .ok (.dup, 1) := by decide +kernel
theorem dX6_unite_137 : decode cX6_unite 137 = .ok (.getfield 34, 3) := by decide +kernel
theorem dX6_unite_140 : decode cX6_unite 140 = .ok (.iload_n 2, 1) := by decide +kernel
theorem dX6_unite_141 : decode cX6_unite 141 = .ok (.iadd, 1) := by decide +kernel
theorem dX6_unite_142 : decode cX6_unite 142 = .ok (.putfield 34, 3) := by decide +kernel
theorem dX6_unite_145 : decode cX6_unite 145 = .ok (.iload_n 2, 1) := by decide +kernel
theorem dX6_unite_146 : decode cX6_unite 146 = .ok (.ireturn, 1) := by decide +kernel
theorem dX6_countMissing_0 : decode cX6_countMissing 0 = .ok (.iconst 0, 1) := by decide +kernel
theorem dX6_countMissing_1 : decode cX6_countMissing 1 = .ok (.istore_n 2, 1) := by decide +kernel
theorem dX6_countMissing_2 : decode cX6_countMissing 2 = .ok (.aload_n 1, 1) := by decide +kernel
theorem dX6_countMissing_3 : decode cX6_countMissing 3 = .ok (.invokevirtual 52, 3) := by decide +kernel
theorem dX6_countMissing_6 : decode cX6_countMissing 6 = .ok (.istore_n 3, 1) := by decide +kernel
theorem dX6_countMissing_7 : decode cX6_countMissing 7 = .ok (.iconst 0, 1) := by decide +kernel
theorem dX6_countMissing_8 : decode cX6_countMissing 8 = .ok (.istore 4, 2) := by decide +kernel
theorem dX6_countMissing_10 : decode cX6_countMissing 10 = .ok (.iload 4, 2) := by decide +kernel
theorem dX6_countMissing_12 : decode cX6_countMissing 12 = .ok (.iload_n 3, 1) := by decide +kernel
theorem dX6_countMissing_13 : decode cX6_countMissing 13 = .ok (.if_icmp .ge 50, 3) := by decide +kernel
theorem dX6_countMissing_16 : decode cX6_countMissing 16 = .ok (.aload_n 1, 1) := by decide +kernel
theorem dX6_countMissing_17 : decode cX6_countMissing 17 = .ok (.getfield 14, 3) := by decide +kernel
theorem dX6_countMissing_20 : decode cX6_countMissing 20 = .ok (.aload_n 1, 1) := by decide +kernel
theorem dX6_countMissing_21 : decode cX6_countMissing 21 = .ok (.getfield 14, 3) := by decide +kernel
theorem dX6_countMissing_24 : decode cX6_countMissing 24 = .ok (.getfield 81, 3) := by decide +kernel
theorem dX6_countMissing_27 : decode cX6_countMissing 27 = .ok (.iload 4, 2) := by decide +kernel
theorem dX6_countMissing_29 : decode cX6_countMissing 29 = .ok (.invokevirtual 84, 3) := by decide +kernel
theorem dX6_countMissing_32 : decode cX6_countMissing 32 = .ok (.istore 5, 2) := by decide +kernel
theorem dX6_countMissing_34 : decode cX6_countMissing 34 = .ok (.aload_n 0, 1) := by decide +kernel
theorem dX6_countMissing_35 : decode cX6_countMissing 35 = .ok (.getfield 14, 3) := by decide +kernel
theorem dX6_countMissing_38 : decode cX6_countMissing 38 = .ok (.aload_n 1, 1) := by decide +kernel
theorem dX6_countMissing_39 : decode cX6_countMissing 39 = .ok (.getfield 14, 3) := by decide +kernel
theorem dX6_countMissing_42 : decode cX6_countMissing 42 = .ok (.getfield 90, 3) := by decide +kernel
theorem dX6_countMissing_45 : decode cX6_countMissing 45 = .ok (.iload 5, 2) := by decide +kernel
theorem dX6_countMissing_47 : decode cX6_countMissing 47 = .ok (.iaload, 1) := by decide +kernel
theorem dX6_countMissing_48 : decode cX6_countMissing 48 = .ok (.invokevirtual 56, 3) := by decide +kernel
theorem dX6_countMissing_51 : decode cX6_countMissing 51 = .ok (.ifCond .ne 6, 3) := by decide +kernel
theorem dX6_countMissing_54 : decode cX6_countMissing 54 = .ok (.iinc 2 1, 3) := by decide +kernel
theorem dX6_countMissing_57 : decode cX6_countMissing 57 = .ok (.iinc 4 1, 3) := by decide +kernel
theorem dX6_countMissing_60 : decode cX6_countMissing 60 = .ok (.goto (-50), 3) := by decide +kernel
theorem dX6_countMissing_63 : decode cX6_countMissing 63 = .ok (.iload_n 2, 1) := by decide +kernel
theorem dX6_countMissing_64 : decode cX6_countMissing 64 = .ok (.ireturn, 1) := by decide +kernel
theorem dX6_intersect_0 : decode cX6_intersect 0 = .ok (.aload_n 0, 1) := by decide +kernel
theorem dX6_intersect_1 : decode cX6_intersect 1 = .ok (.invokevirtual 52, 3) := by decide +kernel
theorem dX6_intersect_4 : decode cX6_intersect 4 = .ok (.istore_n 2, 1) := by decide +kernel
theorem dX6_intersect_5 : decode cX6_intersect 5 = .ok (.iload_n 2, 1) := by decide +kernel
theorem dX6_intersect_6 : decode cX6_intersect 6 = .ok (.iconst 1, 1) := by decide +kernel
theorem dX6_intersect_7 : decode cX6_intersect 7 = .ok (.isub, 1) := by decide +kernel
theorem dX6_intersect_8 : decode cX6_intersect 8 = .ok (.istore_n 3, 1) := by decide +kernel
theorem dX6_intersect_9 : decode cX6_intersect 9 = .ok (.iload_n 3, 1) := by decide +kernel
theorem dX6_intersect_10 : decode cX6_intersect 10 = .ok (.ifCond .lt 100, 3) := by decide +kernel
theorem dX6_intersect_13 : decode cX6_intersect 13 = .ok (.aload_n 0, 1) := by decide +kernel
theorem dX6_intersect_14 : decode cX6_intersect 14 = .ok (.getfield 14, 3) := by decide +kernel
theorem dX6_intersect_17 : decode cX6_intersect 17 = .ok (.aload_n 0, 1) := by decide +kernel
theorem dX6_intersect_18 : decode cX6_intersect 18 = .ok (.getfield 14, 3) := by decide +kernel
theorem dX6_intersect_21 : decode cX6_intersect 21 = .ok (.getfield 81, 3) := by decide +kernel
theorem dX6_intersect_24 : decode cX6_intersect 24 = .ok (.iload_n 3, 1) := by decide +kernel
theorem dX6_intersect_25 : decode cX6_intersect 25 = .ok (.invokevirtual 84, 3) := by decide +kernel
theorem dX6_intersect_28 : decode cX6_intersect 28 = .ok (.istore 4, 2) := by decide +kernel
theorem dX6_intersect_30 : decode cX6_intersect 30 = .ok (.aload_n 0, 1) := by decide +kernel
theorem dX6_intersect_31 : decode cX6_intersect 31 = .ok (.getfield 14, 3) := by decide +kernel
theorem dX6_intersect_34 : decode cX6_intersect 34 = .ok (.getfield 90, 3) := by decide +kernel
theorem dX6_intersect_37 : decode cX6_intersect 37 = .ok (.iload 4, 2) := by decide +kernel
theorem dX6_intersect_39 : decode cX6_intersect 39 = .ok (.iaload, 1) := by decide +kernel
theorem dX6_intersect_40 : decode cX6_intersect 40 = .ok (.istore 5, 2) := by decide +kernel
theorem dX6_intersect_42 : decode cX6_intersect 42 = .ok (.aload_n 1, 1) := by decide +kernel
theorem dX6_intersect_43 : decode cX6_intersect 43 = .ok (.getfield 14, 3) := by decide +kernel
theorem dX6_intersect_46 : decode cX6_intersect 46 = .ok (.iload 5, 2) := by decide +kernel
theorem dX6_intersect_48 : decode cX6_intersect 48 = .ok (.invokevirtual 56, 3) := by decide +kernel
theorem dX6_intersect_51 : decode cX6_intersect 51 = .ok (.istore 6, 2) := by decide +kernel
theorem dX6_intersect_53 : decode cX6_intersect 53 = .ok (.iload 6, 2) := by decide +kernel
theorem dX6_intersect_55 : decode cX6_intersect 55 = .ok (.ifCond .ne 16, 3) := by decide +kernel
theorem dX6_intersect_58 : decode cX6_intersect 58 = .ok (.aload_n 0, 1) := by decide +kernel
theorem dX6_intersect_59 : decode cX6_intersect 59 = .ok (.getfield 14, 3) := by decide +kernel
theorem dX6_intersect_62 : decode cX6_intersect 62 = .ok (.iload 5, 2) := by decide +kernel
theorem dX6_intersect_64 : decode cX6_intersect 64 = .ok (.invokevirtual 71, 3) := by decide +kernel
theorem dX6_intersect_67 : decode cX6_intersect 67 = .ok (.pop, 1) := by decide +kernel
theorem dX6_intersect_68 : decode cX6_intersect 68 = .ok (.goto 36, 3) := by decide +kernel
theorem dX6_intersect_71 : decode cX6_intersect 71 = .ok (.aload_n 0, 1) := by decide +kernel
theorem dX6_intersect_72 : decode cX6_intersect 72 = .ok (.getfield 14, 3) := by decide +kernel
theorem dX6_intersect_75 : decode cX6_intersect 75 = .ok (.iload 5, 2) := by decide +kernel
theorem dX6_intersect_77 : decode cX6_intersect 77 = .ok (.iconst 2, 1) := by decide +kernel
theorem dX6_intersect_78 : decode cX6_intersect 78 = .ok (.aload_n 0, 1) := by decide +kernel
theorem dX6_intersect_79 : decode cX6_intersect 79 = .ok (.getfield 14, 3) := by decide +kernel
theorem dX6_intersect_82 : decode cX6_intersect 82 = .ok (.getfield 77, 3) := by decide +kernel
theorem dX6_intersect_85 : decode cX6_intersect 85 = .ok (.iload 4, 2) := by decide +kernel
theorem dX6_intersect_87 : decode cX6_intersect 87 = .ok (.iaload, 1) := by decide +kernel
theorem dX6_intersect_88 : decode cX6_intersect 88 = .ok (.imul, 1) := by decide +kernel
theorem dX6_intersect_89 : decode cX6_intersect 89 = .ok (.aload_n 1, 1) := by decide +kernel
theorem dX6_intersect_90 : decode cX6_intersect 90 = .ok (.getfield 14, 3) := by decide +kernel
theorem dX6_intersect_93 : decode cX6_intersect 93 = .ok (.getfield 77, 3) := by decide +kernel
theorem dX6_intersect_96 : decode cX6_intersect 96 = .ok (.iload 6, 2) := by decide +kernel
theorem dX6_intersect_98 : decode cX6_intersect 98 = .ok (.iaload, 1) := by decide +kernel
theorem dX6_intersect_99 : decode cX6_intersect 99 = .ok (.iadd, 1) := by decide +kernel
theorem dX6_intersect_100 : decode cX6_intersect 100 = .ok (.invokevirtual 67, 3) := by decide +kernel
theorem dX6_intersect_103 : decode cX6_intersect 103 = .ok (.pop, 1) := by decide +kernel
theorem dX6_intersect_104 : decode cX6_intersect 104 = .ok (.iinc 3 (-1), 3) := by decide +kernel
theorem dX6_intersect_107 : decode cX6_intersect 107 = .ok (.goto (-98), 3) := by decide +kernel
theorem dX6_intersect_110 : decode cX6_intersect 110 = .ok (.aload_n 0, 1) := by decide +kernel
theorem dX6_intersect_111 : decode cX6_intersect 111 = .ok (.iload_n 2, 1) := by decide +kernel
theorem dX6_intersect_112 : decode cX6_intersect 112 = .ok (.invokevirtual 161, 3) := by decide +kernel
theorem dX6_intersect_115 : decode cX6_intersect 115 = .ok (.ireturn, 1) := by decide +kernel
theorem dX6_subtract_0 : decode cX6_subtract 0 = .ok (.aload_n 0, 1) := by decide +kernel
theorem dX6_subtract_1 : decode cX6_subtract 1 = .ok (.invokevirtual 52, 3) := by decide +kernel
theorem dX6_subtract_4 : decode cX6_subtract 4 = .ok (.istore_n 2, 1) := by decide +kernel
theorem dX6_subtract_5 : decode cX6_subtract 5 = .ok (.iload_n 2, 1) := by decide +kernel
theorem dX6_subtract_6 : decode cX6_subtract 6 = .ok (.iconst 1, 1) := by decide +kernel
theorem dX6_subtract_7 : decode cX6_subtract 7 = .ok (.isub, 1) := by decide +kernel
theorem dX6_subtract_8 : decode cX6_subtract 8 = .ok (.istore_n 3, 1) := by decide +kernel
theorem dX6_subtract_9 : decode cX6_subtract 9 = .ok (.iload_n 3, 1) := by decide +kernel
theorem dX6_subtract_10 : decode cX6_subtract 10 = .ok (.ifCond .lt 56, 3) := by decide +kernel
theorem dX6_subtract_13 : decode cX6_subtract 13 = .ok (.aload_n 0, 1) := by decide +kernel
theorem dX6_subtract_14 : decode cX6_subtract 14 = .ok (.getfield 14, 3) := by decide +kernel
theorem dX6_subtract_17 : decode cX6_subtract 17 = .ok (.getfield 90, 3) := by decide +kernel
theorem dX6_subtract_20 : decode cX6_subtract 20 = .ok (.aload_n 0, 1) := by decide +kernel
theorem dX6_subtract_21 : decode cX6_subtract 21 = .ok (.getfield 14, 3) := by decide +kernel
theorem dX6_subtract_24 : decode cX6_subtract 24 = .ok (.aload_n 0, 1) := by decide +kernel
theorem dX6_subtract_25 : decode cX6_subtract 25 = .ok (.getfield 14, 3) := by decide +kernel
theorem dX6_subtract_28 : decode cX6_subtract 28 = .ok (.getfield 81, 3) := by decide +kernel
theorem dX6_subtract_31 : decode cX6_subtract 31 = .ok (.iload_n 3, 1) := by decide +kernel
theorem dX6_subtract_32 : decode cX6_subtract 32 = .ok (.invokevirtual 84, 3) := by decide +kernel
theorem dX6_subtract_35 : decode cX6_subtract 35 = .ok (.iaload, 1) := by decide +kernel
theorem dX6_subtract_36 : decode cX6_subtract 36 = .ok (.istore 4, 2) := by decide +kernel
theorem dX6_subtract_38 : decode cX6_subtract 38 = .ok (.aload_n 1, 1) := by decide +kernel
theorem dX6_subtract_39 : decode cX6_subtract 39 = .ok (.getfield 14, 3) := by decide +kernel
theorem dX6_subtract_42 : decode cX6_subtract 42 = .ok (.iload 4, 2) := by decide +kernel
theorem dX6_subtract_44 : decode cX6_subtract 44 = .ok (.invokevirtual 56, 3) := by decide +kernel
theorem dX6_subtract_47 : decode cX6_subtract 47 = .ok (.ifCond .eq 13, 3) := by decide +kernel
theorem dX6_subtract_50 : decode cX6_subtract 50 = .ok (.aload_n 0, 1) := by decide +kernel
theorem dX6_subtract_51 : decode cX6_subtract 51 = .ok (.getfield 14, 3) := by decide +kernel
theorem dX6_subtract_54 : decode cX6_subtract 54 = .ok (.iload 4, 2) := by decide +kernel
theorem dX6_subtract_56 : decode cX6_subtract 56 = .ok (.invokevirtual 71, 3) := by decide +kernel
theorem dX6_subtract_59 : decode cX6_subtract 59 = .ok (.pop, 1) := by decide +kernel
theorem dX6_subtract_60 : decode cX6_subtract 60 = .ok (.iinc 3 (-1), 3) := by decide +kernel
theorem dX6_subtract_63 : decode cX6_subtract 63 = .ok (.goto (-54), 3) := by decide +kernel
theorem dX6_subtract_66 : decode cX6_subtract 66 = .ok (.aload_n 0, 1) := by decide +kernel
theorem dX6_subtract_67 : decode cX6_subtract 67 = .ok (.iload_n 2, 1) := by decide +kernel
theorem dX6_subtract_68 : decode cX6_subtract 68 = .ok (.invokevirtual 161, 3) := by decide +kernel
theorem dX6_subtract_71 : decode cX6_subtract 71 = .ok (.ireturn, 1) := by decide +kernel
theorem dX6_countGone_0 : decode cX6_countGone 0 = .ok (.iload_n 1, 1) := by decide +kernel
theorem dX6_countGone_1 : decode cX6_countGone 1 = .ok (.aload_n 0, 1) := by decide +kernel
theorem dX6_countGone_2 : decode cX6_countGone 2 = .ok (.invokevirtual 52, 3) := by decide +kernel
theorem dX6_countGone_5 : decode cX6_countGone 5 = .ok (.isub, 1) := by decide +kernel
theorem dX6_countGone_6 : decode cX6_countGone 6 = .ok (.istore_n 2, 1) := by decide +kernel
theorem dX6_countGone_7 : decode cX6_countGone 7 = .ok (.aload_n 0, 1) := by decide +kernel
theorem dX6_countGone_8 : decode cX6_countGone 8 = .ok (.dup, 1) := by decide +kernel
theorem dX6_countGone_9 : decode cX6_countGone 9 = .ok (.getfield 34, 3) := by decide +kernel
theorem dX6_countGone_12 : decode cX6_countGone 12 = .ok (.iload_n 2, 1) := by decide +kernel
theorem dX6_countGone_13 : decode cX6_countGone 13 = .ok (.iadd, 1) := by decide +kernel
theorem dX6_countGone_14 : decode cX6_countGone 14 = .ok (.putfield 34, 3) := by decide +kernel
theorem dX6_countGone_17 : decode cX6_countGone 17 = .ok (.iload_n 2, 1) := by decide +kernel
theorem dX6_countGone_18 : decode cX6_countGone 18 = .ok (.ireturn, 1) := by decide +kernel
theorem dX6_moveBehind_0 : decode cX6_moveBehind 0 = .ok (.aload_n 2, 1) := by decide +kernel
theorem dX6_moveBehind_1 : decode cX6_moveBehind 1 = .ok (.aload_n 0, 1) := by decide +kernel
theorem dX6_moveBehind_2 : decode cX6_moveBehind 2 = .ok (.getfield 14, 3) := by decide +kernel
theorem dX6_moveBehind_5 : decode cX6_moveBehind 5 = .ok (.getfield 164, 3) := by decide +kernel
theorem dX6_moveBehind_8 : decode cX6_moveBehind 8 = .ok (.aload_n 0, 1) := by decide +kernel
theorem dX6_moveBehind_9 : decode cX6_moveBehind 9 = .ok (.getfield 14, 3) := by decide +kernel
theorem dX6_moveBehind_12 : decode cX6_moveBehind 12 = .ok (.getfield 103, 3) := by decide +kernel
theorem dX6_moveBehind_15 : decode cX6_moveBehind 15 = .ok (.invokevirtual 168, 3) := by decide +kernel
theorem dX6_moveBehind_18 : decode cX6_moveBehind 18 = .ok (.aload_n 0, 1) := by decide +kernel
theorem dX6_moveBehind_19 : decode cX6_moveBehind 19 = .ok (.invokevirtual 52, 3) := by decide +kernel
theorem dX6_moveBehind_22 : decode cX6_moveBehind 22 = .ok (.istore_n 3, 1) := by decide +kernel
theorem dX6_moveBehind_23 : decode cX6_moveBehind 23 = .ok (.aload_n 0, 1) := by decide +kernel
theorem dX6_moveBehind_24 : decode cX6_moveBehind 24 = .ok (.getfield 14, 3) := by decide +kernel
theorem dX6_moveBehind_27 : decode cX6_moveBehind 27 = .ok (.iload_n 1, 1) := by decide +kernel
theorem dX6_moveBehind_28 : decode cX6_moveBehind 28 = .ok (.invokevirtual 96, 3) := by decide +kernel
theorem dX6_moveBehind_31 : decode cX6_moveBehind 31 = .ok (.istore 4, 2) := by decide +kernel
theorem dX6_moveBehind_33 : decode cX6_moveBehind 33 = .ok (.iload_n 3, 1) := by decide +kernel
theorem dX6_moveBehind_34 : decode cX6_moveBehind 34 = .ok (.iconst 1, 1) := by decide +kernel
theorem dX6_moveBehind_35 : decode cX6_moveBehind 35 = .ok (.isub, 1) := by decide +kernel
theorem dX6_moveBehind_36 : decode cX6_moveBehind 36 = .ok (.istore 5, 2) := by decide +kernel
theorem dX6_moveBehind_38 : decode cX6_moveBehind 38 = .ok (.iload 5, 2) := by decide +kernel
theorem dX6_moveBehind_40 : decode cX6_moveBehind 40 = .ok (.iload 4, 2) := by decide +kernel
theorem dX6_moveBehind_42 : decode cX6_moveBehind 42 = .ok (.if_icmp .lt 69, 3) := by decide +kernel
theorem dX6_moveBehind_45 : decode cX6_moveBehind 45 = .ok (.aload_n 0, 1) := by decide +kernel
theorem dX6_moveBehind_46 : decode cX6_moveBehind 46 = .ok (.getfield 14, 3) := by decide +kernel
theorem dX6_moveBehind_49 : decode cX6_moveBehind 49 = .ok (.aload_n 0, 1) := by decide +kernel
theorem dX6_moveBehind_50 : decode cX6_moveBehind 50 = .ok (.getfield 14, 3) := by decide +kernel
theorem dX6_moveBehind_53 : decode cX6_moveBehind 53 = .ok (.getfield 81, 3) := by decide +kernel
theorem dX6_moveBehind_56 : decode cX6_moveBehind 56 = .ok (.iload 5, 2) := by decide +kernel
theorem dX6_moveBehind_58 : decode cX6_moveBehind 58 = .ok (.invokevirtual 84, 3) := by decide +kernel
theorem dX6_moveBehind_61 : decode cX6_moveBehind 61 = .ok (.istore 6, 2) := by decide +kernel
theorem dX6_moveBehind_63 : decode cX6_moveBehind 63 = .ok (.aload_n 0, 1) := by decide +kernel
theorem dX6_moveBehind_64 : decode cX6_moveBehind 64 = .ok (.getfield 14, 3) := by decide +kernel
theorem dX6_moveBehind_67 : decode cX6_moveBehind 67 = .ok (.getfield 90, 3) := by decide +kernel
theorem dX6_moveBehind_70 : decode cX6_moveBehind 70 = .ok (.iload 6, 2) := by decide +kernel
theorem dX6_moveBehind_72 : decode cX6_moveBehind 72 = .ok (.iaload, 1) := by decide +kernel
theorem dX6_moveBehind_73 : decode cX6_moveBehind 73 = .ok (.istore 7, 2) := by decide +kernel
theorem dX6_moveBehind_75 : decode cX6_moveBehind 75 = .ok (.aload_n 2, 1) := by decide +kernel
theorem dX6_moveBehind_76 : decode cX6_moveBehind 76 = .ok (.getfield 14, 3) := by decide +kernel
theorem dX6_moveBehind_79 : decode cX6_moveBehind 79 = .ok (.iload 7, 2) := by decide +kernel
theorem dX6_moveBehind_81 : decode cX6_moveBehind 81 = .ok (.aload_n 0, 1) := by decide +kernel
theorem dX6_moveBehind_82 : decode cX6_moveBehind 82 = .ok (.getfield 14, 3) := by decide +kernel
theorem dX6_moveBehind_85 : decode cX6_moveBehind 85 = .ok (.getfield 77, 3) := by decide +kernel
theorem dX6_moveBehind_88 : decode cX6_moveBehind 88 = .ok (.iload 6, 2) := by decide +kernel
theorem dX6_moveBehind_90 : decode cX6_moveBehind 90 = .ok (.iaload, 1) := by decide +kernel
theorem dX6_moveBehind_91 : decode cX6_moveBehind 91 = .ok (.invokevirtual 67, 3) := by decide +kernel
theorem dX6_moveBehind_94 : decode cX6_moveBehind 94 = .ok (.pop, 1) := by decide +kernel
theorem dX6_moveBehind_95 : decode cX6_moveBehind 95 = .ok (.aload_n 0, 1) := by decide +kernel
theorem dX6_moveBehind_96 : decode cX6_moveBehind 96 = .ok (.getfield 14, 3) := by decide +kernel
theorem dX6_moveBehind_99 : decode cX6_moveBehind 99 = .ok (.iload 7, 2) := by decide +kernel
theorem dX6_moveBehind_101 : decode cX6_moveBehind 101 = .ok (.invokevirtual 71, 3) := by decide +kernel
theorem dX6_moveBehind_104 : decode cX6_moveBehind 104 = .ok (.pop, 1) := by decide +kernel
theorem dX6_moveBehind_105 : decode cX6_moveBehind 105 = .ok (.iinc 5 (-1), 3) := by decide +kernel
theorem dX6_moveBehind_108 : decode cX6_moveBehind 108 = .ok (.goto (-70), 3) := by decide +kernel
theorem dX6_moveBehind_111 : decode cX6_moveBehind 111 = .ok (.aload_n 2, 1) := by decide +kernel
theorem dX6_moveBehind_112 : decode cX6_moveBehind 112 = .ok (.dup, 1) := by decide +kernel
theorem dX6_moveBehind_113 : decode cX6_moveBehind 113 = .ok (.getfield 34, 3) := by decide +kernel
theorem dX6_moveBehind_116 : decode cX6_moveBehind 116 = .ok (.iload_n 3, 1) := by decide +kernel
theorem dX6_moveBehind_117 : decode cX6_moveBehind 117 = .ok (.iload 4, 2) := by decide +kernel
theorem dX6_moveBehind_119 : decode cX6_moveBehind 119 = .ok (.isub, 1) := by decide +kernel
theorem dX6_moveBehind_120 : decode cX6_moveBehind 120 = .ok (.iadd, 1) := by decide +kernel
theorem dX6_moveBehind_121 : decode cX6_moveBehind 121 = .ok (.putfield 34, 3) := by decide +kernel
theorem dX6_moveBehind_124 : decode cX6_moveBehind 124 = .ok (.aload_n 0, 1) := by decide +kernel
theorem dX6_moveBehind_125 : decode cX6_moveBehind 125 = .ok (.iload_n 3, 1) := by decide +kernel
theorem dX6_moveBehind_126 : decode cX6_moveBehind 126 = .ok (.invokevirtual 161, 3) := by decide +kernel
theorem dX6_moveBehind_129 : decode cX6_moveBehind 129 = .ok (.ireturn, 1) := by decide +kernel
theorem dX6_isSound_0 : decode cX6_isSound 0 = .ok (.aload_n 0, 1) := by decide +kernel
theorem dX6_isSound_1 : decode cX6_isSound 1 = .ok (.getfield 14, 3) := by decide +kernel
theorem dX6_isSound_4 : decode cX6_isSound 4 = .ok (.invokevirtual 171, 3) := by decide +kernel
theorem dX6_isSound_7 : decode cX6_isSound 7 = .ok (.ireturn, 1) := by decide +kernel
theorem dX7_init_0 : decode cX7_init 0 = .ok (.aload_n 0, 1) := by decide +kernel
theorem dX7_init_1 : decode cX7_init 1 = .ok (.invokespecial 1, 3) := by decide +kernel
theorem dX7_init_4 : decode cX7_init 4 = .ok (.return_, 1) := by decide +kernel
theorem dX7_holds_0 : decode cX7_holds 0 = .ok (.aload_n 0, 1) := by decide +kernel
theorem dX7_holds_1 : decode cX7_holds 1 = .ok (.getfield 7, 3) := by decide +kernel
theorem dX7_holds_4 : decode cX7_holds 4 = .ok (.ifCond .eq 19, 3) := by decide +kernel
theorem dX7_holds_7 : decode cX7_holds 7 = .ok (.iload_n 1, 1) := by decide +kernel
theorem dX7_holds_8 : decode cX7_holds 8 = .ok (.iload_n 2, 1) := by decide +kernel
theorem dX7_holds_9 : decode cX7_holds 9 = .ok (.aload_n 0, 1) := by decide +kernel
theorem dX7_holds_10 : decode cX7_holds 10 = .ok (.getfield 13, 3) := by decide +kernel
theorem dX7_holds_13 : decode cX7_holds 13 = .ok (.invokestatic 17, 3) := by decide +kernel
theorem dX7_holds_16 : decode cX7_holds 16 = .ok (.ifCond .eq 7, 3) := by decide +kernel
theorem dX7_holds_19 : decode cX7_holds 19 = .ok (.iconst 1, 1) := by decide +kernel
theorem dX7_holds_20 : decode cX7_holds 20 = .ok (.goto 4, 3) := by decide +kernel
theorem dX7_holds_23 : decode cX7_holds 23 = .ok (.iconst 0, 1) := by decide +kernel
theorem dX7_holds_24 : decode cX7_holds 24 = .ok (.istore_n 3, 1) := by decide +kernel
theorem dX7_holds_25 : decode cX7_holds 25 = .ok (.aload_n 0, 1) := by decide +kernel
theorem dX7_holds_26 : decode cX7_holds 26 = .ok (.getfield 23, 3) := by decide +kernel
theorem dX7_holds_29 : decode cX7_holds 29 = .ok (.ifCond .eq 19, 3) := by decide +kernel
theorem dX7_holds_32 : decode cX7_holds 32 = .ok (.iload_n 1, 1) := by decide +kernel
theorem dX7_holds_33 : decode cX7_holds 33 = .ok (.iload_n 2, 1) := by decide +kernel
theorem dX7_holds_34 : decode cX7_holds 34 = .ok (.aload_n 0, 1) := by decide +kernel
theorem dX7_holds_35 : decode cX7_holds 35 = .ok (.getfield 26, 3) := by decide +kernel
theorem dX7_holds_38 : decode cX7_holds 38 = .ok (.invokestatic 17, 3) := by decide +kernel
theorem dX7_holds_41 : decode cX7_holds 41 = .ok (.ifCond .ne 7, 3) := by decide +kernel
theorem dX7_holds_44 : decode cX7_holds 44 = .ok (.iconst 1, 1) := by decide +kernel
theorem dX7_holds_45 : decode cX7_holds 45 = .ok (.goto 4, 3) := by decide +kernel
theorem dX7_holds_48 : decode cX7_holds 48 = .ok (.iconst 0, 1) := by decide +kernel
theorem dX7_holds_49 : decode cX7_holds 49 = .ok (.istore 4, 2) := by decide +kernel
theorem dX7_holds_51 : decode cX7_holds 51 = .ok (.iload_n 3, 1) := by decide +kernel
theorem dX7_holds_52 : decode cX7_holds 52 = .ok (.ifCond .ne 12, 3) := by decide +kernel
theorem dX7_holds_55 : decode cX7_holds 55 = .ok (.iload 4, 2) := by decide +kernel
theorem dX7_holds_57 : decode cX7_holds 57 = .ok (.ifCond .ne 7, 3) := by decide +kernel
theorem dX7_holds_60 : decode cX7_holds 60 = .ok (.iconst 1, 1) := by decide +kernel
theorem dX7_holds_61 : decode cX7_holds 61 = .ok (.goto 4, 3) := by decide +kernel
theorem dX7_holds_64 : decode cX7_holds 64 = .ok (.iconst 0, 1) := by decide +kernel
theorem dX7_holds_65 : decode cX7_holds 65 = .ok (.ireturn, 1) := by decide +kernel
theorem dX7_start_0 : decode cX7_start 0 = .ok (.aload_n 0, 1) := by decide +kernel
theorem dX7_start_1 : decode cX7_start 1 = .ok (.getfield 7, 3) := by decide +kernel
theorem dX7_start_4 : decode cX7_start 4 = .ok (.ifCond .eq 14, 3) := by decide +kernel
theorem dX7_start_7 : decode cX7_start 7 = .ok (.aload_n 1, 1) := by decide +kernel
theorem dX7_start_8 : decode cX7_start 8 = .ok (.aload_n 0, 1) := by decide +kernel
theorem dX7_start_9 : decode cX7_start 9 = .ok (.getfield 13, 3) := by decide +kernel
theorem dX7_start_12 : decode cX7_start 12 = .ok (.invokevirtual 29, 3) := by decide +kernel
theorem dX7_start_15 : decode cX7_start 15 = .ok (.goto 4, 3) := by decide +kernel
theorem dX7_start_18 : decode cX7_start 18 = .ok (.iconst 0, 1) := by decide +kernel
theorem dX7_start_19 : decode cX7_start 19 = .ok (.ireturn, 1) := by decide +kernel
theorem dX7_end_0 : decode cX7_end 0 = .ok (.aload_n 0, 1) := by decide +kernel
theorem dX7_end_1 : decode cX7_end 1 = .ok (.getfield 23, 3) := by decide +kernel
theorem dX7_end_4 : decode cX7_end 4 = .ok (.ifCond .eq 14, 3) := by decide +kernel
theorem dX7_end_7 : decode cX7_end 7 = .ok (.aload_n 1, 1) := by decide +kernel
theorem dX7_end_8 : decode cX7_end 8 = .ok (.aload_n 0, 1) := by decide +kernel
theorem dX7_end_9 : decode cX7_end 9 = .ok (.getfield 26, 3) := by decide +kernel
theorem dX7_end_12 : decode cX7_end 12 = .ok (.invokevirtual 29, 3) := by decide +kernel
theorem dX7_end_15 : decode cX7_end 15 = .ok (.goto 12, 3) := by decide +kernel
theorem dX7_end_18 : decode cX7_end 18 = .ok (.aload_n 1, 1) := by decide +kernel
theorem dX7_end_19 : decode cX7_end 19 = .ok (.getfield 35, 3) := by decide +kernel
theorem dX7_end_22 : decode cX7_end 22 = .ok (.aload_n 1, 1) := by decide +kernel
theorem dX7_end_23 : decode cX7_end 23 = .ok (.getfield 39, 3) := by decide +kernel
theorem dX7_end_26 : decode cX7_end 26 = .ok (.iaload, 1) := by decide +kernel
theorem dX7_end_27 : decode cX7_end 27 = .ok (.ireturn, 1) := by decide +kernel
theorem dX8_init_0 : decode cX8_init 0 = .ok (.aload_n 0, 1) := by decide +kernel
theorem dX8_init_1 : decode cX8_init 1 = .ok (.invokespecial 3, 3) := by decide +kernel
theorem dX8_init_4 : decode cX8_init 4 = .ok (.aload_n 0, 1) := by decide +kernel
theorem dX8_init_5 : decode cX8_init 5 = .ok (.bipush 61, 2) := by decide +kernel
theorem dX8_init_7 : decode cX8_init 7 = .ok (.newarray .int, 2) := by decide +kernel
theorem dX8_init_9 : decode cX8_init 9 = .ok (.putfield 9, 3) := by decide +kernel
theorem dX8_init_12 : decode cX8_init 12 = .ok (.aload_n 0, 1) := by decide +kernel
theorem dX8_init_13 : decode cX8_init 13 = .ok (.bipush 61, 2) := by decide +kernel
theorem dX8_init_15 : decode cX8_init 15 = .ok (.newarray .int, 2) := by decide +kernel
theorem dX8_init_17 : decode cX8_init 17 = .ok (.putfield 15, 3) := by decide +kernel
theorem dX8_init_20 : decode cX8_init 20 = .ok (.aload_n 0, 1) := by decide +kernel
theorem dX8_init_21 : decode cX8_init 21 = .ok (.bipush 61, 2) := by decide +kernel
theorem dX8_init_23 : decode cX8_init 23 = .ok (.newarray .int, 2) := by decide +kernel
theorem dX8_init_25 : decode cX8_init 25 = .ok (.putfield 18, 3) := by decide +kernel
theorem dX8_init_28 : decode cX8_init 28 = .ok (.aload_n 0, 1) := by decide +kernel
theorem dX8_init_29 : decode cX8_init 29 = .ok (.bipush 61, 2) := by decide +kernel
theorem dX8_init_31 : decode cX8_init 31 = .ok (.newarray .int, 2) := by decide +kernel
theorem dX8_init_33 : decode cX8_init 33 = .ok (.putfield 21, 3) := by decide +kernel
theorem dX8_init_36 : decode cX8_init 36 = .ok (.aload_n 0, 1) := by decide +kernel
theorem dX8_init_37 : decode cX8_init 37 = .ok (.bipush 61, 2) := by decide +kernel
theorem dX8_init_39 : decode cX8_init 39 = .ok (.newarray .int, 2) := by decide +kernel
theorem dX8_init_41 : decode cX8_init 41 = .ok (.putfield 24, 3) := by decide +kernel
theorem dX8_init_44 : decode cX8_init 44 = .ok (.aload_n 0, 1) := by decide +kernel
theorem dX8_init_45 : decode cX8_init 45 = .ok (.bipush 61, 2) := by decide +kernel
theorem dX8_init_47 : decode cX8_init 47 = .ok (.newarray .int, 2) := by decide +kernel
theorem dX8_init_49 : decode cX8_init 49 = .ok (.putfield 27, 3) := by decide +kernel
theorem dX8_init_52 : decode cX8_init 52 = .ok (.aload_n 0, 1) := by decide +kernel
theorem dX8_init_53 : decode cX8_init 53 = .ok (.bipush 61, 2) := by decide +kernel
theorem dX8_init_55 : decode cX8_init 55 = .ok (.newarray .long, 2) := by decide +kernel
theorem dX8_init_57 : decode cX8_init 57 = .ok (.putfield 30, 3) := by decide +kernel
theorem dX8_init_60 : decode cX8_init 60 = .ok (.aload_n 0, 1) := by decide +kernel
theorem dX8_init_61 : decode cX8_init 61 = .ok (.bipush 60, 2) := by decide +kernel
theorem dX8_init_63 : decode cX8_init 63 = .ok (.newarray .int, 2) := by decide +kernel
theorem dX8_init_65 : decode cX8_init 65 = .ok (.putfield 34, 3) := by decide +kernel
theorem dX8_init_68 : decode cX8_init 68 = .ok (.aload_n 0, 1) := by decide +kernel
theorem dX8_init_69 : decode cX8_init 69 = .ok (.bipush 61, 2) := by decide +kernel
theorem dX8_init_71 : decode cX8_init 71 = .ok (.newarray .int, 2) := by decide +kernel
theorem dX8_init_73 : decode cX8_init 73 = .ok (.putfield 37, 3) := by decide +kernel
theorem dX8_init_76 : decode cX8_init 76 = .ok (.aload_n 0, 1) := by decide +kernel
theorem dX8_init_77 : decode cX8_init 77 = .ok (.bipush 60, 2) := by decide +kernel
theorem dX8_init_79 : decode cX8_init 79 = .ok (.newarray .int, 2) := by decide +kernel
theorem dX8_init_81 : decode cX8_init 81 = .ok (.putfield 40, 3) := by decide +kernel
theorem dX8_init_84 : decode cX8_init 84 = .ok (.aload_n 0, 1) := by decide +kernel
theorem dX8_init_85 : decode cX8_init 85 = .ok (.aload_n 1, 1) := by decide +kernel
theorem dX8_init_86 : decode cX8_init 86 = .ok (.iconst 0, 1) := by decide +kernel
theorem dX8_init_87 : decode cX8_init 87 = .ok (.invokevirtual 43, 3) := by decide +kernel
theorem dX8_init_90 : decode cX8_init 90 = .ok (.return_, 1) := by decide +kernel
theorem dX8_clear_0 : decode cX8_clear 0 = .ok (.aload_n 0, 1) := by decide +kernel
theorem dX8_clear_1 : decode cX8_clear 1 = .ok (.aload_n 1, 1) := by decide +kernel
theorem dX8_clear_2 : decode cX8_clear 2 = .ok (.putfield 47, 3) := by decide +kernel
theorem dX8_clear_5 : decode cX8_clear 5 = .ok (.aload_n 0, 1) := by decide +kernel
theorem dX8_clear_6 : decode cX8_clear 6 = .ok (.iload_n 2, 1) := by decide +kernel
theorem dX8_clear_7 : decode cX8_clear 7 = .ok (.putfield 51, 3) := by decide +kernel
theorem dX8_clear_10 : decode cX8_clear 10 = .ok (.aload_n 0, 1) := by decide +kernel
theorem dX8_clear_11 : decode cX8_clear 11 = .ok (.iconst 0, 1) := by decide +kernel
theorem dX8_clear_12 : decode cX8_clear 12 = .ok (.putfield 55, 3) := by decide +kernel
theorem dX8_clear_15 : decode cX8_clear 15 = .ok (.aload_n 0, 1) := by decide +kernel
theorem dX8_clear_16 : decode cX8_clear 16 = .ok (.iconst 0, 1) := by decide +kernel
theorem dX8_clear_17 : decode cX8_clear 17 = .ok (.putfield 58, 3) := by decide +kernel
theorem dX8_clear_20 : decode cX8_clear 20 = .ok (.aload_n 0, 1) := by decide +kernel
theorem dX8_clear_21 : decode cX8_clear 21 = .ok (.bipush 60, 2) := by decide +kernel
theorem dX8_clear_23 : decode cX8_clear 23 = .ok (.putfield 61, 3) := by decide +kernel
theorem dX8_clear_26 : decode cX8_clear 26 = .ok (.iconst 0, 1) := by decide +kernel
theorem dX8_clear_27 : decode cX8_clear 27 = .ok (.istore_n 3, 1) := by decide +kernel
theorem dX8_clear_28 : decode cX8_clear 28 = .ok (.iload_n 3, 1) := by decide +kernel
theorem dX8_clear_29 : decode cX8_clear 29 = .ok (.bipush 60, 2) := by decide +kernel
theorem dX8_clear_31 : decode cX8_clear 31 = .ok (.if_icmp .ge 19, 3) := by decide +kernel
theorem dX8_clear_34 : decode cX8_clear 34 = .ok (.aload_n 0, 1) := by decide +kernel
theorem dX8_clear_35 : decode cX8_clear 35 = .ok (.getfield 34, 3) := by decide +kernel
theorem dX8_clear_38 : decode cX8_clear 38 = .ok (.iload_n 3, 1) := by decide +kernel
theorem dX8_clear_39 : decode cX8_clear 39 = .ok (.bipush 60, 2) := by decide +kernel
theorem dX8_clear_41 : decode cX8_clear 41 = .ok (.iload_n 3, 1) := by decide +kernel
theorem dX8_clear_42 : decode cX8_clear 42 = .ok (.isub, 1) := by decide +kernel
theorem dX8_clear_43 : decode cX8_clear 43 = .ok (.iastore, 1) := by decide +kernel
theorem dX8_clear_44 : decode cX8_clear 44 = .ok (.iinc 3 1, 3) := by decide +kernel
theorem dX8_clear_47 : decode cX8_clear 47 = .ok (.goto (-19), 3) := by decide +kernel
theorem dX8_clear_50 : decode cX8_clear 50 = .ok (.return_, 1) := by decide +kernel
theorem dX8_trace_0 : decode cX8_trace 0 = .ok (.aload_n 0, 1) := by decide +kernel
theorem dX8_trace_1 : decode cX8_trace 1 = .ok (.iconst 0, 1) := by decide +kernel
theorem dX8_trace_2 : decode cX8_trace 2 = .ok (.putfield 58, 3) := by decide +kernel
theorem dX8_trace_5 : decode cX8_trace 5 = .ok (.aload_n 0, 1) := by decide +kernel
theorem dX8_trace_6 : decode cX8_trace 6 = .ok (.getfield 55, 3) := by decide +kernel
theorem dX8_trace_9 : decode cX8_trace 9 = .ok (.istore_n 2, 1) := by decide +kernel
theorem dX8_trace_10 : decode cX8_trace 10 = .ok (.iload_n 2, 1) := by decide +kernel
theorem dX8_trace_11 : decode cX8_trace 11 = .ok (.ifCond .eq 88, 3) := by decide +kernel
theorem dX8_trace_14 : decode cX8_trace 14 = .ok (.aload_n 0, 1) := by decide +kernel
theorem dX8_trace_15 : decode cX8_trace 15 = .ok (.getfield 58, 3) := by decide +kernel
theorem dX8_trace_18 : decode cX8_trace 18 = .ok (.bipush 60, 2) := by decide +kernel
theorem dX8_trace_20 : decode cX8_trace 20 = .ok (.if_icmp .ge 79, 3) := by decide +kernel
theorem dX8_trace_23 : decode cX8_trace 23 = .ok (.aload_n 0, 1) := by decide +kernel
theorem dX8_trace_24 : decode cX8_trace 24 = .ok (.getfield 37, 3) := by decide +kernel
theorem dX8_trace_27 : decode cX8_trace 27 = .ok (.aload_n 0, 1) := by decide +kernel
theorem dX8_trace_28 : decode cX8_trace 28 = .ok (.getfield 58, 3) := by decide +kernel
theorem dX8_trace_31 : decode cX8_trace 31 = .ok (.iload_n 2, 1) := by decide +kernel
theorem dX8_trace_32 : decode cX8_trace 32 = .ok (.iastore, 1) := by decide +kernel
theorem dX8_trace_33 : decode cX8_trace 33 = .ok (.aload_n 0, 1) := by decide +kernel
theorem dX8_trace_34 : decode cX8_trace 34 = .ok (.dup, 1) := by decide +kernel
theorem dX8_trace_35 : decode cX8_trace 35 = .ok (.getfield 58, 3) := by decide +kernel
theorem dX8_trace_38 : decode cX8_trace 38 = .ok (.iconst 1, 1) := by decide +kernel
theorem dX8_trace_39 : decode cX8_trace 39 = .ok (.iadd, 1) := by decide +kernel
theorem dX8_trace_40 : decode cX8_trace 40 = .ok (.putfield 58, 3) := by decide +kernel
theorem dX8_trace_43 : decode cX8_trace 43 = .ok (.aload_n 0, 1) := by decide +kernel
theorem dX8_trace_44 : decode cX8_trace 44 = .ok (.getfield 51, 3) := by decide +kernel
theorem dX8_trace_47 : decode cX8_trace 47 = .ok (.iload_n 1, 1) := by decide +kernel
theorem dX8_trace_48 : decode cX8_trace 48 = .ok (.aload_n 0, 1) := by decide +kernel
theorem dX8_trace_49 : decode cX8_trace 49 = .ok (.getfield 9, 3) := by decide +kernel
theorem dX8_trace_52 : decode cX8_trace 52 = .ok (.iload_n 2, 1) := by decide +kernel
theorem dX8_trace_53 : decode cX8_trace 53 = .ok (.iaload, 1) := by decide +kernel
theorem dX8_trace_54 : decode cX8_trace 54 = .ok (.invokestatic 64, 3) := by decide +kernel
theorem dX8_trace_57 : decode cX8_trace 57 = .ok (.ifCond .eq 13, 3) := by decide +kernel
theorem dX8_trace_60 : decode cX8_trace 60 = .ok (.aload_n 0, 1) := by decide +kernel
theorem dX8_trace_61 : decode cX8_trace 61 = .ok (.getfield 18, 3) := by decide +kernel
theorem dX8_trace_64 : decode cX8_trace 64 = .ok (.iload_n 2, 1) := by decide +kernel
theorem dX8_trace_65 : decode cX8_trace 65 = .ok (.iaload, 1) := by decide +kernel
theorem dX8_trace_66 : decode cX8_trace 66 = .ok (.istore_n 2, 1) := by decide +kernel
theorem dX8_trace_67 : decode cX8_trace 67 = .ok (.goto (-57), 3) := by decide +kernel
theorem dX8_trace_70 : decode cX8_trace 70 = .ok (.aload_n 0, 1) := by decide +kernel
theorem dX8_trace_71 : decode cX8_trace 71 = .ok (.getfield 51, 3) := by decide +kernel
theorem dX8_trace_74 : decode cX8_trace 74 = .ok (.aload_n 0, 1) := by decide +kernel
theorem dX8_trace_75 : decode cX8_trace 75 = .ok (.getfield 9, 3) := by decide +kernel
theorem dX8_trace_78 : decode cX8_trace 78 = .ok (.iload_n 2, 1) := by decide +kernel
theorem dX8_trace_79 : decode cX8_trace 79 = .ok (.iaload, 1) := by decide +kernel
theorem dX8_trace_80 : decode cX8_trace 80 = .ok (.iload_n 1, 1) := by decide +kernel
theorem dX8_trace_81 : decode cX8_trace 81 = .ok (.invokestatic 64, 3) := by decide +kernel
theorem dX8_trace_84 : decode cX8_trace 84 = .ok (.ifCond .eq 13, 3) := by decide +kernel
theorem dX8_trace_87 : decode cX8_trace 87 = .ok (.aload_n 0, 1) := by decide +kernel
theorem dX8_trace_88 : decode cX8_trace 88 = .ok (.getfield 21, 3) := by decide +kernel
theorem dX8_trace_91 : decode cX8_trace 91 = .ok (.iload_n 2, 1) := by decide +kernel
theorem dX8_trace_92 : decode cX8_trace 92 = .ok (.iaload, 1) := by decide +kernel
theorem dX8_trace_93 : decode cX8_trace 93 = .ok (.istore_n 2, 1) := by decide +kernel
theorem dX8_trace_94 : decode cX8_trace 94 = .ok (.goto (-84), 3) := by decide +kernel
theorem dX8_trace_97 : decode cX8_trace 97 = .ok (.iload_n 2, 1) := by decide +kernel
theorem dX8_trace_98 : decode cX8_trace 98 = .ok (.ireturn, 1) := by decide +kernel
theorem dX8_trace_99 : decode cX8_trace 99 = .ok (.iconst 0, 1) := by decide +kernel
theorem dX8_trace_100 : decode cX8_trace 100 = .ok (.ireturn, 1) := by decide +kernel
theorem dX8_countBefore_0 : decode cX8_countBefore 0 = .ok (.iconst 0, 1) := by decide +kernel
theorem dX8_countBefore_1 : decode cX8_countBefore 1 = .ok (.istore_n 2, 1) := by decide +kernel
theorem dX8_countBefore_2 : decode cX8_countBefore 2 = .ok (.aload_n 0, 1) := by decide +kernel
theorem dX8_countBefore_3 : decode cX8_countBefore 3 = .ok (.getfield 55, 3) := by decide +kernel
theorem dX8_countBefore_6 : decode cX8_countBefore 6 = .ok (.istore_n 3, 1) := by decide +kernel
theorem dX8_countBefore_7 : decode cX8_countBefore 7 = .ok (.iconst 0, 1) := by decide +kernel
theorem dX8_countBefore_8 : decode cX8_countBefore 8 = .ok (.istore 4, 2) := by decide +kernel
theorem dX8_countBefore_10 : decode cX8_countBefore 10 = .ok (.iload_n 3, 1) := by decide +kernel
theorem dX8_countBefore_11 : decode cX8_countBefore 11 = .ok (.ifCond .eq 66, 3) := by decide +kernel
theorem dX8_countBefore_14 : decode cX8_countBefore 14 = .ok (.iload 4, 2) := by decide +kernel
theorem dX8_countBefore_16 : decode cX8_countBefore 16 = .ok (.bipush 60, 2) := by decide +kernel
theorem dX8_countBefore_18 : decode cX8_countBefore 18 = .ok (.if_icmp .ge 59, 3) := by decide +kernel
theorem dX8_countBefore_21 : decode cX8_countBefore 21 = .ok (.aload_n 0, 1) := by decide +kernel
theorem dX8_countBefore_22 : decode cX8_countBefore 22 = .ok (.getfield 51, 3) := by decide +kernel
theorem dX8_countBefore_25 : decode cX8_countBefore 25 = .ok (.aload_n 0, 1) := by decide +kernel
theorem dX8_countBefore_26 : decode cX8_countBefore 26 = .ok (.getfield 9, 3) := by decide +kernel
theorem dX8_countBefore_29 : decode cX8_countBefore 29 = .ok (.iload_n 3, 1) := by decide +kernel
theorem dX8_countBefore_30 : decode cX8_countBefore 30 = .ok (.iaload, 1) := by decide +kernel
theorem dX8_countBefore_31 : decode cX8_countBefore 31 = .ok (.iload_n 1, 1) := by decide +kernel
theorem dX8_countBefore_32 : decode cX8_countBefore 32 = .ok (.invokestatic 64, 3) := by decide +kernel
theorem dX8_countBefore_35 : decode cX8_countBefore 35 = .ok (.ifCond .eq 29, 3) := by decide +kernel
theorem dX8_countBefore_38 : decode cX8_countBefore 38 = .ok (.iload_n 2, 1) := by decide +kernel
theorem dX8_countBefore_39 : decode cX8_countBefore 39 = .ok (.aload_n 0, 1) := by decide +kernel
theorem dX8_countBefore_40 : decode cX8_countBefore 40 = .ok (.getfield 24, 3) := by decide +kernel
theorem dX8_countBefore_43 : decode cX8_countBefore 43 = .ok (.aload_n 0, 1) := by decide +kernel
theorem dX8_countBefore_44 : decode cX8_countBefore 44 = .ok (.getfield 18, 3) := by decide +kernel
theorem dX8_countBefore_47 : decode cX8_countBefore 47 = .ok (.iload_n 3, 1) := by decide +kernel
theorem dX8_countBefore_48 : decode cX8_countBefore 48 = .ok (.iaload, 1) := by decide +kernel
theorem dX8_countBefore_49 : decode cX8_countBefore 49 = .ok (.iaload, 1) := by decide +kernel
theorem dX8_countBefore_50 : decode cX8_countBefore 50 = .ok (.iconst 1, 1) := by decide +kernel
theorem dX8_countBefore_51 : decode cX8_countBefore 51 = .ok (.iadd, 1) := by decide +kernel
theorem dX8_countBefore_52 : decode cX8_countBefore 52 = .ok (.iadd, 1) := by decide +kernel
theorem dX8_countBefore_53 : decode cX8_countBefore 53 = .ok (.istore_n 2, 1) := by decide +kernel
theorem dX8_countBefore_54 : decode cX8_countBefore 54 = .ok (.aload_n 0, 1) := by decide +kernel
theorem dX8_countBefore_55 : decode cX8_countBefore 55 = .ok (.getfield 21, 3) := by decide +kernel
theorem dX8_countBefore_58 : decode cX8_countBefore 58 = .ok (.iload_n 3, 1) := by decide +kernel
theorem dX8_countBefore_59 : decode cX8_countBefore 59 = .ok (.iaload, 1) := by decide +kernel
theorem dX8_countBefore_60 : decode cX8_countBefore 60 = .ok (.istore_n 3, 1) := by decide +kernel
theorem dX8_countBefore_61 : decode cX8_countBefore 61 = .ok (.goto 10, 3) := by decide +kernel
theorem dX8_countBefore_64 : decode cX8_countBefore 64 = .ok (.aload_n 0, 1) := by decide +kernel
theorem dX8_countBefore_65 : decode cX8_countBefore 65 = .ok (.getfield 18, 3) := by decide +kernel
theorem dX8_countBefore_68 : decode cX8_countBefore 68 = .ok (.iload_n 3, 1) := by decide +kernel
theorem dX8_countBefore_69 : decode cX8_countBefore 69 = .ok (.iaload, 1) := by decide +kernel
theorem dX8_countBefore_70 : decode cX8_countBefore 70 = .ok (.istore_n 3, 1) := by decide +kernel
theorem dX8_countBefore_71 : decode cX8_countBefore 71 = .ok (.iinc 4 1, 3) := by decide +kernel
theorem dX8_countBefore_74 : decode cX8_countBefore 74 = .ok (.goto (-64), 3) := by decide +kernel
theorem dX8_countBefore_77 : decode cX8_countBefore 77 = .ok (.iload_n 2, 1) := by decide +kernel
theorem dX8_countBefore_78 : decode cX8_countBefore 78 = .ok (.ireturn, 1) := by decide +kernel
theorem dX8_totalBefore_0 : decode cX8_totalBefore 0 = .ok (.lconst 0, 1) := by decide +kernel
theorem dX8_totalBefore_1 : decode cX8_totalBefore 1 = .ok (.lstore_n 2, 1) := by decide +kernel
theorem dX8_totalBefore_2 : decode cX8_totalBefore 2 = .ok (.aload_n 0, 1) := by decide +kernel
theorem dX8_totalBefore_3 : decode cX8_totalBefore 3 = .ok (.getfield 55, 3) := by decide +kernel
theorem dX8_totalBefore_6 : decode cX8_totalBefore 6 = .ok (.istore 4, 2) := by decide +kernel
theorem dX8_totalBefore_8 : decode cX8_totalBefore 8 = .ok (.iconst 0, 1) := by decide +kernel
theorem dX8_totalBefore_9 : decode cX8_totalBefore 9 = .ok (.istore 5, 2) := by decide +kernel
theorem dX8_totalBefore_11 : decode cX8_totalBefore 11 = .ok (.iload 4, 2) := by decide +kernel
theorem dX8_totalBefore_13 : decode cX8_totalBefore 13 = .ok (.ifCond .eq 79, 3) := by decide +kernel
theorem dX8_totalBefore_16 : decode cX8_totalBefore 16 = .ok (.iload 5, 2) := by decide +kernel
theorem dX8_totalBefore_18 : decode cX8_totalBefore 18 = .ok (.bipush 60, 2) := by decide +kernel
theorem dX8_totalBefore_20 : decode cX8_totalBefore 20 = .ok (.if_icmp .ge 72, 3) := by decide +kernel
theorem dX8_totalBefore_23 : decode cX8_totalBefore 23 = .ok (.aload_n 0, 1) := by decide +kernel
theorem dX8_totalBefore_24 : decode cX8_totalBefore 24 = .ok (.getfield 51, 3) := by decide +kernel
theorem dX8_totalBefore_27 : decode cX8_totalBefore 27 = .ok (.aload_n 0, 1) := by decide +kernel
theorem dX8_totalBefore_28 : decode cX8_totalBefore 28 = .ok (.getfield 9, 3) := by decide +kernel
theorem dX8_totalBefore_31 : decode cX8_totalBefore 31 = .ok (.iload 4, 2) := by decide +kernel
theorem dX8_totalBefore_33 : decode cX8_totalBefore 33 = .ok (.iaload, 1) := by decide +kernel
theorem dX8_totalBefore_34 : decode cX8_totalBefore 34 = .ok (.iload_n 1, 1) := by decide +kernel
theorem dX8_totalBefore_35 : decode cX8_totalBefore 35 = .ok (.invokestatic 64, 3) := by decide +kernel
theorem dX8_totalBefore_38 : decode cX8_totalBefore 38 = .ok (.ifCond .eq 39, 3) := by decide +kernel
theorem dX8_totalBefore_41 : decode cX8_totalBefore 41 = .ok (.lload_n 2, 1) := by decide +kernel
theorem dX8_totalBefore_42 : decode cX8_totalBefore 42 = .ok (.aload_n 0, 1) := by decide +kernel
theorem dX8_totalBefore_43 : decode cX8_totalBefore 43 = .ok (.getfield 30, 3) := by decide +kernel
theorem dX8_totalBefore_46 : decode cX8_totalBefore 46 = .ok (.aload_n 0, 1) := by decide +kernel
theorem dX8_totalBefore_47 : decode cX8_totalBefore 47 = .ok (.getfield 18, 3) := by decide +kernel
theorem dX8_totalBefore_50 : decode cX8_totalBefore 50 = .ok (.iload 4, 2) := by decide +kernel
theorem dX8_totalBefore_52 : decode cX8_totalBefore 52 = .ok (.iaload, 1) := by decide +kernel
theorem dX8_totalBefore_53 : decode cX8_totalBefore 53 = .ok (.laload, 1) := by decide +kernel
theorem dX8_totalBefore_54 : decode cX8_totalBefore 54 = .ok (.aload_n 0, 1) := by decide +kernel
theorem dX8_totalBefore_55 : decode cX8_totalBefore 55 = .ok (.getfield 15, 3) := by decide +kernel
theorem dX8_totalBefore_58 : decode cX8_totalBefore 58 = .ok (.iload 4, 2) := by decide +kernel
theorem dX8_totalBefore_60 : decode cX8_totalBefore 60 = .ok (.iaload, 1) := by decide +kernel
theorem dX8_totalBefore_61 : decode cX8_totalBefore 61 = .ok (.i2l, 1) := by decide +kernel
theorem dX8_totalBefore_62 : decode cX8_totalBefore 62 = .ok (.ladd, 1) := by decide +kernel
theorem dX8_totalBefore_63 : decode cX8_totalBefore 63 = .ok (.ladd, 1) := by decide +kernel
theorem dX8_totalBefore_64 : decode cX8_totalBefore 64 = .ok (.lstore_n 2, 1) := by decide +kernel
theorem dX8_totalBefore_65 : decode cX8_totalBefore 65 = .ok (.aload_n 0, 1) := by decide +kernel
theorem dX8_totalBefore_66 : decode cX8_totalBefore 66 = .ok (.getfield 21, 3) := by decide +kernel
theorem dX8_totalBefore_69 : decode cX8_totalBefore 69 = .ok (.iload 4, 2) := by decide +kernel
theorem dX8_totalBefore_71 : decode cX8_totalBefore 71 = .ok (.iaload, 1) := by decide +kernel
theorem dX8_totalBefore_72 : decode cX8_totalBefore 72 = .ok (.istore 4, 2) := by decide +kernel
theorem dX8_totalBefore_74 : decode cX8_totalBefore 74 = .ok (.goto 12, 3) := by decide +kernel
theorem dX8_totalBefore_77 : decode cX8_totalBefore 77 = .ok (.aload_n 0, 1) := by decide +kernel
theorem dX8_totalBefore_78 : decode cX8_totalBefore 78 = .ok (.getfield 18, 3) := by decide +kernel
theorem dX8_totalBefore_81 : decode cX8_totalBefore 81 = .ok (.iload 4, 2) := by decide +kernel
theorem dX8_totalBefore_83 : decode cX8_totalBefore 83 = .ok (.iaload, 1) := by decide +kernel
theorem dX8_totalBefore_84 : decode cX8_totalBefore 84 = .ok (.istore 4, 2) := by decide +kernel
theorem dX8_totalBefore_86 : decode cX8_totalBefore 86 = .ok (.iinc 5 1, 3) := by decide +kernel
theorem dX8_totalBefore_89 : decode cX8_totalBefore 89 = .ok (.goto (-78), 3) := by decide +kernel
theorem dX8_totalBefore_92 : decode cX8_totalBefore 92 = .ok (.lload_n 2, 1) := by decide +kernel
theorem dX8_totalBefore_93 : decode cX8_totalBefore 93 = .ok (.lreturn, 1) := by decide +kernel
theorem dX8_nodeAt_0 : decode cX8_nodeAt 0 = .ok (.iload_n 2, 1) := by decide +kernel
theorem dX8_nodeAt_1 : decode cX8_nodeAt 1 = .ok (.aload_n 0, 1) := by decide +kernel
theorem dX8_nodeAt_2 : decode cX8_nodeAt 2 = .ok (.getfield 24, 3) := by decide +kernel
theorem dX8_nodeAt_5 : decode cX8_nodeAt 5 = .ok (.iload_n 1, 1) := by decide +kernel
theorem dX8_nodeAt_6 : decode cX8_nodeAt 6 = .ok (.iaload, 1) := by decide +kernel
theorem dX8_nodeAt_7 : decode cX8_nodeAt 7 = .ok (.invokestatic 68, 3) := by decide +kernel
theorem dX8_nodeAt_10 : decode cX8_nodeAt 10 = .ok (.ifCond .ne 5, 3) := by decide +kernel
theorem dX8_nodeAt_13 : decode cX8_nodeAt 13 = .ok (.iconst 0, 1) := by decide +kernel
theorem dX8_nodeAt_14 : decode cX8_nodeAt 14 = .ok (.ireturn, 1) := by decide +kernel
theorem dX8_nodeAt_15 : decode cX8_nodeAt 15 = .ok (.iload_n 1, 1) := by decide +kernel
theorem dX8_nodeAt_16 : decode cX8_nodeAt 16 = .ok (.istore_n 3, 1) := by decide +kernel
theorem dX8_nodeAt_17 : decode cX8_nodeAt 17 = .ok (.iload_n 2, 1) := by decide +kernel
theorem dX8_nodeAt_18 : decode cX8_nodeAt 18 = .ok (.istore 4, 2) := by decide +kernel
theorem dX8_nodeAt_20 : decode cX8_nodeAt 20 = .ok (.iconst 0, 1) := by decide +kernel
theorem dX8_nodeAt_21 : decode cX8_nodeAt 21 = .ok (.istore 5, 2) := by decide +kernel
theorem dX8_nodeAt_23 : decode cX8_nodeAt 23 = .ok (.iload_n 3, 1) := by decide +kernel
theorem dX8_nodeAt_24 : decode cX8_nodeAt 24 = .ok (.ifCond .eq 71, 3) := by decide +kernel
theorem dX8_nodeAt_27 : decode cX8_nodeAt 27 = .ok (.iload 5, 2) := by decide +kernel
theorem dX8_nodeAt_29 : decode cX8_nodeAt 29 = .ok (.bipush 60, 2) := by decide +kernel
theorem dX8_nodeAt_31 : decode cX8_nodeAt 31 = .ok (.if_icmp .ge 64, 3) := by decide +kernel
theorem dX8_nodeAt_34 : decode cX8_nodeAt 34 = .ok (.aload_n 0, 1) := by decide +kernel
theorem dX8_nodeAt_35 : decode cX8_nodeAt 35 = .ok (.getfield 24, 3) := by decide +kernel
theorem dX8_nodeAt_38 : decode cX8_nodeAt 38 = .ok (.aload_n 0, 1) := by decide +kernel
theorem dX8_nodeAt_39 : decode cX8_nodeAt 39 = .ok (.getfield 18, 3) := by decide +kernel
