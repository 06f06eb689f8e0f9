/-! what the tables' words give at the law's entry -/
theorem mem_at {L T : List Cond} (is : List Nat) (h : is.map (fun i => T[i]?) = L.map some) : ∀ w ∈ L, w ∈ T := by
  intro w hw
  have h1 : some w ∈ L.map some := List.mem_map.mpr ⟨w, hw, rfl⟩
  rw [← h] at h1
  obtain ⟨i, -, hi⟩ := List.mem_map.mp h1
  exact List.mem_of_getElem? hi
theorem e_str {args : Array Value} {s : State} {own tx : String} {k : Nat} (h : (Cond.stringRef own k tx).before args s = true) : ∃ sa, vk_R own k tx sa s := by
  cases hc : s.vm.findClass own with
  | none => simp [Cond.before, Cond.holds, Cond.value, hc] at h
  | some cur =>
    obtain ⟨k1, cf, i, a, -, -, -, -, -, he⟩ := Cond.stringRef_spec (args := args) (first := s) (o := none) (idx := []) hc h
    exact ⟨a, vk_R.of h he⟩
theorem nF_in : ∀ w ∈ nestF.map (fun q => Cond.fieldLinkNest q.1 q.2.1 q.2.2.1 q.2.2.2.1 q.2.2.2.2.1 q.2.2.2.2.2), w ∈ tables_1 := mem_at [203, 98, 88, 91, 82, 99, 94, 90, 87, 93, 110, 157, 159, 180, 179, 112, 153, 154, 176, 85, 108, 83, 96, 95, 107] (by decide +kernel)
theorem nM_in : ∀ w ∈ nestM.map (fun q => Cond.methodLinkNest q.1 q.2.1 q.2.2.1 q.2.2.2), w ∈ tables_1 := mem_at [45, 52, 59, 30, 33, 55, 62, 36, 48, 552, 148, 171, 598, 329, 437] (by decide +kernel)
theorem nD_in : ∀ w ∈ nestD.map (fun q => Cond.declares q), w ∈ tables_1 := mem_at [384, 375, 369, 761, 240, 241, 238, 239, 242, 243] (by decide +kernel)
theorem nC_in : ∀ w ∈ nestC.map (fun q => Cond.castable q.1 q.2), w ∈ tables_1 := mem_at [958, 959, 960, 961, 237, 636, 337] (by decide +kernel)
theorem nS_in : ∀ w ∈ nestS.map (fun q => Cond.stringRef q.1 q.2.1 q.2.2), w ∈ tables_1 := mem_at [582, 599, 643, 675, 699, 728, 276, 303, 503, 553, 708, 344, 477, 498] (by decide +kernel)
theorem law_NW {s : State} {args : Array Value} (ht : ∀ w ∈ tables_1, w.before args s = true) : NW s := ⟨fun q hq => va_Nw.of rfl (ht _ (nF_in _ (List.mem_map.mpr ⟨q, hq, rfl⟩))), fun q hq => va_Nw.of rfl (ht _ (nM_in _ (List.mem_map.mpr ⟨q, hq, rfl⟩))), fun q hq => va_Nw.of rfl (ht _ (nD_in _ (List.mem_map.mpr ⟨q, hq, rfl⟩))), fun q hq => va_Nw.of rfl (ht _ (nC_in _ (List.mem_map.mpr ⟨q, hq, rfl⟩))), fun q hq => e_str (ht _ (nS_in _ (List.mem_map.mpr ⟨q, hq, rfl⟩)))⟩
theorem law_K {s : State} {args : Array Value} (hts : ∀ w ∈ wsL_law, w.before args s = true) (hO1 : va_AO "TreeFamily$Kind" s) (hO2 : va_AO "TreeFamily$OneMap" s) (hI : (Cond.arrayClass .int).before args s = true) (hJ : (Cond.arrayClass .long).before args s = true) (hZ : (Cond.arrayClass .boolean).before args s = true) : ∃ (D : va_G) (ca : Nat → ClassId), va_K D vwCl (TY ca) s := by
  obtain ⟨c0, i0, k0⟩ := u_known (C := RX0) (T := TX0) (N := 0) (n := 0) hts inlX0 (hts (.instantiable RX0 0) (by decide +kernel))
  obtain ⟨c1, i1, k1⟩ := u_known (C := RX1) (T := TX1) (N := 0) (n := 0) hts inlX1 (hts (.instantiable RX1 0) (by decide +kernel))
  obtain ⟨c2, i2, k2⟩ := u_known (C := RX2) (T := TX2) (N := 0) (n := 0) hts inlX2 (hts (.instantiable RX2 0) (by decide +kernel))
  obtain ⟨c3, i3, k3⟩ := u_known (C := RX4) (T := TX4) (N := 0) (n := 0) hts inlX4 (hts (.instantiable RX4 0) (by decide +kernel))
  obtain ⟨c4, i4, k4⟩ := u_known (C := RX6) (T := TX6) (N := 4) (n := 4) hts inlX6 (hts (.instantiable RX6 4) (by decide +kernel))
  obtain ⟨c5, i5, k5⟩ := u_known (C := RX7) (T := TX7) (N := 4) (n := 4) hts inlX7 (hts (.instantiable RX7 4) (by decide +kernel))
  obtain ⟨c6, i6, k6⟩ := u_known (C := RX8) (T := TX8) (N := 15) (n := 15) hts inlX8 (hts (.instantiable RX8 15) (by decide +kernel))
  obtain ⟨c7, i7, k7⟩ := u_known (C := RX9) (T := TX9) (N := 7) (n := 7) hts inlX9 (hts (.instantiable RX9 7) (by decide +kernel))
  obtain ⟨c8, i8, k8⟩ := u_known (C := RX10) (T := TX10) (N := 2) (n := 2) hts inlX10 (hts (.instantiable RX10 2) (by decide +kernel))
  obtain ⟨c9, i9, k9⟩ := u_known (C := RX11) (T := TX11) (N := 17) (n := 17) hts inlX11 (hts (.instantiable RX11 17) (by decide +kernel))
  obtain ⟨a0, ka0, co0, f0, g0, e0⟩ := Cond.arrayClass_spec (args := args) (first := s) (o := none) (idx := []) hI
  obtain ⟨a1, ka1, co1, f1, g1, e1⟩ := Cond.arrayClass_spec (args := args) (first := s) (o := none) (idx := []) hJ
  obtain ⟨a2, ka2, co2, f2, g2, e2⟩ := Cond.arrayClass_spec (args := args) (first := s) (o := none) (idx := []) hZ
  obtain ⟨co3, a3, ka3, z3, -, g3, e3, f3⟩ := Cond.arrayOver_spec (args := #[]) (first := s) (o := none) (idx := []) hO1
  obtain ⟨co4, a4, ka4, z4, -, g4, e4, f4⟩ := Cond.arrayOver_spec (args := #[]) (first := s) (o := none) (idx := []) hO2
  refine ⟨(fun k => [c0, c1, c2, c3, c4, c5, c6, c7, c8, c9].getD k c0, fun k => [i0, i1, i2, i3, i4, i5, i6, i7, i8, i9].getD k i0), fun k => [a0, a1, a2, a3, a4].getD k a0, fun k q hq => ?_, fun k q hq => ?_⟩
  · match k, hq with
    | 0, hq => cases hq; exact k0
    | 1, hq => cases hq; exact k1
    | 2, hq => cases hq; exact k2
    | 3, hq => cases hq; exact k3
    | 4, hq => cases hq; exact k4
    | 5, hq => cases hq; exact k5
    | 6, hq => cases hq; exact k6
    | 7, hq => cases hq; exact k7
    | 8, hq => cases hq; exact k8
    | 9, hq => cases hq; exact k9
    | k + 10, hq => simp [vwCl] at hq
  · match k, hq with
    | 0, hq => cases hq; exact ⟨fun n z => ⟨fun k h => (by cases h), ka0, g0, co0, e0⟩, f0⟩
    | 1, hq => cases hq; exact ⟨fun n z => ⟨fun k h => (by cases h), ka1, g1, co1, e1⟩, f1⟩
    | 2, hq => cases hq; exact ⟨fun n z => ⟨fun k h => (by cases h), ka2, g2, co2, e2⟩, f2⟩
    | 3, hq => cases hq; exact ⟨fun n z => ⟨fun k h => (by cases h), ka3, g3, co3, e3⟩, ka3, co3, g3, e3, z3, f3⟩
    | 4, hq => cases hq; exact ⟨fun n z => ⟨fun k h => (by cases h), ka4, g4, co4, e4⟩, ka4, co4, g4, e4, z4, f4⟩
    | k + 5, hq => simp [TY] at hq
/-! the law's words stand among the tables' -/
theorem wl_0 : ∀ w ∈ wsL_law0_r1, w ∈ lw_tbl := mem_at [40, 41, 21, 791, 792, 32, 165, 42, 43, 44, 45, 46, 47, 48, 49, 24, 61, 63, 64, 25, 70, 71, 26, 77] (by decide +kernel)
theorem wl_1 : ∀ w ∈ wsL_law0_r2, w ∈ lw_tbl := mem_at [78, 27, 233, 84, 234, 86, 28, 51, 52, 54, 23, 55, 57, 22, 58, 59, 66, 67, 73, 74, 80, 81, 87, 88] (by decide +kernel)
theorem wl_2 : ∀ w ∈ wsL_law0_r3, w ∈ lw_tbl := mem_at [89, 90, 91, 92, 29, 219, 166, 167, 30, 220, 189, 190, 31, 221, 222, 93, 94, 95, 96, 164, 101, 104, 106, 109] (by decide +kernel)
theorem wl_3 : ∀ w ∈ wsL_law0_r4, w ∈ lw_tbl := mem_at [112, 117, 120, 121, 122, 123, 97, 98, 99, 100, 131, 129, 126, 125, 124, 169, 170, 171, 192, 193, 194, 793, 794, 795] (by decide +kernel)
theorem wl_4 : ∀ w ∈ wsL_law0_r5, w ∈ lw_tbl := mem_at [796, 798, 799, 800, 801, 802, 803, 804, 805, 849, 806, 807, 808, 809, 810, 811, 812, 813, 240, 241, 20, 242, 243, 244] (by decide +kernel)
theorem wl_5 : ∀ w ∈ wsL_law0_r6, w ∈ lw_tbl := mem_at [245, 246, 247, 255, 36, 248, 250, 0, 251, 252, 253, 254, 324, 325, 326, 327, 328, 854, 855, 856, 857, 797, 858, 859] (by decide +kernel)
theorem wl_6 : ∀ w ∈ wsL_law0_r7, w ∈ lw_tbl := mem_at [860, 861, 863, 10, 864, 850, 851, 852, 853, 329, 330, 331, 332, 333, 334, 335, 336, 337, 338, 339, 340, 355, 38, 341] (by decide +kernel)
theorem wl_7 : ∀ w ∈ wsL_law0_r8, w ∈ lw_tbl := mem_at [342, 343, 344, 345, 346, 347, 348, 350, 351, 352, 353, 37, 354, 371, 372, 373, 374, 375, 376, 378, 2, 379, 380, 382] (by decide +kernel)
theorem wl_8 : ∀ w ∈ wsL_law0_r9, w ∈ lw_tbl := mem_at [3, 383, 384, 385, 386, 387, 388, 390, 391, 392, 393, 394, 396, 397, 398, 399, 400, 401, 402, 403, 405, 406, 407, 408] (by decide +kernel)
theorem wl_9 : ∀ w ∈ wsL_law0_r10, w ∈ lw_tbl := mem_at [409, 410, 411, 412, 413, 414, 415, 416, 417, 418, 419, 420, 421, 422, 423, 424, 425, 426, 427, 428, 429, 430, 431, 432] (by decide +kernel)
theorem wl_10 : ∀ w ∈ wsL_law0_r11, w ∈ lw_tbl := mem_at [433, 434, 435, 436, 437, 438, 439, 440, 441, 442, 443, 444, 445, 446, 447, 448, 449, 450, 451, 452, 453, 454, 455, 456] (by decide +kernel)
theorem wl_11 : ∀ w ∈ wsL_law0_r12, w ∈ lw_tbl := mem_at [458, 460, 4, 461, 462, 463, 465, 5, 466, 865, 866, 867, 868, 869, 871, 11, 872, 873, 875, 12, 876, 877, 879, 13] (by decide +kernel)
theorem wl_12 : ∀ w ∈ wsL_law0_r13, w ∈ lw_tbl := mem_at [880, 881, 883, 14, 884, 885, 887, 15, 888, 467, 468, 469, 470, 471, 472, 473, 474, 475, 476, 477, 478, 479, 480, 481] (by decide +kernel)
theorem wl_13 : ∀ w ∈ wsL_law0_r14, w ∈ lw_tbl := mem_at [482, 484, 6, 485, 889, 890, 891, 892, 893, 895, 16, 896, 486, 487, 488, 489, 490, 491, 492, 493, 494, 495, 496, 897] (by decide +kernel)
theorem wl_14 : ∀ w ∈ wsL_law0_r15, w ∈ lw_tbl := mem_at [898, 899, 900, 901, 903, 17, 904, 498, 499, 500, 501, 502, 503, 504, 505, 506, 507, 508, 509, 510, 511, 512, 513, 514] (by decide +kernel)
theorem wl_15 : ∀ w ∈ wsL_law0_r16, w ∈ lw_tbl := mem_at [515, 516, 517, 519, 520, 521, 522, 905, 906, 907, 908, 524, 525, 526, 527, 528, 529, 530, 531, 909, 910, 911, 912, 532] (by decide +kernel)
theorem wl_16 : ∀ w ∈ wsL_law0_r17, w ∈ lw_tbl := mem_at [533, 534, 535, 536, 537, 538, 913, 914, 915, 916, 539, 540, 541, 542, 543, 544, 545, 917, 918, 919, 920, 546, 547, 548] (by decide +kernel)
theorem wl_17 : ∀ w ∈ wsL_law0_r18, w ∈ lw_tbl := mem_at [549, 550, 551, 552, 553, 554, 555, 556, 557, 558, 559, 560, 921, 922, 923, 924, 561, 562, 563, 564, 565, 566, 567, 568] (by decide +kernel)
theorem wl_18 : ∀ w ∈ wsL_law0_r19, w ∈ lw_tbl := mem_at [569, 570, 571, 574, 575, 576, 577, 925, 926, 927, 928, 578, 579, 580, 581, 582, 583, 584, 585, 586, 587, 588, 589, 590] (by decide +kernel)
theorem wl_19 : ∀ w ∈ wsL_law0_r20, w ∈ lw_tbl := mem_at [591, 592, 175, 178, 593, 594, 595, 596, 597, 172, 176, 598, 599, 600, 601, 929, 930, 931, 932, 933, 935, 18, 936, 937] (by decide +kernel)
theorem wl_20 : ∀ w ∈ wsL_law0_r21, w ∈ lw_tbl := mem_at [939, 19, 940, 603, 604, 605, 606, 607, 608, 609, 610, 611, 612, 613, 614, 615, 616, 617, 941, 942, 943, 944, 620, 621] (by decide +kernel)
theorem wl_21 : ∀ w ∈ wsL_law0_r22, w ∈ lw_tbl := mem_at [622, 623, 624, 625, 626, 945, 946, 947, 948, 627, 628, 629, 630, 631, 632, 633, 634, 635, 636, 637, 638, 639, 640, 641] (by decide +kernel)
theorem wl_22 : ∀ w ∈ wsL_law0_r23, w ∈ lw_tbl := mem_at [195, 197, 198, 201, 202, 203, 949, 950, 951, 952, 642, 643, 644, 645, 646, 647, 648, 649, 654, 39, 650, 651, 652, 653] (by decide +kernel)
theorem wl_23 : ∀ w ∈ wsL_law0_r24, w ∈ lw_tbl := mem_at [670, 671, 672, 673, 674, 675, 676, 677, 678, 679, 680, 681, 682, 953, 954, 955, 956, 683, 684, 685, 686, 687, 688, 689] (by decide +kernel)
theorem wl_24 : ∀ w ∈ wsL_law0_r25, w ∈ lw_tbl := mem_at [690, 691, 692, 693, 694, 696, 697, 698, 699, 700, 701, 702, 703, 704, 705, 706, 707, 957, 958, 959, 960, 708, 709, 710] (by decide +kernel)
theorem wl_25 : ∀ w ∈ wsL_law0_r26, w ∈ lw_tbl := mem_at [711, 712, 713, 714, 715, 716, 717, 718, 720, 721, 722, 723, 724, 726, 7, 727, 729, 730, 731, 732, 733, 735, 8, 736] (by decide +kernel)
theorem wl_26 : ∀ w ∈ wsL_law0_r27, w ∈ lw_tbl := mem_at [737, 738, 739, 740, 961, 962, 963, 964, 741, 742, 743, 744, 745, 746, 747, 749, 750, 751, 752, 753, 965, 966, 967, 968] (by decide +kernel)
theorem wl_27 : ∀ w ∈ wsL_law0_r28, w ∈ lw_tbl := mem_at [754, 755, 756, 757, 758, 759, 760, 969, 970, 971, 972, 761, 762, 763, 764, 765, 766, 767, 768, 769, 770, 771, 772, 773] (by decide +kernel)
theorem wl_28 : ∀ w ∈ wsL_law0_r29, w ∈ lw_tbl := mem_at [774, 775, 776, 778, 9, 779, 780, 782, 783, 784, 785, 786, 787, 788, 789, 790, 973, 974, 975, 976] (by decide +kernel)
theorem wl_29 : ∀ w ∈ wsX100, w ∈ lw_tbl := mem_at [235, 237] (by decide +kernel)
theorem wl_30 : ∀ w ∈ wsX110, w ∈ lw_tbl := mem_at [814, 816, 818, 820, 822, 824, 826, 828, 830, 832, 834, 836, 838, 840, 842, 844, 846] (by decide +kernel)
theorem wl_31 : ∀ w ∈ wsX00, w ∈ lw_tbl := mem_at [] (by decide +kernel)
theorem wl_32 : ∀ w ∈ wsX40, w ∈ lw_tbl := mem_at [] (by decide +kernel)
theorem wl_33 : ∀ w ∈ wsX10, w ∈ lw_tbl := mem_at [] (by decide +kernel)
theorem wl_34 : ∀ w ∈ wsX20, w ∈ lw_tbl := mem_at [] (by decide +kernel)
theorem wl_35 : ∀ w ∈ wsX60, w ∈ lw_tbl := mem_at [224, 226, 228, 230] (by decide +kernel)
theorem wl_36 : ∀ w ∈ wsX80, w ∈ lw_tbl := mem_at [133, 135, 137, 139, 141, 143, 145, 147, 149, 151, 153, 155, 157, 159, 161] (by decide +kernel)
theorem wl_37 : ∀ w ∈ wsX70, w ∈ lw_tbl := mem_at [180, 182, 184, 186] (by decide +kernel)
theorem wl_38 : ∀ w ∈ wsX90, w ∈ lw_tbl := mem_at [204, 206, 208, 210, 212, 214, 216] (by decide +kernel)
theorem wl_39 : ∀ w ∈ (vx_atS RX10 48 "java/lang/IllegalArgumentException" ["java/lang/RuntimeException", "java/lang/Exception"]).filter goodWord, w ∈ lw_tbl := mem_at [33, 277, 286, 290, 293, 295, 278, 279, 46, 47, 280, 285, 291, 311, 267, 312, 269, 313, 271, 281, 283, 273, 307, 308, 310, 273, 298, 299, 300, 301, 301, 302, 303, 304, 304, 305, 306, 307, 297, 256, 264, 265, 266, 268, 270, 272, 276, 275, 274] (by decide +kernel)
theorem wl_40 : ∀ w ∈ (vx_atS RX6 64 "java/lang/IndexOutOfBoundsException" ["java/lang/RuntimeException", "java/lang/Exception"]).filter goodWord, w ∈ lw_tbl := mem_at [33, 277, 286, 290, 293, 295, 278, 279, 46, 47, 280, 285, 291, 311, 267, 312, 269, 313, 271, 281, 283, 273, 307, 308, 310, 273, 366, 367, 368, 301, 301, 302, 303, 304, 304, 305, 306, 307, 365, 356, 358, 289, 359, 360, 361, 362, 276, 275, 363] (by decide +kernel)
theorem wl_41 : ∀ w ∈ (vx_atS RX10 120 "java/lang/IllegalStateException" ["java/lang/RuntimeException", "java/lang/Exception"]).filter goodWord, w ∈ lw_tbl := mem_at [33, 277, 286, 290, 293, 295, 278, 279, 46, 47, 280, 285, 291, 311, 267, 312, 269, 313, 271, 281, 283, 273, 307, 308, 310, 273, 665, 666, 667, 301, 301, 302, 303, 304, 304, 305, 306, 307, 664, 655, 657, 288, 658, 659, 660, 661, 276, 275, 662] (by decide +kernel)
theorem wsL_law_in0 : ∀ w ∈ wsL_law0, w ∈ lw_tbl := by
  unfold wsL_law0
  exact List.forall_mem_append.mpr ⟨List.forall_mem_append.mpr ⟨List.forall_mem_append.mpr ⟨List.forall_mem_append.mpr ⟨List.forall_mem_append.mpr ⟨List.forall_mem_append.mpr ⟨List.forall_mem_append.mpr ⟨List.forall_mem_append.mpr ⟨List.forall_mem_append.mpr ⟨List.forall_mem_append.mpr ⟨List.forall_mem_append.mpr ⟨List.forall_mem_append.mpr ⟨wl_0, List.forall_mem_append.mpr ⟨wl_1, List.forall_mem_append.mpr ⟨wl_2, List.forall_mem_append.mpr ⟨wl_3, List.forall_mem_append.mpr ⟨wl_4, List.forall_mem_append.mpr ⟨wl_5, List.forall_mem_append.mpr ⟨wl_6, List.forall_mem_append.mpr ⟨wl_7, List.forall_mem_append.mpr ⟨wl_8, List.forall_mem_append.mpr ⟨wl_9, List.forall_mem_append.mpr ⟨wl_10, List.forall_mem_append.mpr ⟨wl_11, List.forall_mem_append.mpr ⟨wl_12, List.forall_mem_append.mpr ⟨wl_13, List.forall_mem_append.mpr ⟨wl_14, List.forall_mem_append.mpr ⟨wl_15, List.forall_mem_append.mpr ⟨wl_16, List.forall_mem_append.mpr ⟨wl_17, List.forall_mem_append.mpr ⟨wl_18, List.forall_mem_append.mpr ⟨wl_19, List.forall_mem_append.mpr ⟨wl_20, List.forall_mem_append.mpr ⟨wl_21, List.forall_mem_append.mpr ⟨wl_22, List.forall_mem_append.mpr ⟨wl_23, List.forall_mem_append.mpr ⟨wl_24, List.forall_mem_append.mpr ⟨wl_25, List.forall_mem_append.mpr ⟨wl_26, List.forall_mem_append.mpr ⟨wl_27, wl_28⟩⟩⟩⟩⟩⟩⟩⟩⟩⟩⟩⟩⟩⟩⟩⟩⟩⟩⟩⟩⟩⟩⟩⟩⟩⟩⟩⟩, wl_29⟩, wl_30⟩, wl_31⟩, wl_32⟩, wl_33⟩, wl_34⟩, wl_35⟩, wl_36⟩, wl_37⟩, wl_38⟩, fun _ h => absurd h List.not_mem_nil⟩
theorem wsL_law_in : ∀ w ∈ wsL_law, w ∈ lw_tbl := by
  unfold wsL_law
  exact List.forall_mem_append.mpr ⟨List.forall_mem_append.mpr ⟨List.forall_mem_append.mpr ⟨wsL_law_in0, wl_39⟩, wl_40⟩, wl_41⟩
