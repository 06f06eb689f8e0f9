-- ByTwoSides.settle of X0
set_option maxHeartbeats 4000000 in
set_option maxRecDepth 100000 in
theorem c_X3_settle_X0 (l : Launch) (D : va_G) (ca : Nat → ClassId) (kq a : Nat → Nat) (sz : Nat) (ky vl : Nat → Int32) (lf rt : Nat → Nat) (ct ht : Nat → Int32) (tt : Nat → Int64) (sp pa ro : Nat → Nat) (ss dp rn : Nat) (od : Int32) (kd : Nat) (x : Nat) (hlf : ∀ k, lf k ≤ 60) (hrt : ∀ k, rt k ≤ 60) (hsp : ∀ k, sp k ≤ 60) (hpa : ∀ k, pa k ≤ 60) (hro : ∀ k, ro k ≤ 60) (hrn : rn ≤ 60) (hkd : kd < 4) (hx60 : x ≤ 60): Met l yX3_settle wsX3_settle ({ frames := 2, cells := 0, slots := 0, locals := 45 } : Room) (xPc D (TY ca) [.ref (kq 0), .ref (a 0), .int (nI x)] ((wKd kq) ++ (wT ca kq a (ky, vl, lf, rt, ct, ht, tt, sp, pa, ro, ss, dp, rn, od, kd))) sz) (va_Qi (fun (r : Int32) (u : TS) => r = nI (f_settle2 false (ky, vl, lf, rt, ct, ht, tt, sp, pa, ro, ss, dp, rn, od, kd) x).1 ∧ u = (f_settle2 false (ky, vl, lf, rt, ct, ht, tt, sp, pa, ro, ss, dp, rn, od, kd) x).2) (xB D (fun t : TS => (wKd kq) ++ (wT ca kq a t)) (va_A ((wKd kq) ++ (wT ca kq a (ky, vl, lf, rt, ct, ht, tt, sp, pa, ro, ss, dp, rn, od, kd))) sz)) (va_A ((wKd kq) ++ (wT ca kq a (ky, vl, lf, rt, ct, ht, tt, sp, pa, ro, ss, dp, rn, od, kd))) sz)) 0 0 (va_A ((wKd kq) ++ (wT ca kq a (ky, vl, lf, rt, ct, ht, tt, sp, pa, ro, ss, dp, rn, od, kd))) sz) := by
  refine Met.ofW (cc := cX3_settle) (maxL := 5) (ret := (some .int)) (by decide) rfl ?_
  intro p e s m args below meth c s₁ B hml hv
  obtain ⟨rfl, hsz, hP, hKN, hD0⟩ := hv
  have hx := B.exec
  have hb := B.bytes
  have hr := B.returns
  have hts := atoms_spec (ws := wsX3_settle) B.pre
  have hown : s.vm.findClass RX3 = some m.cls := findClass_of_methodNamed B.named
  have hlocks := B.notSynchronized
  have inX8 : ∀ w ∈ wsX80, w ∈ wsX3_settle := by decide +kernel
  subst hsz
  have hD := hD0.self (sz := s.heap.size)
  generalize hAe : va_A ((wKd kq) ++ (wT ca kq a (ky, vl, lf, rt, ct, ht, tt, sp, pa, ro, ss, dp, rn, od, kd))) s.heap.size = A at hD ⊢
  have hA : ∀ q : Nat, s.heap.size ≤ q → A q := fun q h => by rw [← hAe]; exact Or.inr h
  have hS : va_S A s.heap s.heap [] := va_S.rf
  have hl := lv_entry ([.ref (kq 0), .ref (a 0), .int (nI x)]) (n := 5) (Nat.le_of_ble_eq_true rfl)
  rw [lg_entry_eq]
  generalize (lg_sl ([.ref (kq 0), .ref (a 0), .int (nI x)]) ++ List.replicate (5 - (lg_sl ([.ref (kq 0), .ref (a 0), .int (nI x)])).length) Slot.unset).toArray = ls at hl ⊢
  have hl : lv_has ls 5 [(0, .ref (kq 0)), (1, .ref (a 0)), (2, .int (nI x))] := hl
  refine lv_aload_n hx hb dX3_settle_0 rfl (lv_at hl 1 rfl) ?_
  refine va_getN (D := D) (ci := 6) (v := .ref (a 3)) (C := RX8) (T := TX8) (N := 15) hx hb hts inX8 hown hKN.1 hP 4 rfl rfl 2 (by decide) (va_Nw.use rfl (NW.f hKN.2 (a := RX3) (i := 7) (b := "TreeFamily$Tree") (n := "left") (d := "[I") (g := "TreeFamily") (by decide +kernel))) (fun _ h9 => h9) rfl dX3_settle_1 ?_
  refine lv_iload_n hx hb dX3_settle_4 rfl (lv_at hl 2 rfl) ?_
  refine xr_ild hx hb hKN.1 hP 7 0 rfl rfl (j := x) (Nat.lt_of_le_of_lt hx60 (by decide)) (by decide) dX3_settle_5 ?_
  refine lv_istore_n (lv' := [(3, .int (nI (lf x))), (0, .ref (kq 0)), (1, .ref (a 0)), (2, .int (nI x))]) hx hb dX3_settle_6 rfl hl (by decide) rfl (fun ls hl => ?_)
  refine lv_aload_n hx hb dX3_settle_7 rfl (lv_at hl 2 rfl) ?_
  refine va_getN (D := D) (ci := 6) (v := .ref (a 4)) (C := RX8) (T := TX8) (N := 15) hx hb hts inX8 hown hKN.1 hP 4 rfl rfl 3 (by decide) (va_Nw.use rfl (NW.f hKN.2 (a := RX3) (i := 13) (b := "TreeFamily$Tree") (n := "right") (d := "[I") (g := "TreeFamily") (by decide +kernel))) (fun _ h9 => h9) rfl dX3_settle_8 ?_
  refine lv_iload_n hx hb dX3_settle_11 rfl (lv_at hl 3 rfl) ?_
  refine xr_ild hx hb hKN.1 hP 8 0 rfl rfl (j := x) (Nat.lt_of_le_of_lt hx60 (by decide)) (by decide) dX3_settle_12 ?_
  refine lv_istore (lv' := [(4, .int (nI (rt x))), (3, .int (nI (lf x))), (0, .ref (kq 0)), (1, .ref (a 0)), (2, .int (nI x))]) hx hb dX3_settle_13 hl (by decide) rfl (fun ls hl => ?_)
  refine lv_aload_n hx hb dX3_settle_15 rfl (lv_at hl 2 rfl) ?_
  refine lv_aload_n hx hb dX3_settle_16 rfl (lv_at hl 3 rfl) ?_
  refine lv_iload_n hx hb dX3_settle_17 rfl (lv_at hl 1 rfl) ?_
  refine lv_iload hx hb dX3_settle_18 (lv_at hl 0 rfl) ?_
  refine xc_i (wr := wKd kq) (va_runU (As := [.ref (a 0), .int (nI (lf x)), .int (nI (rt x))]) (rest := []) ⟨hx, hb, hml, hown, hts⟩ (c_X0_isTooMuch l D ca kq a _ ky vl lf rt ct ht tt sp pa ro ss dp rn od kd (lf x) (rt x) hlf hrt hsp hpa hro hrn (hlf x) (hrt x)) (va_cwA 3 hts gX3_settle_X0_isTooMuch_u16X0 rfl rfl rfl (NW.d hKN.2 (by decide +kernel)) (by decide +kernel) ⟨(Nat.le_of_ble_eq_true rfl), (Nat.le_of_ble_eq_true rfl)⟩) (xPreV hKN hP hD [4, 5, 6, 7, 8, 9, 10, 11, 12, 13, 14] (by decide) rfl (q0 := 0) rfl rfl rfl) rfl rfl hl.1 rfl (lv_room (Nat.le_of_ble_eq_true rfl)) dX3_settle_20 ⟨(Nat.le_of_ble_eq_true rfl), (Nat.le_of_ble_eq_true rfl)⟩) hP hD hS hA [4, 5, 6, 7, 8, 9, 10, 11, 12, 13, 14] [0, 1, 2, 3] rfl rfl (by decide) (by decide) (fun r20 u20 H locs hu20 hP hD hS => ?_)
  obtain ⟨er20, eu20⟩ := hu20
  subst er20
  subst eu20
  have hP : va_P D vwCl ((wKd kq) ++ (wT ca kq a (ky, vl, lf, rt, ct, ht, tt, sp, pa, ro, ss, dp, rn, od, kd))) H := hP
  have hD : va_D A ((wKd kq) ++ (wT ca kq a (ky, vl, lf, rt, ct, ht, tt, sp, pa, ro, ss, dp, rn, od, kd))) := hD
  refine lv_if_eq (tgt := 63) hx hb dX3_settle_23 (by decide) (fun c23 => ?_) (fun c23 => ?_)
  · skip
    have c23 := bI_0.mp c23
    refine lv_aload_n hx hb dX3_settle_63 rfl (lv_at hl 2 rfl) ?_
    refine lv_aload_n hx hb dX3_settle_64 rfl (lv_at hl 3 rfl) ?_
    refine lv_iload hx hb dX3_settle_65 (lv_at hl 0 rfl) ?_
    refine lv_iload_n hx hb dX3_settle_67 rfl (lv_at hl 1 rfl) ?_
    refine xc_i (wr := wKd kq) (va_runU (As := [.ref (a 0), .int (nI (rt x)), .int (nI (lf x))]) (rest := []) ⟨hx, hb, hml, hown, hts⟩ (c_X0_isTooMuch l D ca kq a _ ky vl lf rt ct ht tt sp pa ro ss dp rn od kd (rt x) (lf x) hlf hrt hsp hpa hro hrn (hrt x) (hlf x)) (va_cwA 3 hts gX3_settle_X0_isTooMuch_u16X0 rfl rfl rfl (NW.d hKN.2 (by decide +kernel)) (by decide +kernel) ⟨(Nat.le_of_ble_eq_true rfl), (Nat.le_of_ble_eq_true rfl)⟩) (xPreV hKN hP hD [4, 5, 6, 7, 8, 9, 10, 11, 12, 13, 14] (by decide) rfl (q0 := 0) rfl rfl rfl) rfl rfl hl.1 rfl (lv_room (Nat.le_of_ble_eq_true rfl)) dX3_settle_68 ⟨(Nat.le_of_ble_eq_true rfl), (Nat.le_of_ble_eq_true rfl)⟩) hP hD hS hA [4, 5, 6, 7, 8, 9, 10, 11, 12, 13, 14] [0, 1, 2, 3] rfl rfl (by decide) (by decide) (fun r68 u68 H locs hu68 hP hD hS => ?_)
    obtain ⟨er68, eu68⟩ := hu68
    subst er68
    subst eu68
    have hP : va_P D vwCl ((wKd kq) ++ (wT ca kq a (ky, vl, lf, rt, ct, ht, tt, sp, pa, ro, ss, dp, rn, od, kd))) H := hP
    have hD : va_D A ((wKd kq) ++ (wT ca kq a (ky, vl, lf, rt, ct, ht, tt, sp, pa, ro, ss, dp, rn, od, kd))) := hD
    refine lv_if_eq (tgt := 114) hx hb dX3_settle_71 (by decide) (fun c71 => ?_) (fun c71 => ?_)
    · skip
      have c71 := bI_0.mp c71
      refine lv_iload_n hx hb dX3_settle_114 rfl (lv_at hl 4 rfl) ?_
      exact W.iret (v := (nI x)) hx hb hr (fun t9 e9 w9 => ⟨⟨_, (ky, vl, lf, rt, ct, ht, tt, sp, pa, ro, ss, dp, rn, od, kd), rfl, ⟨congrArg nI (congrArg Prod.fst (show f_settle2 false (ky, vl, lf, rt, ct, ht, tt, sp, pa, ro, ss, dp, rn, od, kd) x = (x, (ky, vl, lf, rt, ct, ht, tt, sp, pa, ro, ss, dp, rn, od, kd)) from by unfold f_settle2; rw [if_neg (by rw [c23]; decide), if_neg (by rw [c71]; decide)])).symm, (congrArg Prod.snd (show f_settle2 false (ky, vl, lf, rt, ct, ht, tt, sp, pa, ro, ss, dp, rn, od, kd) x = (x, (ky, vl, lf, rt, ct, ht, tt, sp, pa, ro, ss, dp, rn, od, kd)) from by unfold f_settle2; rw [if_neg (by rw [c23]; decide), if_neg (by rw [c71]; decide)])).symm⟩, by rw [e9]; exact hP, hD⟩, hS.F e9⟩) hS.2.2 dX3_settle_115
    · skip
      have c71 := bI_ne.mp c71
      refine lv_aload_n hx hb dX3_settle_74 rfl (lv_at hl 2 rfl) ?_
      refine lv_aload_n hx hb dX3_settle_75 rfl (lv_at hl 3 rfl) ?_
      refine lv_aload_n hx hb dX3_settle_76 rfl (lv_at hl 3 rfl) ?_
      refine va_getN (D := D) (ci := 6) (v := .ref (a 3)) (C := RX8) (T := TX8) (N := 15) hx hb hts inX8 hown hKN.1 hP 4 rfl rfl 2 (by decide) (va_Nw.use rfl (NW.f hKN.2 (a := RX3) (i := 7) (b := "TreeFamily$Tree") (n := "left") (d := "[I") (g := "TreeFamily") (by decide +kernel))) (fun _ h9 => h9) rfl dX3_settle_77 ?_
      refine lv_iload hx hb dX3_settle_80 (lv_at hl 0 rfl) ?_
      refine xr_ild hx hb hKN.1 hP 7 0 rfl rfl (j := rt x) (Nat.lt_of_le_of_lt (hrt x) (by decide)) (by decide) dX3_settle_82 ?_
      refine lv_aload_n hx hb dX3_settle_83 rfl (lv_at hl 3 rfl) ?_
      refine va_getN (D := D) (ci := 6) (v := .ref (a 4)) (C := RX8) (T := TX8) (N := 15) hx hb hts inX8 hown hKN.1 hP 4 rfl rfl 3 (by decide) (va_Nw.use rfl (NW.f hKN.2 (a := RX3) (i := 13) (b := "TreeFamily$Tree") (n := "right") (d := "[I") (g := "TreeFamily") (by decide +kernel))) (fun _ h9 => h9) rfl dX3_settle_84 ?_
      refine lv_iload hx hb dX3_settle_87 (lv_at hl 0 rfl) ?_
      refine xr_ild hx hb hKN.1 hP 8 0 rfl rfl (j := rt x) (Nat.lt_of_le_of_lt (hrt x) (by decide)) (by decide) dX3_settle_89 ?_
      refine xc_i (wr := wKd kq) (va_runU (As := [.ref (a 0), .int (nI (lf (rt x))), .int (nI (rt (rt x)))]) (rest := []) ⟨hx, hb, hml, hown, hts⟩ (c_X0_hasToPart l D ca kq a _ ky vl lf rt ct ht tt sp pa ro ss dp rn od kd (lf (rt x)) (rt (rt x)) hlf hrt hsp hpa hro hrn (hlf (rt x)) (hrt (rt x))) (va_cwA 3 hts gX3_settle_X0_hasToPart_u22X0 rfl rfl rfl (NW.d hKN.2 (by decide +kernel)) (by decide +kernel) ⟨(Nat.le_of_ble_eq_true rfl), (Nat.le_of_ble_eq_true rfl)⟩) (xPreV hKN hP hD [4, 5, 6, 7, 8, 9, 10, 11, 12, 13, 14] (by decide) rfl (q0 := 0) rfl rfl rfl) rfl rfl hl.1 rfl (lv_room (Nat.le_of_ble_eq_true rfl)) dX3_settle_90 ⟨(Nat.le_of_ble_eq_true rfl), (Nat.le_of_ble_eq_true rfl)⟩) hP hD hS hA [4, 5, 6, 7, 8, 9, 10, 11, 12, 13, 14] [0, 1, 2, 3] rfl rfl (by decide) (by decide) (fun r90 u90 H locs hu90 hP hD hS => ?_)
      obtain ⟨er90, eu90⟩ := hu90
      subst er90
      subst eu90
      have hP : va_P D vwCl ((wKd kq) ++ (wT ca kq a (ky, vl, lf, rt, ct, ht, tt, sp, pa, ro, ss, dp, rn, od, kd))) H := hP
      have hD : va_D A ((wKd kq) ++ (wT ca kq a (ky, vl, lf, rt, ct, ht, tt, sp, pa, ro, ss, dp, rn, od, kd))) := hD
      refine lv_if_eq (tgt := 108) hx hb dX3_settle_93 (by decide) (fun c93 => ?_) (fun c93 => ?_)
      · skip
        have c93 := bI_0.mp c93
        refine lv_aload_n hx hb dX3_settle_108 rfl (lv_at hl 3 rfl) ?_
        refine lv_iload_n hx hb dX3_settle_109 rfl (lv_at hl 4 rfl) ?_
        refine xc_i (wr := wKd kq) (va_runV (As := [.int (nI x)]) (rest := []) ⟨hx, hb, hml, hown, hts⟩ (c_X8_raiseRight l D ca kq a _ ky vl lf rt ct ht tt sp pa ro ss dp rn od kd x hlf hrt hsp hpa hro hrn hx60) (cwV 1 hts gX3_settle_X8_raiseRight rfl rfl rfl (by decide +kernel) ⟨(Nat.le_of_ble_eq_true rfl), (Nat.le_of_ble_eq_true rfl)⟩) (xPreV hKN hP hD [4, 5, 6, 7, 8, 9, 10, 11, 12, 13, 14] (by decide) rfl (q0 := 4) rfl rfl rfl) rfl rfl hl.1 rfl (lv_room (Nat.le_of_ble_eq_true rfl)) dX3_settle_110 ⟨(Nat.le_of_ble_eq_true rfl), (Nat.le_of_ble_eq_true rfl)⟩) hP hD hS hA [4, 5, 6, 7, 8, 9, 10, 11, 12, 13, 14] [0, 1, 2, 3] rfl rfl (by decide) (by decide) (fun r110 u110 H locs hu110 hP hD hS => ?_)
        exact W.iret (v := r110) hx hb hr (fun t9 e9 w9 => ⟨⟨_, u110, rfl, by rw [show f_settle2 false (ky, vl, lf, rt, ct, ht, tt, sp, pa, ro, ss, dp, rn, od, kd) x = (TS.rt ((ky, vl, lf, rt, ct, ht, tt, sp, pa, ro, ss, dp, rn, od, kd)) x, f_raiseRight ((ky, vl, lf, rt, ct, ht, tt, sp, pa, ro, ss, dp, rn, od, kd)) x) from by unfold f_settle2; rw [if_neg (by rw [c23]; decide), if_pos c71]; dsimp only; rw [if_neg (by rw [c93]; decide)]]; exact hu110, by rw [e9]; exact hP, hD⟩, hS.F e9⟩) hS.2.2 dX3_settle_113
      · skip
        have c93 := bI_ne.mp c93
        refine lv_aload_n hx hb dX3_settle_96 rfl (lv_at hl 3 rfl) ?_
        refine va_getN (D := D) (ci := 6) (v := .ref (a 4)) (C := RX8) (T := TX8) (N := 15) hx hb hts inX8 hown hKN.1 hP 4 rfl rfl 3 (by decide) (va_Nw.use rfl (NW.f hKN.2 (a := RX3) (i := 13) (b := "TreeFamily$Tree") (n := "right") (d := "[I") (g := "TreeFamily") (by decide +kernel))) (fun _ h9 => h9) rfl dX3_settle_97 ?_
        refine lv_iload_n hx hb dX3_settle_100 rfl (lv_at hl 4 rfl) ?_
        refine lv_aload_n hx hb dX3_settle_101 rfl (lv_at hl 3 rfl) ?_
        refine lv_iload hx hb dX3_settle_102 (lv_at hl 0 rfl) ?_
        refine xc_i (wr := wKd kq) (va_runV (As := [.int (nI (rt x))]) (rest := [.int (nI x), .ref (a 4)]) ⟨hx, hb, hml, hown, hts⟩ (c_X8_raiseLeft l D ca kq a _ ky vl lf rt ct ht tt sp pa ro ss dp rn od kd (rt x) hlf hrt hsp hpa hro hrn (hrt x)) (cwV 1 hts gX3_settle_X8_raiseLeft rfl rfl rfl (by decide +kernel) ⟨(Nat.le_of_ble_eq_true rfl), (Nat.le_of_ble_eq_true rfl)⟩) (xPreV hKN hP hD [4, 5, 6, 7, 8, 9, 10, 11, 12, 13, 14] (by decide) rfl (q0 := 4) rfl rfl rfl) rfl rfl hl.1 rfl (lv_room (Nat.le_of_ble_eq_true rfl)) dX3_settle_104 ⟨(Nat.le_of_ble_eq_true rfl), (Nat.le_of_ble_eq_true rfl)⟩) hP hD hS hA [4, 5, 6, 7, 8, 9, 10, 11, 12, 13, 14] [0, 1, 2, 3] rfl rfl (by decide) (by decide) (fun r104 u104 H locs hu104 hP hD hS => ?_)
        obtain ⟨er104, eu104⟩ := hu104
        subst er104
        obtain ⟨ky_104, vl_104, lf_104, rt_104, ct_104, ht_104, tt_104, sp_104, pa_104, ro_104, ss_104, dp_104, rn_104, od_104, kd_104⟩ := u104
        obtain ⟨hlf_104, hrt_104, hsp_104, hpa_104, hro_104, hrn_104, hkd_104⟩ : WF (ky_104, vl_104, lf_104, rt_104, ct_104, ht_104, tt_104, sp_104, pa_104, ro_104, ss_104, dp_104, rn_104, od_104, kd_104) := by rw [eu104]; exact wf_raiseLeft (⟨hlf, hrt, hsp, hpa, hro, hrn, hkd⟩ : WF (ky, vl, lf, rt, ct, ht, tt, sp, pa, ro, ss, dp, rn, od, kd)) (hrt x)
        have hP : va_P D vwCl ((wKd kq) ++ (wT ca kq a (ky_104, vl_104, lf_104, rt_104, ct_104, ht_104, tt_104, sp_104, pa_104, ro_104, ss_104, dp_104, rn_104, od_104, kd_104))) H := hP
        have hD : va_D A ((wKd kq) ++ (wT ca kq a (ky_104, vl_104, lf_104, rt_104, ct_104, ht_104, tt_104, sp_104, pa_104, ro_104, ss_104, dp_104, rn_104, od_104, kd_104))) := hD
        refine xr_nst hx hb hKN.1 hP hD hS 8 0 (g := rt_104) rfl rfl (j := x) (v := lf (rt x)) (Nat.lt_of_le_of_lt hx60 (by decide)) (by decide) dX3_settle_107 (fun H locs hP hD hS => ?_)
        have hP : va_P D vwCl ((wKd kq) ++ (wT ca kq a (ky_104, vl_104, lf_104, (va_up rt_104 x (lf (rt x))), ct_104, ht_104, tt_104, sp_104, pa_104, ro_104, ss_104, dp_104, rn_104, od_104, kd_104))) H := hP
        have hD : va_D A ((wKd kq) ++ (wT ca kq a (ky_104, vl_104, lf_104, (va_up rt_104 x (lf (rt x))), ct_104, ht_104, tt_104, sp_104, pa_104, ro_104, ss_104, dp_104, rn_104, od_104, kd_104))) := hD
        refine lv_aload_n hx hb dX3_settle_108 rfl (lv_at hl 3 rfl) ?_
        refine lv_iload_n hx hb dX3_settle_109 rfl (lv_at hl 4 rfl) ?_
        refine xc_i (wr := wKd kq) (va_runV (As := [.int (nI x)]) (rest := []) ⟨hx, hb, hml, hown, hts⟩ (c_X8_raiseRight l D ca kq a _ ky_104 vl_104 lf_104 (va_up rt_104 x (lf (rt x))) ct_104 ht_104 tt_104 sp_104 pa_104 ro_104 ss_104 dp_104 rn_104 od_104 kd_104 x hlf_104 (vu_le hrt_104 (hlf (rt x))) hsp_104 hpa_104 hro_104 hrn_104 hx60) (cwV 1 hts gX3_settle_X8_raiseRight rfl rfl rfl (by decide +kernel) ⟨(Nat.le_of_ble_eq_true rfl), (Nat.le_of_ble_eq_true rfl)⟩) (xPreV hKN hP hD [4, 5, 6, 7, 8, 9, 10, 11, 12, 13, 14] (by decide) rfl (q0 := 4) rfl rfl rfl) rfl rfl hl.1 rfl (lv_room (Nat.le_of_ble_eq_true rfl)) dX3_settle_110 ⟨(Nat.le_of_ble_eq_true rfl), (Nat.le_of_ble_eq_true rfl)⟩) hP hD hS hA [4, 5, 6, 7, 8, 9, 10, 11, 12, 13, 14] [0, 1, 2, 3] rfl rfl (by decide) (by decide) (fun r110 u110 H locs hu110 hP hD hS => ?_)
        exact W.iret (v := r110) hx hb hr (fun t9 e9 w9 => ⟨⟨_, u110, rfl, by rw [show f_settle2 false (ky, vl, lf, rt, ct, ht, tt, sp, pa, ro, ss, dp, rn, od, kd) x = (TS.rt (setRt (f_raiseLeft (ky, vl, lf, rt, ct, ht, tt, sp, pa, ro, ss, dp, rn, od, kd) (rt x)) x (lf (rt x))) x, f_raiseRight (setRt (f_raiseLeft (ky, vl, lf, rt, ct, ht, tt, sp, pa, ro, ss, dp, rn, od, kd) (rt x)) x (lf (rt x))) x) from by unfold f_settle2; rw [if_neg (by rw [c23]; decide), if_pos c71]; dsimp only; rw [if_pos c93]]; rw [← eu104]; exact hu110, by rw [e9]; exact hP, hD⟩, hS.F e9⟩) hS.2.2 dX3_settle_113
  · skip
    have c23 := bI_ne.mp c23
    refine lv_aload_n hx hb dX3_settle_26 rfl (lv_at hl 2 rfl) ?_
    refine lv_aload_n hx hb dX3_settle_27 rfl (lv_at hl 3 rfl) ?_
    refine lv_aload_n hx hb dX3_settle_28 rfl (lv_at hl 3 rfl) ?_
    refine va_getN (D := D) (ci := 6) (v := .ref (a 4)) (C := RX8) (T := TX8) (N := 15) hx hb hts inX8 hown hKN.1 hP 4 rfl rfl 3 (by decide) (va_Nw.use rfl (NW.f hKN.2 (a := RX3) (i := 13) (b := "TreeFamily$Tree") (n := "right") (d := "[I") (g := "TreeFamily") (by decide +kernel))) (fun _ h9 => h9) rfl dX3_settle_29 ?_
    refine lv_iload_n hx hb dX3_settle_32 rfl (lv_at hl 1 rfl) ?_
    refine xr_ild hx hb hKN.1 hP 8 0 rfl rfl (j := lf x) (Nat.lt_of_le_of_lt (hlf x) (by decide)) (by decide) dX3_settle_33 ?_
    refine lv_aload_n hx hb dX3_settle_34 rfl (lv_at hl 3 rfl) ?_
    refine va_getN (D := D) (ci := 6) (v := .ref (a 3)) (C := RX8) (T := TX8) (N := 15) hx hb hts inX8 hown hKN.1 hP 4 rfl rfl 2 (by decide) (va_Nw.use rfl (NW.f hKN.2 (a := RX3) (i := 7) (b := "TreeFamily$Tree") (n := "left") (d := "[I") (g := "TreeFamily") (by decide +kernel))) (fun _ h9 => h9) rfl dX3_settle_35 ?_
    refine lv_iload_n hx hb dX3_settle_38 rfl (lv_at hl 1 rfl) ?_
    refine xr_ild hx hb hKN.1 hP 7 0 rfl rfl (j := lf x) (Nat.lt_of_le_of_lt (hlf x) (by decide)) (by decide) dX3_settle_39 ?_
    refine xc_i (wr := wKd kq) (va_runU (As := [.ref (a 0), .int (nI (rt (lf x))), .int (nI (lf (lf x)))]) (rest := []) ⟨hx, hb, hml, hown, hts⟩ (c_X0_hasToPart l D ca kq a _ ky vl lf rt ct ht tt sp pa ro ss dp rn od kd (rt (lf x)) (lf (lf x)) hlf hrt hsp hpa hro hrn (hrt (lf x)) (hlf (lf x))) (va_cwA 3 hts gX3_settle_X0_hasToPart_u22X0 rfl rfl rfl (NW.d hKN.2 (by decide +kernel)) (by decide +kernel) ⟨(Nat.le_of_ble_eq_true rfl), (Nat.le_of_ble_eq_true rfl)⟩) (xPreV hKN hP hD [4, 5, 6, 7, 8, 9, 10, 11, 12, 13, 14] (by decide) rfl (q0 := 0) rfl rfl rfl) rfl rfl hl.1 rfl (lv_room (Nat.le_of_ble_eq_true rfl)) dX3_settle_40 ⟨(Nat.le_of_ble_eq_true rfl), (Nat.le_of_ble_eq_true rfl)⟩) hP hD hS hA [4, 5, 6, 7, 8, 9, 10, 11, 12, 13, 14] [0, 1, 2, 3] rfl rfl (by decide) (by decide) (fun r40 u40 H locs hu40 hP hD hS => ?_)
    obtain ⟨er40, eu40⟩ := hu40
    subst er40
    subst eu40
    have hP : va_P D vwCl ((wKd kq) ++ (wT ca kq a (ky, vl, lf, rt, ct, ht, tt, sp, pa, ro, ss, dp, rn, od, kd))) H := hP
    have hD : va_D A ((wKd kq) ++ (wT ca kq a (ky, vl, lf, rt, ct, ht, tt, sp, pa, ro, ss, dp, rn, od, kd))) := hD
    refine lv_if_eq (tgt := 57) hx hb dX3_settle_43 (by decide) (fun c43 => ?_) (fun c43 => ?_)
    · skip
      have c43 := bI_0.mp c43
      refine lv_aload_n hx hb dX3_settle_57 rfl (lv_at hl 3 rfl) ?_
      refine lv_iload_n hx hb dX3_settle_58 rfl (lv_at hl 4 rfl) ?_
      refine xc_i (wr := wKd kq) (va_runV (As := [.int (nI x)]) (rest := []) ⟨hx, hb, hml, hown, hts⟩ (c_X8_raiseLeft l D ca kq a _ ky vl lf rt ct ht tt sp pa ro ss dp rn od kd x hlf hrt hsp hpa hro hrn hx60) (cwV 1 hts gX3_settle_X8_raiseLeft rfl rfl rfl (by decide +kernel) ⟨(Nat.le_of_ble_eq_true rfl), (Nat.le_of_ble_eq_true rfl)⟩) (xPreV hKN hP hD [4, 5, 6, 7, 8, 9, 10, 11, 12, 13, 14] (by decide) rfl (q0 := 4) rfl rfl rfl) rfl rfl hl.1 rfl (lv_room (Nat.le_of_ble_eq_true rfl)) dX3_settle_59 ⟨(Nat.le_of_ble_eq_true rfl), (Nat.le_of_ble_eq_true rfl)⟩) hP hD hS hA [4, 5, 6, 7, 8, 9, 10, 11, 12, 13, 14] [0, 1, 2, 3] rfl rfl (by decide) (by decide) (fun r59 u59 H locs hu59 hP hD hS => ?_)
      exact W.iret (v := r59) hx hb hr (fun t9 e9 w9 => ⟨⟨_, u59, rfl, by rw [show f_settle2 false (ky, vl, lf, rt, ct, ht, tt, sp, pa, ro, ss, dp, rn, od, kd) x = (TS.lf ((ky, vl, lf, rt, ct, ht, tt, sp, pa, ro, ss, dp, rn, od, kd)) x, f_raiseLeft ((ky, vl, lf, rt, ct, ht, tt, sp, pa, ro, ss, dp, rn, od, kd)) x) from by unfold f_settle2; rw [if_pos c23]; dsimp only; rw [if_neg (by rw [c43]; decide)]]; exact hu59, by rw [e9]; exact hP, hD⟩, hS.F e9⟩) hS.2.2 dX3_settle_62
    · skip
      have c43 := bI_ne.mp c43
      refine lv_aload_n hx hb dX3_settle_46 rfl (lv_at hl 3 rfl) ?_
      refine va_getN (D := D) (ci := 6) (v := .ref (a 3)) (C := RX8) (T := TX8) (N := 15) hx hb hts inX8 hown hKN.1 hP 4 rfl rfl 2 (by decide) (va_Nw.use rfl (NW.f hKN.2 (a := RX3) (i := 7) (b := "TreeFamily$Tree") (n := "left") (d := "[I") (g := "TreeFamily") (by decide +kernel))) (fun _ h9 => h9) rfl dX3_settle_47 ?_
      refine lv_iload_n hx hb dX3_settle_50 rfl (lv_at hl 4 rfl) ?_
      refine lv_aload_n hx hb dX3_settle_51 rfl (lv_at hl 3 rfl) ?_
      refine lv_iload_n hx hb dX3_settle_52 rfl (lv_at hl 1 rfl) ?_
      refine xc_i (wr := wKd kq) (va_runV (As := [.int (nI (lf x))]) (rest := [.int (nI x), .ref (a 3)]) ⟨hx, hb, hml, hown, hts⟩ (c_X8_raiseRight l D ca kq a _ ky vl lf rt ct ht tt sp pa ro ss dp rn od kd (lf x) hlf hrt hsp hpa hro hrn (hlf x)) (cwV 1 hts gX3_settle_X8_raiseRight rfl rfl rfl (by decide +kernel) ⟨(Nat.le_of_ble_eq_true rfl), (Nat.le_of_ble_eq_true rfl)⟩) (xPreV hKN hP hD [4, 5, 6, 7, 8, 9, 10, 11, 12, 13, 14] (by decide) rfl (q0 := 4) rfl rfl rfl) rfl rfl hl.1 rfl (lv_room (Nat.le_of_ble_eq_true rfl)) dX3_settle_53 ⟨(Nat.le_of_ble_eq_true rfl), (Nat.le_of_ble_eq_true rfl)⟩) hP hD hS hA [4, 5, 6, 7, 8, 9, 10, 11, 12, 13, 14] [0, 1, 2, 3] rfl rfl (by decide) (by decide) (fun r53 u53 H locs hu53 hP hD hS => ?_)
      obtain ⟨er53, eu53⟩ := hu53
      subst er53
      obtain ⟨ky_53, vl_53, lf_53, rt_53, ct_53, ht_53, tt_53, sp_53, pa_53, ro_53, ss_53, dp_53, rn_53, od_53, kd_53⟩ := u53
      obtain ⟨hlf_53, hrt_53, hsp_53, hpa_53, hro_53, hrn_53, hkd_53⟩ : WF (ky_53, vl_53, lf_53, rt_53, ct_53, ht_53, tt_53, sp_53, pa_53, ro_53, ss_53, dp_53, rn_53, od_53, kd_53) := by rw [eu53]; exact wf_raiseRight (⟨hlf, hrt, hsp, hpa, hro, hrn, hkd⟩ : WF (ky, vl, lf, rt, ct, ht, tt, sp, pa, ro, ss, dp, rn, od, kd)) (hlf x)
      have hP : va_P D vwCl ((wKd kq) ++ (wT ca kq a (ky_53, vl_53, lf_53, rt_53, ct_53, ht_53, tt_53, sp_53, pa_53, ro_53, ss_53, dp_53, rn_53, od_53, kd_53))) H := hP
      have hD : va_D A ((wKd kq) ++ (wT ca kq a (ky_53, vl_53, lf_53, rt_53, ct_53, ht_53, tt_53, sp_53, pa_53, ro_53, ss_53, dp_53, rn_53, od_53, kd_53))) := hD
      refine xr_nst hx hb hKN.1 hP hD hS 7 0 (g := lf_53) rfl rfl (j := x) (v := rt (lf x)) (Nat.lt_of_le_of_lt hx60 (by decide)) (by decide) dX3_settle_56 (fun H locs hP hD hS => ?_)
      have hP : va_P D vwCl ((wKd kq) ++ (wT ca kq a (ky_53, vl_53, (va_up lf_53 x (rt (lf x))), rt_53, ct_53, ht_53, tt_53, sp_53, pa_53, ro_53, ss_53, dp_53, rn_53, od_53, kd_53))) H := hP
      have hD : va_D A ((wKd kq) ++ (wT ca kq a (ky_53, vl_53, (va_up lf_53 x (rt (lf x))), rt_53, ct_53, ht_53, tt_53, sp_53, pa_53, ro_53, ss_53, dp_53, rn_53, od_53, kd_53))) := hD
      refine lv_aload_n hx hb dX3_settle_57 rfl (lv_at hl 3 rfl) ?_
      refine lv_iload_n hx hb dX3_settle_58 rfl (lv_at hl 4 rfl) ?_
      refine xc_i (wr := wKd kq) (va_runV (As := [.int (nI x)]) (rest := []) ⟨hx, hb, hml, hown, hts⟩ (c_X8_raiseLeft l D ca kq a _ ky_53 vl_53 (va_up lf_53 x (rt (lf x))) rt_53 ct_53 ht_53 tt_53 sp_53 pa_53 ro_53 ss_53 dp_53 rn_53 od_53 kd_53 x (vu_le hlf_53 (hrt (lf x))) hrt_53 hsp_53 hpa_53 hro_53 hrn_53 hx60) (cwV 1 hts gX3_settle_X8_raiseLeft rfl rfl rfl (by decide +kernel) ⟨(Nat.le_of_ble_eq_true rfl), (Nat.le_of_ble_eq_true rfl)⟩) (xPreV hKN hP hD [4, 5, 6, 7, 8, 9, 10, 11, 12, 13, 14] (by decide) rfl (q0 := 4) rfl rfl rfl) rfl rfl hl.1 rfl (lv_room (Nat.le_of_ble_eq_true rfl)) dX3_settle_59 ⟨(Nat.le_of_ble_eq_true rfl), (Nat.le_of_ble_eq_true rfl)⟩) hP hD hS hA [4, 5, 6, 7, 8, 9, 10, 11, 12, 13, 14] [0, 1, 2, 3] rfl rfl (by decide) (by decide) (fun r59 u59 H locs hu59 hP hD hS => ?_)
      exact W.iret (v := r59) hx hb hr (fun t9 e9 w9 => ⟨⟨_, u59, rfl, by rw [show f_settle2 false (ky, vl, lf, rt, ct, ht, tt, sp, pa, ro, ss, dp, rn, od, kd) x = (TS.lf (setLf (f_raiseRight (ky, vl, lf, rt, ct, ht, tt, sp, pa, ro, ss, dp, rn, od, kd) (lf x)) x (rt (lf x))) x, f_raiseLeft (setLf (f_raiseRight (ky, vl, lf, rt, ct, ht, tt, sp, pa, ro, ss, dp, rn, od, kd) (lf x)) x (rt (lf x))) x) from by unfold f_settle2; rw [if_pos c23]; dsimp only; rw [if_pos c43]]; rw [← eu53]; exact hu59, by rw [e9]; exact hP, hD⟩, hS.F e9⟩) hS.2.2 dX3_settle_62

-- ByTwoSides.suits of X0
set_option maxHeartbeats 4000000 in
set_option maxRecDepth 100000 in
theorem c_X3_suits_X0 (l : Launch) (D : va_G) (ca : Nat → ClassId) (kq a : Nat → Nat) (sz : Nat) (ky vl : Nat → Int32) (lf rt : Nat → Nat) (ct ht : Nat → Int32) (tt : Nat → Int64) (sp pa ro : Nat → Nat) (ss dp rn : Nat) (od : Int32) (kd : Nat) (x : Nat) (hlf : ∀ k, lf k ≤ 60) (hrt : ∀ k, rt k ≤ 60) (hsp : ∀ k, sp k ≤ 60) (hpa : ∀ k, pa k ≤ 60) (hro : ∀ k, ro k ≤ 60) (hrn : rn ≤ 60) (hkd : kd < 4) (hx60 : x ≤ 60): Met l yX3_suits wsX3_suits ({ frames := 1, cells := 0, slots := 0, locals := 23 } : Room) (xPc D (TY ca) [.ref (kq 0), .ref (a 0), .int (nI x)] ((wKd kq) ++ (wT ca kq a (ky, vl, lf, rt, ct, ht, tt, sp, pa, ro, ss, dp, rn, od, kd))) sz) (va_Qi (fun (r : Int32) (u : TS) => r = bI (if f_too false (ky, vl, lf, rt, ct, ht, tt, sp, pa, ro, ss, dp, rn, od, kd) (lf x) (rt x) = true then false else if f_too false (ky, vl, lf, rt, ct, ht, tt, sp, pa, ro, ss, dp, rn, od, kd) (rt x) (lf x) = true then false else true) ∧ u = (ky, vl, lf, rt, ct, ht, tt, sp, pa, ro, ss, dp, rn, od, kd)) (xB D (fun t : TS => (wKd kq) ++ (wT ca kq a t)) (va_A ((wKd kq) ++ (wT ca kq a (ky, vl, lf, rt, ct, ht, tt, sp, pa, ro, ss, dp, rn, od, kd))) sz)) (va_A ((wKd kq) ++ (wT ca kq a (ky, vl, lf, rt, ct, ht, tt, sp, pa, ro, ss, dp, rn, od, kd))) sz)) 0 0 (va_A ((wKd kq) ++ (wT ca kq a (ky, vl, lf, rt, ct, ht, tt, sp, pa, ro, ss, dp, rn, od, kd))) sz) := by
  refine Met.ofW (cc := cX3_suits) (maxL := 5) (ret := (some .boolean)) (by decide) rfl ?_
  intro p e s m args below meth c s₁ B hml hv
  obtain ⟨rfl, hsz, hP, hKN, hD0⟩ := hv
  have hx := B.exec
  have hb := B.bytes
  have hr := B.returns
  have hts := atoms_spec (ws := wsX3_suits) B.pre
  have hown : s.vm.findClass RX3 = some m.cls := findClass_of_methodNamed B.named
  have hlocks := B.notSynchronized
  have inX8 : ∀ w ∈ wsX80, w ∈ wsX3_suits := by decide +kernel
  subst hsz
  have hD := hD0.self (sz := s.heap.size)
  generalize hAe : va_A ((wKd kq) ++ (wT ca kq a (ky, vl, lf, rt, ct, ht, tt, sp, pa, ro, ss, dp, rn, od, kd))) s.heap.size = A at hD ⊢
  have hA : ∀ q : Nat, s.heap.size ≤ q → A q := fun q h => by rw [← hAe]; exact Or.inr h
  have hS : va_S A s.heap s.heap [] := va_S.rf
  have hl := lv_entry ([.ref (kq 0), .ref (a 0), .int (nI x)]) (n := 5) (Nat.le_of_ble_eq_true rfl)
  rw [lg_entry_eq]
  generalize (lg_sl ([.ref (kq 0), .ref (a 0), .int (nI x)]) ++ List.replicate (5 - (lg_sl ([.ref (kq 0), .ref (a 0), .int (nI x)])).length) Slot.unset).toArray = ls at hl ⊢
  have hl : lv_has ls 5 [(0, .ref (kq 0)), (1, .ref (a 0)), (2, .int (nI x))] := hl
  refine lv_aload_n hx hb dX3_suits_0 rfl (lv_at hl 1 rfl) ?_
  refine va_getN (D := D) (ci := 6) (v := .ref (a 3)) (C := RX8) (T := TX8) (N := 15) hx hb hts inX8 hown hKN.1 hP 4 rfl rfl 2 (by decide) (va_Nw.use rfl (NW.f hKN.2 (a := RX3) (i := 7) (b := "TreeFamily$Tree") (n := "left") (d := "[I") (g := "TreeFamily") (by decide +kernel))) (fun _ h9 => h9) rfl dX3_suits_1 ?_
  refine lv_iload_n hx hb dX3_suits_4 rfl (lv_at hl 2 rfl) ?_
  refine xr_ild hx hb hKN.1 hP 7 0 rfl rfl (j := x) (Nat.lt_of_le_of_lt hx60 (by decide)) (by decide) dX3_suits_5 ?_
  refine lv_istore_n (lv' := [(3, .int (nI (lf x))), (0, .ref (kq 0)), (1, .ref (a 0)), (2, .int (nI x))]) hx hb dX3_suits_6 rfl hl (by decide) rfl (fun ls hl => ?_)
  refine lv_aload_n hx hb dX3_suits_7 rfl (lv_at hl 2 rfl) ?_
  refine va_getN (D := D) (ci := 6) (v := .ref (a 4)) (C := RX8) (T := TX8) (N := 15) hx hb hts inX8 hown hKN.1 hP 4 rfl rfl 3 (by decide) (va_Nw.use rfl (NW.f hKN.2 (a := RX3) (i := 13) (b := "TreeFamily$Tree") (n := "right") (d := "[I") (g := "TreeFamily") (by decide +kernel))) (fun _ h9 => h9) rfl dX3_suits_8 ?_
  refine lv_iload_n hx hb dX3_suits_11 rfl (lv_at hl 3 rfl) ?_
  refine xr_ild hx hb hKN.1 hP 8 0 rfl rfl (j := x) (Nat.lt_of_le_of_lt hx60 (by decide)) (by decide) dX3_suits_12 ?_
  refine lv_istore (lv' := [(4, .int (nI (rt x))), (3, .int (nI (lf x))), (0, .ref (kq 0)), (1, .ref (a 0)), (2, .int (nI x))]) hx hb dX3_suits_13 hl (by decide) rfl (fun ls hl => ?_)
  refine lv_aload_n hx hb dX3_suits_15 rfl (lv_at hl 2 rfl) ?_
  refine lv_aload_n hx hb dX3_suits_16 rfl (lv_at hl 3 rfl) ?_
  refine lv_iload_n hx hb dX3_suits_17 rfl (lv_at hl 1 rfl) ?_
  refine lv_iload hx hb dX3_suits_18 (lv_at hl 0 rfl) ?_
  refine xc_i (wr := wKd kq) (va_runU (As := [.ref (a 0), .int (nI (lf x)), .int (nI (rt x))]) (rest := []) ⟨hx, hb, hml, hown, hts⟩ (c_X0_isTooMuch l D ca kq a _ ky vl lf rt ct ht tt sp pa ro ss dp rn od kd (lf x) (rt x) hlf hrt hsp hpa hro hrn (hlf x) (hrt x)) (va_cwA 3 hts gX3_suits_X0_isTooMuch_u16X0 rfl rfl rfl (NW.d hKN.2 (by decide +kernel)) (by decide +kernel) ⟨(Nat.le_of_ble_eq_true rfl), (Nat.le_of_ble_eq_true rfl)⟩) (xPreV hKN hP hD [4, 5, 6, 7, 8, 9, 10, 11, 12, 13, 14] (by decide) rfl (q0 := 0) rfl rfl rfl) rfl rfl hl.1 rfl (lv_room (Nat.le_of_ble_eq_true rfl)) dX3_suits_20 ⟨(Nat.le_of_ble_eq_true rfl), (Nat.le_of_ble_eq_true rfl)⟩) hP hD hS hA [4, 5, 6, 7, 8, 9, 10, 11, 12, 13, 14] [0, 1, 2, 3] rfl rfl (by decide) (by decide) (fun r20 u20 H locs hu20 hP hD hS => ?_)
  obtain ⟨er20, eu20⟩ := hu20
  subst er20
  subst eu20
  have hP : va_P D vwCl ((wKd kq) ++ (wT ca kq a (ky, vl, lf, rt, ct, ht, tt, sp, pa, ro, ss, dp, rn, od, kd))) H := hP
  have hD : va_D A ((wKd kq) ++ (wT ca kq a (ky, vl, lf, rt, ct, ht, tt, sp, pa, ro, ss, dp, rn, od, kd))) := hD
  refine lv_if_ne (tgt := 41) hx hb dX3_suits_23 (by decide) (fun c23 => ?_) (fun c23 => ?_)
  · skip
    have c23 := bI_ne.mp c23
    refine lv_iconst (v := 0) hx hb dX3_suits_41 (by decide) ?_
    exact W.zret (v := 0) hx hb hr (by decide) (fun t9 e9 w9 => ⟨⟨_, (ky, vl, lf, rt, ct, ht, tt, sp, pa, ro, ss, dp, rn, od, kd), rfl, ⟨by first | exact bI_of (if_pos c23) rfl | exact bI_of ((if_neg (by rw [c23]; decide)).trans (if_pos c34)) rfl | exact bI_of ((if_neg (by rw [c23]; decide)).trans (if_neg (by rw [c34]; decide))) rfl, rfl⟩, by rw [e9]; exact hP, hD⟩, hS.F e9⟩) hS.2.2 dX3_suits_42
  · skip
    have c23 := bI_0.mp c23
    refine lv_aload_n hx hb dX3_suits_26 rfl (lv_at hl 2 rfl) ?_
    refine lv_aload_n hx hb dX3_suits_27 rfl (lv_at hl 3 rfl) ?_
    refine lv_iload hx hb dX3_suits_28 (lv_at hl 0 rfl) ?_
    refine lv_iload_n hx hb dX3_suits_30 rfl (lv_at hl 1 rfl) ?_
    refine xc_i (wr := wKd kq) (va_runU (As := [.ref (a 0), .int (nI (rt x)), .int (nI (lf x))]) (rest := []) ⟨hx, hb, hml, hown, hts⟩ (c_X0_isTooMuch l D ca kq a _ ky vl lf rt ct ht tt sp pa ro ss dp rn od kd (rt x) (lf x) hlf hrt hsp hpa hro hrn (hrt x) (hlf x)) (va_cwA 3 hts gX3_suits_X0_isTooMuch_u16X0 rfl rfl rfl (NW.d hKN.2 (by decide +kernel)) (by decide +kernel) ⟨(Nat.le_of_ble_eq_true rfl), (Nat.le_of_ble_eq_true rfl)⟩) (xPreV hKN hP hD [4, 5, 6, 7, 8, 9, 10, 11, 12, 13, 14] (by decide) rfl (q0 := 0) rfl rfl rfl) rfl rfl hl.1 rfl (lv_room (Nat.le_of_ble_eq_true rfl)) dX3_suits_31 ⟨(Nat.le_of_ble_eq_true rfl), (Nat.le_of_ble_eq_true rfl)⟩) hP hD hS hA [4, 5, 6, 7, 8, 9, 10, 11, 12, 13, 14] [0, 1, 2, 3] rfl rfl (by decide) (by decide) (fun r31 u31 H locs hu31 hP hD hS => ?_)
    obtain ⟨er31, eu31⟩ := hu31
    subst er31
    subst eu31
    have hP : va_P D vwCl ((wKd kq) ++ (wT ca kq a (ky, vl, lf, rt, ct, ht, tt, sp, pa, ro, ss, dp, rn, od, kd))) H := hP
    have hD : va_D A ((wKd kq) ++ (wT ca kq a (ky, vl, lf, rt, ct, ht, tt, sp, pa, ro, ss, dp, rn, od, kd))) := hD
    refine lv_if_ne (tgt := 41) hx hb dX3_suits_34 (by decide) (fun c34 => ?_) (fun c34 => ?_)
    · skip
      have c34 := bI_ne.mp c34
      refine lv_iconst (v := 0) hx hb dX3_suits_41 (by decide) ?_
      exact W.zret (v := 0) hx hb hr (by decide) (fun t9 e9 w9 => ⟨⟨_, (ky, vl, lf, rt, ct, ht, tt, sp, pa, ro, ss, dp, rn, od, kd), rfl, ⟨by first | exact bI_of (if_pos c23) rfl | exact bI_of ((if_neg (by rw [c23]; decide)).trans (if_pos c34)) rfl | exact bI_of ((if_neg (by rw [c23]; decide)).trans (if_neg (by rw [c34]; decide))) rfl, rfl⟩, by rw [e9]; exact hP, hD⟩, hS.F e9⟩) hS.2.2 dX3_suits_42
    · skip
      have c34 := bI_0.mp c34
      refine lv_iconst (v := 1) hx hb dX3_suits_37 (by decide) ?_
      refine lv_goto (tgt := 42) hx hb dX3_suits_38 (by decide) ?_
      exact W.zret (v := 1) hx hb hr (by decide) (fun t9 e9 w9 => ⟨⟨_, (ky, vl, lf, rt, ct, ht, tt, sp, pa, ro, ss, dp, rn, od, kd), rfl, ⟨by first | exact bI_of (if_pos c23) rfl | exact bI_of ((if_neg (by rw [c23]; decide)).trans (if_pos c34)) rfl | exact bI_of ((if_neg (by rw [c23]; decide)).trans (if_neg (by rw [c34]; decide))) rfl, rfl⟩, by rw [e9]; exact hP, hD⟩, hS.F e9⟩) hS.2.2 dX3_suits_42

-- ByTwoSides.settle of X4
set_option maxHeartbeats 4000000 in
set_option maxRecDepth 100000 in
theorem c_X3_settle_X4 (l : Launch) (D : va_G) (ca : Nat → ClassId) (kq a : Nat → Nat) (sz : Nat) (ky vl : Nat → Int32) (lf rt : Nat → Nat) (ct ht : Nat → Int32) (tt : Nat → Int64) (sp pa ro : Nat → Nat) (ss dp rn : Nat) (od : Int32) (kd : Nat) (x : Nat) (hlf : ∀ k, lf k ≤ 60) (hrt : ∀ k, rt k ≤ 60) (hsp : ∀ k, sp k ≤ 60) (hpa : ∀ k, pa k ≤ 60) (hro : ∀ k, ro k ≤ 60) (hrn : rn ≤ 60) (hkd : kd < 4) (hx60 : x ≤ 60): Met l yX3_settle wsX3_settle ({ frames := 2, cells := 0, slots := 0, locals := 45 } : Room) (xPc D (TY ca) [.ref (kq 1), .ref (a 0), .int (nI x)] ((wKd kq) ++ (wT ca kq a (ky, vl, lf, rt, ct, ht, tt, sp, pa, ro, ss, dp, rn, od, kd))) sz) (va_Qi (fun (r : Int32) (u : TS) => r = nI (f_settle2 true (ky, vl, lf, rt, ct, ht, tt, sp, pa, ro, ss, dp, rn, od, kd) x).1 ∧ u = (f_settle2 true (ky, vl, lf, rt, ct, ht, tt, sp, pa, ro, ss, dp, rn, od, kd) x).2) (xB D (fun t : TS => (wKd kq) ++ (wT ca kq a t)) (va_A ((wKd kq) ++ (wT ca kq a (ky, vl, lf, rt, ct, ht, tt, sp, pa, ro, ss, dp, rn, od, kd))) sz)) (va_A ((wKd kq) ++ (wT ca kq a (ky, vl, lf, rt, ct, ht, tt, sp, pa, ro, ss, dp, rn, od, kd))) sz)) 0 0 (va_A ((wKd kq) ++ (wT ca kq a (ky, vl, lf, rt, ct, ht, tt, sp, pa, ro, ss, dp, rn, od, kd))) sz) := by
  refine Met.ofW (cc := cX3_settle) (maxL := 5) (ret := (some .int)) (by decide) rfl ?_
  intro p e s m args below meth c s₁ B hml hv
  obtain ⟨rfl, hsz, hP, hKN, hD0⟩ := hv
  have hx := B.exec
  have hb := B.bytes
  have hr := B.returns
  have hts := atoms_spec (ws := wsX3_settle) B.pre
  have hown : s.vm.findClass RX3 = some m.cls := findClass_of_methodNamed B.named
  have hlocks := B.notSynchronized
  have inX8 : ∀ w ∈ wsX80, w ∈ wsX3_settle := by decide +kernel
  subst hsz
  have hD := hD0.self (sz := s.heap.size)
  generalize hAe : va_A ((wKd kq) ++ (wT ca kq a (ky, vl, lf, rt, ct, ht, tt, sp, pa, ro, ss, dp, rn, od, kd))) s.heap.size = A at hD ⊢
  have hA : ∀ q : Nat, s.heap.size ≤ q → A q := fun q h => by rw [← hAe]; exact Or.inr h
  have hS : va_S A s.heap s.heap [] := va_S.rf
  have hl := lv_entry ([.ref (kq 1), .ref (a 0), .int (nI x)]) (n := 5) (Nat.le_of_ble_eq_true rfl)
  rw [lg_entry_eq]
  generalize (lg_sl ([.ref (kq 1), .ref (a 0), .int (nI x)]) ++ List.replicate (5 - (lg_sl ([.ref (kq 1), .ref (a 0), .int (nI x)])).length) Slot.unset).toArray = ls at hl ⊢
  have hl : lv_has ls 5 [(0, .ref (kq 1)), (1, .ref (a 0)), (2, .int (nI x))] := hl
  refine lv_aload_n hx hb dX3_settle_0 rfl (lv_at hl 1 rfl) ?_
  refine va_getN (D := D) (ci := 6) (v := .ref (a 3)) (C := RX8) (T := TX8) (N := 15) hx hb hts inX8 hown hKN.1 hP 4 rfl rfl 2 (by decide) (va_Nw.use rfl (NW.f hKN.2 (a := RX3) (i := 7) (b := "TreeFamily$Tree") (n := "left") (d := "[I") (g := "TreeFamily") (by decide +kernel))) (fun _ h9 => h9) rfl dX3_settle_1 ?_
  refine lv_iload_n hx hb dX3_settle_4 rfl (lv_at hl 2 rfl) ?_
  refine xr_ild hx hb hKN.1 hP 7 0 rfl rfl (j := x) (Nat.lt_of_le_of_lt hx60 (by decide)) (by decide) dX3_settle_5 ?_
  refine lv_istore_n (lv' := [(3, .int (nI (lf x))), (0, .ref (kq 1)), (1, .ref (a 0)), (2, .int (nI x))]) hx hb dX3_settle_6 rfl hl (by decide) rfl (fun ls hl => ?_)
  refine lv_aload_n hx hb dX3_settle_7 rfl (lv_at hl 2 rfl) ?_
  refine va_getN (D := D) (ci := 6) (v := .ref (a 4)) (C := RX8) (T := TX8) (N := 15) hx hb hts inX8 hown hKN.1 hP 4 rfl rfl 3 (by decide) (va_Nw.use rfl (NW.f hKN.2 (a := RX3) (i := 13) (b := "TreeFamily$Tree") (n := "right") (d := "[I") (g := "TreeFamily") (by decide +kernel))) (fun _ h9 => h9) rfl dX3_settle_8 ?_
  refine lv_iload_n hx hb dX3_settle_11 rfl (lv_at hl 3 rfl) ?_
  refine xr_ild hx hb hKN.1 hP 8 0 rfl rfl (j := x) (Nat.lt_of_le_of_lt hx60 (by decide)) (by decide) dX3_settle_12 ?_
  refine lv_istore (lv' := [(4, .int (nI (rt x))), (3, .int (nI (lf x))), (0, .ref (kq 1)), (1, .ref (a 0)), (2, .int (nI x))]) hx hb dX3_settle_13 hl (by decide) rfl (fun ls hl => ?_)
  refine lv_aload_n hx hb dX3_settle_15 rfl (lv_at hl 2 rfl) ?_
  refine lv_aload_n hx hb dX3_settle_16 rfl (lv_at hl 3 rfl) ?_
  refine lv_iload_n hx hb dX3_settle_17 rfl (lv_at hl 1 rfl) ?_
  refine lv_iload hx hb dX3_settle_18 (lv_at hl 0 rfl) ?_
  refine xc_i (wr := wKd kq) (va_runU (As := [.ref (a 0), .int (nI (lf x)), .int (nI (rt x))]) (rest := []) ⟨hx, hb, hml, hown, hts⟩ (c_X4_isTooMuch l D ca kq a _ ky vl lf rt ct ht tt sp pa ro ss dp rn od kd (lf x) (rt x) hlf hrt hsp hpa hro hrn (hlf x) (hrt x)) (va_cwA 3 hts gX3_settle_X4_isTooMuch_u16X4 rfl rfl rfl (NW.d hKN.2 (by decide +kernel)) (by decide +kernel) ⟨(Nat.le_of_ble_eq_true rfl), (Nat.le_of_ble_eq_true rfl)⟩) (xPreV hKN hP hD [4, 5, 6, 7, 8, 9, 10, 11, 12, 13, 14] (by decide) rfl (q0 := 1) rfl rfl rfl) rfl rfl hl.1 rfl (lv_room (Nat.le_of_ble_eq_true rfl)) dX3_settle_20 ⟨(Nat.le_of_ble_eq_true rfl), (Nat.le_of_ble_eq_true rfl)⟩) hP hD hS hA [4, 5, 6, 7, 8, 9, 10, 11, 12, 13, 14] [0, 1, 2, 3] rfl rfl (by decide) (by decide) (fun r20 u20 H locs hu20 hP hD hS => ?_)
  obtain ⟨er20, eu20⟩ := hu20
  subst er20
  subst eu20
  have hP : va_P D vwCl ((wKd kq) ++ (wT ca kq a (ky, vl, lf, rt, ct, ht, tt, sp, pa, ro, ss, dp, rn, od, kd))) H := hP
  have hD : va_D A ((wKd kq) ++ (wT ca kq a (ky, vl, lf, rt, ct, ht, tt, sp, pa, ro, ss, dp, rn, od, kd))) := hD
  refine lv_if_eq (tgt := 63) hx hb dX3_settle_23 (by decide) (fun c23 => ?_) (fun c23 => ?_)
  · skip
    have c23 := bI_0.mp c23
    refine lv_aload_n hx hb dX3_settle_63 rfl (lv_at hl 2 rfl) ?_
    refine lv_aload_n hx hb dX3_settle_64 rfl (lv_at hl 3 rfl) ?_
    refine lv_iload hx hb dX3_settle_65 (lv_at hl 0 rfl) ?_
    refine lv_iload_n hx hb dX3_settle_67 rfl (lv_at hl 1 rfl) ?_
    refine xc_i (wr := wKd kq) (va_runU (As := [.ref (a 0), .int (nI (rt x)), .int (nI (lf x))]) (rest := []) ⟨hx, hb, hml, hown, hts⟩ (c_X4_isTooMuch l D ca kq a _ ky vl lf rt ct ht tt sp pa ro ss dp rn od kd (rt x) (lf x) hlf hrt hsp hpa hro hrn (hrt x) (hlf x)) (va_cwA 3 hts gX3_settle_X4_isTooMuch_u16X4 rfl rfl rfl (NW.d hKN.2 (by decide +kernel)) (by decide +kernel) ⟨(Nat.le_of_ble_eq_true rfl), (Nat.le_of_ble_eq_true rfl)⟩) (xPreV hKN hP hD [4, 5, 6, 7, 8, 9, 10, 11, 12, 13, 14] (by decide) rfl (q0 := 1) rfl rfl rfl) rfl rfl hl.1 rfl (lv_room (Nat.le_of_ble_eq_true rfl)) dX3_settle_68 ⟨(Nat.le_of_ble_eq_true rfl), (Nat.le_of_ble_eq_true rfl)⟩) hP hD hS hA [4, 5, 6, 7, 8, 9, 10, 11, 12, 13, 14] [0, 1, 2, 3] rfl rfl (by decide) (by decide) (fun r68 u68 H locs hu68 hP hD hS => ?_)
    obtain ⟨er68, eu68⟩ := hu68
    subst er68
    subst eu68
    have hP : va_P D vwCl ((wKd kq) ++ (wT ca kq a (ky, vl, lf, rt, ct, ht, tt, sp, pa, ro, ss, dp, rn, od, kd))) H := hP
    have hD : va_D A ((wKd kq) ++ (wT ca kq a (ky, vl, lf, rt, ct, ht, tt, sp, pa, ro, ss, dp, rn, od, kd))) := hD
    refine lv_if_eq (tgt := 114) hx hb dX3_settle_71 (by decide) (fun c71 => ?_) (fun c71 => ?_)
    · skip
      have c71 := bI_0.mp c71
      refine lv_iload_n hx hb dX3_settle_114 rfl (lv_at hl 4 rfl) ?_
      exact W.iret (v := (nI x)) hx hb hr (fun t9 e9 w9 => ⟨⟨_, (ky, vl, lf, rt, ct, ht, tt, sp, pa, ro, ss, dp, rn, od, kd), rfl, ⟨congrArg nI (congrArg Prod.fst (show f_settle2 true (ky, vl, lf, rt, ct, ht, tt, sp, pa, ro, ss, dp, rn, od, kd) x = (x, (ky, vl, lf, rt, ct, ht, tt, sp, pa, ro, ss, dp, rn, od, kd)) from by unfold f_settle2; rw [if_neg (by rw [c23]; decide), if_neg (by rw [c71]; decide)])).symm, (congrArg Prod.snd (show f_settle2 true (ky, vl, lf, rt, ct, ht, tt, sp, pa, ro, ss, dp, rn, od, kd) x = (x, (ky, vl, lf, rt, ct, ht, tt, sp, pa, ro, ss, dp, rn, od, kd)) from by unfold f_settle2; rw [if_neg (by rw [c23]; decide), if_neg (by rw [c71]; decide)])).symm⟩, by rw [e9]; exact hP, hD⟩, hS.F e9⟩) hS.2.2 dX3_settle_115
    · skip
      have c71 := bI_ne.mp c71
      refine lv_aload_n hx hb dX3_settle_74 rfl (lv_at hl 2 rfl) ?_
      refine lv_aload_n hx hb dX3_settle_75 rfl (lv_at hl 3 rfl) ?_
      refine lv_aload_n hx hb dX3_settle_76 rfl (lv_at hl 3 rfl) ?_
      refine va_getN (D := D) (ci := 6) (v := .ref (a 3)) (C := RX8) (T := TX8) (N := 15) hx hb hts inX8 hown hKN.1 hP 4 rfl rfl 2 (by decide) (va_Nw.use rfl (NW.f hKN.2 (a := RX3) (i := 7) (b := "TreeFamily$Tree") (n := "left") (d := "[I") (g := "TreeFamily") (by decide +kernel))) (fun _ h9 => h9) rfl dX3_settle_77 ?_
      refine lv_iload hx hb dX3_settle_80 (lv_at hl 0 rfl) ?_
      refine xr_ild hx hb hKN.1 hP 7 0 rfl rfl (j := rt x) (Nat.lt_of_le_of_lt (hrt x) (by decide)) (by decide) dX3_settle_82 ?_
      refine lv_aload_n hx hb dX3_settle_83 rfl (lv_at hl 3 rfl) ?_
      refine va_getN (D := D) (ci := 6) (v := .ref (a 4)) (C := RX8) (T := TX8) (N := 15) hx hb hts inX8 hown hKN.1 hP 4 rfl rfl 3 (by decide) (va_Nw.use rfl (NW.f hKN.2 (a := RX3) (i := 13) (b := "TreeFamily$Tree") (n := "right") (d := "[I") (g := "TreeFamily") (by decide +kernel))) (fun _ h9 => h9) rfl dX3_settle_84 ?_
      refine lv_iload hx hb dX3_settle_87 (lv_at hl 0 rfl) ?_
      refine xr_ild hx hb hKN.1 hP 8 0 rfl rfl (j := rt x) (Nat.lt_of_le_of_lt (hrt x) (by decide)) (by decide) dX3_settle_89 ?_
      refine xc_i (wr := wKd kq) (va_runU (As := [.ref (a 0), .int (nI (lf (rt x))), .int (nI (rt (rt x)))]) (rest := []) ⟨hx, hb, hml, hown, hts⟩ (c_X4_hasToPart l D ca kq a _ ky vl lf rt ct ht tt sp pa ro ss dp rn od kd (lf (rt x)) (rt (rt x)) hlf hrt hsp hpa hro hrn (hlf (rt x)) (hrt (rt x))) (va_cwA 3 hts gX3_settle_X4_hasToPart_u22X4 rfl rfl rfl (NW.d hKN.2 (by decide +kernel)) (by decide +kernel) ⟨(Nat.le_of_ble_eq_true rfl), (Nat.le_of_ble_eq_true rfl)⟩) (xPreV hKN hP hD [4, 5, 6, 7, 8, 9, 10, 11, 12, 13, 14] (by decide) rfl (q0 := 1) rfl rfl rfl) rfl rfl hl.1 rfl (lv_room (Nat.le_of_ble_eq_true rfl)) dX3_settle_90 ⟨(Nat.le_of_ble_eq_true rfl), (Nat.le_of_ble_eq_true rfl)⟩) hP hD hS hA [4, 5, 6, 7, 8, 9, 10, 11, 12, 13, 14] [0, 1, 2, 3] rfl rfl (by decide) (by decide) (fun r90 u90 H locs hu90 hP hD hS => ?_)
      obtain ⟨er90, eu90⟩ := hu90
      subst er90
      subst eu90
      have hP : va_P D vwCl ((wKd kq) ++ (wT ca kq a (ky, vl, lf, rt, ct, ht, tt, sp, pa, ro, ss, dp, rn, od, kd))) H := hP
      have hD : va_D A ((wKd kq) ++ (wT ca kq a (ky, vl, lf, rt, ct, ht, tt, sp, pa, ro, ss, dp, rn, od, kd))) := hD
      refine lv_if_eq (tgt := 108) hx hb dX3_settle_93 (by decide) (fun c93 => ?_) (fun c93 => ?_)
      · skip
        have c93 := bI_0.mp c93
        refine lv_aload_n hx hb dX3_settle_108 rfl (lv_at hl 3 rfl) ?_
        refine lv_iload_n hx hb dX3_settle_109 rfl (lv_at hl 4 rfl) ?_
        refine xc_i (wr := wKd kq) (va_runV (As := [.int (nI x)]) (rest := []) ⟨hx, hb, hml, hown, hts⟩ (c_X8_raiseRight l D ca kq a _ ky vl lf rt ct ht tt sp pa ro ss dp rn od kd x hlf hrt hsp hpa hro hrn hx60) (cwV 1 hts gX3_settle_X8_raiseRight rfl rfl rfl (by decide +kernel) ⟨(Nat.le_of_ble_eq_true rfl), (Nat.le_of_ble_eq_true rfl)⟩) (xPreV hKN hP hD [4, 5, 6, 7, 8, 9, 10, 11, 12, 13, 14] (by decide) rfl (q0 := 4) rfl rfl rfl) rfl rfl hl.1 rfl (lv_room (Nat.le_of_ble_eq_true rfl)) dX3_settle_110 ⟨(Nat.le_of_ble_eq_true rfl), (Nat.le_of_ble_eq_true rfl)⟩) hP hD hS hA [4, 5, 6, 7, 8, 9, 10, 11, 12, 13, 14] [0, 1, 2, 3] rfl rfl (by decide) (by decide) (fun r110 u110 H locs hu110 hP hD hS => ?_)
        exact W.iret (v := r110) hx hb hr (fun t9 e9 w9 => ⟨⟨_, u110, rfl, by rw [show f_settle2 true (ky, vl, lf, rt, ct, ht, tt, sp, pa, ro, ss, dp, rn, od, kd) x = (TS.rt ((ky, vl, lf, rt, ct, ht, tt, sp, pa, ro, ss, dp, rn, od, kd)) x, f_raiseRight ((ky, vl, lf, rt, ct, ht, tt, sp, pa, ro, ss, dp, rn, od, kd)) x) from by unfold f_settle2; rw [if_neg (by rw [c23]; decide), if_pos c71]; dsimp only; rw [if_neg (by rw [c93]; decide)]]; exact hu110, by rw [e9]; exact hP, hD⟩, hS.F e9⟩) hS.2.2 dX3_settle_113
      · skip
        have c93 := bI_ne.mp c93
        refine lv_aload_n hx hb dX3_settle_96 rfl (lv_at hl 3 rfl) ?_
        refine va_getN (D := D) (ci := 6) (v := .ref (a 4)) (C := RX8) (T := TX8) (N := 15) hx hb hts inX8 hown hKN.1 hP 4 rfl rfl 3 (by decide) (va_Nw.use rfl (NW.f hKN.2 (a := RX3) (i := 13) (b := "TreeFamily$Tree") (n := "right") (d := "[I") (g := "TreeFamily") (by decide +kernel))) (fun _ h9 => h9) rfl dX3_settle_97 ?_
        refine lv_iload_n hx hb dX3_settle_100 rfl (lv_at hl 4 rfl) ?_
        refine lv_aload_n hx hb dX3_settle_101 rfl (lv_at hl 3 rfl) ?_
        refine lv_iload hx hb dX3_settle_102 (lv_at hl 0 rfl) ?_
        refine xc_i (wr := wKd kq) (va_runV (As := [.int (nI (rt x))]) (rest := [.int (nI x), .ref (a 4)]) ⟨hx, hb, hml, hown, hts⟩ (c_X8_raiseLeft l D ca kq a _ ky vl lf rt ct ht tt sp pa ro ss dp rn od kd (rt x) hlf hrt hsp hpa hro hrn (hrt x)) (cwV 1 hts gX3_settle_X8_raiseLeft rfl rfl rfl (by decide +kernel) ⟨(Nat.le_of_ble_eq_true rfl), (Nat.le_of_ble_eq_true rfl)⟩) (xPreV hKN hP hD [4, 5, 6, 7, 8, 9, 10, 11, 12, 13, 14] (by decide) rfl (q0 := 4) rfl rfl rfl) rfl rfl hl.1 rfl (lv_room (Nat.le_of_ble_eq_true rfl)) dX3_settle_104 ⟨(Nat.le_of_ble_eq_true rfl), (Nat.le_of_ble_eq_true rfl)⟩) hP hD hS hA [4, 5, 6, 7, 8, 9, 10, 11, 12, 13, 14] [0, 1, 2, 3] rfl rfl (by decide) (by decide) (fun r104 u104 H locs hu104 hP hD hS => ?_)
        obtain ⟨er104, eu104⟩ := hu104
        subst er104
        obtain ⟨ky_104, vl_104, lf_104, rt_104, ct_104, ht_104, tt_104, sp_104, pa_104, ro_104, ss_104, dp_104, rn_104, od_104, kd_104⟩ := u104
        obtain ⟨hlf_104, hrt_104, hsp_104, hpa_104, hro_104, hrn_104, hkd_104⟩ : WF (ky_104, vl_104, lf_104, rt_104, ct_104, ht_104, tt_104, sp_104, pa_104, ro_104, ss_104, dp_104, rn_104, od_104, kd_104) := by rw [eu104]; exact wf_raiseLeft (⟨hlf, hrt, hsp, hpa, hro, hrn, hkd⟩ : WF (ky, vl, lf, rt, ct, ht, tt, sp, pa, ro, ss, dp, rn, od, kd)) (hrt x)
        have hP : va_P D vwCl ((wKd kq) ++ (wT ca kq a (ky_104, vl_104, lf_104, rt_104, ct_104, ht_104, tt_104, sp_104, pa_104, ro_104, ss_104, dp_104, rn_104, od_104, kd_104))) H := hP
        have hD : va_D A ((wKd kq) ++ (wT ca kq a (ky_104, vl_104, lf_104, rt_104, ct_104, ht_104, tt_104, sp_104, pa_104, ro_104, ss_104, dp_104, rn_104, od_104, kd_104))) := hD
        refine xr_nst hx hb hKN.1 hP hD hS 8 0 (g := rt_104) rfl rfl (j := x) (v := lf (rt x)) (Nat.lt_of_le_of_lt hx60 (by decide)) (by decide) dX3_settle_107 (fun H locs hP hD hS => ?_)
        have hP : va_P D vwCl ((wKd kq) ++ (wT ca kq a (ky_104, vl_104, lf_104, (va_up rt_104 x (lf (rt x))), ct_104, ht_104, tt_104, sp_104, pa_104, ro_104, ss_104, dp_104, rn_104, od_104, kd_104))) H := hP
        have hD : va_D A ((wKd kq) ++ (wT ca kq a (ky_104, vl_104, lf_104, (va_up rt_104 x (lf (rt x))), ct_104, ht_104, tt_104, sp_104, pa_104, ro_104, ss_104, dp_104, rn_104, od_104, kd_104))) := hD
        refine lv_aload_n hx hb dX3_settle_108 rfl (lv_at hl 3 rfl) ?_
        refine lv_iload_n hx hb dX3_settle_109 rfl (lv_at hl 4 rfl) ?_
        refine xc_i (wr := wKd kq) (va_runV (As := [.int (nI x)]) (rest := []) ⟨hx, hb, hml, hown, hts⟩ (c_X8_raiseRight l D ca kq a _ ky_104 vl_104 lf_104 (va_up rt_104 x (lf (rt x))) ct_104 ht_104 tt_104 sp_104 pa_104 ro_104 ss_104 dp_104 rn_104 od_104 kd_104 x hlf_104 (vu_le hrt_104 (hlf (rt x))) hsp_104 hpa_104 hro_104 hrn_104 hx60) (cwV 1 hts gX3_settle_X8_raiseRight rfl rfl rfl (by decide +kernel) ⟨(Nat.le_of_ble_eq_true rfl), (Nat.le_of_ble_eq_true rfl)⟩) (xPreV hKN hP hD [4, 5, 6, 7, 8, 9, 10, 11, 12, 13, 14] (by decide) rfl (q0 := 4) rfl rfl rfl) rfl rfl hl.1 rfl (lv_room (Nat.le_of_ble_eq_true rfl)) dX3_settle_110 ⟨(Nat.le_of_ble_eq_true rfl), (Nat.le_of_ble_eq_true rfl)⟩) hP hD hS hA [4, 5, 6, 7, 8, 9, 10, 11, 12, 13, 14] [0, 1, 2, 3] rfl rfl (by decide) (by decide) (fun r110 u110 H locs hu110 hP hD hS => ?_)
        exact W.iret (v := r110) hx hb hr (fun t9 e9 w9 => ⟨⟨_, u110, rfl, by rw [show f_settle2 true (ky, vl, lf, rt, ct, ht, tt, sp, pa, ro, ss, dp, rn, od, kd) x = (TS.rt (setRt (f_raiseLeft (ky, vl, lf, rt, ct, ht, tt, sp, pa, ro, ss, dp, rn, od, kd) (rt x)) x (lf (rt x))) x, f_raiseRight (setRt (f_raiseLeft (ky, vl, lf, rt, ct, ht, tt, sp, pa, ro, ss, dp, rn, od, kd) (rt x)) x (lf (rt x))) x) from by unfold f_settle2; rw [if_neg (by rw [c23]; decide), if_pos c71]; dsimp only; rw [if_pos c93]]; rw [← eu104]; exact hu110, by rw [e9]; exact hP, hD⟩, hS.F e9⟩) hS.2.2 dX3_settle_113
  · skip
    have c23 := bI_ne.mp c23
    refine lv_aload_n hx hb dX3_settle_26 rfl (lv_at hl 2 rfl) ?_
    refine lv_aload_n hx hb dX3_settle_27 rfl (lv_at hl 3 rfl) ?_
    refine lv_aload_n hx hb dX3_settle_28 rfl (lv_at hl 3 rfl) ?_
    refine va_getN (D := D) (ci := 6) (v := .ref (a 4)) (C := RX8) (T := TX8) (N := 15) hx hb hts inX8 hown hKN.1 hP 4 rfl rfl 3 (by decide) (va_Nw.use rfl (NW.f hKN.2 (a := RX3) (i := 13) (b := "TreeFamily$Tree") (n := "right") (d := "[I") (g := "TreeFamily") (by decide +kernel))) (fun _ h9 => h9) rfl dX3_settle_29 ?_
    refine lv_iload_n hx hb dX3_settle_32 rfl (lv_at hl 1 rfl) ?_
    refine xr_ild hx hb hKN.1 hP 8 0 rfl rfl (j := lf x) (Nat.lt_of_le_of_lt (hlf x) (by decide)) (by decide) dX3_settle_33 ?_
    refine lv_aload_n hx hb dX3_settle_34 rfl (lv_at hl 3 rfl) ?_
    refine va_getN (D := D) (ci := 6) (v := .ref (a 3)) (C := RX8) (T := TX8) (N := 15) hx hb hts inX8 hown hKN.1 hP 4 rfl rfl 2 (by decide) (va_Nw.use rfl (NW.f hKN.2 (a := RX3) (i := 7) (b := "TreeFamily$Tree") (n := "left") (d := "[I") (g := "TreeFamily") (by decide +kernel))) (fun _ h9 => h9) rfl dX3_settle_35 ?_
    refine lv_iload_n hx hb dX3_settle_38 rfl (lv_at hl 1 rfl) ?_
    refine xr_ild hx hb hKN.1 hP 7 0 rfl rfl (j := lf x) (Nat.lt_of_le_of_lt (hlf x) (by decide)) (by decide) dX3_settle_39 ?_
    refine xc_i (wr := wKd kq) (va_runU (As := [.ref (a 0), .int (nI (rt (lf x))), .int (nI (lf (lf x)))]) (rest := []) ⟨hx, hb, hml, hown, hts⟩ (c_X4_hasToPart l D ca kq a _ ky vl lf rt ct ht tt sp pa ro ss dp rn od kd (rt (lf x)) (lf (lf x)) hlf hrt hsp hpa hro hrn (hrt (lf x)) (hlf (lf x))) (va_cwA 3 hts gX3_settle_X4_hasToPart_u22X4 rfl rfl rfl (NW.d hKN.2 (by decide +kernel)) (by decide +kernel) ⟨(Nat.le_of_ble_eq_true rfl), (Nat.le_of_ble_eq_true rfl)⟩) (xPreV hKN hP hD [4, 5, 6, 7, 8, 9, 10, 11, 12, 13, 14] (by decide) rfl (q0 := 1) rfl rfl rfl) rfl rfl hl.1 rfl (lv_room (Nat.le_of_ble_eq_true rfl)) dX3_settle_40 ⟨(Nat.le_of_ble_eq_true rfl), (Nat.le_of_ble_eq_true rfl)⟩) hP hD hS hA [4, 5, 6, 7, 8, 9, 10, 11, 12, 13, 14] [0, 1, 2, 3] rfl rfl (by decide) (by decide) (fun r40 u40 H locs hu40 hP hD hS => ?_)
    obtain ⟨er40, eu40⟩ := hu40
    subst er40
    subst eu40
    have hP : va_P D vwCl ((wKd kq) ++ (wT ca kq a (ky, vl, lf, rt, ct, ht, tt, sp, pa, ro, ss, dp, rn, od, kd))) H := hP
    have hD : va_D A ((wKd kq) ++ (wT ca kq a (ky, vl, lf, rt, ct, ht, tt, sp, pa, ro, ss, dp, rn, od, kd))) := hD
    refine lv_if_eq (tgt := 57) hx hb dX3_settle_43 (by decide) (fun c43 => ?_) (fun c43 => ?_)
    · skip
      have c43 := bI_0.mp c43
      refine lv_aload_n hx hb dX3_settle_57 rfl (lv_at hl 3 rfl) ?_
      refine lv_iload_n hx hb dX3_settle_58 rfl (lv_at hl 4 rfl) ?_
      refine xc_i (wr := wKd kq) (va_runV (As := [.int (nI x)]) (rest := []) ⟨hx, hb, hml, hown, hts⟩ (c_X8_raiseLeft l D ca kq a _ ky vl lf rt ct ht tt sp pa ro ss dp rn od kd x hlf hrt hsp hpa hro hrn hx60) (cwV 1 hts gX3_settle_X8_raiseLeft rfl rfl rfl (by decide +kernel) ⟨(Nat.le_of_ble_eq_true rfl), (Nat.le_of_ble_eq_true rfl)⟩) (xPreV hKN hP hD [4, 5, 6, 7, 8, 9, 10, 11, 12, 13, 14] (by decide) rfl (q0 := 4) rfl rfl rfl) rfl rfl hl.1 rfl (lv_room (Nat.le_of_ble_eq_true rfl)) dX3_settle_59 ⟨(Nat.le_of_ble_eq_true rfl), (Nat.le_of_ble_eq_true rfl)⟩) hP hD hS hA [4, 5, 6, 7, 8, 9, 10, 11, 12, 13, 14] [0, 1, 2, 3] rfl rfl (by decide) (by decide) (fun r59 u59 H locs hu59 hP hD hS => ?_)
      exact W.iret (v := r59) hx hb hr (fun t9 e9 w9 => ⟨⟨_, u59, rfl, by rw [show f_settle2 true (ky, vl, lf, rt, ct, ht, tt, sp, pa, ro, ss, dp, rn, od, kd) x = (TS.lf ((ky, vl, lf, rt, ct, ht, tt, sp, pa, ro, ss, dp, rn, od, kd)) x, f_raiseLeft ((ky, vl, lf, rt, ct, ht, tt, sp, pa, ro, ss, dp, rn, od, kd)) x) from by unfold f_settle2; rw [if_pos c23]; dsimp only; rw [if_neg (by rw [c43]; decide)]]; exact hu59, by rw [e9]; exact hP, hD⟩, hS.F e9⟩) hS.2.2 dX3_settle_62
    · skip
      have c43 := bI_ne.mp c43
      refine lv_aload_n hx hb dX3_settle_46 rfl (lv_at hl 3 rfl) ?_
      refine va_getN (D := D) (ci := 6) (v := .ref (a 3)) (C := RX8) (T := TX8) (N := 15) hx hb hts inX8 hown hKN.1 hP 4 rfl rfl 2 (by decide) (va_Nw.use rfl (NW.f hKN.2 (a := RX3) (i := 7) (b := "TreeFamily$Tree") (n := "left") (d := "[I") (g := "TreeFamily") (by decide +kernel))) (fun _ h9 => h9) rfl dX3_settle_47 ?_
      refine lv_iload_n hx hb dX3_settle_50 rfl (lv_at hl 4 rfl) ?_
      refine lv_aload_n hx hb dX3_settle_51 rfl (lv_at hl 3 rfl) ?_
      refine lv_iload_n hx hb dX3_settle_52 rfl (lv_at hl 1 rfl) ?_
      refine xc_i (wr := wKd kq) (va_runV (As := [.int (nI (lf x))]) (rest := [.int (nI x), .ref (a 3)]) ⟨hx, hb, hml, hown, hts⟩ (c_X8_raiseRight l D ca kq a _ ky vl lf rt ct ht tt sp pa ro ss dp rn od kd (lf x) hlf hrt hsp hpa hro hrn (hlf x)) (cwV 1 hts gX3_settle_X8_raiseRight rfl rfl rfl (by decide +kernel) ⟨(Nat.le_of_ble_eq_true rfl), (Nat.le_of_ble_eq_true rfl)⟩) (xPreV hKN hP hD [4, 5, 6, 7, 8, 9, 10, 11, 12, 13, 14] (by decide) rfl (q0 := 4) rfl rfl rfl) rfl rfl hl.1 rfl (lv_room (Nat.le_of_ble_eq_true rfl)) dX3_settle_53 ⟨(Nat.le_of_ble_eq_true rfl), (Nat.le_of_ble_eq_true rfl)⟩) hP hD hS hA [4, 5, 6, 7, 8, 9, 10, 11, 12, 13, 14] [0, 1, 2, 3] rfl rfl (by decide) (by decide) (fun r53 u53 H locs hu53 hP hD hS => ?_)
      obtain ⟨er53, eu53⟩ := hu53
      subst er53
      obtain ⟨ky_53, vl_53, lf_53, rt_53, ct_53, ht_53, tt_53, sp_53, pa_53, ro_53, ss_53, dp_53, rn_53, od_53, kd_53⟩ := u53
      obtain ⟨hlf_53, hrt_53, hsp_53, hpa_53, hro_53, hrn_53, hkd_53⟩ : WF (ky_53, vl_53, lf_53, rt_53, ct_53, ht_53, tt_53, sp_53, pa_53, ro_53, ss_53, dp_53, rn_53, od_53, kd_53) := by rw [eu53]; exact wf_raiseRight (⟨hlf, hrt, hsp, hpa, hro, hrn, hkd⟩ : WF (ky, vl, lf, rt, ct, ht, tt, sp, pa, ro, ss, dp, rn, od, kd)) (hlf x)
      have hP : va_P D vwCl ((wKd kq) ++ (wT ca kq a (ky_53, vl_53, lf_53, rt_53, ct_53, ht_53, tt_53, sp_53, pa_53, ro_53, ss_53, dp_53, rn_53, od_53, kd_53))) H := hP
      have hD : va_D A ((wKd kq) ++ (wT ca kq a (ky_53, vl_53, lf_53, rt_53, ct_53, ht_53, tt_53, sp_53, pa_53, ro_53, ss_53, dp_53, rn_53, od_53, kd_53))) := hD
      refine xr_nst hx hb hKN.1 hP hD hS 7 0 (g := lf_53) rfl rfl (j := x) (v := rt (lf x)) (Nat.lt_of_le_of_lt hx60 (by decide)) (by decide) dX3_settle_56 (fun H locs hP hD hS => ?_)
      have hP : va_P D vwCl ((wKd kq) ++ (wT ca kq a (ky_53, vl_53, (va_up lf_53 x (rt (lf x))), rt_53, ct_53, ht_53, tt_53, sp_53, pa_53, ro_53, ss_53, dp_53, rn_53, od_53, kd_53))) H := hP
      have hD : va_D A ((wKd kq) ++ (wT ca kq a (ky_53, vl_53, (va_up lf_53 x (rt (lf x))), rt_53, ct_53, ht_53, tt_53, sp_53, pa_53, ro_53, ss_53, dp_53, rn_53, od_53, kd_53))) := hD
      refine lv_aload_n hx hb dX3_settle_57 rfl (lv_at hl 3 rfl) ?_
      refine lv_iload_n hx hb dX3_settle_58 rfl (lv_at hl 4 rfl) ?_
      refine xc_i (wr := wKd kq) (va_runV (As := [.int (nI x)]) (rest := []) ⟨hx, hb, hml, hown, hts⟩ (c_X8_raiseLeft l D ca kq a _ ky_53 vl_53 (va_up lf_53 x (rt (lf x))) rt_53 ct_53 ht_53 tt_53 sp_53 pa_53 ro_53 ss_53 dp_53 rn_53 od_53 kd_53 x (vu_le hlf_53 (hrt (lf x))) hrt_53 hsp_53 hpa_53 hro_53 hrn_53 hx60) (cwV 1 hts gX3_settle_X8_raiseLeft rfl rfl rfl (by decide +kernel) ⟨(Nat.le_of_ble_eq_true rfl), (Nat.le_of_ble_eq_true rfl)⟩) (xPreV hKN hP hD [4, 5, 6, 7, 8, 9, 10, 11, 12, 13, 14] (by decide) rfl (q0 := 4) rfl rfl rfl) rfl rfl hl.1 rfl (lv_room (Nat.le_of_ble_eq_true rfl)) dX3_settle_59 ⟨(Nat.le_of_ble_eq_true rfl), (Nat.le_of_ble_eq_true rfl)⟩) hP hD hS hA [4, 5, 6, 7, 8, 9, 10, 11, 12, 13, 14] [0, 1, 2, 3] rfl rfl (by decide) (by decide) (fun r59 u59 H locs hu59 hP hD hS => ?_)
      exact W.iret (v := r59) hx hb hr (fun t9 e9 w9 => ⟨⟨_, u59, rfl, by rw [show f_settle2 true (ky, vl, lf, rt, ct, ht, tt, sp, pa, ro, ss, dp, rn, od, kd) x = (TS.lf (setLf (f_raiseRight (ky, vl, lf, rt, ct, ht, tt, sp, pa, ro, ss, dp, rn, od, kd) (lf x)) x (rt (lf x))) x, f_raiseLeft (setLf (f_raiseRight (ky, vl, lf, rt, ct, ht, tt, sp, pa, ro, ss, dp, rn, od, kd) (lf x)) x (rt (lf x))) x) from by unfold f_settle2; rw [if_pos c23]; dsimp only; rw [if_pos c43]]; rw [← eu53]; exact hu59, by rw [e9]; exact hP, hD⟩, hS.F e9⟩) hS.2.2 dX3_settle_62

-- ByTwoSides.suits of X4
set_option maxHeartbeats 4000000 in
set_option maxRecDepth 100000 in
theorem c_X3_suits_X4 (l : Launch) (D : va_G) (ca : Nat → ClassId) (kq a : Nat → Nat) (sz : Nat) (ky vl : Nat → Int32) (lf rt : Nat → Nat) (ct ht : Nat → Int32) (tt : Nat → Int64) (sp pa ro : Nat → Nat) (ss dp rn : Nat) (od : Int32) (kd : Nat) (x : Nat) (hlf : ∀ k, lf k ≤ 60) (hrt : ∀ k, rt k ≤ 60) (hsp : ∀ k, sp k ≤ 60) (hpa : ∀ k, pa k ≤ 60) (hro : ∀ k, ro k ≤ 60) (hrn : rn ≤ 60) (hkd : kd < 4) (hx60 : x ≤ 60): Met l yX3_suits wsX3_suits ({ frames := 1, cells := 0, slots := 0, locals := 23 } : Room) (xPc D (TY ca) [.ref (kq 1), .ref (a 0), .int (nI x)] ((wKd kq) ++ (wT ca kq a (ky, vl, lf, rt, ct, ht, tt, sp, pa, ro, ss, dp, rn, od, kd))) sz) (va_Qi (fun (r : Int32) (u : TS) => r = bI (if f_too true (ky, vl, lf, rt, ct, ht, tt, sp, pa, ro, ss, dp, rn, od, kd) (lf x) (rt x) = true then false else if f_too true (ky, vl, lf, rt, ct, ht, tt, sp, pa, ro, ss, dp, rn, od, kd) (rt x) (lf x) = true then false else true) ∧ u = (ky, vl, lf, rt, ct, ht, tt, sp, pa, ro, ss, dp, rn, od, kd)) (xB D (fun t : TS => (wKd kq) ++ (wT ca kq a t)) (va_A ((wKd kq) ++ (wT ca kq a (ky, vl, lf, rt, ct, ht, tt, sp, pa, ro, ss, dp, rn, od, kd))) sz)) (va_A ((wKd kq) ++ (wT ca kq a (ky, vl, lf, rt, ct, ht, tt, sp, pa, ro, ss, dp, rn, od, kd))) sz)) 0 0 (va_A ((wKd kq) ++ (wT ca kq a (ky, vl, lf, rt, ct, ht, tt, sp, pa, ro, ss, dp, rn, od, kd))) sz) := by
  refine Met.ofW (cc := cX3_suits) (maxL := 5) (ret := (some .boolean)) (by decide) rfl ?_
  intro p e s m args below meth c s₁ B hml hv
  obtain ⟨rfl, hsz, hP, hKN, hD0⟩ := hv
  have hx := B.exec
  have hb := B.bytes
  have hr := B.returns
  have hts := atoms_spec (ws := wsX3_suits) B.pre
  have hown : s.vm.findClass RX3 = some m.cls := findClass_of_methodNamed B.named
  have hlocks := B.notSynchronized
  have inX8 : ∀ w ∈ wsX80, w ∈ wsX3_suits := by decide +kernel
  subst hsz
  have hD := hD0.self (sz := s.heap.size)
  generalize hAe : va_A ((wKd kq) ++ (wT ca kq a (ky, vl, lf, rt, ct, ht, tt, sp, pa, ro, ss, dp, rn, od, kd))) s.heap.size = A at hD ⊢
  have hA : ∀ q : Nat, s.heap.size ≤ q → A q := fun q h => by rw [← hAe]; exact Or.inr h
  have hS : va_S A s.heap s.heap [] := va_S.rf
  have hl := lv_entry ([.ref (kq 1), .ref (a 0), .int (nI x)]) (n := 5) (Nat.le_of_ble_eq_true rfl)
  rw [lg_entry_eq]
  generalize (lg_sl ([.ref (kq 1), .ref (a 0), .int (nI x)]) ++ List.replicate (5 - (lg_sl ([.ref (kq 1), .ref (a 0), .int (nI x)])).length) Slot.unset).toArray = ls at hl ⊢
  have hl : lv_has ls 5 [(0, .ref (kq 1)), (1, .ref (a 0)), (2, .int (nI x))] := hl
  refine lv_aload_n hx hb dX3_suits_0 rfl (lv_at hl 1 rfl) ?_
  refine va_getN (D := D) (ci := 6) (v := .ref (a 3)) (C := RX8) (T := TX8) (N := 15) hx hb hts inX8 hown hKN.1 hP 4 rfl rfl 2 (by decide) (va_Nw.use rfl (NW.f hKN.2 (a := RX3) (i := 7) (b := "TreeFamily$Tree") (n := "left") (d := "[I") (g := "TreeFamily") (by decide +kernel))) (fun _ h9 => h9) rfl dX3_suits_1 ?_
  refine lv_iload_n hx hb dX3_suits_4 rfl (lv_at hl 2 rfl) ?_
  refine xr_ild hx hb hKN.1 hP 7 0 rfl rfl (j := x) (Nat.lt_of_le_of_lt hx60 (by decide)) (by decide) dX3_suits_5 ?_
  refine lv_istore_n (lv' := [(3, .int (nI (lf x))), (0, .ref (kq 1)), (1, .ref (a 0)), (2, .int (nI x))]) hx hb dX3_suits_6 rfl hl (by decide) rfl (fun ls hl => ?_)
  refine lv_aload_n hx hb dX3_suits_7 rfl (lv_at hl 2 rfl) ?_
  refine va_getN (D := D) (ci := 6) (v := .ref (a 4)) (C := RX8) (T := TX8) (N := 15) hx hb hts inX8 hown hKN.1 hP 4 rfl rfl 3 (by decide) (va_Nw.use rfl (NW.f hKN.2 (a := RX3) (i := 13) (b := "TreeFamily$Tree") (n := "right") (d := "[I") (g := "TreeFamily") (by decide +kernel))) (fun _ h9 => h9) rfl dX3_suits_8 ?_
  refine lv_iload_n hx hb dX3_suits_11 rfl (lv_at hl 3 rfl) ?_
  refine xr_ild hx hb hKN.1 hP 8 0 rfl rfl (j := x) (Nat.lt_of_le_of_lt hx60 (by decide)) (by decide) dX3_suits_12 ?_
  refine lv_istore (lv' := [(4, .int (nI (rt x))), (3, .int (nI (lf x))), (0, .ref (kq 1)), (1, .ref (a 0)), (2, .int (nI x))]) hx hb dX3_suits_13 hl (by decide) rfl (fun ls hl => ?_)
  refine lv_aload_n hx hb dX3_suits_15 rfl (lv_at hl 2 rfl) ?_
  refine lv_aload_n hx hb dX3_suits_16 rfl (lv_at hl 3 rfl) ?_
  refine lv_iload_n hx hb dX3_suits_17 rfl (lv_at hl 1 rfl) ?_
  refine lv_iload hx hb dX3_suits_18 (lv_at hl 0 rfl) ?_
  refine xc_i (wr := wKd kq) (va_runU (As := [.ref (a 0), .int (nI (lf x)), .int (nI (rt x))]) (rest := []) ⟨hx, hb, hml, hown, hts⟩ (c_X4_isTooMuch l D ca kq a _ ky vl lf rt ct ht tt sp pa ro ss dp rn od kd (lf x) (rt x) hlf hrt hsp hpa hro hrn (hlf x) (hrt x)) (va_cwA 3 hts gX3_suits_X4_isTooMuch_u16X4 rfl rfl rfl (NW.d hKN.2 (by decide +kernel)) (by decide +kernel) ⟨(Nat.le_of_ble_eq_true rfl), (Nat.le_of_ble_eq_true rfl)⟩) (xPreV hKN hP hD [4, 5, 6, 7, 8, 9, 10, 11, 12, 13, 14] (by decide) rfl (q0 := 1) rfl rfl rfl) rfl rfl hl.1 rfl (lv_room (Nat.le_of_ble_eq_true rfl)) dX3_suits_20 ⟨(Nat.le_of_ble_eq_true rfl), (Nat.le_of_ble_eq_true rfl)⟩) hP hD hS hA [4, 5, 6, 7, 8, 9, 10, 11, 12, 13, 14] [0, 1, 2, 3] rfl rfl (by decide) (by decide) (fun r20 u20 H locs hu20 hP hD hS => ?_)
  obtain ⟨er20, eu20⟩ := hu20
  subst er20
  subst eu20
  have hP : va_P D vwCl ((wKd kq) ++ (wT ca kq a (ky, vl, lf, rt, ct, ht, tt, sp, pa, ro, ss, dp, rn, od, kd))) H := hP
  have hD : va_D A ((wKd kq) ++ (wT ca kq a (ky, vl, lf, rt, ct, ht, tt, sp, pa, ro, ss, dp, rn, od, kd))) := hD
  refine lv_if_ne (tgt := 41) hx hb dX3_suits_23 (by decide) (fun c23 => ?_) (fun c23 => ?_)
  · skip
    have c23 := bI_ne.mp c23
    refine lv_iconst (v := 0) hx hb dX3_suits_41 (by decide) ?_
    exact W.zret (v := 0) hx hb hr (by decide) (fun t9 e9 w9 => ⟨⟨_, (ky, vl, lf, rt, ct, ht, tt, sp, pa, ro, ss, dp, rn, od, kd), rfl, ⟨by first | exact bI_of (if_pos c23) rfl | exact bI_of ((if_neg (by rw [c23]; decide)).trans (if_pos c34)) rfl | exact bI_of ((if_neg (by rw [c23]; decide)).trans (if_neg (by rw [c34]; decide))) rfl, rfl⟩, by rw [e9]; exact hP, hD⟩, hS.F e9⟩) hS.2.2 dX3_suits_42
  · skip
    have c23 := bI_0.mp c23
    refine lv_aload_n hx hb dX3_suits_26 rfl (lv_at hl 2 rfl) ?_
    refine lv_aload_n hx hb dX3_suits_27 rfl (lv_at hl 3 rfl) ?_
    refine lv_iload hx hb dX3_suits_28 (lv_at hl 0 rfl) ?_
    refine lv_iload_n hx hb dX3_suits_30 rfl (lv_at hl 1 rfl) ?_
    refine xc_i (wr := wKd kq) (va_runU (As := [.ref (a 0), .int (nI (rt x)), .int (nI (lf x))]) (rest := []) ⟨hx, hb, hml, hown, hts⟩ (c_X4_isTooMuch l D ca kq a _ ky vl lf rt ct ht tt sp pa ro ss dp rn od kd (rt x) (lf x) hlf hrt hsp hpa hro hrn (hrt x) (hlf x)) (va_cwA 3 hts gX3_suits_X4_isTooMuch_u16X4 rfl rfl rfl (NW.d hKN.2 (by decide +kernel)) (by decide +kernel) ⟨(Nat.le_of_ble_eq_true rfl), (Nat.le_of_ble_eq_true rfl)⟩) (xPreV hKN hP hD [4, 5, 6, 7, 8, 9, 10, 11, 12, 13, 14] (by decide) rfl (q0 := 1) rfl rfl rfl) rfl rfl hl.1 rfl (lv_room (Nat.le_of_ble_eq_true rfl)) dX3_suits_31 ⟨(Nat.le_of_ble_eq_true rfl), (Nat.le_of_ble_eq_true rfl)⟩) hP hD hS hA [4, 5, 6, 7, 8, 9, 10, 11, 12, 13, 14] [0, 1, 2, 3] rfl rfl (by decide) (by decide) (fun r31 u31 H locs hu31 hP hD hS => ?_)
    obtain ⟨er31, eu31⟩ := hu31
    subst er31
    subst eu31
    have hP : va_P D vwCl ((wKd kq) ++ (wT ca kq a (ky, vl, lf, rt, ct, ht, tt, sp, pa, ro, ss, dp, rn, od, kd))) H := hP
    have hD : va_D A ((wKd kq) ++ (wT ca kq a (ky, vl, lf, rt, ct, ht, tt, sp, pa, ro, ss, dp, rn, od, kd))) := hD
    refine lv_if_ne (tgt := 41) hx hb dX3_suits_34 (by decide) (fun c34 => ?_) (fun c34 => ?_)
    · skip
      have c34 := bI_ne.mp c34
      refine lv_iconst (v := 0) hx hb dX3_suits_41 (by decide) ?_
      exact W.zret (v := 0) hx hb hr (by decide) (fun t9 e9 w9 => ⟨⟨_, (ky, vl, lf, rt, ct, ht, tt, sp, pa, ro, ss, dp, rn, od, kd), rfl, ⟨by first | exact bI_of (if_pos c23) rfl | exact bI_of ((if_neg (by rw [c23]; decide)).trans (if_pos c34)) rfl | exact bI_of ((if_neg (by rw [c23]; decide)).trans (if_neg (by rw [c34]; decide))) rfl, rfl⟩, by rw [e9]; exact hP, hD⟩, hS.F e9⟩) hS.2.2 dX3_suits_42
    · skip
      have c34 := bI_0.mp c34
      refine lv_iconst (v := 1) hx hb dX3_suits_37 (by decide) ?_
      refine lv_goto (tgt := 42) hx hb dX3_suits_38 (by decide) ?_
      exact W.zret (v := 1) hx hb hr (by decide) (fun t9 e9 w9 => ⟨⟨_, (ky, vl, lf, rt, ct, ht, tt, sp, pa, ro, ss, dp, rn, od, kd), rfl, ⟨by first | exact bI_of (if_pos c23) rfl | exact bI_of ((if_neg (by rw [c23]; decide)).trans (if_pos c34)) rfl | exact bI_of ((if_neg (by rw [c23]; decide)).trans (if_neg (by rw [c34]; decide))) rfl, rfl⟩, by rw [e9]; exact hP, hD⟩, hS.F e9⟩) hS.2.2 dX3_suits_42

-- ByPriorities.sink
set_option maxHeartbeats 4000000 in
set_option maxRecDepth 100000 in
theorem c_X1_sink (l : Launch) (D : va_G) (ca : Nat → ClassId) (kq a : Nat → Nat) : ∀ (n : Nat) (sz : Nat) (ky vl : Nat → Int32) (lf rt : Nat → Nat) (ct ht : Nat → Int32) (tt : Nat → Int64) (sp pa ro : Nat → Nat) (ss dp rn : Nat) (od : Int32) (kd : Nat) (x : Nat) (hlf : ∀ k, lf k ≤ 60) (hrt : ∀ k, rt k ≤ 60) (hsp : ∀ k, sp k ≤ 60) (hpa : ∀ k, pa k ≤ 60) (hro : ∀ k, ro k ≤ 60) (hrn : rn ≤ 60) (hkd : kd < 4) (hx60 : x ≤ 60) (hn60 : n ≤ 60), Met l yX1_sink wsX1_sink ({ frames := n + 2, cells := 0, slots := 0, locals := 23 * n + 45 } : Room) (xPc D (TY ca) [.ref (a 0), .int (nI x), .int (nI n)] (wT ca kq a (ky, vl, lf, rt, ct, ht, tt, sp, pa, ro, ss, dp, rn, od, kd)) sz) (va_Qi (fun (r : Int32) (u : TS) => r = nI (f_sink n (ky, vl, lf, rt, ct, ht, tt, sp, pa, ro, ss, dp, rn, od, kd) x).1 ∧ u = (f_sink n (ky, vl, lf, rt, ct, ht, tt, sp, pa, ro, ss, dp, rn, od, kd) x).2) (xB D (wT ca kq a) (va_A (wT ca kq a (ky, vl, lf, rt, ct, ht, tt, sp, pa, ro, ss, dp, rn, od, kd)) sz)) (va_A (wT ca kq a (ky, vl, lf, rt, ct, ht, tt, sp, pa, ro, ss, dp, rn, od, kd)) sz)) 0 0 (va_A (wT ca kq a (ky, vl, lf, rt, ct, ht, tt, sp, pa, ro, ss, dp, rn, od, kd)) sz) := by
  intro n
  induction n with
  | zero =>
    intro sz ky vl lf rt ct ht tt sp pa ro ss dp rn od kd x hlf hrt hsp hpa hro hrn hkd hx60 hn60
    refine Met.ofW (cc := cX1_sink) (maxL := 4) (ret := (some .int)) (by decide) rfl ?_
    intro p e s m args below meth c s₁ B hml hv
    obtain ⟨rfl, hsz, hP, hKN, hD0⟩ := hv
    have hx := B.exec
    have hb := B.bytes
    have hr := B.returns
    have hts := atoms_spec (ws := wsX1_sink) B.pre
    have hown : s.vm.findClass RX1 = some m.cls := findClass_of_methodNamed B.named
    have hlocks := B.notSynchronized
    subst hsz
    have hD := hD0.self (sz := s.heap.size)
    generalize hAe : va_A (wT ca kq a (ky, vl, lf, rt, ct, ht, tt, sp, pa, ro, ss, dp, rn, od, kd)) s.heap.size = A at hD ⊢
    have hA : ∀ q : Nat, s.heap.size ≤ q → A q := fun q h => by rw [← hAe]; exact Or.inr h
    have hS : va_S A s.heap s.heap [] := va_S.rf
    have hl := lv_entry ([.ref (a 0), .int (nI x), .int (nI 0)]) (n := 4) (Nat.le_of_ble_eq_true rfl)
    rw [lg_entry_eq]
    generalize (lg_sl ([.ref (a 0), .int (nI x), .int (nI 0)]) ++ List.replicate (4 - (lg_sl ([.ref (a 0), .int (nI x), .int (nI 0)])).length) Slot.unset).toArray = ls at hl ⊢
    have hl : lv_has ls 4 [(0, .ref (a 0)), (1, .int (nI x)), (2, .int (nI 0))] := hl
    refine lv_aload_n hx hb dX1_sink_0 rfl (lv_at hl 0 rfl) ?_
    refine lv_iload_n hx hb dX1_sink_1 rfl (lv_at hl 1 rfl) ?_
    refine xc_i (wr := []) (va_runS (As := [.ref (a 0), .int (nI x)]) (rest := []) ⟨hx, hb, hml, hown, hts⟩ (c_X1_preferred l D ca kq a _ ky vl lf rt ct ht tt sp pa ro ss dp rn od kd x hlf hrt hsp hpa hro hrn hx60) (va_cwS 2 hts gX1_sink_X1_preferred rfl rfl rfl (by decide +kernel) ⟨(by show 1 + 1 ≤ 0 + 2; omega), (by show 8 + (5 + 11) + 21 ≤ 23 * 0 + 45; omega)⟩) (xPreS hKN hP hD [0, 1, 2, 3, 4, 5, 6, 7, 8, 9, 10] (by decide) rfl) rfl rfl hl.1 rfl (lv_room (Nat.le_of_ble_eq_true rfl)) dX1_sink_2 ⟨Nat.zero_le _, Nat.zero_le _⟩) hP hD hS hA [0, 1, 2, 3, 4, 5, 6, 7, 8, 9, 10] [] rfl rfl (by decide) (by decide) (fun r2 u2 H locs hu2 hP hD hS => ?_)
    obtain ⟨er2, eu2⟩ := hu2
    subst er2
    subst eu2
    have hP : va_P D vwCl (wT ca kq a (ky, vl, lf, rt, ct, ht, tt, sp, pa, ro, ss, dp, rn, od, kd)) H := hP
    have hD : va_D A (wT ca kq a (ky, vl, lf, rt, ct, ht, tt, sp, pa, ro, ss, dp, rn, od, kd)) := hD
    refine lv_istore_n (lv' := [(3, .int (nI (f_preferred (ky, vl, lf, rt, ct, ht, tt, sp, pa, ro, ss, dp, rn, od, kd) x))), (0, .ref (a 0)), (1, .int (nI x)), (2, .int (nI 0))]) hx hb dX1_sink_5 rfl hl (by decide) rfl (fun ls hl => ?_)
    refine lv_iload_n hx hb dX1_sink_6 rfl (lv_at hl 0 rfl) ?_
    refine lv_iload_n hx hb dX1_sink_7 rfl (lv_at hl 2 rfl) ?_
    refine lv_icmp_eq (tgt := 15) hx hb dX1_sink_8 (by decide) (fun c8 => ?_) (fun c8 => ?_)
    · skip
      have c8 : (f_preferred (ky, vl, lf, rt, ct, ht, tt, sp, pa, ro, ss, dp, rn, od, kd) x) = x := (xn_eq (a := (f_preferred (ky, vl, lf, rt, ct, ht, tt, sp, pa, ro, ss, dp, rn, od, kd) x)) (b := x) (Nat.lt_of_le_of_lt (wf_preferred (⟨hlf, hrt, hsp, hpa, hro, hrn, hkd⟩ : WF (ky, vl, lf, rt, ct, ht, tt, sp, pa, ro, ss, dp, rn, od, kd)) hx60) (by decide)) (Nat.lt_of_le_of_lt hx60 (by decide))).mp c8
      refine lv_iload_n hx hb dX1_sink_15 rfl (lv_at hl 2 rfl) ?_
      exact W.iret (v := (nI x)) hx hb hr (fun t9 e9 w9 => ⟨⟨_, (ky, vl, lf, rt, ct, ht, tt, sp, pa, ro, ss, dp, rn, od, kd), rfl, ⟨rfl, rfl⟩, by rw [e9]; exact hP, hD⟩, hS.F e9⟩) hS.2.2 dX1_sink_16
    · skip
      have c8 : ¬ (f_preferred (ky, vl, lf, rt, ct, ht, tt, sp, pa, ro, ss, dp, rn, od, kd) x) = x := fun h9 => c8 ((xn_eq (a := (f_preferred (ky, vl, lf, rt, ct, ht, tt, sp, pa, ro, ss, dp, rn, od, kd) x)) (b := x) (Nat.lt_of_le_of_lt (wf_preferred (⟨hlf, hrt, hsp, hpa, hro, hrn, hkd⟩ : WF (ky, vl, lf, rt, ct, ht, tt, sp, pa, ro, ss, dp, rn, od, kd)) hx60) (by decide)) (Nat.lt_of_le_of_lt hx60 (by decide))).mpr h9)
      refine lv_iload_n hx hb dX1_sink_11 rfl (lv_at hl 3 rfl) ?_
      refine lv_if_ne (tgt := 17) hx hb dX1_sink_12 (by decide) (fun c12 => ?_) (fun c12 => ?_)
      · skip
        exact absurd rfl c12
      · skip
        refine lv_iload_n hx hb dX1_sink_15 rfl (lv_at hl 2 rfl) ?_
        exact W.iret (v := (nI x)) hx hb hr (fun t9 e9 w9 => ⟨⟨_, (ky, vl, lf, rt, ct, ht, tt, sp, pa, ro, ss, dp, rn, od, kd), rfl, ⟨rfl, rfl⟩, by rw [e9]; exact hP, hD⟩, hS.F e9⟩) hS.2.2 dX1_sink_16
  | succ n ih =>
    intro sz ky vl lf rt ct ht tt sp pa ro ss dp rn od kd x hlf hrt hsp hpa hro hrn hkd hx60 hn60
    refine Met.ofW (cc := cX1_sink) (maxL := 4) (ret := (some .int)) (by decide) rfl ?_
    intro p e s m args below meth c s₁ B hml hv
    obtain ⟨rfl, hsz, hP, hKN, hD0⟩ := hv
    have hx := B.exec
    have hb := B.bytes
    have hr := B.returns
    have hts := atoms_spec (ws := wsX1_sink) B.pre
    have hown : s.vm.findClass RX1 = some m.cls := findClass_of_methodNamed B.named
    have hlocks := B.notSynchronized
    have inX8 : ∀ w ∈ wsX80, w ∈ wsX1_sink := by decide +kernel
    subst hsz
    have hD := hD0.self (sz := s.heap.size)
    generalize hAe : va_A (wT ca kq a (ky, vl, lf, rt, ct, ht, tt, sp, pa, ro, ss, dp, rn, od, kd)) s.heap.size = A at hD ⊢
    have hA : ∀ q : Nat, s.heap.size ≤ q → A q := fun q h => by rw [← hAe]; exact Or.inr h
    have hS : va_S A s.heap s.heap [] := va_S.rf
    have hl := lv_entry ([.ref (a 0), .int (nI x), .int (nI (n + 1))]) (n := 4) (Nat.le_of_ble_eq_true rfl)
    rw [lg_entry_eq]
    generalize (lg_sl ([.ref (a 0), .int (nI x), .int (nI (n + 1))]) ++ List.replicate (4 - (lg_sl ([.ref (a 0), .int (nI x), .int (nI (n + 1))])).length) Slot.unset).toArray = ls at hl ⊢
    have hl : lv_has ls 4 [(0, .ref (a 0)), (1, .int (nI x)), (2, .int (nI (n + 1)))] := hl
    refine lv_aload_n hx hb dX1_sink_0 rfl (lv_at hl 0 rfl) ?_
    refine lv_iload_n hx hb dX1_sink_1 rfl (lv_at hl 1 rfl) ?_
    refine xc_i (wr := []) (va_runS (As := [.ref (a 0), .int (nI x)]) (rest := []) ⟨hx, hb, hml, hown, hts⟩ (c_X1_preferred l D ca kq a _ ky vl lf rt ct ht tt sp pa ro ss dp rn od kd x hlf hrt hsp hpa hro hrn hx60) (va_cwS 2 hts gX1_sink_X1_preferred rfl rfl rfl (by decide +kernel) ⟨(by show 1 + 1 ≤ n + 1 + 2; omega), (by show 8 + (5 + 11) + 21 ≤ 23 * (n + 1) + 45; omega)⟩) (xPreS hKN hP hD [0, 1, 2, 3, 4, 5, 6, 7, 8, 9, 10] (by decide) rfl) rfl rfl hl.1 rfl (lv_room (Nat.le_of_ble_eq_true rfl)) dX1_sink_2 ⟨Nat.zero_le _, Nat.zero_le _⟩) hP hD hS hA [0, 1, 2, 3, 4, 5, 6, 7, 8, 9, 10] [] rfl rfl (by decide) (by decide) (fun r2 u2 H locs hu2 hP hD hS => ?_)
    obtain ⟨er2, eu2⟩ := hu2
    subst er2
    subst eu2
    have hP : va_P D vwCl (wT ca kq a (ky, vl, lf, rt, ct, ht, tt, sp, pa, ro, ss, dp, rn, od, kd)) H := hP
    have hD : va_D A (wT ca kq a (ky, vl, lf, rt, ct, ht, tt, sp, pa, ro, ss, dp, rn, od, kd)) := hD
    refine lv_istore_n (lv' := [(3, .int (nI (f_preferred (ky, vl, lf, rt, ct, ht, tt, sp, pa, ro, ss, dp, rn, od, kd) x))), (0, .ref (a 0)), (1, .int (nI x)), (2, .int (nI (n + 1)))]) hx hb dX1_sink_5 rfl hl (by decide) rfl (fun ls hl => ?_)
    refine lv_iload_n hx hb dX1_sink_6 rfl (lv_at hl 0 rfl) ?_
    refine lv_iload_n hx hb dX1_sink_7 rfl (lv_at hl 2 rfl) ?_
    refine lv_icmp_eq (tgt := 15) hx hb dX1_sink_8 (by decide) (fun c8 => ?_) (fun c8 => ?_)
    · skip
      have c8 : (f_preferred (ky, vl, lf, rt, ct, ht, tt, sp, pa, ro, ss, dp, rn, od, kd) x) = x := (xn_eq (a := (f_preferred (ky, vl, lf, rt, ct, ht, tt, sp, pa, ro, ss, dp, rn, od, kd) x)) (b := x) (Nat.lt_of_le_of_lt (wf_preferred (⟨hlf, hrt, hsp, hpa, hro, hrn, hkd⟩ : WF (ky, vl, lf, rt, ct, ht, tt, sp, pa, ro, ss, dp, rn, od, kd)) hx60) (by decide)) (Nat.lt_of_le_of_lt hx60 (by decide))).mp c8
      refine lv_iload_n hx hb dX1_sink_15 rfl (lv_at hl 2 rfl) ?_
      exact W.iret (v := (nI x)) hx hb hr (fun t9 e9 w9 => ⟨⟨_, (ky, vl, lf, rt, ct, ht, tt, sp, pa, ro, ss, dp, rn, od, kd), rfl, ⟨by rw [f_sink, if_pos c8], by rw [f_sink, if_pos c8]⟩, by rw [e9]; exact hP, hD⟩, hS.F e9⟩) hS.2.2 dX1_sink_16
    · skip
      have c8 : ¬ (f_preferred (ky, vl, lf, rt, ct, ht, tt, sp, pa, ro, ss, dp, rn, od, kd) x) = x := fun h9 => c8 ((xn_eq (a := (f_preferred (ky, vl, lf, rt, ct, ht, tt, sp, pa, ro, ss, dp, rn, od, kd) x)) (b := x) (Nat.lt_of_le_of_lt (wf_preferred (⟨hlf, hrt, hsp, hpa, hro, hrn, hkd⟩ : WF (ky, vl, lf, rt, ct, ht, tt, sp, pa, ro, ss, dp, rn, od, kd)) hx60) (by decide)) (Nat.lt_of_le_of_lt hx60 (by decide))).mpr h9)
      refine lv_iload_n hx hb dX1_sink_11 rfl (lv_at hl 3 rfl) ?_
      refine lv_if_ne (tgt := 17) hx hb dX1_sink_12 (by decide) (fun c12 => ?_) (fun c12 => ?_)
      · skip
        refine lv_iload_n hx hb dX1_sink_17 rfl (lv_at hl 0 rfl) ?_
        refine lv_aload_n hx hb dX1_sink_18 rfl (lv_at hl 1 rfl) ?_
        refine va_getN (D := D) (ci := 6) (v := .ref (a 3)) (C := RX8) (T := TX8) (N := 15) hx hb hts inX8 hown hKN.1 hP 0 rfl rfl 2 (by decide) (va_Nw.use rfl (NW.f hKN.2 (a := RX1) (i := 19) (b := "TreeFamily$Tree") (n := "left") (d := "[I") (g := "TreeFamily") (by decide +kernel))) (fun _ h9 => h9) rfl dX1_sink_19 ?_
        refine lv_iload_n hx hb dX1_sink_22 rfl (lv_at hl 2 rfl) ?_
        refine xr_ild hx hb hKN.1 hP 3 0 rfl rfl (j := x) (Nat.lt_of_le_of_lt hx60 (by decide)) (by decide) dX1_sink_23 ?_
        refine lv_icmp_ne (tgt := 50) hx hb dX1_sink_24 (by decide) (fun c24 => ?_) (fun c24 => ?_)
        · skip
          have c24 : ¬ (f_preferred (ky, vl, lf, rt, ct, ht, tt, sp, pa, ro, ss, dp, rn, od, kd) x) = (lf x) := fun h9 => c24 ((xn_eq (a := (f_preferred (ky, vl, lf, rt, ct, ht, tt, sp, pa, ro, ss, dp, rn, od, kd) x)) (b := (lf x)) (Nat.lt_of_le_of_lt (wf_preferred (⟨hlf, hrt, hsp, hpa, hro, hrn, hkd⟩ : WF (ky, vl, lf, rt, ct, ht, tt, sp, pa, ro, ss, dp, rn, od, kd)) hx60) (by decide)) (Nat.lt_of_le_of_lt (hlf x) (by decide))).mpr h9)
          refine lv_aload_n hx hb dX1_sink_50 rfl (lv_at hl 1 rfl) ?_
          refine lv_iload_n hx hb dX1_sink_51 rfl (lv_at hl 2 rfl) ?_
          refine xc_i (wr := []) (va_runV (As := [.int (nI x)]) (rest := []) ⟨hx, hb, hml, hown, hts⟩ (c_X8_raiseRight l D ca kq a _ ky vl lf rt ct ht tt sp pa ro ss dp rn od kd x hlf hrt hsp hpa hro hrn hx60) (cwV 1 hts gX1_sink_X8_raiseRight rfl rfl rfl (by decide +kernel) ⟨(by show 1 + 1 ≤ n + 1 + 2; omega), (by show 8 + (3 + 11) + 23 ≤ 23 * (n + 1) + 45; omega)⟩) (xPreV hKN hP hD [0, 1, 2, 3, 4, 5, 6, 7, 8, 9, 10] (by decide) rfl (q0 := 0) rfl rfl rfl) rfl rfl hl.1 rfl (lv_room (Nat.le_of_ble_eq_true rfl)) dX1_sink_52 ⟨Nat.zero_le _, Nat.zero_le _⟩) hP hD hS hA [0, 1, 2, 3, 4, 5, 6, 7, 8, 9, 10] [] rfl rfl (by decide) (by decide) (fun r52 u52 H locs hu52 hP hD hS => ?_)
          obtain ⟨er52, eu52⟩ := hu52
          subst er52
          obtain ⟨ky_52, vl_52, lf_52, rt_52, ct_52, ht_52, tt_52, sp_52, pa_52, ro_52, ss_52, dp_52, rn_52, od_52, kd_52⟩ := u52
          obtain ⟨hlf_52, hrt_52, hsp_52, hpa_52, hro_52, hrn_52, hkd_52⟩ : WF (ky_52, vl_52, lf_52, rt_52, ct_52, ht_52, tt_52, sp_52, pa_52, ro_52, ss_52, dp_52, rn_52, od_52, kd_52) := by rw [eu52]; exact wf_raiseRight (⟨hlf, hrt, hsp, hpa, hro, hrn, hkd⟩ : WF (ky, vl, lf, rt, ct, ht, tt, sp, pa, ro, ss, dp, rn, od, kd)) hx60
          have hP : va_P D vwCl (wT ca kq a (ky_52, vl_52, lf_52, rt_52, ct_52, ht_52, tt_52, sp_52, pa_52, ro_52, ss_52, dp_52, rn_52, od_52, kd_52)) H := hP
          have hD : va_D A (wT ca kq a (ky_52, vl_52, lf_52, rt_52, ct_52, ht_52, tt_52, sp_52, pa_52, ro_52, ss_52, dp_52, rn_52, od_52, kd_52)) := hD
          refine lv_pop hx hb dX1_sink_55 rfl ?_
          refine lv_aload_n hx hb dX1_sink_56 rfl (lv_at hl 1 rfl) ?_
          refine va_getN (D := D) (ci := 6) (v := .ref (a 3)) (C := RX8) (T := TX8) (N := 15) hx hb hts inX8 hown hKN.1 hP 0 rfl rfl 2 (by decide) (va_Nw.use rfl (NW.f hKN.2 (a := RX1) (i := 19) (b := "TreeFamily$Tree") (n := "left") (d := "[I") (g := "TreeFamily") (by decide +kernel))) (fun _ h9 => h9) rfl dX1_sink_57 ?_
          refine lv_iload_n hx hb dX1_sink_60 rfl (lv_at hl 0 rfl) ?_
          refine lv_aload_n hx hb dX1_sink_61 rfl (lv_at hl 1 rfl) ?_
          refine lv_iload_n hx hb dX1_sink_62 rfl (lv_at hl 2 rfl) ?_
          refine lv_iload_n hx hb dX1_sink_63 rfl (lv_at hl 3 rfl) ?_
          refine lv_iconst (v := 1) hx hb dX1_sink_64 (by decide) ?_
          refine lv_isub hx hb dX1_sink_65 ?_
          refine xr_top (y := nI n) (pk_sub (a := n + 1) (b := 1) (by omega)) ?_
          refine xc_i (wr := []) (va_runS (As := [.ref (a 0), .int (nI x), .int (nI n)]) (rest := [.int (nI (f_preferred (ky, vl, lf, rt, ct, ht, tt, sp, pa, ro, ss, dp, rn, od, kd) x)), .ref (a 3)]) ⟨hx, hb, hml, hown, hts⟩ (ih _ ky_52 vl_52 lf_52 rt_52 ct_52 ht_52 tt_52 sp_52 pa_52 ro_52 ss_52 dp_52 rn_52 od_52 kd_52 x hlf_52 hrt_52 hsp_52 hpa_52 hro_52 hrn_52 hkd_52 hx60 (by omega)) (va_cwS 3 hts gX1_sink_X1_sink rfl rfl rfl (by decide +kernel) ⟨(by show n + 2 + 1 ≤ n + 1 + 2; omega), (by show 8 + (4 + 11) + (23 * n + 45) ≤ 23 * (n + 1) + 45; omega)⟩) (xPreS hKN hP hD [0, 1, 2, 3, 4, 5, 6, 7, 8, 9, 10] (by decide) rfl) rfl rfl hl.1 rfl (lv_room (Nat.le_of_ble_eq_true rfl)) dX1_sink_66 ⟨Nat.zero_le _, Nat.zero_le _⟩) hP hD hS hA [0, 1, 2, 3, 4, 5, 6, 7, 8, 9, 10] [] rfl rfl (by decide) (by decide) (fun r66 u66 H locs hu66 hP hD hS => ?_)
          obtain ⟨er66, eu66⟩ := hu66
          obtain ⟨y66, ey66⟩ : ∃ z, z = (f_sink n (ky_52, vl_52, lf_52, rt_52, ct_52, ht_52, tt_52, sp_52, pa_52, ro_52, ss_52, dp_52, rn_52, od_52, kd_52) x).1 := ⟨_, rfl⟩
          rw [← ey66] at er66
          subst er66
          have hy66 : y66 ≤ 60 := by rw [ey66]; exact (wf_sink n (⟨hlf_52, hrt_52, hsp_52, hpa_52, hro_52, hrn_52, hkd_52⟩ : WF (ky_52, vl_52, lf_52, rt_52, ct_52, ht_52, tt_52, sp_52, pa_52, ro_52, ss_52, dp_52, rn_52, od_52, kd_52)) hx60).1
          obtain ⟨ky_66, vl_66, lf_66, rt_66, ct_66, ht_66, tt_66, sp_66, pa_66, ro_66, ss_66, dp_66, rn_66, od_66, kd_66⟩ := u66
          obtain ⟨hlf_66, hrt_66, hsp_66, hpa_66, hro_66, hrn_66, hkd_66⟩ : WF (ky_66, vl_66, lf_66, rt_66, ct_66, ht_66, tt_66, sp_66, pa_66, ro_66, ss_66, dp_66, rn_66, od_66, kd_66) := by rw [eu66]; exact (wf_sink n (⟨hlf_52, hrt_52, hsp_52, hpa_52, hro_52, hrn_52, hkd_52⟩ : WF (ky_52, vl_52, lf_52, rt_52, ct_52, ht_52, tt_52, sp_52, pa_52, ro_52, ss_52, dp_52, rn_52, od_52, kd_52)) hx60).2
          have hP : va_P D vwCl (wT ca kq a (ky_66, vl_66, lf_66, rt_66, ct_66, ht_66, tt_66, sp_66, pa_66, ro_66, ss_66, dp_66, rn_66, od_66, kd_66)) H := hP
          have hD : va_D A (wT ca kq a (ky_66, vl_66, lf_66, rt_66, ct_66, ht_66, tt_66, sp_66, pa_66, ro_66, ss_66, dp_66, rn_66, od_66, kd_66)) := hD
          have e66 : f_sink n (ky_52, vl_52, lf_52, rt_52, ct_52, ht_52, tt_52, sp_52, pa_52, ro_52, ss_52, dp_52, rn_52, od_52, kd_52) x = (y66, (ky_66, vl_66, lf_66, rt_66, ct_66, ht_66, tt_66, sp_66, pa_66, ro_66, ss_66, dp_66, rn_66, od_66, kd_66)) := Prod.ext ey66.symm eu66.symm
          refine xr_nst hx hb hKN.1 hP hD hS 3 0 (g := lf_66) rfl rfl (j := f_preferred (ky, vl, lf, rt, ct, ht, tt, sp, pa, ro, ss, dp, rn, od, kd) x) (v := y66) (Nat.lt_of_le_of_lt (wf_preferred (⟨hlf, hrt, hsp, hpa, hro, hrn, hkd⟩ : WF (ky, vl, lf, rt, ct, ht, tt, sp, pa, ro, ss, dp, rn, od, kd)) hx60) (by decide)) (by decide) dX1_sink_69 (fun H locs hP hD hS => ?_)
          have hP : va_P D vwCl (wT ca kq a (ky_66, vl_66, (va_up lf_66 (f_preferred (ky, vl, lf, rt, ct, ht, tt, sp, pa, ro, ss, dp, rn, od, kd) x) y66), rt_66, ct_66, ht_66, tt_66, sp_66, pa_66, ro_66, ss_66, dp_66, rn_66, od_66, kd_66)) H := hP
          have hD : va_D A (wT ca kq a (ky_66, vl_66, (va_up lf_66 (f_preferred (ky, vl, lf, rt, ct, ht, tt, sp, pa, ro, ss, dp, rn, od, kd) x) y66), rt_66, ct_66, ht_66, tt_66, sp_66, pa_66, ro_66, ss_66, dp_66, rn_66, od_66, kd_66)) := hD
          refine lv_aload_n hx hb dX1_sink_70 rfl (lv_at hl 1 rfl) ?_
          refine lv_iload_n hx hb dX1_sink_71 rfl (lv_at hl 0 rfl) ?_
          refine xc_v (wr := []) (va_runV (As := [.int (nI (f_preferred (ky, vl, lf, rt, ct, ht, tt, sp, pa, ro, ss, dp, rn, od, kd) x))]) (rest := []) ⟨hx, hb, hml, hown, hts⟩ (c_X8_refresh l D ca kq a _ ky_66 vl_66 (va_up lf_66 (f_preferred (ky, vl, lf, rt, ct, ht, tt, sp, pa, ro, ss, dp, rn, od, kd) x) y66) rt_66 ct_66 ht_66 tt_66 sp_66 pa_66 ro_66 ss_66 dp_66 rn_66 od_66 kd_66 (f_preferred (ky, vl, lf, rt, ct, ht, tt, sp, pa, ro, ss, dp, rn, od, kd) x) (vu_le hlf_66 hy66) hrt_66 hsp_66 hpa_66 hro_66 hrn_66 (wf_preferred (⟨hlf, hrt, hsp, hpa, hro, hrn, hkd⟩ : WF (ky, vl, lf, rt, ct, ht, tt, sp, pa, ro, ss, dp, rn, od, kd)) hx60)) (cwV 1 hts gX1_sink_X8_refresh rfl rfl rfl (by decide +kernel) ⟨(by show 0 + 1 ≤ n + 1 + 2; omega), (by show 8 + (4 + 11) + 0 ≤ 23 * (n + 1) + 45; omega)⟩) (xPreV hKN hP hD [0, 1, 2, 3, 4, 5, 6, 7, 8, 9, 10] (by decide) rfl (q0 := 0) rfl rfl rfl) rfl rfl hl.1 rfl (lv_room (Nat.le_of_ble_eq_true rfl)) dX1_sink_72 ⟨Nat.zero_le _, Nat.zero_le _⟩) hP hD hS hA [0, 1, 2, 3, 4, 5, 6, 7, 8, 9, 10] [] rfl rfl (by decide) (by decide) (fun u72 H locs hu72 hP hD hS => ?_)
          subst hu72
          have hP : va_P D vwCl (wT ca kq a (ky_66, vl_66, (va_up lf_66 (f_preferred (ky, vl, lf, rt, ct, ht, tt, sp, pa, ro, ss, dp, rn, od, kd) x) y66), rt_66, (upd ct_66 (f_preferred (ky, vl, lf, rt, ct, ht, tt, sp, pa, ro, ss, dp, rn, od, kd) x) (ct_66 ((va_up lf_66 (f_preferred (ky, vl, lf, rt, ct, ht, tt, sp, pa, ro, ss, dp, rn, od, kd) x) y66) (f_preferred (ky, vl, lf, rt, ct, ht, tt, sp, pa, ro, ss, dp, rn, od, kd) x)) + ct_66 (rt_66 (f_preferred (ky, vl, lf, rt, ct, ht, tt, sp, pa, ro, ss, dp, rn, od, kd) x)) + 1)), (upd ht_66 (f_preferred (ky, vl, lf, rt, ct, ht, tt, sp, pa, ro, ss, dp, rn, od, kd) x) (mx (ht_66 ((va_up lf_66 (f_preferred (ky, vl, lf, rt, ct, ht, tt, sp, pa, ro, ss, dp, rn, od, kd) x) y66) (f_preferred (ky, vl, lf, rt, ct, ht, tt, sp, pa, ro, ss, dp, rn, od, kd) x))) (ht_66 (rt_66 (f_preferred (ky, vl, lf, rt, ct, ht, tt, sp, pa, ro, ss, dp, rn, od, kd) x))) + 1)), (vp_updL tt_66 (f_preferred (ky, vl, lf, rt, ct, ht, tt, sp, pa, ro, ss, dp, rn, od, kd) x) (tt_66 ((va_up lf_66 (f_preferred (ky, vl, lf, rt, ct, ht, tt, sp, pa, ro, ss, dp, rn, od, kd) x) y66) (f_preferred (ky, vl, lf, rt, ct, ht, tt, sp, pa, ro, ss, dp, rn, od, kd) x)) + tt_66 (rt_66 (f_preferred (ky, vl, lf, rt, ct, ht, tt, sp, pa, ro, ss, dp, rn, od, kd) x)) + (vl_66 (f_preferred (ky, vl, lf, rt, ct, ht, tt, sp, pa, ro, ss, dp, rn, od, kd) x)).toInt64)), sp_66, pa_66, ro_66, ss_66, dp_66, rn_66, od_66, kd_66)) H := hP
          have hD : va_D A (wT ca kq a (ky_66, vl_66, (va_up lf_66 (f_preferred (ky, vl, lf, rt, ct, ht, tt, sp, pa, ro, ss, dp, rn, od, kd) x) y66), rt_66, (upd ct_66 (f_preferred (ky, vl, lf, rt, ct, ht, tt, sp, pa, ro, ss, dp, rn, od, kd) x) (ct_66 ((va_up lf_66 (f_preferred (ky, vl, lf, rt, ct, ht, tt, sp, pa, ro, ss, dp, rn, od, kd) x) y66) (f_preferred (ky, vl, lf, rt, ct, ht, tt, sp, pa, ro, ss, dp, rn, od, kd) x)) + ct_66 (rt_66 (f_preferred (ky, vl, lf, rt, ct, ht, tt, sp, pa, ro, ss, dp, rn, od, kd) x)) + 1)), (upd ht_66 (f_preferred (ky, vl, lf, rt, ct, ht, tt, sp, pa, ro, ss, dp, rn, od, kd) x) (mx (ht_66 ((va_up lf_66 (f_preferred (ky, vl, lf, rt, ct, ht, tt, sp, pa, ro, ss, dp, rn, od, kd) x) y66) (f_preferred (ky, vl, lf, rt, ct, ht, tt, sp, pa, ro, ss, dp, rn, od, kd) x))) (ht_66 (rt_66 (f_preferred (ky, vl, lf, rt, ct, ht, tt, sp, pa, ro, ss, dp, rn, od, kd) x))) + 1)), (vp_updL tt_66 (f_preferred (ky, vl, lf, rt, ct, ht, tt, sp, pa, ro, ss, dp, rn, od, kd) x) (tt_66 ((va_up lf_66 (f_preferred (ky, vl, lf, rt, ct, ht, tt, sp, pa, ro, ss, dp, rn, od, kd) x) y66) (f_preferred (ky, vl, lf, rt, ct, ht, tt, sp, pa, ro, ss, dp, rn, od, kd) x)) + tt_66 (rt_66 (f_preferred (ky, vl, lf, rt, ct, ht, tt, sp, pa, ro, ss, dp, rn, od, kd) x)) + (vl_66 (f_preferred (ky, vl, lf, rt, ct, ht, tt, sp, pa, ro, ss, dp, rn, od, kd) x)).toInt64)), sp_66, pa_66, ro_66, ss_66, dp_66, rn_66, od_66, kd_66)) := hD
          refine lv_iload_n hx hb dX1_sink_75 rfl (lv_at hl 0 rfl) ?_
          exact W.iret (v := (nI (f_preferred (ky, vl, lf, rt, ct, ht, tt, sp, pa, ro, ss, dp, rn, od, kd) x))) hx hb hr (fun t9 e9 w9 => ⟨⟨_, (ky_66, vl_66, (va_up lf_66 (f_preferred (ky, vl, lf, rt, ct, ht, tt, sp, pa, ro, ss, dp, rn, od, kd) x) y66), rt_66, (upd ct_66 (f_preferred (ky, vl, lf, rt, ct, ht, tt, sp, pa, ro, ss, dp, rn, od, kd) x) (ct_66 ((va_up lf_66 (f_preferred (ky, vl, lf, rt, ct, ht, tt, sp, pa, ro, ss, dp, rn, od, kd) x) y66) (f_preferred (ky, vl, lf, rt, ct, ht, tt, sp, pa, ro, ss, dp, rn, od, kd) x)) + ct_66 (rt_66 (f_preferred (ky, vl, lf, rt, ct, ht, tt, sp, pa, ro, ss, dp, rn, od, kd) x)) + 1)), (upd ht_66 (f_preferred (ky, vl, lf, rt, ct, ht, tt, sp, pa, ro, ss, dp, rn, od, kd) x) (mx (ht_66 ((va_up lf_66 (f_preferred (ky, vl, lf, rt, ct, ht, tt, sp, pa, ro, ss, dp, rn, od, kd) x) y66) (f_preferred (ky, vl, lf, rt, ct, ht, tt, sp, pa, ro, ss, dp, rn, od, kd) x))) (ht_66 (rt_66 (f_preferred (ky, vl, lf, rt, ct, ht, tt, sp, pa, ro, ss, dp, rn, od, kd) x))) + 1)), (vp_updL tt_66 (f_preferred (ky, vl, lf, rt, ct, ht, tt, sp, pa, ro, ss, dp, rn, od, kd) x) (tt_66 ((va_up lf_66 (f_preferred (ky, vl, lf, rt, ct, ht, tt, sp, pa, ro, ss, dp, rn, od, kd) x) y66) (f_preferred (ky, vl, lf, rt, ct, ht, tt, sp, pa, ro, ss, dp, rn, od, kd) x)) + tt_66 (rt_66 (f_preferred (ky, vl, lf, rt, ct, ht, tt, sp, pa, ro, ss, dp, rn, od, kd) x)) + (vl_66 (f_preferred (ky, vl, lf, rt, ct, ht, tt, sp, pa, ro, ss, dp, rn, od, kd) x)).toInt64)), sp_66, pa_66, ro_66, ss_66, dp_66, rn_66, od_66, kd_66), rfl, by rw [f_sink, if_neg c8, if_neg c24]; show nI (f_preferred (ky, vl, lf, rt, ct, ht, tt, sp, pa, ro, ss, dp, rn, od, kd) x) = nI (f_preferred (ky, vl, lf, rt, ct, ht, tt, sp, pa, ro, ss, dp, rn, od, kd) x) ∧ (ky_66, vl_66, (va_up lf_66 (f_preferred (ky, vl, lf, rt, ct, ht, tt, sp, pa, ro, ss, dp, rn, od, kd) x) y66), rt_66, (upd ct_66 (f_preferred (ky, vl, lf, rt, ct, ht, tt, sp, pa, ro, ss, dp, rn, od, kd) x) (ct_66 ((va_up lf_66 (f_preferred (ky, vl, lf, rt, ct, ht, tt, sp, pa, ro, ss, dp, rn, od, kd) x) y66) (f_preferred (ky, vl, lf, rt, ct, ht, tt, sp, pa, ro, ss, dp, rn, od, kd) x)) + ct_66 (rt_66 (f_preferred (ky, vl, lf, rt, ct, ht, tt, sp, pa, ro, ss, dp, rn, od, kd) x)) + 1)), (upd ht_66 (f_preferred (ky, vl, lf, rt, ct, ht, tt, sp, pa, ro, ss, dp, rn, od, kd) x) (mx (ht_66 ((va_up lf_66 (f_preferred (ky, vl, lf, rt, ct, ht, tt, sp, pa, ro, ss, dp, rn, od, kd) x) y66) (f_preferred (ky, vl, lf, rt, ct, ht, tt, sp, pa, ro, ss, dp, rn, od, kd) x))) (ht_66 (rt_66 (f_preferred (ky, vl, lf, rt, ct, ht, tt, sp, pa, ro, ss, dp, rn, od, kd) x))) + 1)), (vp_updL tt_66 (f_preferred (ky, vl, lf, rt, ct, ht, tt, sp, pa, ro, ss, dp, rn, od, kd) x) (tt_66 ((va_up lf_66 (f_preferred (ky, vl, lf, rt, ct, ht, tt, sp, pa, ro, ss, dp, rn, od, kd) x) y66) (f_preferred (ky, vl, lf, rt, ct, ht, tt, sp, pa, ro, ss, dp, rn, od, kd) x)) + tt_66 (rt_66 (f_preferred (ky, vl, lf, rt, ct, ht, tt, sp, pa, ro, ss, dp, rn, od, kd) x)) + (vl_66 (f_preferred (ky, vl, lf, rt, ct, ht, tt, sp, pa, ro, ss, dp, rn, od, kd) x)).toInt64)), sp_66, pa_66, ro_66, ss_66, dp_66, rn_66, od_66, kd_66) = f_refresh (setLf (f_sink n (f_raiseRight (ky, vl, lf, rt, ct, ht, tt, sp, pa, ro, ss, dp, rn, od, kd) x) x).2 (f_preferred (ky, vl, lf, rt, ct, ht, tt, sp, pa, ro, ss, dp, rn, od, kd) x) (f_sink n (f_raiseRight (ky, vl, lf, rt, ct, ht, tt, sp, pa, ro, ss, dp, rn, od, kd) x) x).1) (f_preferred (ky, vl, lf, rt, ct, ht, tt, sp, pa, ro, ss, dp, rn, od, kd) x); rw [← eu52, e66]; exact ⟨rfl, rfl⟩, by rw [e9]; exact hP, hD⟩, hS.F e9⟩) hS.2.2 dX1_sink_76
        · skip
          have c24 : (f_preferred (ky, vl, lf, rt, ct, ht, tt, sp, pa, ro, ss, dp, rn, od, kd) x) = (lf x) := (xn_eq (a := (f_preferred (ky, vl, lf, rt, ct, ht, tt, sp, pa, ro, ss, dp, rn, od, kd) x)) (b := (lf x)) (Nat.lt_of_le_of_lt (wf_preferred (⟨hlf, hrt, hsp, hpa, hro, hrn, hkd⟩ : WF (ky, vl, lf, rt, ct, ht, tt, sp, pa, ro, ss, dp, rn, od, kd)) hx60) (by decide)) (Nat.lt_of_le_of_lt (hlf x) (by decide))).mp c24
          refine lv_aload_n hx hb dX1_sink_27 rfl (lv_at hl 1 rfl) ?_
          refine lv_iload_n hx hb dX1_sink_28 rfl (lv_at hl 2 rfl) ?_
          refine xc_i (wr := []) (va_runV (As := [.int (nI x)]) (rest := []) ⟨hx, hb, hml, hown, hts⟩ (c_X8_raiseLeft l D ca kq a _ ky vl lf rt ct ht tt sp pa ro ss dp rn od kd x hlf hrt hsp hpa hro hrn hx60) (cwV 1 hts gX1_sink_X8_raiseLeft rfl rfl rfl (by decide +kernel) ⟨(by show 1 + 1 ≤ n + 1 + 2; omega), (by show 8 + (3 + 11) + 23 ≤ 23 * (n + 1) + 45; omega)⟩) (xPreV hKN hP hD [0, 1, 2, 3, 4, 5, 6, 7, 8, 9, 10] (by decide) rfl (q0 := 0) rfl rfl rfl) rfl rfl hl.1 rfl (lv_room (Nat.le_of_ble_eq_true rfl)) dX1_sink_29 ⟨Nat.zero_le _, Nat.zero_le _⟩) hP hD hS hA [0, 1, 2, 3, 4, 5, 6, 7, 8, 9, 10] [] rfl rfl (by decide) (by decide) (fun r29 u29 H locs hu29 hP hD hS => ?_)
          obtain ⟨er29, eu29⟩ := hu29
          subst er29
          obtain ⟨ky_29, vl_29, lf_29, rt_29, ct_29, ht_29, tt_29, sp_29, pa_29, ro_29, ss_29, dp_29, rn_29, od_29, kd_29⟩ := u29
          obtain ⟨hlf_29, hrt_29, hsp_29, hpa_29, hro_29, hrn_29, hkd_29⟩ : WF (ky_29, vl_29, lf_29, rt_29, ct_29, ht_29, tt_29, sp_29, pa_29, ro_29, ss_29, dp_29, rn_29, od_29, kd_29) := by rw [eu29]; exact wf_raiseLeft (⟨hlf, hrt, hsp, hpa, hro, hrn, hkd⟩ : WF (ky, vl, lf, rt, ct, ht, tt, sp, pa, ro, ss, dp, rn, od, kd)) hx60
          have hP : va_P D vwCl (wT ca kq a (ky_29, vl_29, lf_29, rt_29, ct_29, ht_29, tt_29, sp_29, pa_29, ro_29, ss_29, dp_29, rn_29, od_29, kd_29)) H := hP
          have hD : va_D A (wT ca kq a (ky_29, vl_29, lf_29, rt_29, ct_29, ht_29, tt_29, sp_29, pa_29, ro_29, ss_29, dp_29, rn_29, od_29, kd_29)) := hD
          refine lv_pop hx hb dX1_sink_32 rfl ?_
          refine lv_aload_n hx hb dX1_sink_33 rfl (lv_at hl 1 rfl) ?_
          refine va_getN (D := D) (ci := 6) (v := .ref (a 4)) (C := RX8) (T := TX8) (N := 15) hx hb hts inX8 hown hKN.1 hP 0 rfl rfl 3 (by decide) (va_Nw.use rfl (NW.f hKN.2 (a := RX1) (i := 29) (b := "TreeFamily$Tree") (n := "right") (d := "[I") (g := "TreeFamily") (by decide +kernel))) (fun _ h9 => h9) rfl dX1_sink_34 ?_
          refine lv_iload_n hx hb dX1_sink_37 rfl (lv_at hl 0 rfl) ?_
          refine lv_aload_n hx hb dX1_sink_38 rfl (lv_at hl 1 rfl) ?_
          refine lv_iload_n hx hb dX1_sink_39 rfl (lv_at hl 2 rfl) ?_
          refine lv_iload_n hx hb dX1_sink_40 rfl (lv_at hl 3 rfl) ?_
          refine lv_iconst (v := 1) hx hb dX1_sink_41 (by decide) ?_
          refine lv_isub hx hb dX1_sink_42 ?_
          refine xr_top (y := nI n) (pk_sub (a := n + 1) (b := 1) (by omega)) ?_
          refine xc_i (wr := []) (va_runS (As := [.ref (a 0), .int (nI x), .int (nI n)]) (rest := [.int (nI (f_preferred (ky, vl, lf, rt, ct, ht, tt, sp, pa, ro, ss, dp, rn, od, kd) x)), .ref (a 4)]) ⟨hx, hb, hml, hown, hts⟩ (ih _ ky_29 vl_29 lf_29 rt_29 ct_29 ht_29 tt_29 sp_29 pa_29 ro_29 ss_29 dp_29 rn_29 od_29 kd_29 x hlf_29 hrt_29 hsp_29 hpa_29 hro_29 hrn_29 hkd_29 hx60 (by omega)) (va_cwS 3 hts gX1_sink_X1_sink rfl rfl rfl (by decide +kernel) ⟨(by show n + 2 + 1 ≤ n + 1 + 2; omega), (by show 8 + (4 + 11) + (23 * n + 45) ≤ 23 * (n + 1) + 45; omega)⟩) (xPreS hKN hP hD [0, 1, 2, 3, 4, 5, 6, 7, 8, 9, 10] (by decide) rfl) rfl rfl hl.1 rfl (lv_room (Nat.le_of_ble_eq_true rfl)) dX1_sink_43 ⟨Nat.zero_le _, Nat.zero_le _⟩) hP hD hS hA [0, 1, 2, 3, 4, 5, 6, 7, 8, 9, 10] [] rfl rfl (by decide) (by decide) (fun r43 u43 H locs hu43 hP hD hS => ?_)
          obtain ⟨er43, eu43⟩ := hu43
          obtain ⟨y43, ey43⟩ : ∃ z, z = (f_sink n (ky_29, vl_29, lf_29, rt_29, ct_29, ht_29, tt_29, sp_29, pa_29, ro_29, ss_29, dp_29, rn_29, od_29, kd_29) x).1 := ⟨_, rfl⟩
          rw [← ey43] at er43
          subst er43
          have hy43 : y43 ≤ 60 := by rw [ey43]; exact (wf_sink n (⟨hlf_29, hrt_29, hsp_29, hpa_29, hro_29, hrn_29, hkd_29⟩ : WF (ky_29, vl_29, lf_29, rt_29, ct_29, ht_29, tt_29, sp_29, pa_29, ro_29, ss_29, dp_29, rn_29, od_29, kd_29)) hx60).1
          obtain ⟨ky_43, vl_43, lf_43, rt_43, ct_43, ht_43, tt_43, sp_43, pa_43, ro_43, ss_43, dp_43, rn_43, od_43, kd_43⟩ := u43
          obtain ⟨hlf_43, hrt_43, hsp_43, hpa_43, hro_43, hrn_43, hkd_43⟩ : WF (ky_43, vl_43, lf_43, rt_43, ct_43, ht_43, tt_43, sp_43, pa_43, ro_43, ss_43, dp_43, rn_43, od_43, kd_43) := by rw [eu43]; exact (wf_sink n (⟨hlf_29, hrt_29, hsp_29, hpa_29, hro_29, hrn_29, hkd_29⟩ : WF (ky_29, vl_29, lf_29, rt_29, ct_29, ht_29, tt_29, sp_29, pa_29, ro_29, ss_29, dp_29, rn_29, od_29, kd_29)) hx60).2
          have hP : va_P D vwCl (wT ca kq a (ky_43, vl_43, lf_43, rt_43, ct_43, ht_43, tt_43, sp_43, pa_43, ro_43, ss_43, dp_43, rn_43, od_43, kd_43)) H := hP
          have hD : va_D A (wT ca kq a (ky_43, vl_43, lf_43, rt_43, ct_43, ht_43, tt_43, sp_43, pa_43, ro_43, ss_43, dp_43, rn_43, od_43, kd_43)) := hD
          have e43 : f_sink n (ky_29, vl_29, lf_29, rt_29, ct_29, ht_29, tt_29, sp_29, pa_29, ro_29, ss_29, dp_29, rn_29, od_29, kd_29) x = (y43, (ky_43, vl_43, lf_43, rt_43, ct_43, ht_43, tt_43, sp_43, pa_43, ro_43, ss_43, dp_43, rn_43, od_43, kd_43)) := Prod.ext ey43.symm eu43.symm
          refine xr_nst hx hb hKN.1 hP hD hS 4 0 (g := rt_43) rfl rfl (j := f_preferred (ky, vl, lf, rt, ct, ht, tt, sp, pa, ro, ss, dp, rn, od, kd) x) (v := y43) (Nat.lt_of_le_of_lt (wf_preferred (⟨hlf, hrt, hsp, hpa, hro, hrn, hkd⟩ : WF (ky, vl, lf, rt, ct, ht, tt, sp, pa, ro, ss, dp, rn, od, kd)) hx60) (by decide)) (by decide) dX1_sink_46 (fun H locs hP hD hS => ?_)
          have hP : va_P D vwCl (wT ca kq a (ky_43, vl_43, lf_43, (va_up rt_43 (f_preferred (ky, vl, lf, rt, ct, ht, tt, sp, pa, ro, ss, dp, rn, od, kd) x) y43), ct_43, ht_43, tt_43, sp_43, pa_43, ro_43, ss_43, dp_43, rn_43, od_43, kd_43)) H := hP
          have hD : va_D A (wT ca kq a (ky_43, vl_43, lf_43, (va_up rt_43 (f_preferred (ky, vl, lf, rt, ct, ht, tt, sp, pa, ro, ss, dp, rn, od, kd) x) y43), ct_43, ht_43, tt_43, sp_43, pa_43, ro_43, ss_43, dp_43, rn_43, od_43, kd_43)) := hD
          refine lv_goto (tgt := 70) hx hb dX1_sink_47 (by decide) ?_
          refine lv_aload_n hx hb dX1_sink_70 rfl (lv_at hl 1 rfl) ?_
          refine lv_iload_n hx hb dX1_sink_71 rfl (lv_at hl 0 rfl) ?_
          refine xc_v (wr := []) (va_runV (As := [.int (nI (f_preferred (ky, vl, lf, rt, ct, ht, tt, sp, pa, ro, ss, dp, rn, od, kd) x))]) (rest := []) ⟨hx, hb, hml, hown, hts⟩ (c_X8_refresh l D ca kq a _ ky_43 vl_43 lf_43 (va_up rt_43 (f_preferred (ky, vl, lf, rt, ct, ht, tt, sp, pa, ro, ss, dp, rn, od, kd) x) y43) ct_43 ht_43 tt_43 sp_43 pa_43 ro_43 ss_43 dp_43 rn_43 od_43 kd_43 (f_preferred (ky, vl, lf, rt, ct, ht, tt, sp, pa, ro, ss, dp, rn, od, kd) x) hlf_43 (vu_le hrt_43 hy43) hsp_43 hpa_43 hro_43 hrn_43 (wf_preferred (⟨hlf, hrt, hsp, hpa, hro, hrn, hkd⟩ : WF (ky, vl, lf, rt, ct, ht, tt, sp, pa, ro, ss, dp, rn, od, kd)) hx60)) (cwV 1 hts gX1_sink_X8_refresh rfl rfl rfl (by decide +kernel) ⟨(by show 0 + 1 ≤ n + 1 + 2; omega), (by show 8 + (4 + 11) + 0 ≤ 23 * (n + 1) + 45; omega)⟩) (xPreV hKN hP hD [0, 1, 2, 3, 4, 5, 6, 7, 8, 9, 10] (by decide) rfl (q0 := 0) rfl rfl rfl) rfl rfl hl.1 rfl (lv_room (Nat.le_of_ble_eq_true rfl)) dX1_sink_72 ⟨Nat.zero_le _, Nat.zero_le _⟩) hP hD hS hA [0, 1, 2, 3, 4, 5, 6, 7, 8, 9, 10] [] rfl rfl (by decide) (by decide) (fun u72 H locs hu72 hP hD hS => ?_)
          subst hu72
          have hP : va_P D vwCl (wT ca kq a (ky_43, vl_43, lf_43, (va_up rt_43 (f_preferred (ky, vl, lf, rt, ct, ht, tt, sp, pa, ro, ss, dp, rn, od, kd) x) y43), (upd ct_43 (f_preferred (ky, vl, lf, rt, ct, ht, tt, sp, pa, ro, ss, dp, rn, od, kd) x) (ct_43 (lf_43 (f_preferred (ky, vl, lf, rt, ct, ht, tt, sp, pa, ro, ss, dp, rn, od, kd) x)) + ct_43 ((va_up rt_43 (f_preferred (ky, vl, lf, rt, ct, ht, tt, sp, pa, ro, ss, dp, rn, od, kd) x) y43) (f_preferred (ky, vl, lf, rt, ct, ht, tt, sp, pa, ro, ss, dp, rn, od, kd) x)) + 1)), (upd ht_43 (f_preferred (ky, vl, lf, rt, ct, ht, tt, sp, pa, ro, ss, dp, rn, od, kd) x) (mx (ht_43 (lf_43 (f_preferred (ky, vl, lf, rt, ct, ht, tt, sp, pa, ro, ss, dp, rn, od, kd) x))) (ht_43 ((va_up rt_43 (f_preferred (ky, vl, lf, rt, ct, ht, tt, sp, pa, ro, ss, dp, rn, od, kd) x) y43) (f_preferred (ky, vl, lf, rt, ct, ht, tt, sp, pa, ro, ss, dp, rn, od, kd) x))) + 1)), (vp_updL tt_43 (f_preferred (ky, vl, lf, rt, ct, ht, tt, sp, pa, ro, ss, dp, rn, od, kd) x) (tt_43 (lf_43 (f_preferred (ky, vl, lf, rt, ct, ht, tt, sp, pa, ro, ss, dp, rn, od, kd) x)) + tt_43 ((va_up rt_43 (f_preferred (ky, vl, lf, rt, ct, ht, tt, sp, pa, ro, ss, dp, rn, od, kd) x) y43) (f_preferred (ky, vl, lf, rt, ct, ht, tt, sp, pa, ro, ss, dp, rn, od, kd) x)) + (vl_43 (f_preferred (ky, vl, lf, rt, ct, ht, tt, sp, pa, ro, ss, dp, rn, od, kd) x)).toInt64)), sp_43, pa_43, ro_43, ss_43, dp_43, rn_43, od_43, kd_43)) H := hP
          have hD : va_D A (wT ca kq a (ky_43, vl_43, lf_43, (va_up rt_43 (f_preferred (ky, vl, lf, rt, ct, ht, tt, sp, pa, ro, ss, dp, rn, od, kd) x) y43), (upd ct_43 (f_preferred (ky, vl, lf, rt, ct, ht, tt, sp, pa, ro, ss, dp, rn, od, kd) x) (ct_43 (lf_43 (f_preferred (ky, vl, lf, rt, ct, ht, tt, sp, pa, ro, ss, dp, rn, od, kd) x)) + ct_43 ((va_up rt_43 (f_preferred (ky, vl, lf, rt, ct, ht, tt, sp, pa, ro, ss, dp, rn, od, kd) x) y43) (f_preferred (ky, vl, lf, rt, ct, ht, tt, sp, pa, ro, ss, dp, rn, od, kd) x)) + 1)), (upd ht_43 (f_preferred (ky, vl, lf, rt, ct, ht, tt, sp, pa, ro, ss, dp, rn, od, kd) x) (mx (ht_43 (lf_43 (f_preferred (ky, vl, lf, rt, ct, ht, tt, sp, pa, ro, ss, dp, rn, od, kd) x))) (ht_43 ((va_up rt_43 (f_preferred (ky, vl, lf, rt, ct, ht, tt, sp, pa, ro, ss, dp, rn, od, kd) x) y43) (f_preferred (ky, vl, lf, rt, ct, ht, tt, sp, pa, ro, ss, dp, rn, od, kd) x))) + 1)), (vp_updL tt_43 (f_preferred (ky, vl, lf, rt, ct, ht, tt, sp, pa, ro, ss, dp, rn, od, kd) x) (tt_43 (lf_43 (f_preferred (ky, vl, lf, rt, ct, ht, tt, sp, pa, ro, ss, dp, rn, od, kd) x)) + tt_43 ((va_up rt_43 (f_preferred (ky, vl, lf, rt, ct, ht, tt, sp, pa, ro, ss, dp, rn, od, kd) x) y43) (f_preferred (ky, vl, lf, rt, ct, ht, tt, sp, pa, ro, ss, dp, rn, od, kd) x)) + (vl_43 (f_preferred (ky, vl, lf, rt, ct, ht, tt, sp, pa, ro, ss, dp, rn, od, kd) x)).toInt64)), sp_43, pa_43, ro_43, ss_43, dp_43, rn_43, od_43, kd_43)) := hD
          refine lv_iload_n hx hb dX1_sink_75 rfl (lv_at hl 0 rfl) ?_
          exact W.iret (v := (nI (f_preferred (ky, vl, lf, rt, ct, ht, tt, sp, pa, ro, ss, dp, rn, od, kd) x))) hx hb hr (fun t9 e9 w9 => ⟨⟨_, (ky_43, vl_43, lf_43, (va_up rt_43 (f_preferred (ky, vl, lf, rt, ct, ht, tt, sp, pa, ro, ss, dp, rn, od, kd) x) y43), (upd ct_43 (f_preferred (ky, vl, lf, rt, ct, ht, tt, sp, pa, ro, ss, dp, rn, od, kd) x) (ct_43 (lf_43 (f_preferred (ky, vl, lf, rt, ct, ht, tt, sp, pa, ro, ss, dp, rn, od, kd) x)) + ct_43 ((va_up rt_43 (f_preferred (ky, vl, lf, rt, ct, ht, tt, sp, pa, ro, ss, dp, rn, od, kd) x) y43) (f_preferred (ky, vl, lf, rt, ct, ht, tt, sp, pa, ro, ss, dp, rn, od, kd) x)) + 1)), (upd ht_43 (f_preferred (ky, vl, lf, rt, ct, ht, tt, sp, pa, ro, ss, dp, rn, od, kd) x) (mx (ht_43 (lf_43 (f_preferred (ky, vl, lf, rt, ct, ht, tt, sp, pa, ro, ss, dp, rn, od, kd) x))) (ht_43 ((va_up rt_43 (f_preferred (ky, vl, lf, rt, ct, ht, tt, sp, pa, ro, ss, dp, rn, od, kd) x) y43) (f_preferred (ky, vl, lf, rt, ct, ht, tt, sp, pa, ro, ss, dp, rn, od, kd) x))) + 1)), (vp_updL tt_43 (f_preferred (ky, vl, lf, rt, ct, ht, tt, sp, pa, ro, ss, dp, rn, od, kd) x) (tt_43 (lf_43 (f_preferred (ky, vl, lf, rt, ct, ht, tt, sp, pa, ro, ss, dp, rn, od, kd) x)) + tt_43 ((va_up rt_43 (f_preferred (ky, vl, lf, rt, ct, ht, tt, sp, pa, ro, ss, dp, rn, od, kd) x) y43) (f_preferred (ky, vl, lf, rt, ct, ht, tt, sp, pa, ro, ss, dp, rn, od, kd) x)) + (vl_43 (f_preferred (ky, vl, lf, rt, ct, ht, tt, sp, pa, ro, ss, dp, rn, od, kd) x)).toInt64)), sp_43, pa_43, ro_43, ss_43, dp_43, rn_43, od_43, kd_43), rfl, by rw [f_sink, if_neg c8, if_pos c24]; show nI (f_preferred (ky, vl, lf, rt, ct, ht, tt, sp, pa, ro, ss, dp, rn, od, kd) x) = nI (f_preferred (ky, vl, lf, rt, ct, ht, tt, sp, pa, ro, ss, dp, rn, od, kd) x) ∧ (ky_43, vl_43, lf_43, (va_up rt_43 (f_preferred (ky, vl, lf, rt, ct, ht, tt, sp, pa, ro, ss, dp, rn, od, kd) x) y43), (upd ct_43 (f_preferred (ky, vl, lf, rt, ct, ht, tt, sp, pa, ro, ss, dp, rn, od, kd) x) (ct_43 (lf_43 (f_preferred (ky, vl, lf, rt, ct, ht, tt, sp, pa, ro, ss, dp, rn, od, kd) x)) + ct_43 ((va_up rt_43 (f_preferred (ky, vl, lf, rt, ct, ht, tt, sp, pa, ro, ss, dp, rn, od, kd) x) y43) (f_preferred (ky, vl, lf, rt, ct, ht, tt, sp, pa, ro, ss, dp, rn, od, kd) x)) + 1)), (upd ht_43 (f_preferred (ky, vl, lf, rt, ct, ht, tt, sp, pa, ro, ss, dp, rn, od, kd) x) (mx (ht_43 (lf_43 (f_preferred (ky, vl, lf, rt, ct, ht, tt, sp, pa, ro, ss, dp, rn, od, kd) x))) (ht_43 ((va_up rt_43 (f_preferred (ky, vl, lf, rt, ct, ht, tt, sp, pa, ro, ss, dp, rn, od, kd) x) y43) (f_preferred (ky, vl, lf, rt, ct, ht, tt, sp, pa, ro, ss, dp, rn, od, kd) x))) + 1)), (vp_updL tt_43 (f_preferred (ky, vl, lf, rt, ct, ht, tt, sp, pa, ro, ss, dp, rn, od, kd) x) (tt_43 (lf_43 (f_preferred (ky, vl, lf, rt, ct, ht, tt, sp, pa, ro, ss, dp, rn, od, kd) x)) + tt_43 ((va_up rt_43 (f_preferred (ky, vl, lf, rt, ct, ht, tt, sp, pa, ro, ss, dp, rn, od, kd) x) y43) (f_preferred (ky, vl, lf, rt, ct, ht, tt, sp, pa, ro, ss, dp, rn, od, kd) x)) + (vl_43 (f_preferred (ky, vl, lf, rt, ct, ht, tt, sp, pa, ro, ss, dp, rn, od, kd) x)).toInt64)), sp_43, pa_43, ro_43, ss_43, dp_43, rn_43, od_43, kd_43) = f_refresh (setRt (f_sink n (f_raiseLeft (ky, vl, lf, rt, ct, ht, tt, sp, pa, ro, ss, dp, rn, od, kd) x) x).2 (f_preferred (ky, vl, lf, rt, ct, ht, tt, sp, pa, ro, ss, dp, rn, od, kd) x) (f_sink n (f_raiseLeft (ky, vl, lf, rt, ct, ht, tt, sp, pa, ro, ss, dp, rn, od, kd) x) x).1) (f_preferred (ky, vl, lf, rt, ct, ht, tt, sp, pa, ro, ss, dp, rn, od, kd) x); rw [← eu29, e43]; exact ⟨rfl, rfl⟩, by rw [e9]; exact hP, hD⟩, hS.F e9⟩) hS.2.2 dX1_sink_76
      · skip
        exact absurd ((xn_eq (a := n + 1) (b := 0) (by omega) (by decide)).mp c12) (by omega)
