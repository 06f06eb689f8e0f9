-- Tree.refresh
set_option maxHeartbeats 4000000 in
set_option maxRecDepth 100000 in
theorem c_X8_refresh (l : Launch) (D : va_G) (ca : Nat → ClassId) (kq a : Nat → Nat) (sz : Nat) (ky vl : Nat → Int32) (lf rt : Nat → Nat) (ct ht : Nat → Int32) (tt : Nat → Int64) (sp pa ro : Nat → Nat) (ss dp rn : Nat) (od : Int32) (kd : Nat) (x : Nat) (hlf : ∀ k, lf k ≤ 60) (hrt : ∀ k, rt k ≤ 60) (hsp : ∀ k, sp k ≤ 60) (hpa : ∀ k, pa k ≤ 60) (hro : ∀ k, ro k ≤ 60) (hrn : rn ≤ 60) (hx60 : x ≤ 60): Met l yX8_refresh wsX8_refresh ({ frames := 0, cells := 0, slots := 0, locals := 0 } : Room) (xPc D (TY ca) [.ref (a 0), .int (nI x)] (wT ca kq a (ky, vl, lf, rt, ct, ht, tt, sp, pa, ro, ss, dp, rn, od, kd)) sz) (va_Qv (fun u : TS => u = f_refresh (ky, vl, lf, rt, ct, ht, tt, sp, pa, ro, ss, dp, rn, od, kd) x) (xB D (wT ca kq a) (va_A (wT ca kq a (ky, vl, lf, rt, ct, ht, tt, sp, pa, ro, ss, dp, rn, od, kd)) sz)) (va_A (wT ca kq a (ky, vl, lf, rt, ct, ht, tt, sp, pa, ro, ss, dp, rn, od, kd)) sz)) 0 0 (va_A (wT ca kq a (ky, vl, lf, rt, ct, ht, tt, sp, pa, ro, ss, dp, rn, od, kd)) sz) := by
  refine Met.ofW (cc := cX8_refresh) (maxL := 4) (ret := none) (by decide) rfl ?_
  intro p e s m args below meth c s₁ B hml hv
  obtain ⟨rfl, hsz, hP, hKN, hD0⟩ := hv
  have hx := B.exec
  have hb := B.bytes
  have hr := B.returns
  have hts := atoms_spec (ws := wsX8_refresh) B.pre
  have hown : s.vm.findClass RX8 = some m.cls := findClass_of_methodNamed B.named
  have hlocks := B.notSynchronized
  have inX8 : ∀ w ∈ wsX80, w ∈ wsX8_refresh := by decide +kernel
  subst hsz
  have hD := hD0.self (sz := s.heap.size)
  generalize hAe : va_A (wT ca kq a (ky, vl, lf, rt, ct, ht, tt, sp, pa, ro, ss, dp, rn, od, kd)) s.heap.size = A at hD ⊢
  have hA : ∀ q : Nat, s.heap.size ≤ q → A q := fun q h => by rw [← hAe]; exact Or.inr h
  have hS : va_S A s.heap s.heap [] := va_S.rf
  have hl := lv_entry ([.ref (a 0), .int (nI x)]) (n := 4) (Nat.le_of_ble_eq_true rfl)
  rw [lg_entry_eq]
  generalize (lg_sl ([.ref (a 0), .int (nI x)]) ++ List.replicate (4 - (lg_sl ([.ref (a 0), .int (nI x)])).length) Slot.unset).toArray = ls at hl ⊢
  have hl : lv_has ls 4 [(0, .ref (a 0)), (1, .int (nI x))] := hl
  refine lv_aload_n hx hb dX8_refresh_0 rfl (lv_at hl 0 rfl) ?_
  refine va_get (D := D) (ci := 6) (v := .ref (a 3)) (C := RX8) (T := TX8) (N := 15) hx hb hts inX8 hown hKN.1 hP 0 rfl rfl 2 (by decide) (hts (.fieldLink RX8 18 "TreeFamily$Tree" "left" "[I") (by decide +kernel)) (fun _ h9 => h9) rfl dX8_refresh_1 ?_
  refine lv_iload_n hx hb dX8_refresh_4 rfl (lv_at hl 1 rfl) ?_
  refine xr_ild hx hb hKN.1 hP 3 0 rfl rfl (j := x) (Nat.lt_of_le_of_lt hx60 (by decide)) (by decide) dX8_refresh_5 ?_
  refine lv_istore_n (lv' := [(2, .int (nI (lf x))), (0, .ref (a 0)), (1, .int (nI x))]) hx hb dX8_refresh_6 rfl hl (by decide) rfl (fun ls hl => ?_)
  refine lv_aload_n hx hb dX8_refresh_7 rfl (lv_at hl 1 rfl) ?_
  refine va_get (D := D) (ci := 6) (v := .ref (a 4)) (C := RX8) (T := TX8) (N := 15) hx hb hts inX8 hown hKN.1 hP 0 rfl rfl 3 (by decide) (hts (.fieldLink RX8 21 "TreeFamily$Tree" "right" "[I") (by decide +kernel)) (fun _ h9 => h9) rfl dX8_refresh_8 ?_
  refine lv_iload_n hx hb dX8_refresh_11 rfl (lv_at hl 2 rfl) ?_
  refine xr_ild hx hb hKN.1 hP 4 0 rfl rfl (j := x) (Nat.lt_of_le_of_lt hx60 (by decide)) (by decide) dX8_refresh_12 ?_
  refine lv_istore_n (lv' := [(3, .int (nI (rt x))), (2, .int (nI (lf x))), (0, .ref (a 0)), (1, .int (nI x))]) hx hb dX8_refresh_13 rfl hl (by decide) rfl (fun ls hl => ?_)
  refine lv_aload_n hx hb dX8_refresh_14 rfl (lv_at hl 2 rfl) ?_
  refine va_get (D := D) (ci := 6) (v := .ref (a 5)) (C := RX8) (T := TX8) (N := 15) hx hb hts inX8 hown hKN.1 hP 0 rfl rfl 4 (by decide) (hts (.fieldLink RX8 24 "TreeFamily$Tree" "counts" "[I") (by decide +kernel)) (fun _ h9 => h9) rfl dX8_refresh_15 ?_
  refine lv_iload_n hx hb dX8_refresh_18 rfl (lv_at hl 3 rfl) ?_
  refine lv_aload_n hx hb dX8_refresh_19 rfl (lv_at hl 2 rfl) ?_
  refine va_get (D := D) (ci := 6) (v := .ref (a 5)) (C := RX8) (T := TX8) (N := 15) hx hb hts inX8 hown hKN.1 hP 0 rfl rfl 4 (by decide) (hts (.fieldLink RX8 24 "TreeFamily$Tree" "counts" "[I") (by decide +kernel)) (fun _ h9 => h9) rfl dX8_refresh_20 ?_
  refine lv_iload_n hx hb dX8_refresh_23 rfl (lv_at hl 1 rfl) ?_
  refine xr_ild hx hb hKN.1 hP 5 0 rfl rfl (j := lf x) (Nat.lt_of_le_of_lt (hlf x) (by decide)) (by decide) dX8_refresh_24 ?_
  refine lv_aload_n hx hb dX8_refresh_25 rfl (lv_at hl 2 rfl) ?_
  refine va_get (D := D) (ci := 6) (v := .ref (a 5)) (C := RX8) (T := TX8) (N := 15) hx hb hts inX8 hown hKN.1 hP 0 rfl rfl 4 (by decide) (hts (.fieldLink RX8 24 "TreeFamily$Tree" "counts" "[I") (by decide +kernel)) (fun _ h9 => h9) rfl dX8_refresh_26 ?_
  refine lv_iload_n hx hb dX8_refresh_29 rfl (lv_at hl 0 rfl) ?_
  refine xr_ild hx hb hKN.1 hP 5 0 rfl rfl (j := rt x) (Nat.lt_of_le_of_lt (hrt x) (by decide)) (by decide) dX8_refresh_30 ?_
  refine lv_iadd hx hb dX8_refresh_31 ?_
  refine lv_iconst (v := 1) hx hb dX8_refresh_32 (by decide) ?_
  refine lv_iadd hx hb dX8_refresh_33 ?_
  refine xr_ist hx hb hKN.1 hP hD hS 5 0 rfl rfl (j := x) (Nat.lt_of_le_of_lt hx60 (by decide)) (by decide) dX8_refresh_34 (fun H locs hP hD hS => ?_)
  have hP : va_P D vwCl (wT ca kq a (ky, vl, lf, rt, (upd ct x (((ct (lf x)) + (ct (rt x))) + 1)), ht, tt, sp, pa, ro, ss, dp, rn, od, kd)) H := hP
  have hD : va_D A (wT ca kq a (ky, vl, lf, rt, (upd ct x (((ct (lf x)) + (ct (rt x))) + 1)), ht, tt, sp, pa, ro, ss, dp, rn, od, kd)) := hD
  refine lv_aload_n hx hb dX8_refresh_35 rfl (lv_at hl 2 rfl) ?_
  refine va_get (D := D) (ci := 6) (v := .ref (a 7)) (C := RX8) (T := TX8) (N := 15) hx hb hts inX8 hown hKN.1 hP 0 rfl rfl 6 (by decide) (hts (.fieldLink RX8 30 "TreeFamily$Tree" "totals" "[J") (by decide +kernel)) (fun _ h9 => h9) rfl dX8_refresh_36 ?_
  refine lv_iload_n hx hb dX8_refresh_39 rfl (lv_at hl 3 rfl) ?_
  refine lv_aload_n hx hb dX8_refresh_40 rfl (lv_at hl 2 rfl) ?_
  refine va_get (D := D) (ci := 6) (v := .ref (a 7)) (C := RX8) (T := TX8) (N := 15) hx hb hts inX8 hown hKN.1 hP 0 rfl rfl 6 (by decide) (hts (.fieldLink RX8 30 "TreeFamily$Tree" "totals" "[J") (by decide +kernel)) (fun _ h9 => h9) rfl dX8_refresh_41 ?_
  refine lv_iload_n hx hb dX8_refresh_44 rfl (lv_at hl 1 rfl) ?_
  refine xr_lld hx hb hKN.1 hP 7 1 rfl rfl (j := lf x) (Nat.lt_of_le_of_lt (hlf x) (by decide)) (by decide) dX8_refresh_45 ?_
  refine lv_aload_n hx hb dX8_refresh_46 rfl (lv_at hl 2 rfl) ?_
  refine va_get (D := D) (ci := 6) (v := .ref (a 7)) (C := RX8) (T := TX8) (N := 15) hx hb hts inX8 hown hKN.1 hP 0 rfl rfl 6 (by decide) (hts (.fieldLink RX8 30 "TreeFamily$Tree" "totals" "[J") (by decide +kernel)) (fun _ h9 => h9) rfl dX8_refresh_47 ?_
  refine lv_iload_n hx hb dX8_refresh_50 rfl (lv_at hl 0 rfl) ?_
  refine xr_lld hx hb hKN.1 hP 7 1 rfl rfl (j := rt x) (Nat.lt_of_le_of_lt (hrt x) (by decide)) (by decide) dX8_refresh_51 ?_
  refine lv_ladd hx hb dX8_refresh_52 ?_
  refine lv_aload_n hx hb dX8_refresh_53 rfl (lv_at hl 2 rfl) ?_
  refine va_get (D := D) (ci := 6) (v := .ref (a 2)) (C := RX8) (T := TX8) (N := 15) hx hb hts inX8 hown hKN.1 hP 0 rfl rfl 1 (by decide) (hts (.fieldLink RX8 15 "TreeFamily$Tree" "values" "[I") (by decide +kernel)) (fun _ h9 => h9) rfl dX8_refresh_54 ?_
  refine lv_iload_n hx hb dX8_refresh_57 rfl (lv_at hl 3 rfl) ?_
  refine xr_ild hx hb hKN.1 hP 2 0 rfl rfl (j := x) (Nat.lt_of_le_of_lt hx60 (by decide)) (by decide) dX8_refresh_58 ?_
  refine lv_i2l hx hb dX8_refresh_59 rfl ?_
  refine lv_ladd hx hb dX8_refresh_60 ?_
  refine xr_lst hx hb hKN.1 hP hD hS 7 1 rfl rfl (j := x) (Nat.lt_of_le_of_lt hx60 (by decide)) (by decide) dX8_refresh_61 (fun H locs hP hD hS => ?_)
  have hP : va_P D vwCl (wT ca kq a (ky, vl, lf, rt, (upd ct x (((ct (lf x)) + (ct (rt x))) + 1)), ht, (vp_updL tt x (((tt (lf x)) + (tt (rt x))) + ((vl x).toInt64))), sp, pa, ro, ss, dp, rn, od, kd)) H := hP
  have hD : va_D A (wT ca kq a (ky, vl, lf, rt, (upd ct x (((ct (lf x)) + (ct (rt x))) + 1)), ht, (vp_updL tt x (((tt (lf x)) + (tt (rt x))) + ((vl x).toInt64))), sp, pa, ro, ss, dp, rn, od, kd)) := hD
  refine lv_aload_n hx hb dX8_refresh_62 rfl (lv_at hl 2 rfl) ?_
  refine va_get (D := D) (ci := 6) (v := .ref (a 6)) (C := RX8) (T := TX8) (N := 15) hx hb hts inX8 hown hKN.1 hP 0 rfl rfl 5 (by decide) (hts (.fieldLink RX8 27 "TreeFamily$Tree" "heights" "[I") (by decide +kernel)) (fun _ h9 => h9) rfl dX8_refresh_63 ?_
  refine lv_iload_n hx hb dX8_refresh_66 rfl (lv_at hl 3 rfl) ?_
  refine lv_aload_n hx hb dX8_refresh_67 rfl (lv_at hl 2 rfl) ?_
  refine va_get (D := D) (ci := 6) (v := .ref (a 6)) (C := RX8) (T := TX8) (N := 15) hx hb hts inX8 hown hKN.1 hP 0 rfl rfl 5 (by decide) (hts (.fieldLink RX8 27 "TreeFamily$Tree" "heights" "[I") (by decide +kernel)) (fun _ h9 => h9) rfl dX8_refresh_68 ?_
  refine lv_iload_n hx hb dX8_refresh_71 rfl (lv_at hl 1 rfl) ?_
  refine xr_ild hx hb hKN.1 hP 6 0 rfl rfl (j := lf x) (Nat.lt_of_le_of_lt (hlf x) (by decide)) (by decide) dX8_refresh_72 ?_
  refine lv_aload_n hx hb dX8_refresh_73 rfl (lv_at hl 2 rfl) ?_
  refine va_get (D := D) (ci := 6) (v := .ref (a 6)) (C := RX8) (T := TX8) (N := 15) hx hb hts inX8 hown hKN.1 hP 0 rfl rfl 5 (by decide) (hts (.fieldLink RX8 27 "TreeFamily$Tree" "heights" "[I") (by decide +kernel)) (fun _ h9 => h9) rfl dX8_refresh_74 ?_
  refine lv_iload_n hx hb dX8_refresh_77 rfl (lv_at hl 0 rfl) ?_
  refine xr_ild hx hb hKN.1 hP 6 0 rfl rfl (j := rt x) (Nat.lt_of_le_of_lt (hrt x) (by decide)) (by decide) dX8_refresh_78 ?_
  refine lv_icmp_le (tgt := 91) hx hb dX8_refresh_79 (by decide) (fun c79 => ?_) (fun c79 => ?_)
  · skip
    refine lv_aload_n hx hb dX8_refresh_91 rfl (lv_at hl 2 rfl) ?_
    refine va_get (D := D) (ci := 6) (v := .ref (a 6)) (C := RX8) (T := TX8) (N := 15) hx hb hts inX8 hown hKN.1 hP 0 rfl rfl 5 (by decide) (hts (.fieldLink RX8 27 "TreeFamily$Tree" "heights" "[I") (by decide +kernel)) (fun _ h9 => h9) rfl dX8_refresh_92 ?_
    refine lv_iload_n hx hb dX8_refresh_95 rfl (lv_at hl 0 rfl) ?_
    refine xr_ild hx hb hKN.1 hP 6 0 rfl rfl (j := rt x) (Nat.lt_of_le_of_lt (hrt x) (by decide)) (by decide) dX8_refresh_96 ?_
    refine xr_top (y := mx (ht (lf x)) (ht (rt x))) (by first | rw [mx, if_pos c79] | rw [mx, if_neg c79]) ?_
    refine lv_iconst (v := 1) hx hb dX8_refresh_97 (by decide) ?_
    refine lv_iadd hx hb dX8_refresh_98 ?_
    refine xr_ist hx hb hKN.1 hP hD hS 6 0 rfl rfl (j := x) (Nat.lt_of_le_of_lt hx60 (by decide)) (by decide) dX8_refresh_99 (fun H locs hP hD hS => ?_)
    have hP : va_P D vwCl (wT ca kq a (ky, vl, lf, rt, (upd ct x (((ct (lf x)) + (ct (rt x))) + 1)), (upd ht x ((mx (ht (lf x)) (ht (rt x))) + 1)), (vp_updL tt x (((tt (lf x)) + (tt (rt x))) + ((vl x).toInt64))), sp, pa, ro, ss, dp, rn, od, kd)) H := hP
    have hD : va_D A (wT ca kq a (ky, vl, lf, rt, (upd ct x (((ct (lf x)) + (ct (rt x))) + 1)), (upd ht x ((mx (ht (lf x)) (ht (rt x))) + 1)), (vp_updL tt x (((tt (lf x)) + (tt (rt x))) + ((vl x).toInt64))), sp, pa, ro, ss, dp, rn, od, kd)) := hD
    exact W.vret hx hb hr (fun t9 e9 w9 => ⟨⟨(ky, vl, lf, rt, (upd ct x (((ct (lf x)) + (ct (rt x))) + 1)), (upd ht x ((mx (ht (lf x)) (ht (rt x))) + 1)), (vp_updL tt x (((tt (lf x)) + (tt (rt x))) + ((vl x).toInt64))), sp, pa, ro, ss, dp, rn, od, kd), rfl, rfl, by rw [e9]; exact hP, hD⟩, hS.F e9⟩) hS.2.2 dX8_refresh_100
  · skip
    refine lv_aload_n hx hb dX8_refresh_82 rfl (lv_at hl 2 rfl) ?_
    refine va_get (D := D) (ci := 6) (v := .ref (a 6)) (C := RX8) (T := TX8) (N := 15) hx hb hts inX8 hown hKN.1 hP 0 rfl rfl 5 (by decide) (hts (.fieldLink RX8 27 "TreeFamily$Tree" "heights" "[I") (by decide +kernel)) (fun _ h9 => h9) rfl dX8_refresh_83 ?_
    refine lv_iload_n hx hb dX8_refresh_86 rfl (lv_at hl 1 rfl) ?_
    refine xr_ild hx hb hKN.1 hP 6 0 rfl rfl (j := lf x) (Nat.lt_of_le_of_lt (hlf x) (by decide)) (by decide) dX8_refresh_87 ?_
    refine lv_goto (tgt := 97) hx hb dX8_refresh_88 (by decide) ?_
    refine xr_top (y := mx (ht (lf x)) (ht (rt x))) (by first | rw [mx, if_pos c79] | rw [mx, if_neg c79]) ?_
    refine lv_iconst (v := 1) hx hb dX8_refresh_97 (by decide) ?_
    refine lv_iadd hx hb dX8_refresh_98 ?_
    refine xr_ist hx hb hKN.1 hP hD hS 6 0 rfl rfl (j := x) (Nat.lt_of_le_of_lt hx60 (by decide)) (by decide) dX8_refresh_99 (fun H locs hP hD hS => ?_)
    have hP : va_P D vwCl (wT ca kq a (ky, vl, lf, rt, (upd ct x (((ct (lf x)) + (ct (rt x))) + 1)), (upd ht x ((mx (ht (lf x)) (ht (rt x))) + 1)), (vp_updL tt x (((tt (lf x)) + (tt (rt x))) + ((vl x).toInt64))), sp, pa, ro, ss, dp, rn, od, kd)) H := hP
    have hD : va_D A (wT ca kq a (ky, vl, lf, rt, (upd ct x (((ct (lf x)) + (ct (rt x))) + 1)), (upd ht x ((mx (ht (lf x)) (ht (rt x))) + 1)), (vp_updL tt x (((tt (lf x)) + (tt (rt x))) + ((vl x).toInt64))), sp, pa, ro, ss, dp, rn, od, kd)) := hD
    exact W.vret hx hb hr (fun t9 e9 w9 => ⟨⟨(ky, vl, lf, rt, (upd ct x (((ct (lf x)) + (ct (rt x))) + 1)), (upd ht x ((mx (ht (lf x)) (ht (rt x))) + 1)), (vp_updL tt x (((tt (lf x)) + (tt (rt x))) + ((vl x).toInt64))), sp, pa, ro, ss, dp, rn, od, kd), rfl, rfl, by rw [e9]; exact hP, hD⟩, hS.F e9⟩) hS.2.2 dX8_refresh_100

-- Tree.raiseLeft
set_option maxHeartbeats 4000000 in
set_option maxRecDepth 100000 in
theorem c_X8_raiseLeft (l : Launch) (D : va_G) (ca : Nat → ClassId) (kq a : Nat → Nat) (sz : Nat) (ky vl : Nat → Int32) (lf rt : Nat → Nat) (ct ht : Nat → Int32) (tt : Nat → Int64) (sp pa ro : Nat → Nat) (ss dp rn : Nat) (od : Int32) (kd : Nat) (x : Nat) (hlf : ∀ k, lf k ≤ 60) (hrt : ∀ k, rt k ≤ 60) (hsp : ∀ k, sp k ≤ 60) (hpa : ∀ k, pa k ≤ 60) (hro : ∀ k, ro k ≤ 60) (hrn : rn ≤ 60) (hx60 : x ≤ 60): Met l yX8_raiseLeft wsX8_raiseLeft ({ frames := 1, cells := 0, slots := 0, locals := 23 } : Room) (xPc D (TY ca) [.ref (a 0), .int (nI x)] (wT ca kq a (ky, vl, lf, rt, ct, ht, tt, sp, pa, ro, ss, dp, rn, od, kd)) sz) (va_Qi (fun (r : Int32) (u : TS) => r = nI (lf x) ∧ u = f_raiseLeft (ky, vl, lf, rt, ct, ht, tt, sp, pa, ro, ss, dp, rn, od, kd) x) (xB D (wT ca kq a) (va_A (wT ca kq a (ky, vl, lf, rt, ct, ht, tt, sp, pa, ro, ss, dp, rn, od, kd)) sz)) (va_A (wT ca kq a (ky, vl, lf, rt, ct, ht, tt, sp, pa, ro, ss, dp, rn, od, kd)) sz)) 0 0 (va_A (wT ca kq a (ky, vl, lf, rt, ct, ht, tt, sp, pa, ro, ss, dp, rn, od, kd)) sz) := by
  refine Met.ofW (cc := cX8_raiseLeft) (maxL := 3) (ret := (some .int)) (by decide) rfl ?_
  intro p e s m args below meth c s₁ B hml hv
  obtain ⟨rfl, hsz, hP, hKN, hD0⟩ := hv
  have hx := B.exec
  have hb := B.bytes
  have hr := B.returns
  have hts := atoms_spec (ws := wsX8_raiseLeft) B.pre
  have hown : s.vm.findClass RX8 = some m.cls := findClass_of_methodNamed B.named
  have hlocks := B.notSynchronized
  have inX8 : ∀ w ∈ wsX80, w ∈ wsX8_raiseLeft := by decide +kernel
  subst hsz
  have hD := hD0.self (sz := s.heap.size)
  generalize hAe : va_A (wT ca kq a (ky, vl, lf, rt, ct, ht, tt, sp, pa, ro, ss, dp, rn, od, kd)) s.heap.size = A at hD ⊢
  have hA : ∀ q : Nat, s.heap.size ≤ q → A q := fun q h => by rw [← hAe]; exact Or.inr h
  have hS : va_S A s.heap s.heap [] := va_S.rf
  have hl := lv_entry ([.ref (a 0), .int (nI x)]) (n := 3) (Nat.le_of_ble_eq_true rfl)
  rw [lg_entry_eq]
  generalize (lg_sl ([.ref (a 0), .int (nI x)]) ++ List.replicate (3 - (lg_sl ([.ref (a 0), .int (nI x)])).length) Slot.unset).toArray = ls at hl ⊢
  have hl : lv_has ls 3 [(0, .ref (a 0)), (1, .int (nI x))] := hl
  refine lv_aload_n hx hb dX8_raiseLeft_0 rfl (lv_at hl 0 rfl) ?_
  refine va_get (D := D) (ci := 6) (v := .ref (a 3)) (C := RX8) (T := TX8) (N := 15) hx hb hts inX8 hown hKN.1 hP 0 rfl rfl 2 (by decide) (hts (.fieldLink RX8 18 "TreeFamily$Tree" "left" "[I") (by decide +kernel)) (fun _ h9 => h9) rfl dX8_raiseLeft_1 ?_
  refine lv_iload_n hx hb dX8_raiseLeft_4 rfl (lv_at hl 1 rfl) ?_
  refine xr_ild hx hb hKN.1 hP 3 0 rfl rfl (j := x) (Nat.lt_of_le_of_lt hx60 (by decide)) (by decide) dX8_raiseLeft_5 ?_
  refine lv_istore_n (lv' := [(2, .int (nI (lf x))), (0, .ref (a 0)), (1, .int (nI x))]) hx hb dX8_raiseLeft_6 rfl hl (by decide) rfl (fun ls hl => ?_)
  refine lv_aload_n hx hb dX8_raiseLeft_7 rfl (lv_at hl 1 rfl) ?_
  refine va_get (D := D) (ci := 6) (v := .ref (a 3)) (C := RX8) (T := TX8) (N := 15) hx hb hts inX8 hown hKN.1 hP 0 rfl rfl 2 (by decide) (hts (.fieldLink RX8 18 "TreeFamily$Tree" "left" "[I") (by decide +kernel)) (fun _ h9 => h9) rfl dX8_raiseLeft_8 ?_
  refine lv_iload_n hx hb dX8_raiseLeft_11 rfl (lv_at hl 2 rfl) ?_
  refine lv_aload_n hx hb dX8_raiseLeft_12 rfl (lv_at hl 1 rfl) ?_
  refine va_get (D := D) (ci := 6) (v := .ref (a 4)) (C := RX8) (T := TX8) (N := 15) hx hb hts inX8 hown hKN.1 hP 0 rfl rfl 3 (by decide) (hts (.fieldLink RX8 21 "TreeFamily$Tree" "right" "[I") (by decide +kernel)) (fun _ h9 => h9) rfl dX8_raiseLeft_13 ?_
  refine lv_iload_n hx hb dX8_raiseLeft_16 rfl (lv_at hl 0 rfl) ?_
  refine xr_ild hx hb hKN.1 hP 4 0 rfl rfl (j := lf x) (Nat.lt_of_le_of_lt (hlf x) (by decide)) (by decide) dX8_raiseLeft_17 ?_
  refine xr_nst hx hb hKN.1 hP hD hS 3 0 (g := lf) rfl rfl (j := x) (v := rt (lf x)) (Nat.lt_of_le_of_lt hx60 (by decide)) (by decide) dX8_raiseLeft_18 (fun H locs hP hD hS => ?_)
  have hP : va_P D vwCl (wT ca kq a (ky, vl, (va_up lf x (rt (lf x))), rt, ct, ht, tt, sp, pa, ro, ss, dp, rn, od, kd)) H := hP
  have hD : va_D A (wT ca kq a (ky, vl, (va_up lf x (rt (lf x))), rt, ct, ht, tt, sp, pa, ro, ss, dp, rn, od, kd)) := hD
  refine lv_aload_n hx hb dX8_raiseLeft_19 rfl (lv_at hl 1 rfl) ?_
  refine va_get (D := D) (ci := 6) (v := .ref (a 4)) (C := RX8) (T := TX8) (N := 15) hx hb hts inX8 hown hKN.1 hP 0 rfl rfl 3 (by decide) (hts (.fieldLink RX8 21 "TreeFamily$Tree" "right" "[I") (by decide +kernel)) (fun _ h9 => h9) rfl dX8_raiseLeft_20 ?_
  refine lv_iload_n hx hb dX8_raiseLeft_23 rfl (lv_at hl 0 rfl) ?_
  refine lv_iload_n hx hb dX8_raiseLeft_24 rfl (lv_at hl 2 rfl) ?_
  refine xr_nst hx hb hKN.1 hP hD hS 4 0 (g := rt) rfl rfl (j := lf x) (v := x) (Nat.lt_of_le_of_lt (hlf x) (by decide)) (by decide) dX8_raiseLeft_25 (fun H locs hP hD hS => ?_)
  have hP : va_P D vwCl (wT ca kq a (ky, vl, (va_up lf x (rt (lf x))), (va_up rt (lf x) x), ct, ht, tt, sp, pa, ro, ss, dp, rn, od, kd)) H := hP
  have hD : va_D A (wT ca kq a (ky, vl, (va_up lf x (rt (lf x))), (va_up rt (lf x) x), ct, ht, tt, sp, pa, ro, ss, dp, rn, od, kd)) := hD
  refine lv_aload_n hx hb dX8_raiseLeft_26 rfl (lv_at hl 1 rfl) ?_
  refine lv_iload_n hx hb dX8_raiseLeft_27 rfl (lv_at hl 2 rfl) ?_
  refine xc_v (wr := []) (va_runV (As := [.int (nI x)]) (rest := []) ⟨hx, hb, hml, hown, hts⟩ (c_X8_refresh l D ca kq a _ ky vl (va_up lf x (rt (lf x))) (va_up rt (lf x) x) ct ht tt sp pa ro ss dp rn od kd x (vu_le hlf (hrt (lf x))) (vu_le hrt hx60) hsp hpa hro hrn hx60) (cwV 1 hts gX8_raiseLeft_X8_refresh rfl rfl rfl (by decide +kernel) ⟨(Nat.le_of_ble_eq_true rfl), (Nat.le_of_ble_eq_true rfl)⟩) (xPreV hKN hP hD [0, 1, 2, 3, 4, 5, 6, 7, 8, 9, 10] (by decide) rfl (q0 := 0) rfl rfl rfl) rfl rfl hl.1 rfl (lv_room (Nat.le_of_ble_eq_true rfl)) dX8_raiseLeft_28 ⟨(Nat.le_of_ble_eq_true rfl), (Nat.le_of_ble_eq_true rfl)⟩) hP hD hS hA [0, 1, 2, 3, 4, 5, 6, 7, 8, 9, 10] [] rfl rfl (by decide) (by decide) (fun u28 H locs hu28 hP hD hS => ?_)
  subst hu28
  have hP : va_P D vwCl (wT ca kq a (ky, vl, (va_up lf x (rt (lf x))), (va_up rt (lf x) x), (upd ct x (ct ((va_up lf x (rt (lf x))) x) + ct ((va_up rt (lf x) x) x) + 1)), (upd ht x (mx (ht ((va_up lf x (rt (lf x))) x)) (ht ((va_up rt (lf x) x) x)) + 1)), (vp_updL tt x (tt ((va_up lf x (rt (lf x))) x) + tt ((va_up rt (lf x) x) x) + (vl x).toInt64)), sp, pa, ro, ss, dp, rn, od, kd)) H := hP
  have hD : va_D A (wT ca kq a (ky, vl, (va_up lf x (rt (lf x))), (va_up rt (lf x) x), (upd ct x (ct ((va_up lf x (rt (lf x))) x) + ct ((va_up rt (lf x) x) x) + 1)), (upd ht x (mx (ht ((va_up lf x (rt (lf x))) x)) (ht ((va_up rt (lf x) x) x)) + 1)), (vp_updL tt x (tt ((va_up lf x (rt (lf x))) x) + tt ((va_up rt (lf x) x) x) + (vl x).toInt64)), sp, pa, ro, ss, dp, rn, od, kd)) := hD
  refine lv_aload_n hx hb dX8_raiseLeft_31 rfl (lv_at hl 1 rfl) ?_
  refine lv_iload_n hx hb dX8_raiseLeft_32 rfl (lv_at hl 0 rfl) ?_
  refine xc_v (wr := []) (va_runV (As := [.int (nI (lf x))]) (rest := []) ⟨hx, hb, hml, hown, hts⟩ (c_X8_refresh l D ca kq a _ ky vl (va_up lf x (rt (lf x))) (va_up rt (lf x) x) (upd ct x (ct ((va_up lf x (rt (lf x))) x) + ct ((va_up rt (lf x) x) x) + 1)) (upd ht x (mx (ht ((va_up lf x (rt (lf x))) x)) (ht ((va_up rt (lf x) x) x)) + 1)) (vp_updL tt x (tt ((va_up lf x (rt (lf x))) x) + tt ((va_up rt (lf x) x) x) + (vl x).toInt64)) sp pa ro ss dp rn od kd (lf x) (vu_le hlf (hrt (lf x))) (vu_le hrt hx60) hsp hpa hro hrn (hlf x)) (cwV 1 hts gX8_raiseLeft_X8_refresh rfl rfl rfl (by decide +kernel) ⟨(Nat.le_of_ble_eq_true rfl), (Nat.le_of_ble_eq_true rfl)⟩) (xPreV hKN hP hD [0, 1, 2, 3, 4, 5, 6, 7, 8, 9, 10] (by decide) rfl (q0 := 0) rfl rfl rfl) rfl rfl hl.1 rfl (lv_room (Nat.le_of_ble_eq_true rfl)) dX8_raiseLeft_33 ⟨(Nat.le_of_ble_eq_true rfl), (Nat.le_of_ble_eq_true rfl)⟩) hP hD hS hA [0, 1, 2, 3, 4, 5, 6, 7, 8, 9, 10] [] rfl rfl (by decide) (by decide) (fun u33 H locs hu33 hP hD hS => ?_)
  subst hu33
  have hP : va_P D vwCl (wT ca kq a (ky, vl, (va_up lf x (rt (lf x))), (va_up rt (lf x) x), (upd (upd ct x (ct ((va_up lf x (rt (lf x))) x) + ct ((va_up rt (lf x) x) x) + 1)) (lf x) ((upd ct x (ct ((va_up lf x (rt (lf x))) x) + ct ((va_up rt (lf x) x) x) + 1)) ((va_up lf x (rt (lf x))) (lf x)) + (upd ct x (ct ((va_up lf x (rt (lf x))) x) + ct ((va_up rt (lf x) x) x) + 1)) ((va_up rt (lf x) x) (lf x)) + 1)), (upd (upd ht x (mx (ht ((va_up lf x (rt (lf x))) x)) (ht ((va_up rt (lf x) x) x)) + 1)) (lf x) (mx ((upd ht x (mx (ht ((va_up lf x (rt (lf x))) x)) (ht ((va_up rt (lf x) x) x)) + 1)) ((va_up lf x (rt (lf x))) (lf x))) ((upd ht x (mx (ht ((va_up lf x (rt (lf x))) x)) (ht ((va_up rt (lf x) x) x)) + 1)) ((va_up rt (lf x) x) (lf x))) + 1)), (vp_updL (vp_updL tt x (tt ((va_up lf x (rt (lf x))) x) + tt ((va_up rt (lf x) x) x) + (vl x).toInt64)) (lf x) ((vp_updL tt x (tt ((va_up lf x (rt (lf x))) x) + tt ((va_up rt (lf x) x) x) + (vl x).toInt64)) ((va_up lf x (rt (lf x))) (lf x)) + (vp_updL tt x (tt ((va_up lf x (rt (lf x))) x) + tt ((va_up rt (lf x) x) x) + (vl x).toInt64)) ((va_up rt (lf x) x) (lf x)) + (vl (lf x)).toInt64)), sp, pa, ro, ss, dp, rn, od, kd)) H := hP
  have hD : va_D A (wT ca kq a (ky, vl, (va_up lf x (rt (lf x))), (va_up rt (lf x) x), (upd (upd ct x (ct ((va_up lf x (rt (lf x))) x) + ct ((va_up rt (lf x) x) x) + 1)) (lf x) ((upd ct x (ct ((va_up lf x (rt (lf x))) x) + ct ((va_up rt (lf x) x) x) + 1)) ((va_up lf x (rt (lf x))) (lf x)) + (upd ct x (ct ((va_up lf x (rt (lf x))) x) + ct ((va_up rt (lf x) x) x) + 1)) ((va_up rt (lf x) x) (lf x)) + 1)), (upd (upd ht x (mx (ht ((va_up lf x (rt (lf x))) x)) (ht ((va_up rt (lf x) x) x)) + 1)) (lf x) (mx ((upd ht x (mx (ht ((va_up lf x (rt (lf x))) x)) (ht ((va_up rt (lf x) x) x)) + 1)) ((va_up lf x (rt (lf x))) (lf x))) ((upd ht x (mx (ht ((va_up lf x (rt (lf x))) x)) (ht ((va_up rt (lf x) x) x)) + 1)) ((va_up rt (lf x) x) (lf x))) + 1)), (vp_updL (vp_updL tt x (tt ((va_up lf x (rt (lf x))) x) + tt ((va_up rt (lf x) x) x) + (vl x).toInt64)) (lf x) ((vp_updL tt x (tt ((va_up lf x (rt (lf x))) x) + tt ((va_up rt (lf x) x) x) + (vl x).toInt64)) ((va_up lf x (rt (lf x))) (lf x)) + (vp_updL tt x (tt ((va_up lf x (rt (lf x))) x) + tt ((va_up rt (lf x) x) x) + (vl x).toInt64)) ((va_up rt (lf x) x) (lf x)) + (vl (lf x)).toInt64)), sp, pa, ro, ss, dp, rn, od, kd)) := hD
  refine lv_iload_n hx hb dX8_raiseLeft_36 rfl (lv_at hl 0 rfl) ?_
  exact W.iret (v := (nI (lf x))) hx hb hr (fun t9 e9 w9 => ⟨⟨_, (ky, vl, (va_up lf x (rt (lf x))), (va_up rt (lf x) x), (upd (upd ct x (ct ((va_up lf x (rt (lf x))) x) + ct ((va_up rt (lf x) x) x) + 1)) (lf x) ((upd ct x (ct ((va_up lf x (rt (lf x))) x) + ct ((va_up rt (lf x) x) x) + 1)) ((va_up lf x (rt (lf x))) (lf x)) + (upd ct x (ct ((va_up lf x (rt (lf x))) x) + ct ((va_up rt (lf x) x) x) + 1)) ((va_up rt (lf x) x) (lf x)) + 1)), (upd (upd ht x (mx (ht ((va_up lf x (rt (lf x))) x)) (ht ((va_up rt (lf x) x) x)) + 1)) (lf x) (mx ((upd ht x (mx (ht ((va_up lf x (rt (lf x))) x)) (ht ((va_up rt (lf x) x) x)) + 1)) ((va_up lf x (rt (lf x))) (lf x))) ((upd ht x (mx (ht ((va_up lf x (rt (lf x))) x)) (ht ((va_up rt (lf x) x) x)) + 1)) ((va_up rt (lf x) x) (lf x))) + 1)), (vp_updL (vp_updL tt x (tt ((va_up lf x (rt (lf x))) x) + tt ((va_up rt (lf x) x) x) + (vl x).toInt64)) (lf x) ((vp_updL tt x (tt ((va_up lf x (rt (lf x))) x) + tt ((va_up rt (lf x) x) x) + (vl x).toInt64)) ((va_up lf x (rt (lf x))) (lf x)) + (vp_updL tt x (tt ((va_up lf x (rt (lf x))) x) + tt ((va_up rt (lf x) x) x) + (vl x).toInt64)) ((va_up rt (lf x) x) (lf x)) + (vl (lf x)).toInt64)), sp, pa, ro, ss, dp, rn, od, kd), rfl, ⟨rfl, rfl⟩, by rw [e9]; exact hP, hD⟩, hS.F e9⟩) hS.2.2 dX8_raiseLeft_37

-- Tree.raiseRight
set_option maxHeartbeats 4000000 in
set_option maxRecDepth 100000 in
theorem c_X8_raiseRight (l : Launch) (D : va_G) (ca : Nat → ClassId) (kq a : Nat → Nat) (sz : Nat) (ky vl : Nat → Int32) (lf rt : Nat → Nat) (ct ht : Nat → Int32) (tt : Nat → Int64) (sp pa ro : Nat → Nat) (ss dp rn : Nat) (od : Int32) (kd : Nat) (x : Nat) (hlf : ∀ k, lf k ≤ 60) (hrt : ∀ k, rt k ≤ 60) (hsp : ∀ k, sp k ≤ 60) (hpa : ∀ k, pa k ≤ 60) (hro : ∀ k, ro k ≤ 60) (hrn : rn ≤ 60) (hx60 : x ≤ 60): Met l yX8_raiseRight wsX8_raiseRight ({ frames := 1, cells := 0, slots := 0, locals := 23 } : Room) (xPc D (TY ca) [.ref (a 0), .int (nI x)] (wT ca kq a (ky, vl, lf, rt, ct, ht, tt, sp, pa, ro, ss, dp, rn, od, kd)) sz) (va_Qi (fun (r : Int32) (u : TS) => r = nI (rt x) ∧ u = f_raiseRight (ky, vl, lf, rt, ct, ht, tt, sp, pa, ro, ss, dp, rn, od, kd) x) (xB D (wT ca kq a) (va_A (wT ca kq a (ky, vl, lf, rt, ct, ht, tt, sp, pa, ro, ss, dp, rn, od, kd)) sz)) (va_A (wT ca kq a (ky, vl, lf, rt, ct, ht, tt, sp, pa, ro, ss, dp, rn, od, kd)) sz)) 0 0 (va_A (wT ca kq a (ky, vl, lf, rt, ct, ht, tt, sp, pa, ro, ss, dp, rn, od, kd)) sz) := by
  refine Met.ofW (cc := cX8_raiseRight) (maxL := 3) (ret := (some .int)) (by decide) rfl ?_
  intro p e s m args below meth c s₁ B hml hv
  obtain ⟨rfl, hsz, hP, hKN, hD0⟩ := hv
  have hx := B.exec
  have hb := B.bytes
  have hr := B.returns
  have hts := atoms_spec (ws := wsX8_raiseRight) B.pre
  have hown : s.vm.findClass RX8 = some m.cls := findClass_of_methodNamed B.named
  have hlocks := B.notSynchronized
  have inX8 : ∀ w ∈ wsX80, w ∈ wsX8_raiseRight := by decide +kernel
  subst hsz
  have hD := hD0.self (sz := s.heap.size)
  generalize hAe : va_A (wT ca kq a (ky, vl, lf, rt, ct, ht, tt, sp, pa, ro, ss, dp, rn, od, kd)) s.heap.size = A at hD ⊢
  have hA : ∀ q : Nat, s.heap.size ≤ q → A q := fun q h => by rw [← hAe]; exact Or.inr h
  have hS : va_S A s.heap s.heap [] := va_S.rf
  have hl := lv_entry ([.ref (a 0), .int (nI x)]) (n := 3) (Nat.le_of_ble_eq_true rfl)
  rw [lg_entry_eq]
  generalize (lg_sl ([.ref (a 0), .int (nI x)]) ++ List.replicate (3 - (lg_sl ([.ref (a 0), .int (nI x)])).length) Slot.unset).toArray = ls at hl ⊢
  have hl : lv_has ls 3 [(0, .ref (a 0)), (1, .int (nI x))] := hl
  refine lv_aload_n hx hb dX8_raiseRight_0 rfl (lv_at hl 0 rfl) ?_
  refine va_get (D := D) (ci := 6) (v := .ref (a 4)) (C := RX8) (T := TX8) (N := 15) hx hb hts inX8 hown hKN.1 hP 0 rfl rfl 3 (by decide) (hts (.fieldLink RX8 21 "TreeFamily$Tree" "right" "[I") (by decide +kernel)) (fun _ h9 => h9) rfl dX8_raiseRight_1 ?_
  refine lv_iload_n hx hb dX8_raiseRight_4 rfl (lv_at hl 1 rfl) ?_
  refine xr_ild hx hb hKN.1 hP 4 0 rfl rfl (j := x) (Nat.lt_of_le_of_lt hx60 (by decide)) (by decide) dX8_raiseRight_5 ?_
  refine lv_istore_n (lv' := [(2, .int (nI (rt x))), (0, .ref (a 0)), (1, .int (nI x))]) hx hb dX8_raiseRight_6 rfl hl (by decide) rfl (fun ls hl => ?_)
  refine lv_aload_n hx hb dX8_raiseRight_7 rfl (lv_at hl 1 rfl) ?_
  refine va_get (D := D) (ci := 6) (v := .ref (a 4)) (C := RX8) (T := TX8) (N := 15) hx hb hts inX8 hown hKN.1 hP 0 rfl rfl 3 (by decide) (hts (.fieldLink RX8 21 "TreeFamily$Tree" "right" "[I") (by decide +kernel)) (fun _ h9 => h9) rfl dX8_raiseRight_8 ?_
  refine lv_iload_n hx hb dX8_raiseRight_11 rfl (lv_at hl 2 rfl) ?_
  refine lv_aload_n hx hb dX8_raiseRight_12 rfl (lv_at hl 1 rfl) ?_
  refine va_get (D := D) (ci := 6) (v := .ref (a 3)) (C := RX8) (T := TX8) (N := 15) hx hb hts inX8 hown hKN.1 hP 0 rfl rfl 2 (by decide) (hts (.fieldLink RX8 18 "TreeFamily$Tree" "left" "[I") (by decide +kernel)) (fun _ h9 => h9) rfl dX8_raiseRight_13 ?_
  refine lv_iload_n hx hb dX8_raiseRight_16 rfl (lv_at hl 0 rfl) ?_
  refine xr_ild hx hb hKN.1 hP 3 0 rfl rfl (j := rt x) (Nat.lt_of_le_of_lt (hrt x) (by decide)) (by decide) dX8_raiseRight_17 ?_
  refine xr_nst hx hb hKN.1 hP hD hS 4 0 (g := rt) rfl rfl (j := x) (v := lf (rt x)) (Nat.lt_of_le_of_lt hx60 (by decide)) (by decide) dX8_raiseRight_18 (fun H locs hP hD hS => ?_)
  have hP : va_P D vwCl (wT ca kq a (ky, vl, lf, (va_up rt x (lf (rt x))), ct, ht, tt, sp, pa, ro, ss, dp, rn, od, kd)) H := hP
  have hD : va_D A (wT ca kq a (ky, vl, lf, (va_up rt x (lf (rt x))), ct, ht, tt, sp, pa, ro, ss, dp, rn, od, kd)) := hD
  refine lv_aload_n hx hb dX8_raiseRight_19 rfl (lv_at hl 1 rfl) ?_
  refine va_get (D := D) (ci := 6) (v := .ref (a 3)) (C := RX8) (T := TX8) (N := 15) hx hb hts inX8 hown hKN.1 hP 0 rfl rfl 2 (by decide) (hts (.fieldLink RX8 18 "TreeFamily$Tree" "left" "[I") (by decide +kernel)) (fun _ h9 => h9) rfl dX8_raiseRight_20 ?_
  refine lv_iload_n hx hb dX8_raiseRight_23 rfl (lv_at hl 0 rfl) ?_
  refine lv_iload_n hx hb dX8_raiseRight_24 rfl (lv_at hl 2 rfl) ?_
  refine xr_nst hx hb hKN.1 hP hD hS 3 0 (g := lf) rfl rfl (j := rt x) (v := x) (Nat.lt_of_le_of_lt (hrt x) (by decide)) (by decide) dX8_raiseRight_25 (fun H locs hP hD hS => ?_)
  have hP : va_P D vwCl (wT ca kq a (ky, vl, (va_up lf (rt x) x), (va_up rt x (lf (rt x))), ct, ht, tt, sp, pa, ro, ss, dp, rn, od, kd)) H := hP
  have hD : va_D A (wT ca kq a (ky, vl, (va_up lf (rt x) x), (va_up rt x (lf (rt x))), ct, ht, tt, sp, pa, ro, ss, dp, rn, od, kd)) := hD
  refine lv_aload_n hx hb dX8_raiseRight_26 rfl (lv_at hl 1 rfl) ?_
  refine lv_iload_n hx hb dX8_raiseRight_27 rfl (lv_at hl 2 rfl) ?_
  refine xc_v (wr := []) (va_runV (As := [.int (nI x)]) (rest := []) ⟨hx, hb, hml, hown, hts⟩ (c_X8_refresh l D ca kq a _ ky vl (va_up lf (rt x) x) (va_up rt x (lf (rt x))) ct ht tt sp pa ro ss dp rn od kd x (vu_le hlf hx60) (vu_le hrt (hlf (rt x))) hsp hpa hro hrn hx60) (cwV 1 hts gX8_raiseRight_X8_refresh rfl rfl rfl (by decide +kernel) ⟨(Nat.le_of_ble_eq_true rfl), (Nat.le_of_ble_eq_true rfl)⟩) (xPreV hKN hP hD [0, 1, 2, 3, 4, 5, 6, 7, 8, 9, 10] (by decide) rfl (q0 := 0) rfl rfl rfl) rfl rfl hl.1 rfl (lv_room (Nat.le_of_ble_eq_true rfl)) dX8_raiseRight_28 ⟨(Nat.le_of_ble_eq_true rfl), (Nat.le_of_ble_eq_true rfl)⟩) hP hD hS hA [0, 1, 2, 3, 4, 5, 6, 7, 8, 9, 10] [] rfl rfl (by decide) (by decide) (fun u28 H locs hu28 hP hD hS => ?_)
  subst hu28
  have hP : va_P D vwCl (wT ca kq a (ky, vl, (va_up lf (rt x) x), (va_up rt x (lf (rt x))), (upd ct x (ct ((va_up lf (rt x) x) x) + ct ((va_up rt x (lf (rt x))) x) + 1)), (upd ht x (mx (ht ((va_up lf (rt x) x) x)) (ht ((va_up rt x (lf (rt x))) x)) + 1)), (vp_updL tt x (tt ((va_up lf (rt x) x) x) + tt ((va_up rt x (lf (rt x))) x) + (vl x).toInt64)), sp, pa, ro, ss, dp, rn, od, kd)) H := hP
  have hD : va_D A (wT ca kq a (ky, vl, (va_up lf (rt x) x), (va_up rt x (lf (rt x))), (upd ct x (ct ((va_up lf (rt x) x) x) + ct ((va_up rt x (lf (rt x))) x) + 1)), (upd ht x (mx (ht ((va_up lf (rt x) x) x)) (ht ((va_up rt x (lf (rt x))) x)) + 1)), (vp_updL tt x (tt ((va_up lf (rt x) x) x) + tt ((va_up rt x (lf (rt x))) x) + (vl x).toInt64)), sp, pa, ro, ss, dp, rn, od, kd)) := hD
  refine lv_aload_n hx hb dX8_raiseRight_31 rfl (lv_at hl 1 rfl) ?_
  refine lv_iload_n hx hb dX8_raiseRight_32 rfl (lv_at hl 0 rfl) ?_
  refine xc_v (wr := []) (va_runV (As := [.int (nI (rt x))]) (rest := []) ⟨hx, hb, hml, hown, hts⟩ (c_X8_refresh l D ca kq a _ ky vl (va_up lf (rt x) x) (va_up rt x (lf (rt x))) (upd ct x (ct ((va_up lf (rt x) x) x) + ct ((va_up rt x (lf (rt x))) x) + 1)) (upd ht x (mx (ht ((va_up lf (rt x) x) x)) (ht ((va_up rt x (lf (rt x))) x)) + 1)) (vp_updL tt x (tt ((va_up lf (rt x) x) x) + tt ((va_up rt x (lf (rt x))) x) + (vl x).toInt64)) sp pa ro ss dp rn od kd (rt x) (vu_le hlf hx60) (vu_le hrt (hlf (rt x))) hsp hpa hro hrn (hrt x)) (cwV 1 hts gX8_raiseRight_X8_refresh rfl rfl rfl (by decide +kernel) ⟨(Nat.le_of_ble_eq_true rfl), (Nat.le_of_ble_eq_true rfl)⟩) (xPreV hKN hP hD [0, 1, 2, 3, 4, 5, 6, 7, 8, 9, 10] (by decide) rfl (q0 := 0) rfl rfl rfl) rfl rfl hl.1 rfl (lv_room (Nat.le_of_ble_eq_true rfl)) dX8_raiseRight_33 ⟨(Nat.le_of_ble_eq_true rfl), (Nat.le_of_ble_eq_true rfl)⟩) hP hD hS hA [0, 1, 2, 3, 4, 5, 6, 7, 8, 9, 10] [] rfl rfl (by decide) (by decide) (fun u33 H locs hu33 hP hD hS => ?_)
  subst hu33
  have hP : va_P D vwCl (wT ca kq a (ky, vl, (va_up lf (rt x) x), (va_up rt x (lf (rt x))), (upd (upd ct x (ct ((va_up lf (rt x) x) x) + ct ((va_up rt x (lf (rt x))) x) + 1)) (rt x) ((upd ct x (ct ((va_up lf (rt x) x) x) + ct ((va_up rt x (lf (rt x))) x) + 1)) ((va_up lf (rt x) x) (rt x)) + (upd ct x (ct ((va_up lf (rt x) x) x) + ct ((va_up rt x (lf (rt x))) x) + 1)) ((va_up rt x (lf (rt x))) (rt x)) + 1)), (upd (upd ht x (mx (ht ((va_up lf (rt x) x) x)) (ht ((va_up rt x (lf (rt x))) x)) + 1)) (rt x) (mx ((upd ht x (mx (ht ((va_up lf (rt x) x) x)) (ht ((va_up rt x (lf (rt x))) x)) + 1)) ((va_up lf (rt x) x) (rt x))) ((upd ht x (mx (ht ((va_up lf (rt x) x) x)) (ht ((va_up rt x (lf (rt x))) x)) + 1)) ((va_up rt x (lf (rt x))) (rt x))) + 1)), (vp_updL (vp_updL tt x (tt ((va_up lf (rt x) x) x) + tt ((va_up rt x (lf (rt x))) x) + (vl x).toInt64)) (rt x) ((vp_updL tt x (tt ((va_up lf (rt x) x) x) + tt ((va_up rt x (lf (rt x))) x) + (vl x).toInt64)) ((va_up lf (rt x) x) (rt x)) + (vp_updL tt x (tt ((va_up lf (rt x) x) x) + tt ((va_up rt x (lf (rt x))) x) + (vl x).toInt64)) ((va_up rt x (lf (rt x))) (rt x)) + (vl (rt x)).toInt64)), sp, pa, ro, ss, dp, rn, od, kd)) H := hP
  have hD : va_D A (wT ca kq a (ky, vl, (va_up lf (rt x) x), (va_up rt x (lf (rt x))), (upd (upd ct x (ct ((va_up lf (rt x) x) x) + ct ((va_up rt x (lf (rt x))) x) + 1)) (rt x) ((upd ct x (ct ((va_up lf (rt x) x) x) + ct ((va_up rt x (lf (rt x))) x) + 1)) ((va_up lf (rt x) x) (rt x)) + (upd ct x (ct ((va_up lf (rt x) x) x) + ct ((va_up rt x (lf (rt x))) x) + 1)) ((va_up rt x (lf (rt x))) (rt x)) + 1)), (upd (upd ht x (mx (ht ((va_up lf (rt x) x) x)) (ht ((va_up rt x (lf (rt x))) x)) + 1)) (rt x) (mx ((upd ht x (mx (ht ((va_up lf (rt x) x) x)) (ht ((va_up rt x (lf (rt x))) x)) + 1)) ((va_up lf (rt x) x) (rt x))) ((upd ht x (mx (ht ((va_up lf (rt x) x) x)) (ht ((va_up rt x (lf (rt x))) x)) + 1)) ((va_up rt x (lf (rt x))) (rt x))) + 1)), (vp_updL (vp_updL tt x (tt ((va_up lf (rt x) x) x) + tt ((va_up rt x (lf (rt x))) x) + (vl x).toInt64)) (rt x) ((vp_updL tt x (tt ((va_up lf (rt x) x) x) + tt ((va_up rt x (lf (rt x))) x) + (vl x).toInt64)) ((va_up lf (rt x) x) (rt x)) + (vp_updL tt x (tt ((va_up lf (rt x) x) x) + tt ((va_up rt x (lf (rt x))) x) + (vl x).toInt64)) ((va_up rt x (lf (rt x))) (rt x)) + (vl (rt x)).toInt64)), sp, pa, ro, ss, dp, rn, od, kd)) := hD
  refine lv_iload_n hx hb dX8_raiseRight_36 rfl (lv_at hl 0 rfl) ?_
  exact W.iret (v := (nI (rt x))) hx hb hr (fun t9 e9 w9 => ⟨⟨_, (ky, vl, (va_up lf (rt x) x), (va_up rt x (lf (rt x))), (upd (upd ct x (ct ((va_up lf (rt x) x) x) + ct ((va_up rt x (lf (rt x))) x) + 1)) (rt x) ((upd ct x (ct ((va_up lf (rt x) x) x) + ct ((va_up rt x (lf (rt x))) x) + 1)) ((va_up lf (rt x) x) (rt x)) + (upd ct x (ct ((va_up lf (rt x) x) x) + ct ((va_up rt x (lf (rt x))) x) + 1)) ((va_up rt x (lf (rt x))) (rt x)) + 1)), (upd (upd ht x (mx (ht ((va_up lf (rt x) x) x)) (ht ((va_up rt x (lf (rt x))) x)) + 1)) (rt x) (mx ((upd ht x (mx (ht ((va_up lf (rt x) x) x)) (ht ((va_up rt x (lf (rt x))) x)) + 1)) ((va_up lf (rt x) x) (rt x))) ((upd ht x (mx (ht ((va_up lf (rt x) x) x)) (ht ((va_up rt x (lf (rt x))) x)) + 1)) ((va_up rt x (lf (rt x))) (rt x))) + 1)), (vp_updL (vp_updL tt x (tt ((va_up lf (rt x) x) x) + tt ((va_up rt x (lf (rt x))) x) + (vl x).toInt64)) (rt x) ((vp_updL tt x (tt ((va_up lf (rt x) x) x) + tt ((va_up rt x (lf (rt x))) x) + (vl x).toInt64)) ((va_up lf (rt x) x) (rt x)) + (vp_updL tt x (tt ((va_up lf (rt x) x) x) + tt ((va_up rt x (lf (rt x))) x) + (vl x).toInt64)) ((va_up rt x (lf (rt x))) (rt x)) + (vl (rt x)).toInt64)), sp, pa, ro, ss, dp, rn, od, kd), rfl, ⟨rfl, rfl⟩, by rw [e9]; exact hP, hD⟩, hS.F e9⟩) hS.2.2 dX8_raiseRight_37

-- Tree.setAt
set_option maxHeartbeats 4000000 in
set_option maxRecDepth 100000 in
theorem c_X8_setAt (l : Launch) (D : va_G) (ca : Nat → ClassId) (kq a : Nat → Nat) (sz : Nat) (ky vl : Nat → Int32) (lf rt : Nat → Nat) (ct ht : Nat → Int32) (tt : Nat → Int64) (sp pa ro : Nat → Nat) (ss dp rn : Nat) (od : Int32) (kd : Nat) (lv x : Nat) (hlf : ∀ k, lf k ≤ 60) (hrt : ∀ k, rt k ≤ 60) (hsp : ∀ k, sp k ≤ 60) (hpa : ∀ k, pa k ≤ 60) (hro : ∀ k, ro k ≤ 60) (hrn : rn ≤ 60) (hlv : lv ≤ 60) (hx60 : x ≤ 60): Met l yX8_setAt wsX8_setAt ({ frames := 0, cells := 0, slots := 0, locals := 0 } : Room) (xPc D (TY ca) [.ref (a 0), .int (nI lv), .int (nI x)] (wT ca kq a (ky, vl, lf, rt, ct, ht, tt, sp, pa, ro, ss, dp, rn, od, kd)) sz) (va_Qv (fun u : TS => u = f_setAt (ky, vl, lf, rt, ct, ht, tt, sp, pa, ro, ss, dp, rn, od, kd) lv x) (xB D (wT ca kq a) (va_A (wT ca kq a (ky, vl, lf, rt, ct, ht, tt, sp, pa, ro, ss, dp, rn, od, kd)) sz)) (va_A (wT ca kq a (ky, vl, lf, rt, ct, ht, tt, sp, pa, ro, ss, dp, rn, od, kd)) sz)) 0 0 (va_A (wT ca kq a (ky, vl, lf, rt, ct, ht, tt, sp, pa, ro, ss, dp, rn, od, kd)) sz) := by
  refine Met.ofW (cc := cX8_setAt) (maxL := 3) (ret := none) (by decide) rfl ?_
  intro p e s m args below meth c s₁ B hml hv
  obtain ⟨rfl, hsz, hP, hKN, hD0⟩ := hv
  have hx := B.exec
  have hb := B.bytes
  have hr := B.returns
  have hts := atoms_spec (ws := wsX8_setAt) B.pre
  have hown : s.vm.findClass RX8 = some m.cls := findClass_of_methodNamed B.named
  have hlocks := B.notSynchronized
  have inX8 : ∀ w ∈ wsX80, w ∈ wsX8_setAt := by decide +kernel
  subst hsz
  have hD := hD0.self (sz := s.heap.size)
  generalize hAe : va_A (wT ca kq a (ky, vl, lf, rt, ct, ht, tt, sp, pa, ro, ss, dp, rn, od, kd)) s.heap.size = A at hD ⊢
  have hA : ∀ q : Nat, s.heap.size ≤ q → A q := fun q h => by rw [← hAe]; exact Or.inr h
  have hS : va_S A s.heap s.heap [] := va_S.rf
  have hl := lv_entry ([.ref (a 0), .int (nI lv), .int (nI x)]) (n := 3) (Nat.le_of_ble_eq_true rfl)
  rw [lg_entry_eq]
  generalize (lg_sl ([.ref (a 0), .int (nI lv), .int (nI x)]) ++ List.replicate (3 - (lg_sl ([.ref (a 0), .int (nI lv), .int (nI x)])).length) Slot.unset).toArray = ls at hl ⊢
  have hl : lv_has ls 3 [(0, .ref (a 0)), (1, .int (nI lv)), (2, .int (nI x))] := hl
  refine lv_iload_n hx hb dX8_setAt_0 rfl (lv_at hl 1 rfl) ?_
  refine lv_if_ne (tgt := 12) hx hb dX8_setAt_1 (by decide) (fun c1 => ?_) (fun c1 => ?_)
  · skip
    have c1 : ¬ lv = 0 := fun h9 => c1 ((xn_eq (a := lv) (b := 0) (Nat.lt_of_le_of_lt hlv (by decide)) (by decide)).mpr h9)
    refine lv_aload_n hx hb dX8_setAt_12 rfl (lv_at hl 0 rfl) ?_
    refine va_get (D := D) (ci := 6) (v := .ref (a 3)) (C := RX8) (T := TX8) (N := 15) hx hb hts inX8 hown hKN.1 hP 0 rfl rfl 2 (by decide) (hts (.fieldLink RX8 18 "TreeFamily$Tree" "left" "[I") (by decide +kernel)) (fun _ h9 => h9) rfl dX8_setAt_13 ?_
    refine lv_aload_n hx hb dX8_setAt_16 rfl (lv_at hl 0 rfl) ?_
    refine va_get (D := D) (ci := 6) (v := .ref (a 9)) (C := RX8) (T := TX8) (N := 15) hx hb hts inX8 hown hKN.1 hP 0 rfl rfl 8 (by decide) (hts (.fieldLink RX8 37 "TreeFamily$Tree" "path" "[I") (by decide +kernel)) (fun _ h9 => h9) rfl dX8_setAt_17 ?_
    refine lv_iload_n hx hb dX8_setAt_20 rfl (lv_at hl 1 rfl) ?_
    refine lv_iconst (v := 1) hx hb dX8_setAt_21 (by decide) ?_
    refine lv_isub hx hb dX8_setAt_22 ?_
    refine xr_top (y := nI (lv - 1)) (pk_sub (a := lv) (b := 1) (by omega)) ?_
    refine xr_ild hx hb hKN.1 hP 9 0 rfl rfl (j := lv - 1) (by omega) (by decide) dX8_setAt_23 ?_
    refine xr_ild hx hb hKN.1 hP 3 0 rfl rfl (j := pa (lv - 1)) (Nat.lt_of_le_of_lt (hpa (lv - 1)) (by decide)) (by decide) dX8_setAt_24 ?_
    refine lv_aload_n hx hb dX8_setAt_25 rfl (lv_at hl 0 rfl) ?_
    refine va_get (D := D) (ci := 6) (v := .ref (a 9)) (C := RX8) (T := TX8) (N := 15) hx hb hts inX8 hown hKN.1 hP 0 rfl rfl 8 (by decide) (hts (.fieldLink RX8 37 "TreeFamily$Tree" "path" "[I") (by decide +kernel)) (fun _ h9 => h9) rfl dX8_setAt_26 ?_
    refine lv_iload_n hx hb dX8_setAt_29 rfl (lv_at hl 1 rfl) ?_
    refine xr_ild hx hb hKN.1 hP 9 0 rfl rfl (j := lv) (Nat.lt_of_le_of_lt hlv (by decide)) (by decide) dX8_setAt_30 ?_
    refine lv_icmp_ne (tgt := 51) hx hb dX8_setAt_31 (by decide) (fun c31 => ?_) (fun c31 => ?_)
    · skip
      have c31 : ¬ (lf (pa (lv - 1))) = (pa lv) := fun h9 => c31 ((xn_eq (a := (lf (pa (lv - 1)))) (b := (pa lv)) (Nat.lt_of_le_of_lt (hlf (pa (lv - 1))) (by decide)) (Nat.lt_of_le_of_lt (hpa lv) (by decide))).mpr h9)
      refine lv_aload_n hx hb dX8_setAt_51 rfl (lv_at hl 0 rfl) ?_
      refine va_get (D := D) (ci := 6) (v := .ref (a 4)) (C := RX8) (T := TX8) (N := 15) hx hb hts inX8 hown hKN.1 hP 0 rfl rfl 3 (by decide) (hts (.fieldLink RX8 21 "TreeFamily$Tree" "right" "[I") (by decide +kernel)) (fun _ h9 => h9) rfl dX8_setAt_52 ?_
      refine lv_aload_n hx hb dX8_setAt_55 rfl (lv_at hl 0 rfl) ?_
      refine va_get (D := D) (ci := 6) (v := .ref (a 9)) (C := RX8) (T := TX8) (N := 15) hx hb hts inX8 hown hKN.1 hP 0 rfl rfl 8 (by decide) (hts (.fieldLink RX8 37 "TreeFamily$Tree" "path" "[I") (by decide +kernel)) (fun _ h9 => h9) rfl dX8_setAt_56 ?_
      refine lv_iload_n hx hb dX8_setAt_59 rfl (lv_at hl 1 rfl) ?_
      refine lv_iconst (v := 1) hx hb dX8_setAt_60 (by decide) ?_
      refine lv_isub hx hb dX8_setAt_61 ?_
      refine xr_top (y := nI (lv - 1)) (pk_sub (a := lv) (b := 1) (by omega)) ?_
      refine xr_ild hx hb hKN.1 hP 9 0 rfl rfl (j := lv - 1) (by omega) (by decide) dX8_setAt_62 ?_
      refine lv_iload_n hx hb dX8_setAt_63 rfl (lv_at hl 2 rfl) ?_
      refine xr_nst hx hb hKN.1 hP hD hS 4 0 (g := rt) rfl rfl (j := pa (lv - 1)) (v := x) (Nat.lt_of_le_of_lt (hpa (lv - 1)) (by decide)) (by decide) dX8_setAt_64 (fun H locs hP hD hS => ?_)
      have hP : va_P D vwCl (wT ca kq a (ky, vl, lf, (va_up rt (pa (lv - 1)) x), ct, ht, tt, sp, pa, ro, ss, dp, rn, od, kd)) H := hP
      have hD : va_D A (wT ca kq a (ky, vl, lf, (va_up rt (pa (lv - 1)) x), ct, ht, tt, sp, pa, ro, ss, dp, rn, od, kd)) := hD
      exact W.vret hx hb hr (fun t9 e9 w9 => ⟨⟨(ky, vl, lf, (va_up rt (pa (lv - 1)) x), ct, ht, tt, sp, pa, ro, ss, dp, rn, od, kd), rfl, by unfold f_setAt; first | (rw [if_pos c1]; rfl) | (rw [if_neg c1, if_pos c31]; rfl) | (rw [if_neg c1, if_neg c31]; rfl), by rw [e9]; exact hP, hD⟩, hS.F e9⟩) hS.2.2 dX8_setAt_65
    · skip
      have c31 : (lf (pa (lv - 1))) = (pa lv) := (xn_eq (a := (lf (pa (lv - 1)))) (b := (pa lv)) (Nat.lt_of_le_of_lt (hlf (pa (lv - 1))) (by decide)) (Nat.lt_of_le_of_lt (hpa lv) (by decide))).mp c31
      refine lv_aload_n hx hb dX8_setAt_34 rfl (lv_at hl 0 rfl) ?_
      refine va_get (D := D) (ci := 6) (v := .ref (a 3)) (C := RX8) (T := TX8) (N := 15) hx hb hts inX8 hown hKN.1 hP 0 rfl rfl 2 (by decide) (hts (.fieldLink RX8 18 "TreeFamily$Tree" "left" "[I") (by decide +kernel)) (fun _ h9 => h9) rfl dX8_setAt_35 ?_
      refine lv_aload_n hx hb dX8_setAt_38 rfl (lv_at hl 0 rfl) ?_
      refine va_get (D := D) (ci := 6) (v := .ref (a 9)) (C := RX8) (T := TX8) (N := 15) hx hb hts inX8 hown hKN.1 hP 0 rfl rfl 8 (by decide) (hts (.fieldLink RX8 37 "TreeFamily$Tree" "path" "[I") (by decide +kernel)) (fun _ h9 => h9) rfl dX8_setAt_39 ?_
      refine lv_iload_n hx hb dX8_setAt_42 rfl (lv_at hl 1 rfl) ?_
      refine lv_iconst (v := 1) hx hb dX8_setAt_43 (by decide) ?_
      refine lv_isub hx hb dX8_setAt_44 ?_
      refine xr_top (y := nI (lv - 1)) (pk_sub (a := lv) (b := 1) (by omega)) ?_
      refine xr_ild hx hb hKN.1 hP 9 0 rfl rfl (j := lv - 1) (by omega) (by decide) dX8_setAt_45 ?_
      refine lv_iload_n hx hb dX8_setAt_46 rfl (lv_at hl 2 rfl) ?_
      refine xr_nst hx hb hKN.1 hP hD hS 3 0 (g := lf) rfl rfl (j := pa (lv - 1)) (v := x) (Nat.lt_of_le_of_lt (hpa (lv - 1)) (by decide)) (by decide) dX8_setAt_47 (fun H locs hP hD hS => ?_)
      have hP : va_P D vwCl (wT ca kq a (ky, vl, (va_up lf (pa (lv - 1)) x), rt, ct, ht, tt, sp, pa, ro, ss, dp, rn, od, kd)) H := hP
      have hD : va_D A (wT ca kq a (ky, vl, (va_up lf (pa (lv - 1)) x), rt, ct, ht, tt, sp, pa, ro, ss, dp, rn, od, kd)) := hD
      refine lv_goto (tgt := 65) hx hb dX8_setAt_48 (by decide) ?_
      exact W.vret hx hb hr (fun t9 e9 w9 => ⟨⟨(ky, vl, (va_up lf (pa (lv - 1)) x), rt, ct, ht, tt, sp, pa, ro, ss, dp, rn, od, kd), rfl, by unfold f_setAt; first | (rw [if_pos c1]; rfl) | (rw [if_neg c1, if_pos c31]; rfl) | (rw [if_neg c1, if_neg c31]; rfl), by rw [e9]; exact hP, hD⟩, hS.F e9⟩) hS.2.2 dX8_setAt_65
  · skip
    have c1 : lv = 0 := (xn_eq (a := lv) (b := 0) (Nat.lt_of_le_of_lt hlv (by decide)) (by decide)).mp c1
    refine lv_aload_n hx hb dX8_setAt_4 rfl (lv_at hl 0 rfl) ?_
    refine lv_iload_n hx hb dX8_setAt_5 rfl (lv_at hl 2 rfl) ?_
    refine va_put (D := D) (ci := 6) (v := .int (nI x)) (ty := .int) (C := RX8) (T := TX8) (N := 15) hx hb hts inX8 tyX8 tyX8_ok nmX8 hown hKN.1 hP hD hS 0 rfl rfl 12 (by decide) (hts (.fieldLink RX8 55 "TreeFamily$Tree" "root" "I") (by decide +kernel)) (fun _ h9 => h9) rfl (by decide +kernel) rfl rfl (Nat.le_of_ble_eq_true rfl) dX8_setAt_6 (fun H locs hP hD hS => ?_)
    have hP : va_P D vwCl (wT ca kq a (ky, vl, lf, rt, ct, ht, tt, sp, pa, ro, ss, dp, x, od, kd)) H := hP
    have hD : va_D A (wT ca kq a (ky, vl, lf, rt, ct, ht, tt, sp, pa, ro, ss, dp, x, od, kd)) := hD
    refine lv_goto (tgt := 65) hx hb dX8_setAt_9 (by decide) ?_
    exact W.vret hx hb hr (fun t9 e9 w9 => ⟨⟨(ky, vl, lf, rt, ct, ht, tt, sp, pa, ro, ss, dp, x, od, kd), rfl, by unfold f_setAt; first | (rw [if_pos c1]; rfl) | (rw [if_neg c1, if_pos c31]; rfl) | (rw [if_neg c1, if_neg c31]; rfl), by rw [e9]; exact hP, hD⟩, hS.F e9⟩) hS.2.2 dX8_setAt_65
