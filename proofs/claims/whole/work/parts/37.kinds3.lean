-- ByPriorities.settle
set_option maxHeartbeats 4000000 in
set_option maxRecDepth 100000 in
theorem c_X1_settle (l : Launch) (D : va_G) (ca : Nat → ClassId) (kq a : Nat → Nat) (sz : Nat) (ky vl : Nat → Int32) (lf rt : Nat → Nat) (ct ht : Nat → Int32) (tt : Nat → Int64) (sp pa ro : Nat → Nat) (ss dp rn : Nat) (od : Int32) (kd : Nat) (x : Nat) (hlf : ∀ k, lf k ≤ 60) (hrt : ∀ k, rt k ≤ 60) (hsp : ∀ k, sp k ≤ 60) (hpa : ∀ k, pa k ≤ 60) (hro : ∀ k, ro k ≤ 60) (hrn : rn ≤ 60) (hkd : kd < 4) (hx60 : x ≤ 60): Met l yX1_settle wsX1_settle ({ frames := 63, cells := 0, slots := 0, locals := 1448 } : Room) (xPc D (TY ca) [.ref (kq 2), .ref (a 0), .int (nI x)] (wT ca kq a (ky, vl, lf, rt, ct, ht, tt, sp, pa, ro, ss, dp, rn, od, kd)) sz) (va_Qi (fun (r : Int32) (u : TS) => r = nI (f_sink 60 (ky, vl, lf, rt, ct, ht, tt, sp, pa, ro, ss, dp, rn, od, kd) x).1 ∧ u = (f_sink 60 (ky, vl, lf, rt, ct, ht, tt, sp, pa, ro, ss, dp, rn, od, kd) x).2) (xB D (wT ca kq a) (va_A (wT ca kq a (ky, vl, lf, rt, ct, ht, tt, sp, pa, ro, ss, dp, rn, od, kd)) sz)) (va_A (wT ca kq a (ky, vl, lf, rt, ct, ht, tt, sp, pa, ro, ss, dp, rn, od, kd)) sz)) 0 0 (va_A (wT ca kq a (ky, vl, lf, rt, ct, ht, tt, sp, pa, ro, ss, dp, rn, od, kd)) sz) := by
  refine Met.ofW (cc := cX1_settle) (maxL := 3) (ret := (some .int)) (by decide) rfl ?_
  intro p e s m args below meth c s₁ B hml hv
  obtain ⟨rfl, hsz, hP, hKN, hD0⟩ := hv
  have hx := B.exec
  have hb := B.bytes
  have hr := B.returns
  have hts := atoms_spec (ws := wsX1_settle) B.pre
  have hown : s.vm.findClass RX1 = some m.cls := findClass_of_methodNamed B.named
  have hlocks := B.notSynchronized
  subst hsz
  have hD := hD0.self (sz := s.heap.size)
  generalize hAe : va_A (wT ca kq a (ky, vl, lf, rt, ct, ht, tt, sp, pa, ro, ss, dp, rn, od, kd)) s.heap.size = A at hD ⊢
  have hA : ∀ q : Nat, s.heap.size ≤ q → A q := fun q h => by rw [← hAe]; exact Or.inr h
  have hS : va_S A s.heap s.heap [] := va_S.rf
  have hl := lv_entry ([.ref (kq 2), .ref (a 0), .int (nI x)]) (n := 3) (Nat.le_of_ble_eq_true rfl)
  rw [lg_entry_eq]
  generalize (lg_sl ([.ref (kq 2), .ref (a 0), .int (nI x)]) ++ List.replicate (3 - (lg_sl ([.ref (kq 2), .ref (a 0), .int (nI x)])).length) Slot.unset).toArray = ls at hl ⊢
  have hl : lv_has ls 3 [(0, .ref (kq 2)), (1, .ref (a 0)), (2, .int (nI x))] := hl
  refine lv_aload_n hx hb dX1_settle_0 rfl (lv_at hl 1 rfl) ?_
  refine lv_iload_n hx hb dX1_settle_1 rfl (lv_at hl 2 rfl) ?_
  refine lv_bipush (v := 60) hx hb dX1_settle_2 (by decide) ?_
  refine xc_i (wr := []) (va_runS (As := [.ref (a 0), .int (nI x), .int 60]) (rest := []) ⟨hx, hb, hml, hown, hts⟩ (c_X1_sink l D ca kq a 60 _ ky vl lf rt ct ht tt sp pa ro ss dp rn od kd x hlf hrt hsp hpa hro hrn hkd hx60 (by decide)) (va_cwS 3 hts gX1_settle_X1_sink rfl rfl rfl (by decide +kernel) ⟨(Nat.le_of_ble_eq_true rfl), (Nat.le_of_ble_eq_true rfl)⟩) (xPreS hKN hP hD [0, 1, 2, 3, 4, 5, 6, 7, 8, 9, 10] (by decide) rfl) rfl rfl hl.1 rfl (lv_room (Nat.le_of_ble_eq_true rfl)) dX1_settle_4 ⟨(Nat.le_of_ble_eq_true rfl), (Nat.le_of_ble_eq_true rfl)⟩) hP hD hS hA [0, 1, 2, 3, 4, 5, 6, 7, 8, 9, 10] [] rfl rfl (by decide) (by decide) (fun r4 u4 H locs hu4 hP hD hS => ?_)
  exact W.iret (v := r4) hx hb hr (fun t9 e9 w9 => ⟨⟨_, u4, rfl, hu4, by rw [e9]; exact hP, hD⟩, hS.F e9⟩) hS.2.2 dX1_settle_7

-- ByPriorities.suits
set_option maxHeartbeats 4000000 in
set_option maxRecDepth 100000 in
theorem c_X1_suits (l : Launch) (D : va_G) (ca : Nat → ClassId) (kq a : Nat → Nat) (sz : Nat) (ky vl : Nat → Int32) (lf rt : Nat → Nat) (ct ht : Nat → Int32) (tt : Nat → Int64) (sp pa ro : Nat → Nat) (ss dp rn : Nat) (od : Int32) (kd : Nat) (x : Nat) (hlf : ∀ k, lf k ≤ 60) (hrt : ∀ k, rt k ≤ 60) (hsp : ∀ k, sp k ≤ 60) (hpa : ∀ k, pa k ≤ 60) (hro : ∀ k, ro k ≤ 60) (hrn : rn ≤ 60) (hkd : kd < 4) (hx60 : x ≤ 60): Met l yX1_suits wsX1_suits ({ frames := 2, cells := 0, slots := 0, locals := 45 } : Room) (xPc D (TY ca) [.ref (kq 2), .ref (a 0), .int (nI x)] (wT ca kq a (ky, vl, lf, rt, ct, ht, tt, sp, pa, ro, ss, dp, rn, od, kd)) sz) (va_Qi (fun (r : Int32) (u : TS) => r = bI (if f_preferred (ky, vl, lf, rt, ct, ht, tt, sp, pa, ro, ss, dp, rn, od, kd) x = x then true else false) ∧ u = (ky, vl, lf, rt, ct, ht, tt, sp, pa, ro, ss, dp, rn, od, kd)) (xB D (wT ca kq a) (va_A (wT ca kq a (ky, vl, lf, rt, ct, ht, tt, sp, pa, ro, ss, dp, rn, od, kd)) sz)) (va_A (wT ca kq a (ky, vl, lf, rt, ct, ht, tt, sp, pa, ro, ss, dp, rn, od, kd)) sz)) 0 0 (va_A (wT ca kq a (ky, vl, lf, rt, ct, ht, tt, sp, pa, ro, ss, dp, rn, od, kd)) sz) := by
  refine Met.ofW (cc := cX1_suits) (maxL := 3) (ret := (some .boolean)) (by decide) rfl ?_
  intro p e s m args below meth c s₁ B hml hv
  obtain ⟨rfl, hsz, hP, hKN, hD0⟩ := hv
  have hx := B.exec
  have hb := B.bytes
  have hr := B.returns
  have hts := atoms_spec (ws := wsX1_suits) B.pre
  have hown : s.vm.findClass RX1 = some m.cls := findClass_of_methodNamed B.named
  have hlocks := B.notSynchronized
  subst hsz
  have hD := hD0.self (sz := s.heap.size)
  generalize hAe : va_A (wT ca kq a (ky, vl, lf, rt, ct, ht, tt, sp, pa, ro, ss, dp, rn, od, kd)) s.heap.size = A at hD ⊢
  have hA : ∀ q : Nat, s.heap.size ≤ q → A q := fun q h => by rw [← hAe]; exact Or.inr h
  have hS : va_S A s.heap s.heap [] := va_S.rf
  have hl := lv_entry ([.ref (kq 2), .ref (a 0), .int (nI x)]) (n := 3) (Nat.le_of_ble_eq_true rfl)
  rw [lg_entry_eq]
  generalize (lg_sl ([.ref (kq 2), .ref (a 0), .int (nI x)]) ++ List.replicate (3 - (lg_sl ([.ref (kq 2), .ref (a 0), .int (nI x)])).length) Slot.unset).toArray = ls at hl ⊢
  have hl : lv_has ls 3 [(0, .ref (kq 2)), (1, .ref (a 0)), (2, .int (nI x))] := hl
  refine lv_aload_n hx hb dX1_suits_0 rfl (lv_at hl 1 rfl) ?_
  refine lv_iload_n hx hb dX1_suits_1 rfl (lv_at hl 2 rfl) ?_
  refine xc_i (wr := []) (va_runS (As := [.ref (a 0), .int (nI x)]) (rest := []) ⟨hx, hb, hml, hown, hts⟩ (c_X1_preferred l D ca kq a _ ky vl lf rt ct ht tt sp pa ro ss dp rn od kd x hlf hrt hsp hpa hro hrn hx60) (va_cwS 2 hts gX1_suits_X1_preferred rfl rfl rfl (by decide +kernel) ⟨(Nat.le_of_ble_eq_true rfl), (Nat.le_of_ble_eq_true rfl)⟩) (xPreS hKN hP hD [0, 1, 2, 3, 4, 5, 6, 7, 8, 9, 10] (by decide) rfl) rfl rfl hl.1 rfl (lv_room (Nat.le_of_ble_eq_true rfl)) dX1_suits_2 ⟨(Nat.le_of_ble_eq_true rfl), (Nat.le_of_ble_eq_true rfl)⟩) hP hD hS hA [0, 1, 2, 3, 4, 5, 6, 7, 8, 9, 10] [] rfl rfl (by decide) (by decide) (fun r2 u2 H locs hu2 hP hD hS => ?_)
  obtain ⟨er2, eu2⟩ := hu2
  subst er2
  subst eu2
  have hP : va_P D vwCl (wT ca kq a (ky, vl, lf, rt, ct, ht, tt, sp, pa, ro, ss, dp, rn, od, kd)) H := hP
  have hD : va_D A (wT ca kq a (ky, vl, lf, rt, ct, ht, tt, sp, pa, ro, ss, dp, rn, od, kd)) := hD
  refine lv_iload_n hx hb dX1_suits_5 rfl (lv_at hl 2 rfl) ?_
  refine lv_icmp_ne (tgt := 13) hx hb dX1_suits_6 (by decide) (fun c6 => ?_) (fun c6 => ?_)
  · skip
    have c6 : ¬ (f_preferred (ky, vl, lf, rt, ct, ht, tt, sp, pa, ro, ss, dp, rn, od, kd) x) = x := fun h9 => c6 ((xn_eq (a := (f_preferred (ky, vl, lf, rt, ct, ht, tt, sp, pa, ro, ss, dp, rn, od, kd) x)) (b := x) (Nat.lt_of_le_of_lt (wf_preferred (⟨hlf, hrt, hsp, hpa, hro, hrn, hkd⟩ : WF (ky, vl, lf, rt, ct, ht, tt, sp, pa, ro, ss, dp, rn, od, kd)) hx60) (by decide)) (Nat.lt_of_le_of_lt hx60 (by decide))).mpr h9)
    refine lv_iconst (v := 0) hx hb dX1_suits_13 (by decide) ?_
    exact W.zret (v := 0) hx hb hr (by decide) (fun t9 e9 w9 => ⟨⟨_, (ky, vl, lf, rt, ct, ht, tt, sp, pa, ro, ss, dp, rn, od, kd), rfl, ⟨by first | exact bI_of (if_pos c6) rfl | exact bI_of (if_neg c6) rfl, rfl⟩, by rw [e9]; exact hP, hD⟩, hS.F e9⟩) hS.2.2 dX1_suits_14
  · skip
    have c6 : (f_preferred (ky, vl, lf, rt, ct, ht, tt, sp, pa, ro, ss, dp, rn, od, kd) x) = x := (xn_eq (a := (f_preferred (ky, vl, lf, rt, ct, ht, tt, sp, pa, ro, ss, dp, rn, od, kd) x)) (b := x) (Nat.lt_of_le_of_lt (wf_preferred (⟨hlf, hrt, hsp, hpa, hro, hrn, hkd⟩ : WF (ky, vl, lf, rt, ct, ht, tt, sp, pa, ro, ss, dp, rn, od, kd)) hx60) (by decide)) (Nat.lt_of_le_of_lt hx60 (by decide))).mp c6
    refine lv_iconst (v := 1) hx hb dX1_suits_9 (by decide) ?_
    refine lv_goto (tgt := 14) hx hb dX1_suits_10 (by decide) ?_
    exact W.zret (v := 1) hx hb hr (by decide) (fun t9 e9 w9 => ⟨⟨_, (ky, vl, lf, rt, ct, ht, tt, sp, pa, ro, ss, dp, rn, od, kd), rfl, ⟨by first | exact bI_of (if_pos c6) rfl | exact bI_of (if_neg c6) rfl, rfl⟩, by rw [e9]; exact hP, hD⟩, hS.F e9⟩) hS.2.2 dX1_suits_14

-- ByRebuilding.highest
set_option maxHeartbeats 4000000 in
set_option maxRecDepth 100000 in
theorem c_X2_highest (l : Launch) (x : Int32) : Met l yX2_highest wsX2_highest ({ frames := 0, cells := 0, slots := 0, locals := 0 } : Room) (va_Pc [.int x] (fun _ => True)) (vp_Si (fun r => r = nI (f_highest x))) 0 0 (fun _ => False) := by
  refine Met.ofW (cc := cX2_highest) (maxL := 6) (ret := (some .int)) (by decide) rfl ?_
  intro p e s m args below meth c s₁ B hml hv
  obtain ⟨rfl, -⟩ := hv
  have hx := B.exec
  have hb := B.bytes
  have hr := B.returns
  have hts := atoms_spec (ws := wsX2_highest) B.pre
  have hown : s.vm.findClass RX2 = some m.cls := findClass_of_methodNamed B.named
  have hlocks := B.notSynchronized
  have hl := lv_entry ([.int x]) (n := 6) (Nat.le_of_ble_eq_true rfl)
  rw [lg_entry_eq]
  generalize (lg_sl ([.int x]) ++ List.replicate (6 - (lg_sl ([.int x])).length) Slot.unset).toArray = ls at hl ⊢
  have hl : lv_has ls 6 [(0, .int x)] := hl
  refine lv_iconst (v := 0) hx hb dX2_highest_0 (by decide) ?_
  refine lv_istore_n (lv' := [(1, .int 0), (0, .int x)]) hx hb dX2_highest_1 rfl hl (by decide) rfl (fun ls hl => ?_)
  refine lv_lconst (v := 1) hx hb dX2_highest_2 (by decide) ?_
  refine lv_lstore_n (lv' := [(2, .long 1), (1, .int 0), (0, .int x)]) hx hb dX2_highest_3 rfl hl (by decide) rfl (fun ls hl => ?_)
  refine lv_iload_n hx hb dX2_highest_4 rfl (lv_at hl 2 rfl) ?_
  refine lv_i2l hx hb dX2_highest_5 rfl ?_
  refine lv_lstore (lv' := [(4, .long x.toInt64), (2, .long 1), (1, .int 0), (0, .int x)]) hx hb dX2_highest_6 hl (by decide) rfl (fun ls hl => ?_)
  refine xl 8 (σ := Nat × Int64 × Int64) (fun n u H locs ls => match u with | (h, w9, b) => h + n = 30 ∧ f_highest x = hi_go n h w9 b ∧ H = s.heap ∧ locs = [] ∧ lv_has ls 6 [(0, .int x), (1, .int (nI h)), (2, .long w9), (4, .long b)]) ?_ 30 (0, 1, x.toInt64) _ _ _ ⟨rfl, rfl, rfl, rfl, lv_sub hl [3, 2, 1, 0] rfl⟩
  clear hl
  intro n ih u H locs ls hI
  obtain ⟨h, w9, b⟩ := u
  obtain ⟨hn, hg, rfl, rfl, hl⟩ := hI
  refine lv_lload_n hx hb dX2_highest_8 rfl (lv_at hl 2 rfl) ?_
  refine lv_lload hx hb dX2_highest_9 (lv_at hl 3 rfl) ?_
  refine W.lcmp hx hb dX2_highest_11 ?_
  refine lv_if_gt (tgt := 41) hx hb dX2_highest_12 (by decide) (fun c12 => ?_) (fun c12 => ?_)
  · skip
    have c12 := lgc_gt.mp c12
    refine lv_iload_n hx hb dX2_highest_41 rfl (lv_at hl 1 rfl) ?_
    exact W.iret (v := (nI h)) hx hb hr (fun t9 e9 w9 => ⟨_, rfl, (congrArg nI (hg.trans (by first | (cases n with | zero => rfl | succ n => rw [hi_go, if_pos c12]) | (obtain rfl : n = 0 := (by omega); rfl)))).symm, e9⟩) t_nil dX2_highest_42
  · skip
    have c12 := fun h9 => c12 (lgc_gt.mpr h9)
    refine lv_iload_n hx hb dX2_highest_15 rfl (lv_at hl 1 rfl) ?_
    refine lv_bipush (v := 30) hx hb dX2_highest_16 (by decide) ?_
    refine lv_icmp_ge (tgt := 41) hx hb dX2_highest_18 (by decide) (fun c18 => ?_) (fun c18 => ?_)
    · skip
      have c18 : 30 ≤ h := (xn_le (a := 30) (b := h) (by decide) (by omega)).mp c18
      refine lv_iload_n hx hb dX2_highest_41 rfl (lv_at hl 1 rfl) ?_
      exact W.iret (v := (nI h)) hx hb hr (fun t9 e9 w9 => ⟨_, rfl, (congrArg nI (hg.trans (by first | (cases n with | zero => rfl | succ n => rw [hi_go, if_pos c12]) | (obtain rfl : n = 0 := (by omega); rfl)))).symm, e9⟩) t_nil dX2_highest_42
    · skip
      have c18 : ¬ 30 ≤ h := fun h9 => c18 ((xn_le (a := 30) (b := h) (by decide) (by omega)).mpr h9)
      obtain ⟨n, rfl⟩ : ∃ k, n = k + 1 := ⟨n - 1, by omega⟩
      refine lv_iinc (v := (nI (h + 1))) (lv' := [(1, .int (nI (h + 1))), (0, .int x), (2, .long w9), (4, .long b)]) hx hb dX2_highest_21 hl (k := 1) rfl (nI_1 _) (by decide) rfl (fun ls hl => ?_)
      refine lv_lload_n hx hb dX2_highest_24 rfl (lv_at hl 2 rfl) ?_
      refine lv_ldc2 (v := (3)) hx hb hown (hts (.constantLong RX2 29 (3)) (by decide +kernel)) dX2_highest_25 ?_
      refine lv_lmul hx hb dX2_highest_28 ?_
      refine lv_lstore_n (lv' := [(2, .long (w9 * (3))), (1, .int (nI (h + 1))), (0, .int x), (4, .long b)]) hx hb dX2_highest_29 rfl hl (by decide) rfl (fun ls hl => ?_)
      refine lv_lload hx hb dX2_highest_30 (lv_at hl 3 rfl) ?_
      refine lv_ldc2 (v := (2)) hx hb hown (hts (.constantLong RX2 31 (2)) (by decide +kernel)) dX2_highest_32 ?_
      refine lv_lmul hx hb dX2_highest_35 ?_
      refine lv_lstore (lv' := [(4, .long (b * (2))), (2, .long (w9 * (3))), (1, .int (nI (h + 1))), (0, .int x)]) hx hb dX2_highest_36 hl (by decide) rfl (fun ls hl => ?_)
      refine lv_goto (tgt := 8) hx hb dX2_highest_38 (by decide) ?_
      exact ih n (by omega) (h + 1, w9 * (3), b * (2)) _ _ _ ⟨(by omega), hg.trans (by rw [hi_go, if_neg c12]), rfl, rfl, lv_sub hl [3, 2, 1, 0] rfl⟩

-- ByRebuilding.suits
set_option maxHeartbeats 4000000 in
set_option maxRecDepth 100000 in
theorem c_X2_suits (l : Launch) (D : va_G) (ca : Nat → ClassId) (kq a : Nat → Nat) (sz : Nat) (ky vl : Nat → Int32) (lf rt : Nat → Nat) (ct ht : Nat → Int32) (tt : Nat → Int64) (sp pa ro : Nat → Nat) (ss dp rn : Nat) (od : Int32) (kd : Nat) (x : Nat) (hlf : ∀ k, lf k ≤ 60) (hrt : ∀ k, rt k ≤ 60) (hsp : ∀ k, sp k ≤ 60) (hpa : ∀ k, pa k ≤ 60) (hro : ∀ k, ro k ≤ 60) (hrn : rn ≤ 60) (hx60 : x ≤ 60): Met l yX2_suits wsX2_suits ({ frames := 1, cells := 0, slots := 0, locals := 25 } : Room) (xPc D (TY ca) [.ref (kq 3), .ref (a 0), .int (nI x)] (wT ca kq a (ky, vl, lf, rt, ct, ht, tt, sp, pa, ro, ss, dp, rn, od, kd)) sz) (va_Qi (fun (r : Int32) (u : TS) => r = bI (f_suits3 (ky, vl, lf, rt, ct, ht, tt, sp, pa, ro, ss, dp, rn, od, kd) x) ∧ u = (ky, vl, lf, rt, ct, ht, tt, sp, pa, ro, ss, dp, rn, od, kd)) (xB D (wT ca kq a) (va_A (wT ca kq a (ky, vl, lf, rt, ct, ht, tt, sp, pa, ro, ss, dp, rn, od, kd)) sz)) (va_A (wT ca kq a (ky, vl, lf, rt, ct, ht, tt, sp, pa, ro, ss, dp, rn, od, kd)) sz)) 0 0 (va_A (wT ca kq a (ky, vl, lf, rt, ct, ht, tt, sp, pa, ro, ss, dp, rn, od, kd)) sz) := by
  refine Met.ofW (cc := cX2_suits) (maxL := 3) (ret := (some .boolean)) (by decide) rfl ?_
  intro p e s m args below meth c s₁ B hml hv
  obtain ⟨rfl, hsz, hP, hKN, hD0⟩ := hv
  have hx := B.exec
  have hb := B.bytes
  have hr := B.returns
  have hts := atoms_spec (ws := wsX2_suits) B.pre
  have hown : s.vm.findClass RX2 = some m.cls := findClass_of_methodNamed B.named
  have hlocks := B.notSynchronized
  have inX8 : ∀ w ∈ wsX80, w ∈ wsX2_suits := by decide +kernel
  subst hsz
  have hD := hD0.self (sz := s.heap.size)
  generalize hAe : va_A (wT ca kq a (ky, vl, lf, rt, ct, ht, tt, sp, pa, ro, ss, dp, rn, od, kd)) s.heap.size = A at hD ⊢
  have hA : ∀ q : Nat, s.heap.size ≤ q → A q := fun q h => by rw [← hAe]; exact Or.inr h
  have hS : va_S A s.heap s.heap [] := va_S.rf
  have hl := lv_entry ([.ref (kq 3), .ref (a 0), .int (nI x)]) (n := 3) (Nat.le_of_ble_eq_true rfl)
  rw [lg_entry_eq]
  generalize (lg_sl ([.ref (kq 3), .ref (a 0), .int (nI x)]) ++ List.replicate (3 - (lg_sl ([.ref (kq 3), .ref (a 0), .int (nI x)])).length) Slot.unset).toArray = ls at hl ⊢
  have hl : lv_has ls 3 [(0, .ref (kq 3)), (1, .ref (a 0)), (2, .int (nI x))] := hl
  refine lv_aload_n hx hb dX2_suits_0 rfl (lv_at hl 1 rfl) ?_
  refine va_getN (D := D) (ci := 6) (v := .ref (a 6)) (C := RX8) (T := TX8) (N := 15) hx hb hts inX8 hown hKN.1 hP 0 rfl rfl 5 (by decide) (va_Nw.use rfl (NW.f hKN.2 (a := RX2) (i := 19) (b := "TreeFamily$Tree") (n := "heights") (d := "[I") (g := "TreeFamily") (by decide +kernel))) (fun _ h9 => h9) rfl dX2_suits_1 ?_
  refine lv_iload_n hx hb dX2_suits_4 rfl (lv_at hl 2 rfl) ?_
  refine xr_ild hx hb hKN.1 hP 6 0 rfl rfl (j := x) (Nat.lt_of_le_of_lt hx60 (by decide)) (by decide) dX2_suits_5 ?_
  refine lv_aload_n hx hb dX2_suits_6 rfl (lv_at hl 1 rfl) ?_
  refine va_getN (D := D) (ci := 6) (v := .ref (a 5)) (C := RX8) (T := TX8) (N := 15) hx hb hts inX8 hown hKN.1 hP 0 rfl rfl 4 (by decide) (va_Nw.use rfl (NW.f hKN.2 (a := RX2) (i := 23) (b := "TreeFamily$Tree") (n := "counts") (d := "[I") (g := "TreeFamily") (by decide +kernel))) (fun _ h9 => h9) rfl dX2_suits_7 ?_
  refine lv_iload_n hx hb dX2_suits_10 rfl (lv_at hl 2 rfl) ?_
  refine xr_ild hx hb hKN.1 hP 5 0 rfl rfl (j := x) (Nat.lt_of_le_of_lt hx60 (by decide)) (by decide) dX2_suits_11 ?_
  refine xs_i (va_runS (As := [.int (ct x)]) (rest := [.int (ht x)]) ⟨hx, hb, hml, hown, hts⟩ (c_X2_highest l _) (va_cwS 1 hts gX2_suits_X2_highest rfl rfl rfl (by decide +kernel) ⟨(Nat.le_of_ble_eq_true rfl), (Nat.le_of_ble_eq_true rfl)⟩) xPreT rfl rfl hl.1 rfl (lv_room (Nat.le_of_ble_eq_true rfl)) dX2_suits_12 ⟨(Nat.le_of_ble_eq_true rfl), (Nat.le_of_ble_eq_true rfl)⟩) (fun r12 er12 => ?_)
  subst er12
  refine lv_icmp_gt (tgt := 22) hx hb dX2_suits_15 (by decide) (fun c15 => ?_) (fun c15 => ?_)
  · skip
    refine lv_iconst (v := 0) hx hb dX2_suits_22 (by decide) ?_
    exact W.zret (v := 0) hx hb hr (by decide) (fun t9 e9 w9 => ⟨⟨_, (ky, vl, lf, rt, ct, ht, tt, sp, pa, ro, ss, dp, rn, od, kd), rfl, ⟨by first | exact bI_of (if_pos c15) rfl | exact bI_of (if_neg c15) rfl, rfl⟩, by rw [e9]; exact hP, hD⟩, hS.F e9⟩) hS.2.2 dX2_suits_23
  · skip
    refine lv_iconst (v := 1) hx hb dX2_suits_18 (by decide) ?_
    refine lv_goto (tgt := 23) hx hb dX2_suits_19 (by decide) ?_
    exact W.zret (v := 1) hx hb hr (by decide) (fun t9 e9 w9 => ⟨⟨_, (ky, vl, lf, rt, ct, ht, tt, sp, pa, ro, ss, dp, rn, od, kd), rfl, ⟨by first | exact bI_of (if_pos c15) rfl | exact bI_of (if_neg c15) rfl, rfl⟩, by rw [e9]; exact hP, hD⟩, hS.F e9⟩) hS.2.2 dX2_suits_23

-- ByRebuilding.settle
set_option maxHeartbeats 4000000 in
set_option maxRecDepth 100000 in
theorem c_X2_settle (l : Launch) (D : va_G) (ca : Nat → ClassId) (kq a : Nat → Nat) (sz : Nat) (ky vl : Nat → Int32) (lf rt : Nat → Nat) (ct ht : Nat → Int32) (tt : Nat → Int64) (sp pa ro : Nat → Nat) (ss dp rn : Nat) (od : Int32) (kd : Nat) (x c9 : Nat) (hlf : ∀ k, lf k ≤ 60) (hrt : ∀ k, rt k ≤ 60) (hsp : ∀ k, sp k ≤ 60) (hpa : ∀ k, pa k ≤ 60) (hro : ∀ k, ro k ≤ 60) (hrn : rn ≤ 60) (hkd : kd < 4) (hx60 : x ≤ 60) (hc : ct x = nI c9) (hc60 : c9 ≤ 60): Met l yX2_settle wsX2_settle ({ frames := 63, cells := 0, slots := 0, locals := 1571 } : Room) (xPc D (TY ca) [.ref (kq 3), .ref (a 0), .int (nI x)] ((wKd kq) ++ (wT ca kq a (ky, vl, lf, rt, ct, ht, tt, sp, pa, ro, ss, dp, rn, od, kd))) sz) (va_Qi (fun (r : Int32) (u : TS) => r = nI (if f_suits3 (ky, vl, lf, rt, ct, ht, tt, sp, pa, ro, ss, dp, rn, od, kd) x = true then (x, (ky, vl, lf, rt, ct, ht, tt, sp, pa, ro, ss, dp, rn, od, kd)) else f_rebuild (ky, vl, lf, rt, ct, ht, tt, sp, pa, ro, ss, dp, rn, od, kd) x c9).1 ∧ u = (if f_suits3 (ky, vl, lf, rt, ct, ht, tt, sp, pa, ro, ss, dp, rn, od, kd) x = true then (x, (ky, vl, lf, rt, ct, ht, tt, sp, pa, ro, ss, dp, rn, od, kd)) else f_rebuild (ky, vl, lf, rt, ct, ht, tt, sp, pa, ro, ss, dp, rn, od, kd) x c9).2) (xB D (fun t : TS => (wKd kq) ++ (wT ca kq a t)) (va_A ((wKd kq) ++ (wT ca kq a (ky, vl, lf, rt, ct, ht, tt, sp, pa, ro, ss, dp, rn, od, kd))) sz)) (va_A ((wKd kq) ++ (wT ca kq a (ky, vl, lf, rt, ct, ht, tt, sp, pa, ro, ss, dp, rn, od, kd))) sz)) 0 0 (va_A ((wKd kq) ++ (wT ca kq a (ky, vl, lf, rt, ct, ht, tt, sp, pa, ro, ss, dp, rn, od, kd))) sz) := by
  refine Met.ofW (cc := cX2_settle) (maxL := 3) (ret := (some .int)) (by decide) rfl ?_
  intro p e s m args below meth c s₁ B hml hv
  obtain ⟨rfl, hsz, hP, hKN, hD0⟩ := hv
  have hx := B.exec
  have hb := B.bytes
  have hr := B.returns
  have hts := atoms_spec (ws := wsX2_settle) B.pre
  have hown : s.vm.findClass RX2 = some m.cls := findClass_of_methodNamed B.named
  have hlocks := B.notSynchronized
  subst hsz
  have hD := hD0.self (sz := s.heap.size)
  generalize hAe : va_A ((wKd kq) ++ (wT ca kq a (ky, vl, lf, rt, ct, ht, tt, sp, pa, ro, ss, dp, rn, od, kd))) s.heap.size = A at hD ⊢
  have hA : ∀ q : Nat, s.heap.size ≤ q → A q := fun q h => by rw [← hAe]; exact Or.inr h
  have hS : va_S A s.heap s.heap [] := va_S.rf
  have hl := lv_entry ([.ref (kq 3), .ref (a 0), .int (nI x)]) (n := 3) (Nat.le_of_ble_eq_true rfl)
  rw [lg_entry_eq]
  generalize (lg_sl ([.ref (kq 3), .ref (a 0), .int (nI x)]) ++ List.replicate (3 - (lg_sl ([.ref (kq 3), .ref (a 0), .int (nI x)])).length) Slot.unset).toArray = ls at hl ⊢
  have hl : lv_has ls 3 [(0, .ref (kq 3)), (1, .ref (a 0)), (2, .int (nI x))] := hl
  refine lv_aload_n hx hb dX2_settle_0 rfl (lv_at hl 0 rfl) ?_
  refine lv_aload_n hx hb dX2_settle_1 rfl (lv_at hl 1 rfl) ?_
  refine lv_iload_n hx hb dX2_settle_2 rfl (lv_at hl 2 rfl) ?_
  refine xc_i (wr := wKd kq) (va_runV (As := [.ref (a 0), .int (nI x)]) (rest := []) ⟨hx, hb, hml, hown, hts⟩ (c_X2_suits l D ca kq a _ ky vl lf rt ct ht tt sp pa ro ss dp rn od kd x hlf hrt hsp hpa hro hrn hx60) (cwV 2 hts gX2_settle_X2_suits rfl rfl rfl (by decide +kernel) ⟨(Nat.le_of_ble_eq_true rfl), (Nat.le_of_ble_eq_true rfl)⟩) (xPreV hKN hP hD [4, 5, 6, 7, 8, 9, 10, 11, 12, 13, 14] (by decide) rfl (q0 := 3) rfl rfl rfl) rfl rfl hl.1 rfl (lv_room (Nat.le_of_ble_eq_true rfl)) dX2_settle_3 ⟨(Nat.le_of_ble_eq_true rfl), (Nat.le_of_ble_eq_true rfl)⟩) hP hD hS hA [4, 5, 6, 7, 8, 9, 10, 11, 12, 13, 14] [0, 1, 2, 3] rfl rfl (by decide) (by decide) (fun r3 u3 H locs hu3 hP hD hS => ?_)
  obtain ⟨er3, eu3⟩ := hu3
  subst er3
  subst eu3
  have hP : va_P D vwCl ((wKd kq) ++ (wT ca kq a (ky, vl, lf, rt, ct, ht, tt, sp, pa, ro, ss, dp, rn, od, kd))) H := hP
  have hD : va_D A ((wKd kq) ++ (wT ca kq a (ky, vl, lf, rt, ct, ht, tt, sp, pa, ro, ss, dp, rn, od, kd))) := hD
  refine lv_if_eq (tgt := 13) hx hb dX2_settle_6 (by decide) (fun c6 => ?_) (fun c6 => ?_)
  · skip
    have c6 := bI_0.mp c6
    refine lv_aload_n hx hb dX2_settle_13 rfl (lv_at hl 1 rfl) ?_
    refine lv_iload_n hx hb dX2_settle_14 rfl (lv_at hl 2 rfl) ?_
    refine xc_i (wr := wKd kq) (va_runV (As := [.int (nI x)]) (rest := []) ⟨hx, hb, hml, hown, hts⟩ (c_X8_rebuild l D ca kq a _ ky vl lf rt ct ht tt sp pa ro ss dp rn od kd x c9 hlf hrt hsp hpa hro hrn hkd hx60 hc hc60) (cwV 1 hts gX2_settle_X8_rebuild rfl rfl rfl (by decide +kernel) ⟨(Nat.le_of_ble_eq_true rfl), (Nat.le_of_ble_eq_true rfl)⟩) (xPreV hKN hP hD [4, 5, 6, 7, 8, 9, 10, 11, 12, 13, 14] (by decide) rfl (q0 := 4) rfl rfl rfl) rfl rfl hl.1 rfl (lv_room (Nat.le_of_ble_eq_true rfl)) dX2_settle_15 ⟨(Nat.le_of_ble_eq_true rfl), (Nat.le_of_ble_eq_true rfl)⟩) hP hD hS hA [4, 5, 6, 7, 8, 9, 10, 11, 12, 13, 14] [0, 1, 2, 3] rfl rfl (by decide) (by decide) (fun r15 u15 H locs hu15 hP hD hS => ?_)
    exact W.iret (v := r15) hx hb hr (fun t9 e9 w9 => ⟨⟨_, u15, rfl, by rw [if_neg (by rw [c6]; decide)]; exact hu15, by rw [e9]; exact hP, hD⟩, hS.F e9⟩) hS.2.2 dX2_settle_18
  · skip
    have c6 := bI_ne.mp c6
    refine lv_iload_n hx hb dX2_settle_9 rfl (lv_at hl 2 rfl) ?_
    refine lv_goto (tgt := 18) hx hb dX2_settle_10 (by decide) ?_
    exact W.iret (v := (nI x)) hx hb hr (fun t9 e9 w9 => ⟨⟨_, (ky, vl, lf, rt, ct, ht, tt, sp, pa, ro, ss, dp, rn, od, kd), rfl, by rw [if_pos c6]; exact ⟨rfl, rfl⟩, by rw [e9]; exact hP, hD⟩, hS.F e9⟩) hS.2.2 dX2_settle_18
