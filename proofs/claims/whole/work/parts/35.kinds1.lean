-- Tree.rebuild
set_option maxHeartbeats 4000000 in
set_option maxRecDepth 100000 in
theorem c_X8_rebuild (l : Launch) (D : va_G) (ca : Nat → ClassId) (kq a : Nat → Nat) (sz : Nat) (ky vl : Nat → Int32) (lf rt : Nat → Nat) (ct ht : Nat → Int32) (tt : Nat → Int64) (sp pa ro : Nat → Nat) (ss dp rn : Nat) (od : Int32) (kd : Nat) (x c9 : Nat) (hlf : ∀ k, lf k ≤ 60) (hrt : ∀ k, rt k ≤ 60) (hsp : ∀ k, sp k ≤ 60) (hpa : ∀ k, pa k ≤ 60) (hro : ∀ k, ro k ≤ 60) (hrn : rn ≤ 60) (hkd : kd < 4) (hx60 : x ≤ 60) (hc : ct x = nI c9) (hc60 : c9 ≤ 60): Met l yX8_rebuild wsX8_rebuild ({ frames := 62, cells := 0, slots := 0, locals := 1548 } : Room) (xPc D (TY ca) [.ref (a 0), .int (nI x)] (wT ca kq a (ky, vl, lf, rt, ct, ht, tt, sp, pa, ro, ss, dp, rn, od, kd)) sz) (va_Qi (fun (r : Int32) (u : TS) => r = nI (f_rebuild (ky, vl, lf, rt, ct, ht, tt, sp, pa, ro, ss, dp, rn, od, kd) x c9).1 ∧ u = (f_rebuild (ky, vl, lf, rt, ct, ht, tt, sp, pa, ro, ss, dp, rn, od, kd) x c9).2) (xB D (wT ca kq a) (va_A (wT ca kq a (ky, vl, lf, rt, ct, ht, tt, sp, pa, ro, ss, dp, rn, od, kd)) sz)) (va_A (wT ca kq a (ky, vl, lf, rt, ct, ht, tt, sp, pa, ro, ss, dp, rn, od, kd)) sz)) 0 0 (va_A (wT ca kq a (ky, vl, lf, rt, ct, ht, tt, sp, pa, ro, ss, dp, rn, od, kd)) sz) := by
  refine Met.ofW (cc := cX8_rebuild) (maxL := 4) (ret := (some .int)) (by decide) rfl ?_
  intro p e s m args below meth c s₁ B hml hv
  obtain ⟨rfl, hsz, hP, hKN, hD0⟩ := hv
  have hx := B.exec
  have hb := B.bytes
  have hr := B.returns
  have hts := atoms_spec (ws := wsX8_rebuild) B.pre
  have hown : s.vm.findClass RX8 = some m.cls := findClass_of_methodNamed B.named
  have hlocks := B.notSynchronized
  have inX8 : ∀ w ∈ wsX80, w ∈ wsX8_rebuild := by decide +kernel
  subst hsz
  have hD := hD0.self (sz := s.heap.size)
  generalize hAe : va_A (wT ca kq a (ky, vl, lf, rt, ct, ht, tt, sp, pa, ro, ss, dp, rn, od, kd)) s.heap.size = A at hD ⊢
  have hA : ∀ q : Nat, s.heap.size ≤ q → A q := fun q h => by rw [← hAe]; exact Or.inr h
  have hS : va_S A s.heap s.heap [] := va_S.rf
  have hl := lv_entry ([.ref (a 0), .int (nI x)]) (n := 4) (Nat.le_of_ble_eq_true rfl)
  rw [lg_entry_eq]
  generalize (lg_sl ([.ref (a 0), .int (nI x)]) ++ List.replicate (4 - (lg_sl ([.ref (a 0), .int (nI x)])).length) Slot.unset).toArray = ls at hl ⊢
  have hl : lv_has ls 4 [(0, .ref (a 0)), (1, .int (nI x))] := hl
  refine lv_aload_n hx hb dX8_rebuild_0 rfl (lv_at hl 0 rfl) ?_
  refine va_get (D := D) (ci := 6) (v := .ref (a 5)) (C := RX8) (T := TX8) (N := 15) hx hb hts inX8 hown hKN.1 hP 0 rfl rfl 4 (by decide) (hts (.fieldLink RX8 24 "TreeFamily$Tree" "counts" "[I") (by decide +kernel)) (fun _ h9 => h9) rfl dX8_rebuild_1 ?_
  refine lv_iload_n hx hb dX8_rebuild_4 rfl (lv_at hl 1 rfl) ?_
  refine xr_ild hx hb hKN.1 hP 5 0 rfl rfl (j := x) (Nat.lt_of_le_of_lt hx60 (by decide)) (by decide) dX8_rebuild_5 ?_
  refine xr_top (y := nI c9) hc ?_
  refine lv_istore_n (lv' := [(2, .int (nI c9)), (0, .ref (a 0)), (1, .int (nI x))]) hx hb dX8_rebuild_6 rfl hl (by decide) rfl (fun ls hl => ?_)
  refine lv_iconst (v := 0) hx hb dX8_rebuild_7 (by decide) ?_
  refine lv_istore_n (lv' := [(3, .int 0), (2, .int (nI c9)), (0, .ref (a 0)), (1, .int (nI x))]) hx hb dX8_rebuild_8 rfl hl (by decide) rfl (fun ls hl => ?_)
  refine xl 9 (σ := Nat × (Nat → Nat)) (fun n u H locs ls => match u with | (i, q) => i + n = c9 ∧ (∀ k, q k ≤ 60) ∧ ro_go (ky, vl, lf, rt, ct, ht, tt, sp, pa, ro, ss, dp, rn, od, kd) x c9 0 ro = ro_go (ky, vl, lf, rt, ct, ht, tt, sp, pa, ro, ss, dp, rn, od, kd) x n i q ∧ va_P D vwCl (wT ca kq a (ky, vl, lf, rt, ct, ht, tt, sp, pa, q, ss, dp, rn, od, kd)) H ∧ va_D A (wT ca kq a (ky, vl, lf, rt, ct, ht, tt, sp, pa, q, ss, dp, rn, od, kd)) ∧ va_S A s.heap H locs ∧ lv_has ls 4 [(0, .ref (a 0)), (1, .int (nI x)), (2, .int (nI c9)), (3, .int (nI i))]) ?_ c9 (0, ro) _ _ _ ⟨(by omega), hro, rfl, hP, hD, hS, lv_sub hl [2, 3, 1, 0] rfl⟩
  clear hP hD hS hl
  intro n ih u H locs ls hI
  obtain ⟨i, q⟩ := u
  obtain ⟨hn, hq, hg, hP, hD, hS, hl⟩ := hI
  refine lv_iload_n hx hb dX8_rebuild_9 rfl (lv_at hl 3 rfl) ?_
  refine lv_iload_n hx hb dX8_rebuild_10 rfl (lv_at hl 2 rfl) ?_
  refine lv_icmp_ge (tgt := 32) hx hb dX8_rebuild_11 (by decide) (fun c11 => ?_) (fun c11 => ?_)
  · skip
    have c11 : c9 ≤ i := (xn_le (a := c9) (b := i) (Nat.lt_of_le_of_lt hc60 (by decide)) (by omega)).mp c11
    refine lv_aload_n hx hb dX8_rebuild_32 rfl (lv_at hl 0 rfl) ?_
    refine lv_iconst (v := 0) hx hb dX8_rebuild_33 (by decide) ?_
    refine lv_iload_n hx hb dX8_rebuild_34 rfl (lv_at hl 2 rfl) ?_
    refine lv_bipush (v := 60) hx hb dX8_rebuild_35 (by decide) ?_
    refine xc_i (wr := []) (va_runV (As := [.int 0, .int (nI c9), .int 60]) (rest := []) ⟨hx, hb, hml, hown, hts⟩ (c_X8_halve l D ca kq a 60 _ ky vl lf rt ct ht tt sp pa q ss dp rn od kd 0 c9 hlf hrt hsp hpa hq hrn hkd (by decide) hc60 (by decide)) (cwV 3 hts gX8_rebuild_X8_halve rfl rfl rfl (by decide +kernel) ⟨(Nat.le_of_ble_eq_true rfl), (Nat.le_of_ble_eq_true rfl)⟩) (xPreV hKN hP hD [0, 1, 2, 3, 4, 5, 6, 7, 8, 9, 10] (by decide) rfl (q0 := 0) rfl rfl rfl) rfl rfl hl.1 rfl (lv_room (Nat.le_of_ble_eq_true rfl)) dX8_rebuild_37 ⟨(Nat.le_of_ble_eq_true rfl), (Nat.le_of_ble_eq_true rfl)⟩) hP hD hS hA [0, 1, 2, 3, 4, 5, 6, 7, 8, 9, 10] [] rfl rfl (by decide) (by decide) (fun r37 u37 H locs hu37 hP hD hS => ?_)
    exact W.iret (v := r37) hx hb hr (fun t9 e9 w9 => ⟨⟨_, u37, rfl, by obtain rfl : n = 0 := (by omega); have h9 : ro_go (ky, vl, lf, rt, ct, ht, tt, sp, pa, ro, ss, dp, rn, od, kd) x c9 0 ro = q := hg; show r37 = nI (f_halve 60 (setRo (ky, vl, lf, rt, ct, ht, tt, sp, pa, ro, ss, dp, rn, od, kd) (ro_go (ky, vl, lf, rt, ct, ht, tt, sp, pa, ro, ss, dp, rn, od, kd) x c9 0 ro)) 0 c9).1 ∧ u37 = (f_halve 60 (setRo (ky, vl, lf, rt, ct, ht, tt, sp, pa, ro, ss, dp, rn, od, kd) (ro_go (ky, vl, lf, rt, ct, ht, tt, sp, pa, ro, ss, dp, rn, od, kd) x c9 0 ro)) 0 c9).2; rw [h9]; exact hu37, by rw [e9]; exact hP, hD⟩, hS.F e9⟩) hS.2.2 dX8_rebuild_40
  · skip
    have c11 : ¬ c9 ≤ i := fun h9 => c11 ((xn_le (a := c9) (b := i) (Nat.lt_of_le_of_lt hc60 (by decide)) (by omega)).mpr h9)
    obtain ⟨n, rfl⟩ : ∃ k, n = k + 1 := ⟨n - 1, by omega⟩
    refine lv_aload_n hx hb dX8_rebuild_14 rfl (lv_at hl 0 rfl) ?_
    refine va_get (D := D) (ci := 6) (v := .ref (a 10)) (C := RX8) (T := TX8) (N := 15) hx hb hts inX8 hown hKN.1 hP 0 rfl rfl 9 (by decide) (hts (.fieldLink RX8 40 "TreeFamily$Tree" "row" "[I") (by decide +kernel)) (fun _ h9 => h9) rfl dX8_rebuild_15 ?_
    refine lv_iload_n hx hb dX8_rebuild_18 rfl (lv_at hl 3 rfl) ?_
    refine lv_aload_n hx hb dX8_rebuild_19 rfl (lv_at hl 0 rfl) ?_
    refine lv_iload_n hx hb dX8_rebuild_20 rfl (lv_at hl 1 rfl) ?_
    refine lv_iload_n hx hb dX8_rebuild_21 rfl (lv_at hl 3 rfl) ?_
    refine xc_i (wr := []) (va_runV (As := [.int (nI x), .int (nI i)]) (rest := [.int (nI i), .ref (a 10)]) ⟨hx, hb, hml, hown, hts⟩ (c_X8_nodeAt l D ca kq a _ ky vl lf rt ct ht tt sp pa q ss dp rn od kd x (nI i) hlf hrt hsp hpa hq hrn hx60) (cwV 2 hts gX8_rebuild_X8_nodeAt rfl rfl rfl (by decide +kernel) ⟨(Nat.le_of_ble_eq_true rfl), (Nat.le_of_ble_eq_true rfl)⟩) (xPreV hKN hP hD [0, 1, 2, 3, 4, 5, 6, 7, 8, 9, 10] (by decide) rfl (q0 := 0) rfl rfl rfl) rfl rfl hl.1 rfl (lv_room (Nat.le_of_ble_eq_true rfl)) dX8_rebuild_22 ⟨(Nat.le_of_ble_eq_true rfl), (Nat.le_of_ble_eq_true rfl)⟩) hP hD hS hA [0, 1, 2, 3, 4, 5, 6, 7, 8, 9, 10] [] rfl rfl (by decide) (by decide) (fun r22 u22 H locs hu22 hP hD hS => ?_)
    obtain ⟨er22, eu22⟩ := hu22
    subst er22
    subst eu22
    have hP : va_P D vwCl (wT ca kq a (ky, vl, lf, rt, ct, ht, tt, sp, pa, q, ss, dp, rn, od, kd)) H := hP
    have hD : va_D A (wT ca kq a (ky, vl, lf, rt, ct, ht, tt, sp, pa, q, ss, dp, rn, od, kd)) := hD
    refine xr_top (y := nI (f_nodeAt (ky, vl, lf, rt, ct, ht, tt, sp, pa, ro, ss, dp, rn, od, kd) x (nI i))) (congrArg nI (nodeAt_congr (t := (ky, vl, lf, rt, ct, ht, tt, sp, pa, q, ss, dp, rn, od, kd)) (u := (ky, vl, lf, rt, ct, ht, tt, sp, pa, ro, ss, dp, rn, od, kd)) rfl rfl rfl x (nI i))) ?_
    refine xr_nst hx hb hKN.1 hP hD hS 10 0 (g := q) rfl rfl (j := i) (v := f_nodeAt (ky, vl, lf, rt, ct, ht, tt, sp, pa, ro, ss, dp, rn, od, kd) x (nI i)) (by omega) (by decide) dX8_rebuild_25 (fun H locs hP hD hS => ?_)
    have hP : va_P D vwCl (wT ca kq a (ky, vl, lf, rt, ct, ht, tt, sp, pa, (va_up q i (f_nodeAt (ky, vl, lf, rt, ct, ht, tt, sp, pa, ro, ss, dp, rn, od, kd) x (nI i))), ss, dp, rn, od, kd)) H := hP
    have hD : va_D A (wT ca kq a (ky, vl, lf, rt, ct, ht, tt, sp, pa, (va_up q i (f_nodeAt (ky, vl, lf, rt, ct, ht, tt, sp, pa, ro, ss, dp, rn, od, kd) x (nI i))), ss, dp, rn, od, kd)) := hD
    refine lv_iinc (v := (nI (i + 1))) (lv' := [(3, .int (nI (i + 1))), (0, .ref (a 0)), (1, .int (nI x)), (2, .int (nI c9))]) hx hb dX8_rebuild_26 hl (k := 3) rfl (nI_1 _) (by decide) rfl (fun ls hl => ?_)
    refine lv_goto (tgt := 9) hx hb dX8_rebuild_29 (by decide) ?_
    exact ih n (by omega) (i + 1, (va_up q i (f_nodeAt (ky, vl, lf, rt, ct, ht, tt, sp, pa, ro, ss, dp, rn, od, kd) x (nI i)))) _ _ _ ⟨(by omega), (vu_le hq (wf_nodeAt (⟨hlf, hrt, hsp, hpa, hro, hrn, hkd⟩ : WF (ky, vl, lf, rt, ct, ht, tt, sp, pa, ro, ss, dp, rn, od, kd)) hx60 _)), hg.trans (by rw [ro_go]), hP, hD, hS, lv_sub hl [1, 2, 3, 0] rfl⟩

-- X0.isTooMuch
set_option maxHeartbeats 4000000 in
set_option maxRecDepth 100000 in
theorem c_X0_isTooMuch (l : Launch) (D : va_G) (ca : Nat → ClassId) (kq a : Nat → Nat) (sz : Nat) (ky vl : Nat → Int32) (lf rt : Nat → Nat) (ct ht : Nat → Int32) (tt : Nat → Int64) (sp pa ro : Nat → Nat) (ss dp rn : Nat) (od : Int32) (kd : Nat) (x y : Nat) (hlf : ∀ k, lf k ≤ 60) (hrt : ∀ k, rt k ≤ 60) (hsp : ∀ k, sp k ≤ 60) (hpa : ∀ k, pa k ≤ 60) (hro : ∀ k, ro k ≤ 60) (hrn : rn ≤ 60) (hx60 : x ≤ 60) (hy60 : y ≤ 60): Met l yX0_isTooMuch wsX0_isTooMuch ({ frames := 0, cells := 0, slots := 0, locals := 0 } : Room) (xPc D (TY ca) [.ref (kq 0), .ref (a 0), .int (nI x), .int (nI y)] (wT ca kq a (ky, vl, lf, rt, ct, ht, tt, sp, pa, ro, ss, dp, rn, od, kd)) sz) (va_Qi (fun (r : Int32) (u : TS) => r = bI (f_too false (ky, vl, lf, rt, ct, ht, tt, sp, pa, ro, ss, dp, rn, od, kd) x y) ∧ u = (ky, vl, lf, rt, ct, ht, tt, sp, pa, ro, ss, dp, rn, od, kd)) (xB D (wT ca kq a) (va_A (wT ca kq a (ky, vl, lf, rt, ct, ht, tt, sp, pa, ro, ss, dp, rn, od, kd)) sz)) (va_A (wT ca kq a (ky, vl, lf, rt, ct, ht, tt, sp, pa, ro, ss, dp, rn, od, kd)) sz)) 0 0 (va_A (wT ca kq a (ky, vl, lf, rt, ct, ht, tt, sp, pa, ro, ss, dp, rn, od, kd)) sz) := by
  refine Met.ofW (cc := cX0_isTooMuch) (maxL := 4) (ret := (some .boolean)) (by decide) rfl ?_
  intro p e s m args below meth c s₁ B hml hv
  obtain ⟨rfl, hsz, hP, hKN, hD0⟩ := hv
  have hx := B.exec
  have hb := B.bytes
  have hr := B.returns
  have hts := atoms_spec (ws := wsX0_isTooMuch) B.pre
  have hown : s.vm.findClass RX0 = some m.cls := findClass_of_methodNamed B.named
  have hlocks := B.notSynchronized
  have inX8 : ∀ w ∈ wsX80, w ∈ wsX0_isTooMuch := by decide +kernel
  subst hsz
  have hD := hD0.self (sz := s.heap.size)
  generalize hAe : va_A (wT ca kq a (ky, vl, lf, rt, ct, ht, tt, sp, pa, ro, ss, dp, rn, od, kd)) s.heap.size = A at hD ⊢
  have hA : ∀ q : Nat, s.heap.size ≤ q → A q := fun q h => by rw [← hAe]; exact Or.inr h
  have hS : va_S A s.heap s.heap [] := va_S.rf
  have hl := lv_entry ([.ref (kq 0), .ref (a 0), .int (nI x), .int (nI y)]) (n := 4) (Nat.le_of_ble_eq_true rfl)
  rw [lg_entry_eq]
  generalize (lg_sl ([.ref (kq 0), .ref (a 0), .int (nI x), .int (nI y)]) ++ List.replicate (4 - (lg_sl ([.ref (kq 0), .ref (a 0), .int (nI x), .int (nI y)])).length) Slot.unset).toArray = ls at hl ⊢
  have hl : lv_has ls 4 [(0, .ref (kq 0)), (1, .ref (a 0)), (2, .int (nI x)), (3, .int (nI y))] := hl
  refine lv_aload_n hx hb dX0_isTooMuch_0 rfl (lv_at hl 1 rfl) ?_
  refine va_getN (D := D) (ci := 6) (v := .ref (a 6)) (C := RX8) (T := TX8) (N := 15) hx hb hts inX8 hown hKN.1 hP 0 rfl rfl 5 (by decide) (va_Nw.use rfl (NW.f hKN.2 (a := RX0) (i := 7) (b := "TreeFamily$Tree") (n := "heights") (d := "[I") (g := "TreeFamily") (by decide +kernel))) (fun _ h9 => h9) rfl dX0_isTooMuch_1 ?_
  refine lv_iload_n hx hb dX0_isTooMuch_4 rfl (lv_at hl 2 rfl) ?_
  refine xr_ild hx hb hKN.1 hP 6 0 rfl rfl (j := x) (Nat.lt_of_le_of_lt hx60 (by decide)) (by decide) dX0_isTooMuch_5 ?_
  refine lv_aload_n hx hb dX0_isTooMuch_6 rfl (lv_at hl 1 rfl) ?_
  refine va_getN (D := D) (ci := 6) (v := .ref (a 6)) (C := RX8) (T := TX8) (N := 15) hx hb hts inX8 hown hKN.1 hP 0 rfl rfl 5 (by decide) (va_Nw.use rfl (NW.f hKN.2 (a := RX0) (i := 7) (b := "TreeFamily$Tree") (n := "heights") (d := "[I") (g := "TreeFamily") (by decide +kernel))) (fun _ h9 => h9) rfl dX0_isTooMuch_7 ?_
  refine lv_iload_n hx hb dX0_isTooMuch_10 rfl (lv_at hl 3 rfl) ?_
  refine xr_ild hx hb hKN.1 hP 6 0 rfl rfl (j := y) (Nat.lt_of_le_of_lt hy60 (by decide)) (by decide) dX0_isTooMuch_11 ?_
  refine lv_iconst (v := 1) hx hb dX0_isTooMuch_12 (by decide) ?_
  refine lv_iadd hx hb dX0_isTooMuch_13 ?_
  refine lv_icmp_le (tgt := 21) hx hb dX0_isTooMuch_14 (by decide) (fun c14 => ?_) (fun c14 => ?_)
  · skip
    refine lv_iconst (v := 0) hx hb dX0_isTooMuch_21 (by decide) ?_
    exact W.zret (v := 0) hx hb hr (by decide) (fun t9 e9 w9 => ⟨⟨_, (ky, vl, lf, rt, ct, ht, tt, sp, pa, ro, ss, dp, rn, od, kd), rfl, ⟨by first | exact bI_of ((too_h _ _ _).trans (if_pos c14)) rfl | exact bI_of ((too_h _ _ _).trans (if_neg c14)) rfl, rfl⟩, by rw [e9]; exact hP, hD⟩, hS.F e9⟩) hS.2.2 dX0_isTooMuch_22
  · skip
    refine lv_iconst (v := 1) hx hb dX0_isTooMuch_17 (by decide) ?_
    refine lv_goto (tgt := 22) hx hb dX0_isTooMuch_18 (by decide) ?_
    exact W.zret (v := 1) hx hb hr (by decide) (fun t9 e9 w9 => ⟨⟨_, (ky, vl, lf, rt, ct, ht, tt, sp, pa, ro, ss, dp, rn, od, kd), rfl, ⟨by first | exact bI_of ((too_h _ _ _).trans (if_pos c14)) rfl | exact bI_of ((too_h _ _ _).trans (if_neg c14)) rfl, rfl⟩, by rw [e9]; exact hP, hD⟩, hS.F e9⟩) hS.2.2 dX0_isTooMuch_22

-- X0.hasToPart
set_option maxHeartbeats 4000000 in
set_option maxRecDepth 100000 in
theorem c_X0_hasToPart (l : Launch) (D : va_G) (ca : Nat → ClassId) (kq a : Nat → Nat) (sz : Nat) (ky vl : Nat → Int32) (lf rt : Nat → Nat) (ct ht : Nat → Int32) (tt : Nat → Int64) (sp pa ro : Nat → Nat) (ss dp rn : Nat) (od : Int32) (kd : Nat) (x y : Nat) (hlf : ∀ k, lf k ≤ 60) (hrt : ∀ k, rt k ≤ 60) (hsp : ∀ k, sp k ≤ 60) (hpa : ∀ k, pa k ≤ 60) (hro : ∀ k, ro k ≤ 60) (hrn : rn ≤ 60) (hx60 : x ≤ 60) (hy60 : y ≤ 60): Met l yX0_hasToPart wsX0_hasToPart ({ frames := 0, cells := 0, slots := 0, locals := 0 } : Room) (xPc D (TY ca) [.ref (kq 0), .ref (a 0), .int (nI x), .int (nI y)] (wT ca kq a (ky, vl, lf, rt, ct, ht, tt, sp, pa, ro, ss, dp, rn, od, kd)) sz) (va_Qi (fun (r : Int32) (u : TS) => r = bI (f_part false (ky, vl, lf, rt, ct, ht, tt, sp, pa, ro, ss, dp, rn, od, kd) x y) ∧ u = (ky, vl, lf, rt, ct, ht, tt, sp, pa, ro, ss, dp, rn, od, kd)) (xB D (wT ca kq a) (va_A (wT ca kq a (ky, vl, lf, rt, ct, ht, tt, sp, pa, ro, ss, dp, rn, od, kd)) sz)) (va_A (wT ca kq a (ky, vl, lf, rt, ct, ht, tt, sp, pa, ro, ss, dp, rn, od, kd)) sz)) 0 0 (va_A (wT ca kq a (ky, vl, lf, rt, ct, ht, tt, sp, pa, ro, ss, dp, rn, od, kd)) sz) := by
  refine Met.ofW (cc := cX0_hasToPart) (maxL := 4) (ret := (some .boolean)) (by decide) rfl ?_
  intro p e s m args below meth c s₁ B hml hv
  obtain ⟨rfl, hsz, hP, hKN, hD0⟩ := hv
  have hx := B.exec
  have hb := B.bytes
  have hr := B.returns
  have hts := atoms_spec (ws := wsX0_hasToPart) B.pre
  have hown : s.vm.findClass RX0 = some m.cls := findClass_of_methodNamed B.named
  have hlocks := B.notSynchronized
  have inX8 : ∀ w ∈ wsX80, w ∈ wsX0_hasToPart := by decide +kernel
  subst hsz
  have hD := hD0.self (sz := s.heap.size)
  generalize hAe : va_A (wT ca kq a (ky, vl, lf, rt, ct, ht, tt, sp, pa, ro, ss, dp, rn, od, kd)) s.heap.size = A at hD ⊢
  have hA : ∀ q : Nat, s.heap.size ≤ q → A q := fun q h => by rw [← hAe]; exact Or.inr h
  have hS : va_S A s.heap s.heap [] := va_S.rf
  have hl := lv_entry ([.ref (kq 0), .ref (a 0), .int (nI x), .int (nI y)]) (n := 4) (Nat.le_of_ble_eq_true rfl)
  rw [lg_entry_eq]
  generalize (lg_sl ([.ref (kq 0), .ref (a 0), .int (nI x), .int (nI y)]) ++ List.replicate (4 - (lg_sl ([.ref (kq 0), .ref (a 0), .int (nI x), .int (nI y)])).length) Slot.unset).toArray = ls at hl ⊢
  have hl : lv_has ls 4 [(0, .ref (kq 0)), (1, .ref (a 0)), (2, .int (nI x)), (3, .int (nI y))] := hl
  refine lv_aload_n hx hb dX0_hasToPart_0 rfl (lv_at hl 1 rfl) ?_
  refine va_getN (D := D) (ci := 6) (v := .ref (a 6)) (C := RX8) (T := TX8) (N := 15) hx hb hts inX8 hown hKN.1 hP 0 rfl rfl 5 (by decide) (va_Nw.use rfl (NW.f hKN.2 (a := RX0) (i := 7) (b := "TreeFamily$Tree") (n := "heights") (d := "[I") (g := "TreeFamily") (by decide +kernel))) (fun _ h9 => h9) rfl dX0_hasToPart_1 ?_
  refine lv_iload_n hx hb dX0_hasToPart_4 rfl (lv_at hl 2 rfl) ?_
  refine xr_ild hx hb hKN.1 hP 6 0 rfl rfl (j := x) (Nat.lt_of_le_of_lt hx60 (by decide)) (by decide) dX0_hasToPart_5 ?_
  refine lv_aload_n hx hb dX0_hasToPart_6 rfl (lv_at hl 1 rfl) ?_
  refine va_getN (D := D) (ci := 6) (v := .ref (a 6)) (C := RX8) (T := TX8) (N := 15) hx hb hts inX8 hown hKN.1 hP 0 rfl rfl 5 (by decide) (va_Nw.use rfl (NW.f hKN.2 (a := RX0) (i := 7) (b := "TreeFamily$Tree") (n := "heights") (d := "[I") (g := "TreeFamily") (by decide +kernel))) (fun _ h9 => h9) rfl dX0_hasToPart_7 ?_
  refine lv_iload_n hx hb dX0_hasToPart_10 rfl (lv_at hl 3 rfl) ?_
  refine xr_ild hx hb hKN.1 hP 6 0 rfl rfl (j := y) (Nat.lt_of_le_of_lt hy60 (by decide)) (by decide) dX0_hasToPart_11 ?_
  refine lv_icmp_le (tgt := 19) hx hb dX0_hasToPart_12 (by decide) (fun c12 => ?_) (fun c12 => ?_)
  · skip
    refine lv_iconst (v := 0) hx hb dX0_hasToPart_19 (by decide) ?_
    exact W.zret (v := 0) hx hb hr (by decide) (fun t9 e9 w9 => ⟨⟨_, (ky, vl, lf, rt, ct, ht, tt, sp, pa, ro, ss, dp, rn, od, kd), rfl, ⟨by first | exact bI_of ((part_h _ _ _).trans (if_pos c12)) rfl | exact bI_of ((part_h _ _ _).trans (if_neg c12)) rfl, rfl⟩, by rw [e9]; exact hP, hD⟩, hS.F e9⟩) hS.2.2 dX0_hasToPart_20
  · skip
    refine lv_iconst (v := 1) hx hb dX0_hasToPart_15 (by decide) ?_
    refine lv_goto (tgt := 20) hx hb dX0_hasToPart_16 (by decide) ?_
    exact W.zret (v := 1) hx hb hr (by decide) (fun t9 e9 w9 => ⟨⟨_, (ky, vl, lf, rt, ct, ht, tt, sp, pa, ro, ss, dp, rn, od, kd), rfl, ⟨by first | exact bI_of ((part_h _ _ _).trans (if_pos c12)) rfl | exact bI_of ((part_h _ _ _).trans (if_neg c12)) rfl, rfl⟩, by rw [e9]; exact hP, hD⟩, hS.F e9⟩) hS.2.2 dX0_hasToPart_20

-- X4.isTooMuch
set_option maxHeartbeats 4000000 in
set_option maxRecDepth 100000 in
theorem c_X4_isTooMuch (l : Launch) (D : va_G) (ca : Nat → ClassId) (kq a : Nat → Nat) (sz : Nat) (ky vl : Nat → Int32) (lf rt : Nat → Nat) (ct ht : Nat → Int32) (tt : Nat → Int64) (sp pa ro : Nat → Nat) (ss dp rn : Nat) (od : Int32) (kd : Nat) (x y : Nat) (hlf : ∀ k, lf k ≤ 60) (hrt : ∀ k, rt k ≤ 60) (hsp : ∀ k, sp k ≤ 60) (hpa : ∀ k, pa k ≤ 60) (hro : ∀ k, ro k ≤ 60) (hrn : rn ≤ 60) (hx60 : x ≤ 60) (hy60 : y ≤ 60): Met l yX4_isTooMuch wsX4_isTooMuch ({ frames := 0, cells := 0, slots := 0, locals := 0 } : Room) (xPc D (TY ca) [.ref (kq 1), .ref (a 0), .int (nI x), .int (nI y)] (wT ca kq a (ky, vl, lf, rt, ct, ht, tt, sp, pa, ro, ss, dp, rn, od, kd)) sz) (va_Qi (fun (r : Int32) (u : TS) => r = bI (f_too true (ky, vl, lf, rt, ct, ht, tt, sp, pa, ro, ss, dp, rn, od, kd) x y) ∧ u = (ky, vl, lf, rt, ct, ht, tt, sp, pa, ro, ss, dp, rn, od, kd)) (xB D (wT ca kq a) (va_A (wT ca kq a (ky, vl, lf, rt, ct, ht, tt, sp, pa, ro, ss, dp, rn, od, kd)) sz)) (va_A (wT ca kq a (ky, vl, lf, rt, ct, ht, tt, sp, pa, ro, ss, dp, rn, od, kd)) sz)) 0 0 (va_A (wT ca kq a (ky, vl, lf, rt, ct, ht, tt, sp, pa, ro, ss, dp, rn, od, kd)) sz) := by
  refine Met.ofW (cc := cX4_isTooMuch) (maxL := 4) (ret := (some .boolean)) (by decide) rfl ?_
  intro p e s m args below meth c s₁ B hml hv
  obtain ⟨rfl, hsz, hP, hKN, hD0⟩ := hv
  have hx := B.exec
  have hb := B.bytes
  have hr := B.returns
  have hts := atoms_spec (ws := wsX4_isTooMuch) B.pre
  have hown : s.vm.findClass RX4 = some m.cls := findClass_of_methodNamed B.named
  have hlocks := B.notSynchronized
  have inX8 : ∀ w ∈ wsX80, w ∈ wsX4_isTooMuch := by decide +kernel
  subst hsz
  have hD := hD0.self (sz := s.heap.size)
  generalize hAe : va_A (wT ca kq a (ky, vl, lf, rt, ct, ht, tt, sp, pa, ro, ss, dp, rn, od, kd)) s.heap.size = A at hD ⊢
  have hA : ∀ q : Nat, s.heap.size ≤ q → A q := fun q h => by rw [← hAe]; exact Or.inr h
  have hS : va_S A s.heap s.heap [] := va_S.rf
  have hl := lv_entry ([.ref (kq 1), .ref (a 0), .int (nI x), .int (nI y)]) (n := 4) (Nat.le_of_ble_eq_true rfl)
  rw [lg_entry_eq]
  generalize (lg_sl ([.ref (kq 1), .ref (a 0), .int (nI x), .int (nI y)]) ++ List.replicate (4 - (lg_sl ([.ref (kq 1), .ref (a 0), .int (nI x), .int (nI y)])).length) Slot.unset).toArray = ls at hl ⊢
  have hl : lv_has ls 4 [(0, .ref (kq 1)), (1, .ref (a 0)), (2, .int (nI x)), (3, .int (nI y))] := hl
  refine lv_aload_n hx hb dX4_isTooMuch_0 rfl (lv_at hl 1 rfl) ?_
  refine va_getN (D := D) (ci := 6) (v := .ref (a 5)) (C := RX8) (T := TX8) (N := 15) hx hb hts inX8 hown hKN.1 hP 0 rfl rfl 4 (by decide) (va_Nw.use rfl (NW.f hKN.2 (a := RX4) (i := 7) (b := "TreeFamily$Tree") (n := "counts") (d := "[I") (g := "TreeFamily") (by decide +kernel))) (fun _ h9 => h9) rfl dX4_isTooMuch_1 ?_
  refine lv_iload_n hx hb dX4_isTooMuch_4 rfl (lv_at hl 2 rfl) ?_
  refine xr_ild hx hb hKN.1 hP 5 0 rfl rfl (j := x) (Nat.lt_of_le_of_lt hx60 (by decide)) (by decide) dX4_isTooMuch_5 ?_
  refine lv_iconst (v := 1) hx hb dX4_isTooMuch_6 (by decide) ?_
  refine lv_iadd hx hb dX4_isTooMuch_7 ?_
  refine lv_iconst (v := 3) hx hb dX4_isTooMuch_8 (by decide) ?_
  refine lv_aload_n hx hb dX4_isTooMuch_9 rfl (lv_at hl 1 rfl) ?_
  refine va_getN (D := D) (ci := 6) (v := .ref (a 5)) (C := RX8) (T := TX8) (N := 15) hx hb hts inX8 hown hKN.1 hP 0 rfl rfl 4 (by decide) (va_Nw.use rfl (NW.f hKN.2 (a := RX4) (i := 7) (b := "TreeFamily$Tree") (n := "counts") (d := "[I") (g := "TreeFamily") (by decide +kernel))) (fun _ h9 => h9) rfl dX4_isTooMuch_10 ?_
  refine lv_iload_n hx hb dX4_isTooMuch_13 rfl (lv_at hl 3 rfl) ?_
  refine xr_ild hx hb hKN.1 hP 5 0 rfl rfl (j := y) (Nat.lt_of_le_of_lt hy60 (by decide)) (by decide) dX4_isTooMuch_14 ?_
  refine lv_iconst (v := 1) hx hb dX4_isTooMuch_15 (by decide) ?_
  refine lv_iadd hx hb dX4_isTooMuch_16 ?_
  refine lv_imul hx hb dX4_isTooMuch_17 ?_
  refine lv_icmp_le (tgt := 25) hx hb dX4_isTooMuch_18 (by decide) (fun c18 => ?_) (fun c18 => ?_)
  · skip
    refine lv_iconst (v := 0) hx hb dX4_isTooMuch_25 (by decide) ?_
    exact W.zret (v := 0) hx hb hr (by decide) (fun t9 e9 w9 => ⟨⟨_, (ky, vl, lf, rt, ct, ht, tt, sp, pa, ro, ss, dp, rn, od, kd), rfl, ⟨by first | exact bI_of ((too_w _ _ _).trans (if_pos c18)) rfl | exact bI_of ((too_w _ _ _).trans (if_neg c18)) rfl, rfl⟩, by rw [e9]; exact hP, hD⟩, hS.F e9⟩) hS.2.2 dX4_isTooMuch_26
  · skip
    refine lv_iconst (v := 1) hx hb dX4_isTooMuch_21 (by decide) ?_
    refine lv_goto (tgt := 26) hx hb dX4_isTooMuch_22 (by decide) ?_
    exact W.zret (v := 1) hx hb hr (by decide) (fun t9 e9 w9 => ⟨⟨_, (ky, vl, lf, rt, ct, ht, tt, sp, pa, ro, ss, dp, rn, od, kd), rfl, ⟨by first | exact bI_of ((too_w _ _ _).trans (if_pos c18)) rfl | exact bI_of ((too_w _ _ _).trans (if_neg c18)) rfl, rfl⟩, by rw [e9]; exact hP, hD⟩, hS.F e9⟩) hS.2.2 dX4_isTooMuch_26

-- X4.hasToPart
set_option maxHeartbeats 4000000 in
set_option maxRecDepth 100000 in
theorem c_X4_hasToPart (l : Launch) (D : va_G) (ca : Nat → ClassId) (kq a : Nat → Nat) (sz : Nat) (ky vl : Nat → Int32) (lf rt : Nat → Nat) (ct ht : Nat → Int32) (tt : Nat → Int64) (sp pa ro : Nat → Nat) (ss dp rn : Nat) (od : Int32) (kd : Nat) (x y : Nat) (hlf : ∀ k, lf k ≤ 60) (hrt : ∀ k, rt k ≤ 60) (hsp : ∀ k, sp k ≤ 60) (hpa : ∀ k, pa k ≤ 60) (hro : ∀ k, ro k ≤ 60) (hrn : rn ≤ 60) (hx60 : x ≤ 60) (hy60 : y ≤ 60): Met l yX4_hasToPart wsX4_hasToPart ({ frames := 0, cells := 0, slots := 0, locals := 0 } : Room) (xPc D (TY ca) [.ref (kq 1), .ref (a 0), .int (nI x), .int (nI y)] (wT ca kq a (ky, vl, lf, rt, ct, ht, tt, sp, pa, ro, ss, dp, rn, od, kd)) sz) (va_Qi (fun (r : Int32) (u : TS) => r = bI (f_part true (ky, vl, lf, rt, ct, ht, tt, sp, pa, ro, ss, dp, rn, od, kd) x y) ∧ u = (ky, vl, lf, rt, ct, ht, tt, sp, pa, ro, ss, dp, rn, od, kd)) (xB D (wT ca kq a) (va_A (wT ca kq a (ky, vl, lf, rt, ct, ht, tt, sp, pa, ro, ss, dp, rn, od, kd)) sz)) (va_A (wT ca kq a (ky, vl, lf, rt, ct, ht, tt, sp, pa, ro, ss, dp, rn, od, kd)) sz)) 0 0 (va_A (wT ca kq a (ky, vl, lf, rt, ct, ht, tt, sp, pa, ro, ss, dp, rn, od, kd)) sz) := by
  refine Met.ofW (cc := cX4_hasToPart) (maxL := 4) (ret := (some .boolean)) (by decide) rfl ?_
  intro p e s m args below meth c s₁ B hml hv
  obtain ⟨rfl, hsz, hP, hKN, hD0⟩ := hv
  have hx := B.exec
  have hb := B.bytes
  have hr := B.returns
  have hts := atoms_spec (ws := wsX4_hasToPart) B.pre
  have hown : s.vm.findClass RX4 = some m.cls := findClass_of_methodNamed B.named
  have hlocks := B.notSynchronized
  have inX8 : ∀ w ∈ wsX80, w ∈ wsX4_hasToPart := by decide +kernel
  subst hsz
  have hD := hD0.self (sz := s.heap.size)
  generalize hAe : va_A (wT ca kq a (ky, vl, lf, rt, ct, ht, tt, sp, pa, ro, ss, dp, rn, od, kd)) s.heap.size = A at hD ⊢
  have hA : ∀ q : Nat, s.heap.size ≤ q → A q := fun q h => by rw [← hAe]; exact Or.inr h
  have hS : va_S A s.heap s.heap [] := va_S.rf
  have hl := lv_entry ([.ref (kq 1), .ref (a 0), .int (nI x), .int (nI y)]) (n := 4) (Nat.le_of_ble_eq_true rfl)
  rw [lg_entry_eq]
  generalize (lg_sl ([.ref (kq 1), .ref (a 0), .int (nI x), .int (nI y)]) ++ List.replicate (4 - (lg_sl ([.ref (kq 1), .ref (a 0), .int (nI x), .int (nI y)])).length) Slot.unset).toArray = ls at hl ⊢
  have hl : lv_has ls 4 [(0, .ref (kq 1)), (1, .ref (a 0)), (2, .int (nI x)), (3, .int (nI y))] := hl
  refine lv_aload_n hx hb dX4_hasToPart_0 rfl (lv_at hl 1 rfl) ?_
  refine va_getN (D := D) (ci := 6) (v := .ref (a 5)) (C := RX8) (T := TX8) (N := 15) hx hb hts inX8 hown hKN.1 hP 0 rfl rfl 4 (by decide) (va_Nw.use rfl (NW.f hKN.2 (a := RX4) (i := 7) (b := "TreeFamily$Tree") (n := "counts") (d := "[I") (g := "TreeFamily") (by decide +kernel))) (fun _ h9 => h9) rfl dX4_hasToPart_1 ?_
  refine lv_iload_n hx hb dX4_hasToPart_4 rfl (lv_at hl 2 rfl) ?_
  refine xr_ild hx hb hKN.1 hP 5 0 rfl rfl (j := x) (Nat.lt_of_le_of_lt hx60 (by decide)) (by decide) dX4_hasToPart_5 ?_
  refine lv_iconst (v := 1) hx hb dX4_hasToPart_6 (by decide) ?_
  refine lv_iadd hx hb dX4_hasToPart_7 ?_
  refine lv_iconst (v := 2) hx hb dX4_hasToPart_8 (by decide) ?_
  refine lv_aload_n hx hb dX4_hasToPart_9 rfl (lv_at hl 1 rfl) ?_
  refine va_getN (D := D) (ci := 6) (v := .ref (a 5)) (C := RX8) (T := TX8) (N := 15) hx hb hts inX8 hown hKN.1 hP 0 rfl rfl 4 (by decide) (va_Nw.use rfl (NW.f hKN.2 (a := RX4) (i := 7) (b := "TreeFamily$Tree") (n := "counts") (d := "[I") (g := "TreeFamily") (by decide +kernel))) (fun _ h9 => h9) rfl dX4_hasToPart_10 ?_
  refine lv_iload_n hx hb dX4_hasToPart_13 rfl (lv_at hl 3 rfl) ?_
  refine xr_ild hx hb hKN.1 hP 5 0 rfl rfl (j := y) (Nat.lt_of_le_of_lt hy60 (by decide)) (by decide) dX4_hasToPart_14 ?_
  refine lv_iconst (v := 1) hx hb dX4_hasToPart_15 (by decide) ?_
  refine lv_iadd hx hb dX4_hasToPart_16 ?_
  refine lv_imul hx hb dX4_hasToPart_17 ?_
  refine lv_icmp_lt (tgt := 25) hx hb dX4_hasToPart_18 (by decide) (fun c18 => ?_) (fun c18 => ?_)
  · skip
    refine lv_iconst (v := 0) hx hb dX4_hasToPart_25 (by decide) ?_
    exact W.zret (v := 0) hx hb hr (by decide) (fun t9 e9 w9 => ⟨⟨_, (ky, vl, lf, rt, ct, ht, tt, sp, pa, ro, ss, dp, rn, od, kd), rfl, ⟨by first | exact bI_of ((part_w _ _ _).trans (if_pos c18)) rfl | exact bI_of ((part_w _ _ _).trans (if_neg c18)) rfl, rfl⟩, by rw [e9]; exact hP, hD⟩, hS.F e9⟩) hS.2.2 dX4_hasToPart_26
  · skip
    refine lv_iconst (v := 1) hx hb dX4_hasToPart_21 (by decide) ?_
    refine lv_goto (tgt := 26) hx hb dX4_hasToPart_22 (by decide) ?_
    exact W.zret (v := 1) hx hb hr (by decide) (fun t9 e9 w9 => ⟨⟨_, (ky, vl, lf, rt, ct, ht, tt, sp, pa, ro, ss, dp, rn, od, kd), rfl, ⟨by first | exact bI_of ((part_w _ _ _).trans (if_pos c18)) rfl | exact bI_of ((part_w _ _ _).trans (if_neg c18)) rfl, rfl⟩, by rw [e9]; exact hP, hD⟩, hS.F e9⟩) hS.2.2 dX4_hasToPart_26

-- ByPriorities.priority
set_option maxHeartbeats 4000000 in
set_option maxRecDepth 100000 in
theorem c_X1_priority (l : Launch) (key : Int32) : Met l yX1_priority wsX1_priority ({ frames := 0, cells := 0, slots := 0, locals := 0 } : Room) (va_Pc [.int key] (fun _ => True)) (vp_Si (fun r => r = prio key)) 0 0 (fun _ => False) := by
  refine Met.ofW (cc := cX1_priority) (maxL := 2) (ret := (some .int)) (by decide) rfl ?_
  intro p e s m args below meth c s₁ B hml hv
  obtain ⟨rfl, -⟩ := hv
  have hx := B.exec
  have hb := B.bytes
  have hr := B.returns
  have hts := atoms_spec (ws := wsX1_priority) B.pre
  have hown : s.vm.findClass RX1 = some m.cls := findClass_of_methodNamed B.named
  have hlocks := B.notSynchronized
  have hl := lv_entry ([.int key]) (n := 2) (Nat.le_of_ble_eq_true rfl)
  rw [lg_entry_eq]
  generalize (lg_sl ([.int key]) ++ List.replicate (2 - (lg_sl ([.int key])).length) Slot.unset).toArray = ls at hl ⊢
  have hl : lv_has ls 2 [(0, .int key)] := hl
  refine lv_iload_n hx hb dX1_priority_0 rfl (lv_at hl 0 rfl) ?_
  refine lv_ldc (v := (-1640531535)) hx hb hown (hts (.constant RX1 45 (-1640531535)) (by decide +kernel)) dX1_priority_1 ?_
  refine lv_imul hx hb dX1_priority_3 ?_
  refine lv_istore_n (lv' := [(1, .int (key * (-1640531535))), (0, .int key)]) hx hb dX1_priority_4 rfl hl (by decide) rfl (fun ls hl => ?_)
  refine lv_iload_n hx hb dX1_priority_5 rfl (lv_at hl 0 rfl) ?_
  refine lv_iload_n hx hb dX1_priority_6 rfl (lv_at hl 0 rfl) ?_
  refine lv_bipush (v := 15) hx hb dX1_priority_7 (by decide) ?_
  refine lv_iushr hx hb dX1_priority_9 rfl ?_
  refine lv_ixor hx hb dX1_priority_10 ?_
  refine lv_ldc (v := (-2048144789)) hx hb hown (hts (.constant RX1 46 (-2048144789)) (by decide +kernel)) dX1_priority_11 ?_
  refine lv_imul hx hb dX1_priority_13 ?_
  refine lv_istore_n (lv' := [(1, .int (((key * (-1640531535)) ^^^ (((key * (-1640531535)).toUInt32 >>> ((15 : Int32).toUInt32 &&& Int32.toUInt32 31)).toInt32)) * (-2048144789))), (0, .int key)]) hx hb dX1_priority_14 rfl hl (by decide) rfl (fun ls hl => ?_)
  refine lv_iload_n hx hb dX1_priority_15 rfl (lv_at hl 0 rfl) ?_
  refine lv_iload_n hx hb dX1_priority_16 rfl (lv_at hl 0 rfl) ?_
  refine lv_bipush (v := 13) hx hb dX1_priority_17 (by decide) ?_
  refine lv_iushr hx hb dX1_priority_19 rfl ?_
  refine lv_ixor hx hb dX1_priority_20 ?_
  exact W.iret (v := ((((key * (-1640531535)) ^^^ (((key * (-1640531535)).toUInt32 >>> ((15 : Int32).toUInt32 &&& Int32.toUInt32 31)).toInt32)) * (-2048144789)) ^^^ (((((key * (-1640531535)) ^^^ (((key * (-1640531535)).toUInt32 >>> ((15 : Int32).toUInt32 &&& Int32.toUInt32 31)).toInt32)) * (-2048144789)).toUInt32 >>> ((13 : Int32).toUInt32 &&& Int32.toUInt32 31)).toInt32))) hx hb hr (fun t9 e9 w9 => ⟨_, rfl, rfl, e9⟩) t_nil dX1_priority_21

-- ByPriorities.preferred
set_option maxHeartbeats 4000000 in
set_option maxRecDepth 100000 in
theorem c_X1_preferred (l : Launch) (D : va_G) (ca : Nat → ClassId) (kq a : Nat → Nat) (sz : Nat) (ky vl : Nat → Int32) (lf rt : Nat → Nat) (ct ht : Nat → Int32) (tt : Nat → Int64) (sp pa ro : Nat → Nat) (ss dp rn : Nat) (od : Int32) (kd : Nat) (x : Nat) (hlf : ∀ k, lf k ≤ 60) (hrt : ∀ k, rt k ≤ 60) (hsp : ∀ k, sp k ≤ 60) (hpa : ∀ k, pa k ≤ 60) (hro : ∀ k, ro k ≤ 60) (hrn : rn ≤ 60) (hx60 : x ≤ 60): Met l yX1_preferred wsX1_preferred ({ frames := 1, cells := 0, slots := 0, locals := 21 } : Room) (xPc D (TY ca) [.ref (a 0), .int (nI x)] (wT ca kq a (ky, vl, lf, rt, ct, ht, tt, sp, pa, ro, ss, dp, rn, od, kd)) sz) (va_Qi (fun (r : Int32) (u : TS) => r = nI (f_preferred (ky, vl, lf, rt, ct, ht, tt, sp, pa, ro, ss, dp, rn, od, kd) x) ∧ u = (ky, vl, lf, rt, ct, ht, tt, sp, pa, ro, ss, dp, rn, od, kd)) (xB D (wT ca kq a) (va_A (wT ca kq a (ky, vl, lf, rt, ct, ht, tt, sp, pa, ro, ss, dp, rn, od, kd)) sz)) (va_A (wT ca kq a (ky, vl, lf, rt, ct, ht, tt, sp, pa, ro, ss, dp, rn, od, kd)) sz)) 0 0 (va_A (wT ca kq a (ky, vl, lf, rt, ct, ht, tt, sp, pa, ro, ss, dp, rn, od, kd)) sz) := by
  refine Met.ofW (cc := cX1_preferred) (maxL := 5) (ret := (some .int)) (by decide) rfl ?_
  intro p e s m args below meth c s₁ B hml hv
  obtain ⟨rfl, hsz, hP, hKN, hD0⟩ := hv
  have hx := B.exec
  have hb := B.bytes
  have hr := B.returns
  have hts := atoms_spec (ws := wsX1_preferred) B.pre
  have hown : s.vm.findClass RX1 = some m.cls := findClass_of_methodNamed B.named
  have hlocks := B.notSynchronized
  have inX8 : ∀ w ∈ wsX80, w ∈ wsX1_preferred := by decide +kernel
  subst hsz
  have hD := hD0.self (sz := s.heap.size)
  generalize hAe : va_A (wT ca kq a (ky, vl, lf, rt, ct, ht, tt, sp, pa, ro, ss, dp, rn, od, kd)) s.heap.size = A at hD ⊢
  have hA : ∀ q : Nat, s.heap.size ≤ q → A q := fun q h => by rw [← hAe]; exact Or.inr h
  have hS : va_S A s.heap s.heap [] := va_S.rf
  have hl := lv_entry ([.ref (a 0), .int (nI x)]) (n := 5) (Nat.le_of_ble_eq_true rfl)
  rw [lg_entry_eq]
  generalize (lg_sl ([.ref (a 0), .int (nI x)]) ++ List.replicate (5 - (lg_sl ([.ref (a 0), .int (nI x)])).length) Slot.unset).toArray = ls at hl ⊢
  have hl : lv_has ls 5 [(0, .ref (a 0)), (1, .int (nI x))] := hl
  refine lv_iload_n hx hb dX1_preferred_0 rfl (lv_at hl 1 rfl) ?_
  refine lv_istore_n (lv' := [(2, .int (nI x)), (0, .ref (a 0)), (1, .int (nI x))]) hx hb dX1_preferred_1 rfl hl (by decide) rfl (fun ls hl => ?_)
  refine lv_aload_n hx hb dX1_preferred_2 rfl (lv_at hl 1 rfl) ?_
  refine va_getN (D := D) (ci := 6) (v := .ref (a 3)) (C := RX8) (T := TX8) (N := 15) hx hb hts inX8 hown hKN.1 hP 0 rfl rfl 2 (by decide) (va_Nw.use rfl (NW.f hKN.2 (a := RX1) (i := 19) (b := "TreeFamily$Tree") (n := "left") (d := "[I") (g := "TreeFamily") (by decide +kernel))) (fun _ h9 => h9) rfl dX1_preferred_3 ?_
  refine lv_iload_n hx hb dX1_preferred_6 rfl (lv_at hl 2 rfl) ?_
  refine xr_ild hx hb hKN.1 hP 3 0 rfl rfl (j := x) (Nat.lt_of_le_of_lt hx60 (by decide)) (by decide) dX1_preferred_7 ?_
  refine lv_istore_n (lv' := [(3, .int (nI (lf x))), (2, .int (nI x)), (0, .ref (a 0)), (1, .int (nI x))]) hx hb dX1_preferred_8 rfl hl (by decide) rfl (fun ls hl => ?_)
  refine lv_aload_n hx hb dX1_preferred_9 rfl (lv_at hl 2 rfl) ?_
  refine va_getN (D := D) (ci := 6) (v := .ref (a 4)) (C := RX8) (T := TX8) (N := 15) hx hb hts inX8 hown hKN.1 hP 0 rfl rfl 3 (by decide) (va_Nw.use rfl (NW.f hKN.2 (a := RX1) (i := 29) (b := "TreeFamily$Tree") (n := "right") (d := "[I") (g := "TreeFamily") (by decide +kernel))) (fun _ h9 => h9) rfl dX1_preferred_10 ?_
  refine lv_iload_n hx hb dX1_preferred_13 rfl (lv_at hl 3 rfl) ?_
  refine xr_ild hx hb hKN.1 hP 4 0 rfl rfl (j := x) (Nat.lt_of_le_of_lt hx60 (by decide)) (by decide) dX1_preferred_14 ?_
  refine lv_istore (lv' := [(4, .int (nI (rt x))), (3, .int (nI (lf x))), (2, .int (nI x)), (0, .ref (a 0)), (1, .int (nI x))]) hx hb dX1_preferred_15 hl (by decide) rfl (fun ls hl => ?_)
  refine lv_iload_n hx hb dX1_preferred_17 rfl (lv_at hl 1 rfl) ?_
  refine lv_if_eq (tgt := 44) hx hb dX1_preferred_18 (by decide) (fun c18 => ?_) (fun c18 => ?_)
  · skip
    have c18 : (lf x) = 0 := (xn_eq (a := (lf x)) (b := 0) (Nat.lt_of_le_of_lt (hlf x) (by decide)) (by decide)).mp c18
    have e44 : pf_l (ky, vl, lf, rt, ct, ht, tt, sp, pa, ro, ss, dp, rn, od, kd) x = x := by unfold pf_l; first | exact if_pos c18 | exact (if_neg c18).trans (if_pos c39) | exact (if_neg c18).trans (if_neg c39)
    refine lv_iload hx hb dX1_preferred_44 (lv_at hl 0 rfl) ?_
    refine lv_if_eq (tgt := 74) hx hb dX1_preferred_46 (by decide) (fun c46 => ?_) (fun c46 => ?_)
    · skip
      have c46 : (rt x) = 0 := (xn_eq (a := (rt x)) (b := 0) (Nat.lt_of_le_of_lt (hrt x) (by decide)) (by decide)).mp c46
      refine lv_iload_n hx hb dX1_preferred_74 rfl (lv_at hl 2 rfl) ?_
      exact W.iret (v := (nI x)) hx hb hr (fun t9 e9 w9 => ⟨⟨_, (ky, vl, lf, rt, ct, ht, tt, sp, pa, ro, ss, dp, rn, od, kd), rfl, ⟨congrArg nI (by unfold f_preferred; rw [e44]; first | exact (if_pos c46).symm | exact ((if_neg c46).trans (if_pos c68)).symm | exact ((if_neg c46).trans (if_neg c68)).symm), rfl⟩, by rw [e9]; exact hP, hD⟩, hS.F e9⟩) hS.2.2 dX1_preferred_75
    · skip
      have c46 : ¬ (rt x) = 0 := fun h9 => c46 ((xn_eq (a := (rt x)) (b := 0) (Nat.lt_of_le_of_lt (hrt x) (by decide)) (by decide)).mpr h9)
      refine lv_aload_n hx hb dX1_preferred_49 rfl (lv_at hl 3 rfl) ?_
      refine va_getN (D := D) (ci := 6) (v := .ref (a 1)) (C := RX8) (T := TX8) (N := 15) hx hb hts inX8 hown hKN.1 hP 0 rfl rfl 0 (by decide) (va_Nw.use rfl (NW.f hKN.2 (a := RX1) (i := 39) (b := "TreeFamily$Tree") (n := "keys") (d := "[I") (g := "TreeFamily") (by decide +kernel))) (fun _ h9 => h9) rfl dX1_preferred_50 ?_
      refine lv_iload hx hb dX1_preferred_53 (lv_at hl 0 rfl) ?_
      refine xr_ild hx hb hKN.1 hP 1 0 rfl rfl (j := rt x) (Nat.lt_of_le_of_lt (hrt x) (by decide)) (by decide) dX1_preferred_55 ?_
      refine xs_i (va_runS (As := [.int (ky (rt x))]) (rest := []) ⟨hx, hb, hml, hown, hts⟩ (c_X1_priority l _) (va_cwS 1 hts gX1_preferred_X1_priority rfl rfl rfl (by decide +kernel) ⟨(Nat.le_of_ble_eq_true rfl), (Nat.le_of_ble_eq_true rfl)⟩) xPreT rfl rfl hl.1 rfl (lv_room (Nat.le_of_ble_eq_true rfl)) dX1_preferred_56 ⟨(Nat.le_of_ble_eq_true rfl), (Nat.le_of_ble_eq_true rfl)⟩) (fun r56 er56 => ?_)
      subst er56
      refine lv_aload_n hx hb dX1_preferred_59 rfl (lv_at hl 3 rfl) ?_
      refine va_getN (D := D) (ci := 6) (v := .ref (a 1)) (C := RX8) (T := TX8) (N := 15) hx hb hts inX8 hown hKN.1 hP 0 rfl rfl 0 (by decide) (va_Nw.use rfl (NW.f hKN.2 (a := RX1) (i := 39) (b := "TreeFamily$Tree") (n := "keys") (d := "[I") (g := "TreeFamily") (by decide +kernel))) (fun _ h9 => h9) rfl dX1_preferred_60 ?_
      refine lv_iload_n hx hb dX1_preferred_63 rfl (lv_at hl 2 rfl) ?_
      refine xr_ild hx hb hKN.1 hP 1 0 rfl rfl (j := x) (Nat.lt_of_le_of_lt hx60 (by decide)) (by decide) dX1_preferred_64 ?_
      refine xs_i (va_runS (As := [.int (ky x)]) (rest := [.int (prio (ky (rt x)))]) ⟨hx, hb, hml, hown, hts⟩ (c_X1_priority l _) (va_cwS 1 hts gX1_preferred_X1_priority rfl rfl rfl (by decide +kernel) ⟨(Nat.le_of_ble_eq_true rfl), (Nat.le_of_ble_eq_true rfl)⟩) xPreT rfl rfl hl.1 rfl (lv_room (Nat.le_of_ble_eq_true rfl)) dX1_preferred_65 ⟨(Nat.le_of_ble_eq_true rfl), (Nat.le_of_ble_eq_true rfl)⟩) (fun r65 er65 => ?_)
      subst er65
      refine lv_icmp_le (tgt := 74) hx hb dX1_preferred_68 (by decide) (fun c68 => ?_) (fun c68 => ?_)
      · skip
        refine lv_iload_n hx hb dX1_preferred_74 rfl (lv_at hl 2 rfl) ?_
        exact W.iret (v := (nI x)) hx hb hr (fun t9 e9 w9 => ⟨⟨_, (ky, vl, lf, rt, ct, ht, tt, sp, pa, ro, ss, dp, rn, od, kd), rfl, ⟨congrArg nI (by unfold f_preferred; rw [e44]; first | exact (if_pos c46).symm | exact ((if_neg c46).trans (if_pos c68)).symm | exact ((if_neg c46).trans (if_neg c68)).symm), rfl⟩, by rw [e9]; exact hP, hD⟩, hS.F e9⟩) hS.2.2 dX1_preferred_75
      · skip
        refine lv_iload hx hb dX1_preferred_71 (lv_at hl 0 rfl) ?_
        refine lv_istore_n (lv' := [(2, .int (nI (rt x))), (4, .int (nI (rt x))), (3, .int (nI (lf x))), (0, .ref (a 0)), (1, .int (nI x))]) hx hb dX1_preferred_73 rfl hl (by decide) rfl (fun ls hl => ?_)
        refine lv_iload_n hx hb dX1_preferred_74 rfl (lv_at hl 0 rfl) ?_
        exact W.iret (v := (nI (rt x))) hx hb hr (fun t9 e9 w9 => ⟨⟨_, (ky, vl, lf, rt, ct, ht, tt, sp, pa, ro, ss, dp, rn, od, kd), rfl, ⟨congrArg nI (by unfold f_preferred; rw [e44]; first | exact (if_pos c46).symm | exact ((if_neg c46).trans (if_pos c68)).symm | exact ((if_neg c46).trans (if_neg c68)).symm), rfl⟩, by rw [e9]; exact hP, hD⟩, hS.F e9⟩) hS.2.2 dX1_preferred_75
  · skip
    have c18 : ¬ (lf x) = 0 := fun h9 => c18 ((xn_eq (a := (lf x)) (b := 0) (Nat.lt_of_le_of_lt (hlf x) (by decide)) (by decide)).mpr h9)
    refine lv_aload_n hx hb dX1_preferred_21 rfl (lv_at hl 3 rfl) ?_
    refine va_getN (D := D) (ci := 6) (v := .ref (a 1)) (C := RX8) (T := TX8) (N := 15) hx hb hts inX8 hown hKN.1 hP 0 rfl rfl 0 (by decide) (va_Nw.use rfl (NW.f hKN.2 (a := RX1) (i := 39) (b := "TreeFamily$Tree") (n := "keys") (d := "[I") (g := "TreeFamily") (by decide +kernel))) (fun _ h9 => h9) rfl dX1_preferred_22 ?_
    refine lv_iload_n hx hb dX1_preferred_25 rfl (lv_at hl 1 rfl) ?_
    refine xr_ild hx hb hKN.1 hP 1 0 rfl rfl (j := lf x) (Nat.lt_of_le_of_lt (hlf x) (by decide)) (by decide) dX1_preferred_26 ?_
    refine xs_i (va_runS (As := [.int (ky (lf x))]) (rest := []) ⟨hx, hb, hml, hown, hts⟩ (c_X1_priority l _) (va_cwS 1 hts gX1_preferred_X1_priority rfl rfl rfl (by decide +kernel) ⟨(Nat.le_of_ble_eq_true rfl), (Nat.le_of_ble_eq_true rfl)⟩) xPreT rfl rfl hl.1 rfl (lv_room (Nat.le_of_ble_eq_true rfl)) dX1_preferred_27 ⟨(Nat.le_of_ble_eq_true rfl), (Nat.le_of_ble_eq_true rfl)⟩) (fun r27 er27 => ?_)
    subst er27
    refine lv_aload_n hx hb dX1_preferred_30 rfl (lv_at hl 3 rfl) ?_
    refine va_getN (D := D) (ci := 6) (v := .ref (a 1)) (C := RX8) (T := TX8) (N := 15) hx hb hts inX8 hown hKN.1 hP 0 rfl rfl 0 (by decide) (va_Nw.use rfl (NW.f hKN.2 (a := RX1) (i := 39) (b := "TreeFamily$Tree") (n := "keys") (d := "[I") (g := "TreeFamily") (by decide +kernel))) (fun _ h9 => h9) rfl dX1_preferred_31 ?_
    refine lv_iload_n hx hb dX1_preferred_34 rfl (lv_at hl 2 rfl) ?_
    refine xr_ild hx hb hKN.1 hP 1 0 rfl rfl (j := x) (Nat.lt_of_le_of_lt hx60 (by decide)) (by decide) dX1_preferred_35 ?_
    refine xs_i (va_runS (As := [.int (ky x)]) (rest := [.int (prio (ky (lf x)))]) ⟨hx, hb, hml, hown, hts⟩ (c_X1_priority l _) (va_cwS 1 hts gX1_preferred_X1_priority rfl rfl rfl (by decide +kernel) ⟨(Nat.le_of_ble_eq_true rfl), (Nat.le_of_ble_eq_true rfl)⟩) xPreT rfl rfl hl.1 rfl (lv_room (Nat.le_of_ble_eq_true rfl)) dX1_preferred_36 ⟨(Nat.le_of_ble_eq_true rfl), (Nat.le_of_ble_eq_true rfl)⟩) (fun r36 er36 => ?_)
    subst er36
    refine lv_icmp_le (tgt := 44) hx hb dX1_preferred_39 (by decide) (fun c39 => ?_) (fun c39 => ?_)
    · skip
      have e44 : pf_l (ky, vl, lf, rt, ct, ht, tt, sp, pa, ro, ss, dp, rn, od, kd) x = x := by unfold pf_l; first | exact if_pos c18 | exact (if_neg c18).trans (if_pos c39) | exact (if_neg c18).trans (if_neg c39)
      refine lv_iload hx hb dX1_preferred_44 (lv_at hl 0 rfl) ?_
      refine lv_if_eq (tgt := 74) hx hb dX1_preferred_46 (by decide) (fun c46 => ?_) (fun c46 => ?_)
      · skip
        have c46 : (rt x) = 0 := (xn_eq (a := (rt x)) (b := 0) (Nat.lt_of_le_of_lt (hrt x) (by decide)) (by decide)).mp c46
        refine lv_iload_n hx hb dX1_preferred_74 rfl (lv_at hl 2 rfl) ?_
        exact W.iret (v := (nI x)) hx hb hr (fun t9 e9 w9 => ⟨⟨_, (ky, vl, lf, rt, ct, ht, tt, sp, pa, ro, ss, dp, rn, od, kd), rfl, ⟨congrArg nI (by unfold f_preferred; rw [e44]; first | exact (if_pos c46).symm | exact ((if_neg c46).trans (if_pos c68)).symm | exact ((if_neg c46).trans (if_neg c68)).symm), rfl⟩, by rw [e9]; exact hP, hD⟩, hS.F e9⟩) hS.2.2 dX1_preferred_75
      · skip
        have c46 : ¬ (rt x) = 0 := fun h9 => c46 ((xn_eq (a := (rt x)) (b := 0) (Nat.lt_of_le_of_lt (hrt x) (by decide)) (by decide)).mpr h9)
        refine lv_aload_n hx hb dX1_preferred_49 rfl (lv_at hl 3 rfl) ?_
        refine va_getN (D := D) (ci := 6) (v := .ref (a 1)) (C := RX8) (T := TX8) (N := 15) hx hb hts inX8 hown hKN.1 hP 0 rfl rfl 0 (by decide) (va_Nw.use rfl (NW.f hKN.2 (a := RX1) (i := 39) (b := "TreeFamily$Tree") (n := "keys") (d := "[I") (g := "TreeFamily") (by decide +kernel))) (fun _ h9 => h9) rfl dX1_preferred_50 ?_
        refine lv_iload hx hb dX1_preferred_53 (lv_at hl 0 rfl) ?_
        refine xr_ild hx hb hKN.1 hP 1 0 rfl rfl (j := rt x) (Nat.lt_of_le_of_lt (hrt x) (by decide)) (by decide) dX1_preferred_55 ?_
        refine xs_i (va_runS (As := [.int (ky (rt x))]) (rest := []) ⟨hx, hb, hml, hown, hts⟩ (c_X1_priority l _) (va_cwS 1 hts gX1_preferred_X1_priority rfl rfl rfl (by decide +kernel) ⟨(Nat.le_of_ble_eq_true rfl), (Nat.le_of_ble_eq_true rfl)⟩) xPreT rfl rfl hl.1 rfl (lv_room (Nat.le_of_ble_eq_true rfl)) dX1_preferred_56 ⟨(Nat.le_of_ble_eq_true rfl), (Nat.le_of_ble_eq_true rfl)⟩) (fun r56 er56 => ?_)
        subst er56
        refine lv_aload_n hx hb dX1_preferred_59 rfl (lv_at hl 3 rfl) ?_
        refine va_getN (D := D) (ci := 6) (v := .ref (a 1)) (C := RX8) (T := TX8) (N := 15) hx hb hts inX8 hown hKN.1 hP 0 rfl rfl 0 (by decide) (va_Nw.use rfl (NW.f hKN.2 (a := RX1) (i := 39) (b := "TreeFamily$Tree") (n := "keys") (d := "[I") (g := "TreeFamily") (by decide +kernel))) (fun _ h9 => h9) rfl dX1_preferred_60 ?_
        refine lv_iload_n hx hb dX1_preferred_63 rfl (lv_at hl 2 rfl) ?_
        refine xr_ild hx hb hKN.1 hP 1 0 rfl rfl (j := x) (Nat.lt_of_le_of_lt hx60 (by decide)) (by decide) dX1_preferred_64 ?_
        refine xs_i (va_runS (As := [.int (ky x)]) (rest := [.int (prio (ky (rt x)))]) ⟨hx, hb, hml, hown, hts⟩ (c_X1_priority l _) (va_cwS 1 hts gX1_preferred_X1_priority rfl rfl rfl (by decide +kernel) ⟨(Nat.le_of_ble_eq_true rfl), (Nat.le_of_ble_eq_true rfl)⟩) xPreT rfl rfl hl.1 rfl (lv_room (Nat.le_of_ble_eq_true rfl)) dX1_preferred_65 ⟨(Nat.le_of_ble_eq_true rfl), (Nat.le_of_ble_eq_true rfl)⟩) (fun r65 er65 => ?_)
        subst er65
        refine lv_icmp_le (tgt := 74) hx hb dX1_preferred_68 (by decide) (fun c68 => ?_) (fun c68 => ?_)
        · skip
          refine lv_iload_n hx hb dX1_preferred_74 rfl (lv_at hl 2 rfl) ?_
          exact W.iret (v := (nI x)) hx hb hr (fun t9 e9 w9 => ⟨⟨_, (ky, vl, lf, rt, ct, ht, tt, sp, pa, ro, ss, dp, rn, od, kd), rfl, ⟨congrArg nI (by unfold f_preferred; rw [e44]; first | exact (if_pos c46).symm | exact ((if_neg c46).trans (if_pos c68)).symm | exact ((if_neg c46).trans (if_neg c68)).symm), rfl⟩, by rw [e9]; exact hP, hD⟩, hS.F e9⟩) hS.2.2 dX1_preferred_75
        · skip
          refine lv_iload hx hb dX1_preferred_71 (lv_at hl 0 rfl) ?_
          refine lv_istore_n (lv' := [(2, .int (nI (rt x))), (4, .int (nI (rt x))), (3, .int (nI (lf x))), (0, .ref (a 0)), (1, .int (nI x))]) hx hb dX1_preferred_73 rfl hl (by decide) rfl (fun ls hl => ?_)
          refine lv_iload_n hx hb dX1_preferred_74 rfl (lv_at hl 0 rfl) ?_
          exact W.iret (v := (nI (rt x))) hx hb hr (fun t9 e9 w9 => ⟨⟨_, (ky, vl, lf, rt, ct, ht, tt, sp, pa, ro, ss, dp, rn, od, kd), rfl, ⟨congrArg nI (by unfold f_preferred; rw [e44]; first | exact (if_pos c46).symm | exact ((if_neg c46).trans (if_pos c68)).symm | exact ((if_neg c46).trans (if_neg c68)).symm), rfl⟩, by rw [e9]; exact hP, hD⟩, hS.F e9⟩) hS.2.2 dX1_preferred_75
    · skip
      refine lv_iload_n hx hb dX1_preferred_42 rfl (lv_at hl 1 rfl) ?_
      refine lv_istore_n (lv' := [(2, .int (nI (lf x))), (4, .int (nI (rt x))), (3, .int (nI (lf x))), (0, .ref (a 0)), (1, .int (nI x))]) hx hb dX1_preferred_43 rfl hl (by decide) rfl (fun ls hl => ?_)
      have e44 : pf_l (ky, vl, lf, rt, ct, ht, tt, sp, pa, ro, ss, dp, rn, od, kd) x = lf x := by unfold pf_l; first | exact if_pos c18 | exact (if_neg c18).trans (if_pos c39) | exact (if_neg c18).trans (if_neg c39)
      refine lv_iload hx hb dX1_preferred_44 (lv_at hl 1 rfl) ?_
      refine lv_if_eq (tgt := 74) hx hb dX1_preferred_46 (by decide) (fun c46 => ?_) (fun c46 => ?_)
      · skip
        have c46 : (rt x) = 0 := (xn_eq (a := (rt x)) (b := 0) (Nat.lt_of_le_of_lt (hrt x) (by decide)) (by decide)).mp c46
        refine lv_iload_n hx hb dX1_preferred_74 rfl (lv_at hl 0 rfl) ?_
        exact W.iret (v := (nI (lf x))) hx hb hr (fun t9 e9 w9 => ⟨⟨_, (ky, vl, lf, rt, ct, ht, tt, sp, pa, ro, ss, dp, rn, od, kd), rfl, ⟨congrArg nI (by unfold f_preferred; rw [e44]; first | exact (if_pos c46).symm | exact ((if_neg c46).trans (if_pos c68)).symm | exact ((if_neg c46).trans (if_neg c68)).symm), rfl⟩, by rw [e9]; exact hP, hD⟩, hS.F e9⟩) hS.2.2 dX1_preferred_75
      · skip
        have c46 : ¬ (rt x) = 0 := fun h9 => c46 ((xn_eq (a := (rt x)) (b := 0) (Nat.lt_of_le_of_lt (hrt x) (by decide)) (by decide)).mpr h9)
        refine lv_aload_n hx hb dX1_preferred_49 rfl (lv_at hl 3 rfl) ?_
        refine va_getN (D := D) (ci := 6) (v := .ref (a 1)) (C := RX8) (T := TX8) (N := 15) hx hb hts inX8 hown hKN.1 hP 0 rfl rfl 0 (by decide) (va_Nw.use rfl (NW.f hKN.2 (a := RX1) (i := 39) (b := "TreeFamily$Tree") (n := "keys") (d := "[I") (g := "TreeFamily") (by decide +kernel))) (fun _ h9 => h9) rfl dX1_preferred_50 ?_
        refine lv_iload hx hb dX1_preferred_53 (lv_at hl 1 rfl) ?_
        refine xr_ild hx hb hKN.1 hP 1 0 rfl rfl (j := rt x) (Nat.lt_of_le_of_lt (hrt x) (by decide)) (by decide) dX1_preferred_55 ?_
        refine xs_i (va_runS (As := [.int (ky (rt x))]) (rest := []) ⟨hx, hb, hml, hown, hts⟩ (c_X1_priority l _) (va_cwS 1 hts gX1_preferred_X1_priority rfl rfl rfl (by decide +kernel) ⟨(Nat.le_of_ble_eq_true rfl), (Nat.le_of_ble_eq_true rfl)⟩) xPreT rfl rfl hl.1 rfl (lv_room (Nat.le_of_ble_eq_true rfl)) dX1_preferred_56 ⟨(Nat.le_of_ble_eq_true rfl), (Nat.le_of_ble_eq_true rfl)⟩) (fun r56 er56 => ?_)
        subst er56
        refine lv_aload_n hx hb dX1_preferred_59 rfl (lv_at hl 3 rfl) ?_
        refine va_getN (D := D) (ci := 6) (v := .ref (a 1)) (C := RX8) (T := TX8) (N := 15) hx hb hts inX8 hown hKN.1 hP 0 rfl rfl 0 (by decide) (va_Nw.use rfl (NW.f hKN.2 (a := RX1) (i := 39) (b := "TreeFamily$Tree") (n := "keys") (d := "[I") (g := "TreeFamily") (by decide +kernel))) (fun _ h9 => h9) rfl dX1_preferred_60 ?_
        refine lv_iload_n hx hb dX1_preferred_63 rfl (lv_at hl 0 rfl) ?_
        refine xr_ild hx hb hKN.1 hP 1 0 rfl rfl (j := lf x) (Nat.lt_of_le_of_lt (hlf x) (by decide)) (by decide) dX1_preferred_64 ?_
        refine xs_i (va_runS (As := [.int (ky (lf x))]) (rest := [.int (prio (ky (rt x)))]) ⟨hx, hb, hml, hown, hts⟩ (c_X1_priority l _) (va_cwS 1 hts gX1_preferred_X1_priority rfl rfl rfl (by decide +kernel) ⟨(Nat.le_of_ble_eq_true rfl), (Nat.le_of_ble_eq_true rfl)⟩) xPreT rfl rfl hl.1 rfl (lv_room (Nat.le_of_ble_eq_true rfl)) dX1_preferred_65 ⟨(Nat.le_of_ble_eq_true rfl), (Nat.le_of_ble_eq_true rfl)⟩) (fun r65 er65 => ?_)
        subst er65
        refine lv_icmp_le (tgt := 74) hx hb dX1_preferred_68 (by decide) (fun c68 => ?_) (fun c68 => ?_)
        · skip
          refine lv_iload_n hx hb dX1_preferred_74 rfl (lv_at hl 0 rfl) ?_
          exact W.iret (v := (nI (lf x))) hx hb hr (fun t9 e9 w9 => ⟨⟨_, (ky, vl, lf, rt, ct, ht, tt, sp, pa, ro, ss, dp, rn, od, kd), rfl, ⟨congrArg nI (by unfold f_preferred; rw [e44]; first | exact (if_pos c46).symm | exact ((if_neg c46).trans (if_pos c68)).symm | exact ((if_neg c46).trans (if_neg c68)).symm), rfl⟩, by rw [e9]; exact hP, hD⟩, hS.F e9⟩) hS.2.2 dX1_preferred_75
        · skip
          refine lv_iload hx hb dX1_preferred_71 (lv_at hl 1 rfl) ?_
          refine lv_istore_n (lv' := [(2, .int (nI (rt x))), (4, .int (nI (rt x))), (3, .int (nI (lf x))), (0, .ref (a 0)), (1, .int (nI x))]) hx hb dX1_preferred_73 rfl hl (by decide) rfl (fun ls hl => ?_)
          refine lv_iload_n hx hb dX1_preferred_74 rfl (lv_at hl 0 rfl) ?_
          exact W.iret (v := (nI (rt x))) hx hb hr (fun t9 e9 w9 => ⟨⟨_, (ky, vl, lf, rt, ct, ht, tt, sp, pa, ro, ss, dp, rn, od, kd), rfl, ⟨congrArg nI (by unfold f_preferred; rw [e44]; first | exact (if_pos c46).symm | exact ((if_neg c46).trans (if_pos c68)).symm | exact ((if_neg c46).trans (if_neg c68)).symm), rfl⟩, by rw [e9]; exact hP, hD⟩, hS.F e9⟩) hS.2.2 dX1_preferred_75
