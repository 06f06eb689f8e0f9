-- Tree.trace
set_option maxHeartbeats 4000000 in
set_option maxRecDepth 100000 in
theorem c_X8_trace (l : Launch) (D : va_G) (ca : Nat → ClassId) (kq a : Nat → Nat) (sz : Nat) (ky vl : Nat → Int32) (lf rt : Nat → Nat) (ct ht : Nat → Int32) (tt : Nat → Int64) (sp pa ro : Nat → Nat) (ss dp rn : Nat) (od : Int32) (kd : Nat) (key : Int32) (hlf : ∀ k, lf k ≤ 60) (hrt : ∀ k, rt k ≤ 60) (hsp : ∀ k, sp k ≤ 60) (hpa : ∀ k, pa k ≤ 60) (hro : ∀ k, ro k ≤ 60) (hrn : rn ≤ 60): Met l yX8_trace wsX8_trace ({ frames := 2, cells := 0, slots := 0, locals := 44 } : Room) (xPc D (TY ca) [.ref (a 0), .int key] (wT ca kq a (ky, vl, lf, rt, ct, ht, tt, sp, pa, ro, ss, dp, rn, od, kd)) sz) (va_Qi (fun (r : Int32) (u : TS) => r = nI (f_trace (ky, vl, lf, rt, ct, ht, tt, sp, pa, ro, ss, dp, rn, od, kd) key).1 ∧ u = (f_trace (ky, vl, lf, rt, ct, ht, tt, sp, pa, ro, ss, dp, rn, od, kd) key).2) (xB D (wT ca kq a) (va_A (wT ca kq a (ky, vl, lf, rt, ct, ht, tt, sp, pa, ro, ss, dp, rn, od, kd)) sz)) (va_A (wT ca kq a (ky, vl, lf, rt, ct, ht, tt, sp, pa, ro, ss, dp, rn, od, kd)) sz)) 0 0 (va_A (wT ca kq a (ky, vl, lf, rt, ct, ht, tt, sp, pa, ro, ss, dp, rn, od, kd)) sz) := by
  refine Met.ofW (cc := cX8_trace) (maxL := 3) (ret := (some .int)) (by decide) rfl ?_
  intro p e s m args below meth c s₁ B hml hv
  obtain ⟨rfl, hsz, hP, hKN, hD0⟩ := hv
  have hx := B.exec
  have hb := B.bytes
  have hr := B.returns
  have hts := atoms_spec (ws := wsX8_trace) B.pre
  have hown : s.vm.findClass RX8 = some m.cls := findClass_of_methodNamed B.named
  have hlocks := B.notSynchronized
  have inX8 : ∀ w ∈ wsX80, w ∈ wsX8_trace := by decide +kernel
  subst hsz
  have hD := hD0.self (sz := s.heap.size)
  generalize hAe : va_A (wT ca kq a (ky, vl, lf, rt, ct, ht, tt, sp, pa, ro, ss, dp, rn, od, kd)) s.heap.size = A at hD ⊢
  have hA : ∀ q : Nat, s.heap.size ≤ q → A q := fun q h => by rw [← hAe]; exact Or.inr h
  have hS : va_S A s.heap s.heap [] := va_S.rf
  have hl := lv_entry ([.ref (a 0), .int key]) (n := 3) (Nat.le_of_ble_eq_true rfl)
  rw [lg_entry_eq]
  generalize (lg_sl ([.ref (a 0), .int key]) ++ List.replicate (3 - (lg_sl ([.ref (a 0), .int key])).length) Slot.unset).toArray = ls at hl ⊢
  have hl : lv_has ls 3 [(0, .ref (a 0)), (1, .int key)] := hl
  refine lv_aload_n hx hb dX8_trace_0 rfl (lv_at hl 0 rfl) ?_
  refine lv_iconst (v := 0) hx hb dX8_trace_1 (by decide) ?_
  refine va_put (D := D) (ci := 6) (v := .int 0) (ty := .int) (C := RX8) (T := TX8) (N := 15) hx hb hts inX8 tyX8 tyX8_ok nmX8 hown hKN.1 hP hD hS 0 rfl rfl 11 (by decide) (hts (.fieldLink RX8 58 "TreeFamily$Tree" "depth" "I") (by decide +kernel)) (fun _ h9 => h9) rfl (by decide +kernel) rfl rfl (Nat.le_of_ble_eq_true rfl) dX8_trace_2 (fun H locs hP hD hS => ?_)
  have hP : va_P D vwCl (wT ca kq a (ky, vl, lf, rt, ct, ht, tt, sp, pa, ro, ss, 0, rn, od, kd)) H := hP
  have hD : va_D A (wT ca kq a (ky, vl, lf, rt, ct, ht, tt, sp, pa, ro, ss, 0, rn, od, kd)) := hD
  refine lv_aload_n hx hb dX8_trace_5 rfl (lv_at hl 0 rfl) ?_
  refine va_get (D := D) (ci := 6) (v := .int (nI rn)) (C := RX8) (T := TX8) (N := 15) hx hb hts inX8 hown hKN.1 hP 0 rfl rfl 12 (by decide) (hts (.fieldLink RX8 55 "TreeFamily$Tree" "root" "I") (by decide +kernel)) (fun _ h9 => h9) rfl dX8_trace_6 ?_
  refine lv_istore_n (lv' := [(2, .int (nI rn)), (0, .ref (a 0)), (1, .int key)]) hx hb dX8_trace_9 rfl hl (by decide) rfl (fun ls hl => ?_)
  refine xl 10 (σ := Nat × Nat × (Nat → Nat)) (fun n u H locs ls => match u with | (x, d, q) => x ≤ 60 ∧ d + n = 60 ∧ (∀ k, q k ≤ 60) ∧ tr_go ky lf rt od key 60 rn 0 pa = tr_go ky lf rt od key n x d q ∧ va_P D vwCl (wT ca kq a (ky, vl, lf, rt, ct, ht, tt, sp, q, ro, ss, d, rn, od, kd)) H ∧ va_D A (wT ca kq a (ky, vl, lf, rt, ct, ht, tt, sp, q, ro, ss, d, rn, od, kd)) ∧ va_S A s.heap H locs ∧ lv_has ls 3 [(0, .ref (a 0)), (1, .int key), (2, .int (nI x))]) ?_ 60 (rn, 0, pa) _ _ _ ⟨hrn, rfl, hpa, rfl, hP, hD, hS, lv_sub hl [1, 2, 0] rfl⟩
  clear hP hD hS hl
  intro n ih u H locs ls hI
  obtain ⟨x, d, q⟩ := u
  obtain ⟨hx9, hn, hq, hg, hP, hD, hS, hl⟩ := hI
  refine lv_iload_n hx hb dX8_trace_10 rfl (lv_at hl 2 rfl) ?_
  refine lv_if_eq (tgt := 99) hx hb dX8_trace_11 (by decide) (fun c11 => ?_) (fun c11 => ?_)
  · skip
    have c11 : x = 0 := (xn_eq (a := x) (b := 0) (Nat.lt_of_le_of_lt hx9 (by decide)) (by decide)).mp c11
    refine lv_iconst (v := 0) hx hb dX8_trace_99 (by decide) ?_
    exact W.iret (v := 0) hx hb hr (fun t9 e9 w9 => ⟨⟨_, (ky, vl, lf, rt, ct, ht, tt, sp, q, ro, ss, d, rn, od, kd), rfl, by have h9 : tr_go ky lf rt od key 60 rn 0 pa = (0, d, q) := hg.trans (by first | (cases n with | zero => rfl | succ n => rw [tr_go, if_pos c11]) | (obtain rfl : n = 0 := (by omega); rfl)); show 0 = nI (tr_go ky lf rt od key 60 rn 0 pa).1 ∧ (ky, vl, lf, rt, ct, ht, tt, sp, q, ro, ss, d, rn, od, kd) = setPa (ky, vl, lf, rt, ct, ht, tt, sp, pa, ro, ss, dp, rn, od, kd) (tr_go ky lf rt od key 60 rn 0 pa).2.2 (tr_go ky lf rt od key 60 rn 0 pa).2.1; rw [h9]; exact ⟨rfl, rfl⟩, by rw [e9]; exact hP, hD⟩, hS.F e9⟩) hS.2.2 dX8_trace_100
  · skip
    have c11 : ¬ x = 0 := fun h9 => c11 ((xn_eq (a := x) (b := 0) (Nat.lt_of_le_of_lt hx9 (by decide)) (by decide)).mpr h9)
    refine lv_aload_n hx hb dX8_trace_14 rfl (lv_at hl 0 rfl) ?_
    refine va_get (D := D) (ci := 6) (v := .int (nI d)) (C := RX8) (T := TX8) (N := 15) hx hb hts inX8 hown hKN.1 hP 0 rfl rfl 11 (by decide) (hts (.fieldLink RX8 58 "TreeFamily$Tree" "depth" "I") (by decide +kernel)) (fun _ h9 => h9) rfl dX8_trace_15 ?_
    refine lv_bipush (v := 60) hx hb dX8_trace_18 (by decide) ?_
    refine lv_icmp_ge (tgt := 99) hx hb dX8_trace_20 (by decide) (fun c20 => ?_) (fun c20 => ?_)
    · skip
      have c20 : 60 ≤ d := (xn_le (a := 60) (b := d) (by decide) (by omega)).mp c20
      refine lv_iconst (v := 0) hx hb dX8_trace_99 (by decide) ?_
      exact W.iret (v := 0) hx hb hr (fun t9 e9 w9 => ⟨⟨_, (ky, vl, lf, rt, ct, ht, tt, sp, q, ro, ss, d, rn, od, kd), rfl, by have h9 : tr_go ky lf rt od key 60 rn 0 pa = (0, d, q) := hg.trans (by first | (cases n with | zero => rfl | succ n => rw [tr_go, if_pos c11]) | (obtain rfl : n = 0 := (by omega); rfl)); show 0 = nI (tr_go ky lf rt od key 60 rn 0 pa).1 ∧ (ky, vl, lf, rt, ct, ht, tt, sp, q, ro, ss, d, rn, od, kd) = setPa (ky, vl, lf, rt, ct, ht, tt, sp, pa, ro, ss, dp, rn, od, kd) (tr_go ky lf rt od key 60 rn 0 pa).2.2 (tr_go ky lf rt od key 60 rn 0 pa).2.1; rw [h9]; exact ⟨rfl, rfl⟩, by rw [e9]; exact hP, hD⟩, hS.F e9⟩) hS.2.2 dX8_trace_100
    · skip
      have c20 : ¬ 60 ≤ d := fun h9 => c20 ((xn_le (a := 60) (b := d) (by decide) (by omega)).mpr h9)
      obtain ⟨n, rfl⟩ : ∃ k, n = k + 1 := ⟨n - 1, by omega⟩
      refine lv_aload_n hx hb dX8_trace_23 rfl (lv_at hl 0 rfl) ?_
      refine va_get (D := D) (ci := 6) (v := .ref (a 9)) (C := RX8) (T := TX8) (N := 15) hx hb hts inX8 hown hKN.1 hP 0 rfl rfl 8 (by decide) (hts (.fieldLink RX8 37 "TreeFamily$Tree" "path" "[I") (by decide +kernel)) (fun _ h9 => h9) rfl dX8_trace_24 ?_
      refine lv_aload_n hx hb dX8_trace_27 rfl (lv_at hl 0 rfl) ?_
      refine va_get (D := D) (ci := 6) (v := .int (nI d)) (C := RX8) (T := TX8) (N := 15) hx hb hts inX8 hown hKN.1 hP 0 rfl rfl 11 (by decide) (hts (.fieldLink RX8 58 "TreeFamily$Tree" "depth" "I") (by decide +kernel)) (fun _ h9 => h9) rfl dX8_trace_28 ?_
      refine lv_iload_n hx hb dX8_trace_31 rfl (lv_at hl 2 rfl) ?_
      refine xr_nst hx hb hKN.1 hP hD hS 9 0 (g := q) rfl rfl (j := d) (v := x) (by omega) (by decide) dX8_trace_32 (fun H locs hP hD hS => ?_)
      have hP : va_P D vwCl (wT ca kq a (ky, vl, lf, rt, ct, ht, tt, sp, (va_up q d x), ro, ss, d, rn, od, kd)) H := hP
      have hD : va_D A (wT ca kq a (ky, vl, lf, rt, ct, ht, tt, sp, (va_up q d x), ro, ss, d, rn, od, kd)) := hD
      refine lv_aload_n hx hb dX8_trace_33 rfl (lv_at hl 0 rfl) ?_
      refine lv_dup hx hb dX8_trace_34 rfl ?_
      refine va_get (D := D) (ci := 6) (v := .int (nI d)) (C := RX8) (T := TX8) (N := 15) hx hb hts inX8 hown hKN.1 hP 0 rfl rfl 11 (by decide) (hts (.fieldLink RX8 58 "TreeFamily$Tree" "depth" "I") (by decide +kernel)) (fun _ h9 => h9) rfl dX8_trace_35 ?_
      refine lv_iconst (v := 1) hx hb dX8_trace_38 (by decide) ?_
      refine lv_iadd hx hb dX8_trace_39 ?_
      refine xr_top (y := nI (d + 1)) (nI_add d 1) ?_
      refine va_put (D := D) (ci := 6) (v := .int (nI (d + 1))) (ty := .int) (C := RX8) (T := TX8) (N := 15) hx hb hts inX8 tyX8 tyX8_ok nmX8 hown hKN.1 hP hD hS 0 rfl rfl 11 (by decide) (hts (.fieldLink RX8 58 "TreeFamily$Tree" "depth" "I") (by decide +kernel)) (fun _ h9 => h9) rfl (by decide +kernel) rfl rfl (Nat.le_of_ble_eq_true rfl) dX8_trace_40 (fun H locs hP hD hS => ?_)
      have hP : va_P D vwCl (wT ca kq a (ky, vl, lf, rt, ct, ht, tt, sp, (va_up q d x), ro, ss, (d + 1), rn, od, kd)) H := hP
      have hD : va_D A (wT ca kq a (ky, vl, lf, rt, ct, ht, tt, sp, (va_up q d x), ro, ss, (d + 1), rn, od, kd)) := hD
      refine lv_aload_n hx hb dX8_trace_43 rfl (lv_at hl 0 rfl) ?_
      refine va_get (D := D) (ci := 6) (v := .int od) (C := RX8) (T := TX8) (N := 15) hx hb hts inX8 hown hKN.1 hP 0 rfl rfl 13 (by decide) (hts (.fieldLink RX8 51 "TreeFamily$Tree" "order" "I") (by decide +kernel)) (fun _ h9 => h9) rfl dX8_trace_44 ?_
      refine lv_iload_n hx hb dX8_trace_47 rfl (lv_at hl 1 rfl) ?_
      refine lv_aload_n hx hb dX8_trace_48 rfl (lv_at hl 0 rfl) ?_
      refine va_get (D := D) (ci := 6) (v := .ref (a 1)) (C := RX8) (T := TX8) (N := 15) hx hb hts inX8 hown hKN.1 hP 0 rfl rfl 0 (by decide) (hts (.fieldLink RX8 9 "TreeFamily$Tree" "keys" "[I") (by decide +kernel)) (fun _ h9 => h9) rfl dX8_trace_49 ?_
      refine lv_iload_n hx hb dX8_trace_52 rfl (lv_at hl 2 rfl) ?_
      refine xr_ild hx hb hKN.1 hP 1 0 rfl rfl (j := x) (Nat.lt_of_le_of_lt hx9 (by decide)) (by decide) dX8_trace_53 ?_
      refine xs_i (va_runSN (As := [.int od, .int key, .int (ky x)]) (rest := []) ⟨hx, hb, hml, hown, hts⟩ (c_X10_goesBefore l _ _ _) ⟨va_cnB 3 hts gX8_trace_X10_goesBefore_n64 rfl rfl rfl (NW.m hKN.2 (a := RX8) (i := 64) (x := yX10_goesBefore) (g := "TreeFamily") (by decide +kernel)) (hts _ (List.mem_of_elem_eq_true (by decide +kernel) : Cond.initialized yX10_goesBefore.cls ∈ wsX8_trace)) (by decide +kernel) ⟨(Nat.le_of_ble_eq_true rfl), (Nat.le_of_ble_eq_true rfl)⟩, hts (.static yX10_goesBefore) (by decide +kernel), trivial⟩ xPreT rfl rfl hl.1 rfl (lv_room (Nat.le_of_ble_eq_true rfl)) dX8_trace_54 ⟨(Nat.le_of_ble_eq_true rfl), (Nat.le_of_ble_eq_true rfl)⟩) (fun r54 er54 => ?_)
      subst er54
      refine lv_if_eq (tgt := 70) hx hb dX8_trace_57 (by decide) (fun c57 => ?_) (fun c57 => ?_)
      · skip
        have c57 := bI_0.mp c57
        refine lv_aload_n hx hb dX8_trace_70 rfl (lv_at hl 0 rfl) ?_
        refine va_get (D := D) (ci := 6) (v := .int od) (C := RX8) (T := TX8) (N := 15) hx hb hts inX8 hown hKN.1 hP 0 rfl rfl 13 (by decide) (hts (.fieldLink RX8 51 "TreeFamily$Tree" "order" "I") (by decide +kernel)) (fun _ h9 => h9) rfl dX8_trace_71 ?_
        refine lv_aload_n hx hb dX8_trace_74 rfl (lv_at hl 0 rfl) ?_
        refine va_get (D := D) (ci := 6) (v := .ref (a 1)) (C := RX8) (T := TX8) (N := 15) hx hb hts inX8 hown hKN.1 hP 0 rfl rfl 0 (by decide) (hts (.fieldLink RX8 9 "TreeFamily$Tree" "keys" "[I") (by decide +kernel)) (fun _ h9 => h9) rfl dX8_trace_75 ?_
        refine lv_iload_n hx hb dX8_trace_78 rfl (lv_at hl 2 rfl) ?_
        refine xr_ild hx hb hKN.1 hP 1 0 rfl rfl (j := x) (Nat.lt_of_le_of_lt hx9 (by decide)) (by decide) dX8_trace_79 ?_
        refine lv_iload_n hx hb dX8_trace_80 rfl (lv_at hl 1 rfl) ?_
        refine xs_i (va_runSN (As := [.int od, .int (ky x), .int key]) (rest := []) ⟨hx, hb, hml, hown, hts⟩ (c_X10_goesBefore l _ _ _) ⟨va_cnB 3 hts gX8_trace_X10_goesBefore_n64 rfl rfl rfl (NW.m hKN.2 (a := RX8) (i := 64) (x := yX10_goesBefore) (g := "TreeFamily") (by decide +kernel)) (hts _ (List.mem_of_elem_eq_true (by decide +kernel) : Cond.initialized yX10_goesBefore.cls ∈ wsX8_trace)) (by decide +kernel) ⟨(Nat.le_of_ble_eq_true rfl), (Nat.le_of_ble_eq_true rfl)⟩, hts (.static yX10_goesBefore) (by decide +kernel), trivial⟩ xPreT rfl rfl hl.1 rfl (lv_room (Nat.le_of_ble_eq_true rfl)) dX8_trace_81 ⟨(Nat.le_of_ble_eq_true rfl), (Nat.le_of_ble_eq_true rfl)⟩) (fun r81 er81 => ?_)
        subst er81
        refine lv_if_eq (tgt := 97) hx hb dX8_trace_84 (by decide) (fun c84 => ?_) (fun c84 => ?_)
        · skip
          have c84 := bI_0.mp c84
          refine lv_iload_n hx hb dX8_trace_97 rfl (lv_at hl 2 rfl) ?_
          exact W.iret (v := (nI x)) hx hb hr (fun t9 e9 w9 => ⟨⟨_, (ky, vl, lf, rt, ct, ht, tt, sp, (va_up q d x), ro, ss, (d + 1), rn, od, kd), rfl, by have h9 : tr_go ky lf rt od key 60 rn 0 pa = (x, d + 1, va_up q d x) := hg.trans (by rw [tr_go, if_neg c11, if_neg (by rw [c57]; decide), if_neg (by rw [c84]; decide)]); show nI x = nI (tr_go ky lf rt od key 60 rn 0 pa).1 ∧ (ky, vl, lf, rt, ct, ht, tt, sp, (va_up q d x), ro, ss, (d + 1), rn, od, kd) = setPa (ky, vl, lf, rt, ct, ht, tt, sp, pa, ro, ss, dp, rn, od, kd) (tr_go ky lf rt od key 60 rn 0 pa).2.2 (tr_go ky lf rt od key 60 rn 0 pa).2.1; rw [h9]; exact ⟨rfl, rfl⟩, by rw [e9]; exact hP, hD⟩, hS.F e9⟩) hS.2.2 dX8_trace_98
        · skip
          have c84 := bI_ne.mp c84
          refine lv_aload_n hx hb dX8_trace_87 rfl (lv_at hl 0 rfl) ?_
          refine va_get (D := D) (ci := 6) (v := .ref (a 4)) (C := RX8) (T := TX8) (N := 15) hx hb hts inX8 hown hKN.1 hP 0 rfl rfl 3 (by decide) (hts (.fieldLink RX8 21 "TreeFamily$Tree" "right" "[I") (by decide +kernel)) (fun _ h9 => h9) rfl dX8_trace_88 ?_
          refine lv_iload_n hx hb dX8_trace_91 rfl (lv_at hl 2 rfl) ?_
          refine xr_ild hx hb hKN.1 hP 4 0 rfl rfl (j := x) (Nat.lt_of_le_of_lt hx9 (by decide)) (by decide) dX8_trace_92 ?_
          refine lv_istore_n (lv' := [(2, .int (nI (rt x))), (0, .ref (a 0)), (1, .int key)]) hx hb dX8_trace_93 rfl hl (by decide) rfl (fun ls hl => ?_)
          refine lv_goto (tgt := 10) hx hb dX8_trace_94 (by decide) ?_
          exact ih n (by omega) (rt x, (d + 1), (va_up q d x)) _ _ _ ⟨(hrt x), (by omega), (vu_le hq hx9), hg.trans (by rw [tr_go, if_neg c11]; first | rw [if_pos c57] | rw [if_neg (by rw [c57]; decide), if_pos c84]), hP, hD, hS, lv_sub hl [1, 2, 0] rfl⟩
      · skip
        have c57 := bI_ne.mp c57
        refine lv_aload_n hx hb dX8_trace_60 rfl (lv_at hl 0 rfl) ?_
        refine va_get (D := D) (ci := 6) (v := .ref (a 3)) (C := RX8) (T := TX8) (N := 15) hx hb hts inX8 hown hKN.1 hP 0 rfl rfl 2 (by decide) (hts (.fieldLink RX8 18 "TreeFamily$Tree" "left" "[I") (by decide +kernel)) (fun _ h9 => h9) rfl dX8_trace_61 ?_
        refine lv_iload_n hx hb dX8_trace_64 rfl (lv_at hl 2 rfl) ?_
        refine xr_ild hx hb hKN.1 hP 3 0 rfl rfl (j := x) (Nat.lt_of_le_of_lt hx9 (by decide)) (by decide) dX8_trace_65 ?_
        refine lv_istore_n (lv' := [(2, .int (nI (lf x))), (0, .ref (a 0)), (1, .int key)]) hx hb dX8_trace_66 rfl hl (by decide) rfl (fun ls hl => ?_)
        refine lv_goto (tgt := 10) hx hb dX8_trace_67 (by decide) ?_
        exact ih n (by omega) (lf x, (d + 1), (va_up q d x)) _ _ _ ⟨(hlf x), (by omega), (vu_le hq hx9), hg.trans (by rw [tr_go, if_neg c11]; first | rw [if_pos c57] | rw [if_neg (by rw [c57]; decide), if_pos c84]), hP, hD, hS, lv_sub hl [1, 2, 0] rfl⟩

-- Tree.countBefore
set_option maxHeartbeats 4000000 in
set_option maxRecDepth 100000 in
theorem c_X8_countBefore (l : Launch) (D : va_G) (ca : Nat → ClassId) (kq a : Nat → Nat) (sz : Nat) (ky vl : Nat → Int32) (lf rt : Nat → Nat) (ct ht : Nat → Int32) (tt : Nat → Int64) (sp pa ro : Nat → Nat) (ss dp rn : Nat) (od : Int32) (kd : Nat) (key : Int32) (hlf : ∀ k, lf k ≤ 60) (hrt : ∀ k, rt k ≤ 60) (hsp : ∀ k, sp k ≤ 60) (hpa : ∀ k, pa k ≤ 60) (hro : ∀ k, ro k ≤ 60) (hrn : rn ≤ 60): Met l yX8_countBefore wsX8_countBefore ({ frames := 2, cells := 0, slots := 0, locals := 44 } : Room) (xPc D (TY ca) [.ref (a 0), .int key] (wT ca kq a (ky, vl, lf, rt, ct, ht, tt, sp, pa, ro, ss, dp, rn, od, kd)) sz) (va_Qi (fun (r : Int32) (u : TS) => r = f_countBefore (ky, vl, lf, rt, ct, ht, tt, sp, pa, ro, ss, dp, rn, od, kd) key ∧ u = (ky, vl, lf, rt, ct, ht, tt, sp, pa, ro, ss, dp, rn, od, kd)) (xB D (wT ca kq a) (va_A (wT ca kq a (ky, vl, lf, rt, ct, ht, tt, sp, pa, ro, ss, dp, rn, od, kd)) sz)) (va_A (wT ca kq a (ky, vl, lf, rt, ct, ht, tt, sp, pa, ro, ss, dp, rn, od, kd)) sz)) 0 0 (va_A (wT ca kq a (ky, vl, lf, rt, ct, ht, tt, sp, pa, ro, ss, dp, rn, od, kd)) sz) := by
  refine Met.ofW (cc := cX8_countBefore) (maxL := 5) (ret := (some .int)) (by decide) rfl ?_
  intro p e s m args below meth c s₁ B hml hv
  obtain ⟨rfl, hsz, hP, hKN, hD0⟩ := hv
  have hx := B.exec
  have hb := B.bytes
  have hr := B.returns
  have hts := atoms_spec (ws := wsX8_countBefore) B.pre
  have hown : s.vm.findClass RX8 = some m.cls := findClass_of_methodNamed B.named
  have hlocks := B.notSynchronized
  have inX8 : ∀ w ∈ wsX80, w ∈ wsX8_countBefore := by decide +kernel
  subst hsz
  have hD := hD0.self (sz := s.heap.size)
  generalize hAe : va_A (wT ca kq a (ky, vl, lf, rt, ct, ht, tt, sp, pa, ro, ss, dp, rn, od, kd)) s.heap.size = A at hD ⊢
  have hA : ∀ q : Nat, s.heap.size ≤ q → A q := fun q h => by rw [← hAe]; exact Or.inr h
  have hS : va_S A s.heap s.heap [] := va_S.rf
  have hl := lv_entry ([.ref (a 0), .int key]) (n := 5) (Nat.le_of_ble_eq_true rfl)
  rw [lg_entry_eq]
  generalize (lg_sl ([.ref (a 0), .int key]) ++ List.replicate (5 - (lg_sl ([.ref (a 0), .int key])).length) Slot.unset).toArray = ls at hl ⊢
  have hl : lv_has ls 5 [(0, .ref (a 0)), (1, .int key)] := hl
  refine lv_iconst (v := 0) hx hb dX8_countBefore_0 (by decide) ?_
  refine lv_istore_n (lv' := [(2, .int 0), (0, .ref (a 0)), (1, .int key)]) hx hb dX8_countBefore_1 rfl hl (by decide) rfl (fun ls hl => ?_)
  refine lv_aload_n hx hb dX8_countBefore_2 rfl (lv_at hl 1 rfl) ?_
  refine va_get (D := D) (ci := 6) (v := .int (nI rn)) (C := RX8) (T := TX8) (N := 15) hx hb hts inX8 hown hKN.1 hP 0 rfl rfl 12 (by decide) (hts (.fieldLink RX8 55 "TreeFamily$Tree" "root" "I") (by decide +kernel)) (fun _ h9 => h9) rfl dX8_countBefore_3 ?_
  refine lv_istore_n (lv' := [(3, .int (nI rn)), (2, .int 0), (0, .ref (a 0)), (1, .int key)]) hx hb dX8_countBefore_6 rfl hl (by decide) rfl (fun ls hl => ?_)
  refine lv_iconst (v := 0) hx hb dX8_countBefore_7 (by decide) ?_
  refine lv_istore (lv' := [(4, .int 0), (3, .int (nI rn)), (2, .int 0), (0, .ref (a 0)), (1, .int key)]) hx hb dX8_countBefore_8 hl (by decide) rfl (fun ls hl => ?_)
  refine xl 10 (σ := Nat × Int32 × Nat) (fun n u H locs ls => match u with | (x, b, k) => x ≤ 60 ∧ k + n = 60 ∧ f_countBefore (ky, vl, lf, rt, ct, ht, tt, sp, pa, ro, ss, dp, rn, od, kd) key = cb_go (ky, vl, lf, rt, ct, ht, tt, sp, pa, ro, ss, dp, rn, od, kd) key n x b ∧ va_P D vwCl (wT ca kq a (ky, vl, lf, rt, ct, ht, tt, sp, pa, ro, ss, dp, rn, od, kd)) H ∧ va_D A (wT ca kq a (ky, vl, lf, rt, ct, ht, tt, sp, pa, ro, ss, dp, rn, od, kd)) ∧ va_S A s.heap H locs ∧ lv_has ls 5 [(0, .ref (a 0)), (1, .int key), (2, .int b), (3, .int (nI x)), (4, .int (nI k))]) ?_ 60 (rn, 0, 0) _ _ _ ⟨hrn, rfl, rfl, hP, hD, hS, lv_sub hl [3, 4, 2, 1, 0] rfl⟩
  clear hP hD hS hl
  intro n ih u H locs ls hI
  obtain ⟨x, b, k⟩ := u
  obtain ⟨hx9, hn, hg, hP, hD, hS, hl⟩ := hI
  refine lv_iload_n hx hb dX8_countBefore_10 rfl (lv_at hl 3 rfl) ?_
  refine lv_if_eq (tgt := 77) hx hb dX8_countBefore_11 (by decide) (fun c11 => ?_) (fun c11 => ?_)
  · skip
    have c11 : x = 0 := (xn_eq (a := x) (b := 0) (Nat.lt_of_le_of_lt hx9 (by decide)) (by decide)).mp c11
    refine lv_iload_n hx hb dX8_countBefore_77 rfl (lv_at hl 2 rfl) ?_
    exact W.iret (v := b) hx hb hr (fun t9 e9 w9 => ⟨⟨_, (ky, vl, lf, rt, ct, ht, tt, sp, pa, ro, ss, dp, rn, od, kd), rfl, ⟨(hg.trans (by first | (cases n with | zero => rfl | succ n => rw [cb_go, if_pos c11]) | (obtain rfl : n = 0 := (by omega); rfl))).symm, rfl⟩, by rw [e9]; exact hP, hD⟩, hS.F e9⟩) hS.2.2 dX8_countBefore_78
  · skip
    have c11 : ¬ x = 0 := fun h9 => c11 ((xn_eq (a := x) (b := 0) (Nat.lt_of_le_of_lt hx9 (by decide)) (by decide)).mpr h9)
    refine lv_iload hx hb dX8_countBefore_14 (lv_at hl 4 rfl) ?_
    refine lv_bipush (v := 60) hx hb dX8_countBefore_16 (by decide) ?_
    refine lv_icmp_ge (tgt := 77) hx hb dX8_countBefore_18 (by decide) (fun c18 => ?_) (fun c18 => ?_)
    · skip
      have c18 : 60 ≤ k := (xn_le (a := 60) (b := k) (by decide) (by omega)).mp c18
      refine lv_iload_n hx hb dX8_countBefore_77 rfl (lv_at hl 2 rfl) ?_
      exact W.iret (v := b) hx hb hr (fun t9 e9 w9 => ⟨⟨_, (ky, vl, lf, rt, ct, ht, tt, sp, pa, ro, ss, dp, rn, od, kd), rfl, ⟨(hg.trans (by first | (cases n with | zero => rfl | succ n => rw [cb_go, if_pos c11]) | (obtain rfl : n = 0 := (by omega); rfl))).symm, rfl⟩, by rw [e9]; exact hP, hD⟩, hS.F e9⟩) hS.2.2 dX8_countBefore_78
    · skip
      have c18 : ¬ 60 ≤ k := fun h9 => c18 ((xn_le (a := 60) (b := k) (by decide) (by omega)).mpr h9)
      obtain ⟨n, rfl⟩ : ∃ k, n = k + 1 := ⟨n - 1, by omega⟩
      refine lv_aload_n hx hb dX8_countBefore_21 rfl (lv_at hl 0 rfl) ?_
      refine va_get (D := D) (ci := 6) (v := .int od) (C := RX8) (T := TX8) (N := 15) hx hb hts inX8 hown hKN.1 hP 0 rfl rfl 13 (by decide) (hts (.fieldLink RX8 51 "TreeFamily$Tree" "order" "I") (by decide +kernel)) (fun _ h9 => h9) rfl dX8_countBefore_22 ?_
      refine lv_aload_n hx hb dX8_countBefore_25 rfl (lv_at hl 0 rfl) ?_
      refine va_get (D := D) (ci := 6) (v := .ref (a 1)) (C := RX8) (T := TX8) (N := 15) hx hb hts inX8 hown hKN.1 hP 0 rfl rfl 0 (by decide) (hts (.fieldLink RX8 9 "TreeFamily$Tree" "keys" "[I") (by decide +kernel)) (fun _ h9 => h9) rfl dX8_countBefore_26 ?_
      refine lv_iload_n hx hb dX8_countBefore_29 rfl (lv_at hl 3 rfl) ?_
      refine xr_ild hx hb hKN.1 hP 1 0 rfl rfl (j := x) (Nat.lt_of_le_of_lt hx9 (by decide)) (by decide) dX8_countBefore_30 ?_
      refine lv_iload_n hx hb dX8_countBefore_31 rfl (lv_at hl 1 rfl) ?_
      refine xs_i (va_runSN (As := [.int od, .int (ky x), .int key]) (rest := []) ⟨hx, hb, hml, hown, hts⟩ (c_X10_goesBefore l _ _ _) ⟨va_cnB 3 hts gX8_countBefore_X10_goesBefore_n64 rfl rfl rfl (NW.m hKN.2 (a := RX8) (i := 64) (x := yX10_goesBefore) (g := "TreeFamily") (by decide +kernel)) (hts _ (List.mem_of_elem_eq_true (by decide +kernel) : Cond.initialized yX10_goesBefore.cls ∈ wsX8_countBefore)) (by decide +kernel) ⟨(Nat.le_of_ble_eq_true rfl), (Nat.le_of_ble_eq_true rfl)⟩, hts (.static yX10_goesBefore) (by decide +kernel), trivial⟩ xPreT rfl rfl hl.1 rfl (lv_room (Nat.le_of_ble_eq_true rfl)) dX8_countBefore_32 ⟨(Nat.le_of_ble_eq_true rfl), (Nat.le_of_ble_eq_true rfl)⟩) (fun r32 er32 => ?_)
      subst er32
      refine lv_if_eq (tgt := 64) hx hb dX8_countBefore_35 (by decide) (fun c35 => ?_) (fun c35 => ?_)
      · skip
        have c35 := bI_0.mp c35
        refine lv_aload_n hx hb dX8_countBefore_64 rfl (lv_at hl 0 rfl) ?_
        refine va_get (D := D) (ci := 6) (v := .ref (a 3)) (C := RX8) (T := TX8) (N := 15) hx hb hts inX8 hown hKN.1 hP 0 rfl rfl 2 (by decide) (hts (.fieldLink RX8 18 "TreeFamily$Tree" "left" "[I") (by decide +kernel)) (fun _ h9 => h9) rfl dX8_countBefore_65 ?_
        refine lv_iload_n hx hb dX8_countBefore_68 rfl (lv_at hl 3 rfl) ?_
        refine xr_ild hx hb hKN.1 hP 3 0 rfl rfl (j := x) (Nat.lt_of_le_of_lt hx9 (by decide)) (by decide) dX8_countBefore_69 ?_
        refine lv_istore_n (lv' := [(3, .int (nI (lf x))), (0, .ref (a 0)), (1, .int key), (2, .int b), (4, .int (nI k))]) hx hb dX8_countBefore_70 rfl hl (by decide) rfl (fun ls hl => ?_)
        refine lv_iinc (v := (nI (k + 1))) (lv' := [(4, .int (nI (k + 1))), (3, .int (nI (lf x))), (0, .ref (a 0)), (1, .int key), (2, .int b)]) hx hb dX8_countBefore_71 hl (k := 4) rfl (nI_1 _) (by decide) rfl (fun ls hl => ?_)
        refine lv_goto (tgt := 10) hx hb dX8_countBefore_74 (by decide) ?_
        exact ih n (by omega) (lf x, b, k + 1) _ _ _ ⟨(hlf x), (by omega), hg.trans (by rw [cb_go, if_neg c11]; first | rw [if_pos c35] | rw [if_neg (by rw [c35]; decide)]), hP, hD, hS, lv_sub hl [2, 3, 4, 1, 0] rfl⟩
      · skip
        have c35 := bI_ne.mp c35
        refine lv_iload_n hx hb dX8_countBefore_38 rfl (lv_at hl 2 rfl) ?_
        refine lv_aload_n hx hb dX8_countBefore_39 rfl (lv_at hl 0 rfl) ?_
        refine va_get (D := D) (ci := 6) (v := .ref (a 5)) (C := RX8) (T := TX8) (N := 15) hx hb hts inX8 hown hKN.1 hP 0 rfl rfl 4 (by decide) (hts (.fieldLink RX8 24 "TreeFamily$Tree" "counts" "[I") (by decide +kernel)) (fun _ h9 => h9) rfl dX8_countBefore_40 ?_
        refine lv_aload_n hx hb dX8_countBefore_43 rfl (lv_at hl 0 rfl) ?_
        refine va_get (D := D) (ci := 6) (v := .ref (a 3)) (C := RX8) (T := TX8) (N := 15) hx hb hts inX8 hown hKN.1 hP 0 rfl rfl 2 (by decide) (hts (.fieldLink RX8 18 "TreeFamily$Tree" "left" "[I") (by decide +kernel)) (fun _ h9 => h9) rfl dX8_countBefore_44 ?_
        refine lv_iload_n hx hb dX8_countBefore_47 rfl (lv_at hl 3 rfl) ?_
        refine xr_ild hx hb hKN.1 hP 3 0 rfl rfl (j := x) (Nat.lt_of_le_of_lt hx9 (by decide)) (by decide) dX8_countBefore_48 ?_
        refine xr_ild hx hb hKN.1 hP 5 0 rfl rfl (j := lf x) (Nat.lt_of_le_of_lt (hlf x) (by decide)) (by decide) dX8_countBefore_49 ?_
        refine lv_iconst (v := 1) hx hb dX8_countBefore_50 (by decide) ?_
        refine lv_iadd hx hb dX8_countBefore_51 ?_
        refine lv_iadd hx hb dX8_countBefore_52 ?_
        refine lv_istore_n (lv' := [(2, .int (b + ((ct (lf x)) + 1))), (0, .ref (a 0)), (1, .int key), (3, .int (nI x)), (4, .int (nI k))]) hx hb dX8_countBefore_53 rfl hl (by decide) rfl (fun ls hl => ?_)
        refine lv_aload_n hx hb dX8_countBefore_54 rfl (lv_at hl 1 rfl) ?_
        refine va_get (D := D) (ci := 6) (v := .ref (a 4)) (C := RX8) (T := TX8) (N := 15) hx hb hts inX8 hown hKN.1 hP 0 rfl rfl 3 (by decide) (hts (.fieldLink RX8 21 "TreeFamily$Tree" "right" "[I") (by decide +kernel)) (fun _ h9 => h9) rfl dX8_countBefore_55 ?_
        refine lv_iload_n hx hb dX8_countBefore_58 rfl (lv_at hl 3 rfl) ?_
        refine xr_ild hx hb hKN.1 hP 4 0 rfl rfl (j := x) (Nat.lt_of_le_of_lt hx9 (by decide)) (by decide) dX8_countBefore_59 ?_
        refine lv_istore_n (lv' := [(3, .int (nI (rt x))), (2, .int (b + ((ct (lf x)) + 1))), (0, .ref (a 0)), (1, .int key), (4, .int (nI k))]) hx hb dX8_countBefore_60 rfl hl (by decide) rfl (fun ls hl => ?_)
        refine lv_goto (tgt := 71) hx hb dX8_countBefore_61 (by decide) ?_
        refine lv_iinc (v := (nI (k + 1))) (lv' := [(4, .int (nI (k + 1))), (3, .int (nI (rt x))), (2, .int (b + ((ct (lf x)) + 1))), (0, .ref (a 0)), (1, .int key)]) hx hb dX8_countBefore_71 hl (k := 4) rfl (nI_1 _) (by decide) rfl (fun ls hl => ?_)
        refine lv_goto (tgt := 10) hx hb dX8_countBefore_74 (by decide) ?_
        exact ih n (by omega) (rt x, b + ((ct (lf x)) + 1), k + 1) _ _ _ ⟨(hrt x), (by omega), hg.trans (by rw [cb_go, if_neg c11]; first | rw [if_pos c35] | rw [if_neg (by rw [c35]; decide)]), hP, hD, hS, lv_sub hl [3, 4, 2, 1, 0] rfl⟩

-- Tree.totalBefore
set_option maxHeartbeats 4000000 in
set_option maxRecDepth 100000 in
theorem c_X8_totalBefore (l : Launch) (D : va_G) (ca : Nat → ClassId) (kq a : Nat → Nat) (sz : Nat) (ky vl : Nat → Int32) (lf rt : Nat → Nat) (ct ht : Nat → Int32) (tt : Nat → Int64) (sp pa ro : Nat → Nat) (ss dp rn : Nat) (od : Int32) (kd : Nat) (key : Int32) (hlf : ∀ k, lf k ≤ 60) (hrt : ∀ k, rt k ≤ 60) (hsp : ∀ k, sp k ≤ 60) (hpa : ∀ k, pa k ≤ 60) (hro : ∀ k, ro k ≤ 60) (hrn : rn ≤ 60): Met l yX8_totalBefore wsX8_totalBefore ({ frames := 2, cells := 0, slots := 0, locals := 44 } : Room) (xPc D (TY ca) [.ref (a 0), .int key] (wT ca kq a (ky, vl, lf, rt, ct, ht, tt, sp, pa, ro, ss, dp, rn, od, kd)) sz) (va_Ql (fun (r : Int64) (u : TS) => r = f_totalBefore (ky, vl, lf, rt, ct, ht, tt, sp, pa, ro, ss, dp, rn, od, kd) key ∧ u = (ky, vl, lf, rt, ct, ht, tt, sp, pa, ro, ss, dp, rn, od, kd)) (xB D (wT ca kq a) (va_A (wT ca kq a (ky, vl, lf, rt, ct, ht, tt, sp, pa, ro, ss, dp, rn, od, kd)) sz)) (va_A (wT ca kq a (ky, vl, lf, rt, ct, ht, tt, sp, pa, ro, ss, dp, rn, od, kd)) sz)) 0 0 (va_A (wT ca kq a (ky, vl, lf, rt, ct, ht, tt, sp, pa, ro, ss, dp, rn, od, kd)) sz) := by
  refine Met.ofW (cc := cX8_totalBefore) (maxL := 6) (ret := (some .long)) (by decide) rfl ?_
  intro p e s m args below meth c s₁ B hml hv
  obtain ⟨rfl, hsz, hP, hKN, hD0⟩ := hv
  have hx := B.exec
  have hb := B.bytes
  have hr := B.returns
  have hts := atoms_spec (ws := wsX8_totalBefore) B.pre
  have hown : s.vm.findClass RX8 = some m.cls := findClass_of_methodNamed B.named
  have hlocks := B.notSynchronized
  have inX8 : ∀ w ∈ wsX80, w ∈ wsX8_totalBefore := by decide +kernel
  subst hsz
  have hD := hD0.self (sz := s.heap.size)
  generalize hAe : va_A (wT ca kq a (ky, vl, lf, rt, ct, ht, tt, sp, pa, ro, ss, dp, rn, od, kd)) s.heap.size = A at hD ⊢
  have hA : ∀ q : Nat, s.heap.size ≤ q → A q := fun q h => by rw [← hAe]; exact Or.inr h
  have hS : va_S A s.heap s.heap [] := va_S.rf
  have hl := lv_entry ([.ref (a 0), .int key]) (n := 6) (Nat.le_of_ble_eq_true rfl)
  rw [lg_entry_eq]
  generalize (lg_sl ([.ref (a 0), .int key]) ++ List.replicate (6 - (lg_sl ([.ref (a 0), .int key])).length) Slot.unset).toArray = ls at hl ⊢
  have hl : lv_has ls 6 [(0, .ref (a 0)), (1, .int key)] := hl
  refine lv_lconst (v := 0) hx hb dX8_totalBefore_0 (by decide) ?_
  refine lv_lstore_n (lv' := [(2, .long 0), (0, .ref (a 0)), (1, .int key)]) hx hb dX8_totalBefore_1 rfl hl (by decide) rfl (fun ls hl => ?_)
  refine lv_aload_n hx hb dX8_totalBefore_2 rfl (lv_at hl 1 rfl) ?_
  refine va_get (D := D) (ci := 6) (v := .int (nI rn)) (C := RX8) (T := TX8) (N := 15) hx hb hts inX8 hown hKN.1 hP 0 rfl rfl 12 (by decide) (hts (.fieldLink RX8 55 "TreeFamily$Tree" "root" "I") (by decide +kernel)) (fun _ h9 => h9) rfl dX8_totalBefore_3 ?_
  refine lv_istore (lv' := [(4, .int (nI rn)), (2, .long 0), (0, .ref (a 0)), (1, .int key)]) hx hb dX8_totalBefore_6 hl (by decide) rfl (fun ls hl => ?_)
  refine lv_iconst (v := 0) hx hb dX8_totalBefore_8 (by decide) ?_
  refine lv_istore (lv' := [(5, .int 0), (4, .int (nI rn)), (2, .long 0), (0, .ref (a 0)), (1, .int key)]) hx hb dX8_totalBefore_9 hl (by decide) rfl (fun ls hl => ?_)
  refine xl 11 (σ := Nat × Int64 × Nat) (fun n u H locs ls => match u with | (x, b, k) => x ≤ 60 ∧ k + n = 60 ∧ f_totalBefore (ky, vl, lf, rt, ct, ht, tt, sp, pa, ro, ss, dp, rn, od, kd) key = tb_go (ky, vl, lf, rt, ct, ht, tt, sp, pa, ro, ss, dp, rn, od, kd) key n x b ∧ va_P D vwCl (wT ca kq a (ky, vl, lf, rt, ct, ht, tt, sp, pa, ro, ss, dp, rn, od, kd)) H ∧ va_D A (wT ca kq a (ky, vl, lf, rt, ct, ht, tt, sp, pa, ro, ss, dp, rn, od, kd)) ∧ va_S A s.heap H locs ∧ lv_has ls 6 [(0, .ref (a 0)), (1, .int key), (2, .long b), (4, .int (nI x)), (5, .int (nI k))]) ?_ 60 (rn, 0, 0) _ _ _ ⟨hrn, rfl, rfl, hP, hD, hS, lv_sub hl [3, 4, 2, 1, 0] rfl⟩
  clear hP hD hS hl
  intro n ih u H locs ls hI
  obtain ⟨x, b, k⟩ := u
  obtain ⟨hx9, hn, hg, hP, hD, hS, hl⟩ := hI
  refine lv_iload hx hb dX8_totalBefore_11 (lv_at hl 3 rfl) ?_
  refine lv_if_eq (tgt := 92) hx hb dX8_totalBefore_13 (by decide) (fun c13 => ?_) (fun c13 => ?_)
  · skip
    have c13 : x = 0 := (xn_eq (a := x) (b := 0) (Nat.lt_of_le_of_lt hx9 (by decide)) (by decide)).mp c13
    refine lv_lload_n hx hb dX8_totalBefore_92 rfl (lv_at hl 2 rfl) ?_
    exact W.lret (v := b) hx hb hr (fun t9 e9 w9 => ⟨⟨_, (ky, vl, lf, rt, ct, ht, tt, sp, pa, ro, ss, dp, rn, od, kd), rfl, ⟨(hg.trans (by first | (cases n with | zero => rfl | succ n => rw [tb_go, if_pos c13]) | (obtain rfl : n = 0 := (by omega); rfl))).symm, rfl⟩, by rw [e9]; exact hP, hD⟩, hS.F e9⟩) hS.2.2 dX8_totalBefore_93
  · skip
    have c13 : ¬ x = 0 := fun h9 => c13 ((xn_eq (a := x) (b := 0) (Nat.lt_of_le_of_lt hx9 (by decide)) (by decide)).mpr h9)
    refine lv_iload hx hb dX8_totalBefore_16 (lv_at hl 4 rfl) ?_
    refine lv_bipush (v := 60) hx hb dX8_totalBefore_18 (by decide) ?_
    refine lv_icmp_ge (tgt := 92) hx hb dX8_totalBefore_20 (by decide) (fun c20 => ?_) (fun c20 => ?_)
    · skip
      have c20 : 60 ≤ k := (xn_le (a := 60) (b := k) (by decide) (by omega)).mp c20
      refine lv_lload_n hx hb dX8_totalBefore_92 rfl (lv_at hl 2 rfl) ?_
      exact W.lret (v := b) hx hb hr (fun t9 e9 w9 => ⟨⟨_, (ky, vl, lf, rt, ct, ht, tt, sp, pa, ro, ss, dp, rn, od, kd), rfl, ⟨(hg.trans (by first | (cases n with | zero => rfl | succ n => rw [tb_go, if_pos c13]) | (obtain rfl : n = 0 := (by omega); rfl))).symm, rfl⟩, by rw [e9]; exact hP, hD⟩, hS.F e9⟩) hS.2.2 dX8_totalBefore_93
    · skip
      have c20 : ¬ 60 ≤ k := fun h9 => c20 ((xn_le (a := 60) (b := k) (by decide) (by omega)).mpr h9)
      obtain ⟨n, rfl⟩ : ∃ k, n = k + 1 := ⟨n - 1, by omega⟩
      refine lv_aload_n hx hb dX8_totalBefore_23 rfl (lv_at hl 0 rfl) ?_
      refine va_get (D := D) (ci := 6) (v := .int od) (C := RX8) (T := TX8) (N := 15) hx hb hts inX8 hown hKN.1 hP 0 rfl rfl 13 (by decide) (hts (.fieldLink RX8 51 "TreeFamily$Tree" "order" "I") (by decide +kernel)) (fun _ h9 => h9) rfl dX8_totalBefore_24 ?_
      refine lv_aload_n hx hb dX8_totalBefore_27 rfl (lv_at hl 0 rfl) ?_
      refine va_get (D := D) (ci := 6) (v := .ref (a 1)) (C := RX8) (T := TX8) (N := 15) hx hb hts inX8 hown hKN.1 hP 0 rfl rfl 0 (by decide) (hts (.fieldLink RX8 9 "TreeFamily$Tree" "keys" "[I") (by decide +kernel)) (fun _ h9 => h9) rfl dX8_totalBefore_28 ?_
      refine lv_iload hx hb dX8_totalBefore_31 (lv_at hl 3 rfl) ?_
      refine xr_ild hx hb hKN.1 hP 1 0 rfl rfl (j := x) (Nat.lt_of_le_of_lt hx9 (by decide)) (by decide) dX8_totalBefore_33 ?_
      refine lv_iload_n hx hb dX8_totalBefore_34 rfl (lv_at hl 1 rfl) ?_
      refine xs_i (va_runSN (As := [.int od, .int (ky x), .int key]) (rest := []) ⟨hx, hb, hml, hown, hts⟩ (c_X10_goesBefore l _ _ _) ⟨va_cnB 3 hts gX8_totalBefore_X10_goesBefore_n64 rfl rfl rfl (NW.m hKN.2 (a := RX8) (i := 64) (x := yX10_goesBefore) (g := "TreeFamily") (by decide +kernel)) (hts _ (List.mem_of_elem_eq_true (by decide +kernel) : Cond.initialized yX10_goesBefore.cls ∈ wsX8_totalBefore)) (by decide +kernel) ⟨(Nat.le_of_ble_eq_true rfl), (Nat.le_of_ble_eq_true rfl)⟩, hts (.static yX10_goesBefore) (by decide +kernel), trivial⟩ xPreT rfl rfl hl.1 rfl (lv_room (Nat.le_of_ble_eq_true rfl)) dX8_totalBefore_35 ⟨(Nat.le_of_ble_eq_true rfl), (Nat.le_of_ble_eq_true rfl)⟩) (fun r35 er35 => ?_)
      subst er35
      refine lv_if_eq (tgt := 77) hx hb dX8_totalBefore_38 (by decide) (fun c38 => ?_) (fun c38 => ?_)
      · skip
        have c38 := bI_0.mp c38
        refine lv_aload_n hx hb dX8_totalBefore_77 rfl (lv_at hl 0 rfl) ?_
        refine va_get (D := D) (ci := 6) (v := .ref (a 3)) (C := RX8) (T := TX8) (N := 15) hx hb hts inX8 hown hKN.1 hP 0 rfl rfl 2 (by decide) (hts (.fieldLink RX8 18 "TreeFamily$Tree" "left" "[I") (by decide +kernel)) (fun _ h9 => h9) rfl dX8_totalBefore_78 ?_
        refine lv_iload hx hb dX8_totalBefore_81 (lv_at hl 3 rfl) ?_
        refine xr_ild hx hb hKN.1 hP 3 0 rfl rfl (j := x) (Nat.lt_of_le_of_lt hx9 (by decide)) (by decide) dX8_totalBefore_83 ?_
        refine lv_istore (lv' := [(4, .int (nI (lf x))), (0, .ref (a 0)), (1, .int key), (2, .long b), (5, .int (nI k))]) hx hb dX8_totalBefore_84 hl (by decide) rfl (fun ls hl => ?_)
        refine lv_iinc (v := (nI (k + 1))) (lv' := [(5, .int (nI (k + 1))), (4, .int (nI (lf x))), (0, .ref (a 0)), (1, .int key), (2, .long b)]) hx hb dX8_totalBefore_86 hl (k := 4) rfl (nI_1 _) (by decide) rfl (fun ls hl => ?_)
        refine lv_goto (tgt := 11) hx hb dX8_totalBefore_89 (by decide) ?_
        exact ih n (by omega) (lf x, b, k + 1) _ _ _ ⟨(hlf x), (by omega), hg.trans (by rw [tb_go, if_neg c13]; first | rw [if_pos c38] | rw [if_neg (by rw [c38]; decide)]), hP, hD, hS, lv_sub hl [2, 3, 4, 1, 0] rfl⟩
      · skip
        have c38 := bI_ne.mp c38
        refine lv_lload_n hx hb dX8_totalBefore_41 rfl (lv_at hl 2 rfl) ?_
        refine lv_aload_n hx hb dX8_totalBefore_42 rfl (lv_at hl 0 rfl) ?_
        refine va_get (D := D) (ci := 6) (v := .ref (a 7)) (C := RX8) (T := TX8) (N := 15) hx hb hts inX8 hown hKN.1 hP 0 rfl rfl 6 (by decide) (hts (.fieldLink RX8 30 "TreeFamily$Tree" "totals" "[J") (by decide +kernel)) (fun _ h9 => h9) rfl dX8_totalBefore_43 ?_
        refine lv_aload_n hx hb dX8_totalBefore_46 rfl (lv_at hl 0 rfl) ?_
        refine va_get (D := D) (ci := 6) (v := .ref (a 3)) (C := RX8) (T := TX8) (N := 15) hx hb hts inX8 hown hKN.1 hP 0 rfl rfl 2 (by decide) (hts (.fieldLink RX8 18 "TreeFamily$Tree" "left" "[I") (by decide +kernel)) (fun _ h9 => h9) rfl dX8_totalBefore_47 ?_
        refine lv_iload hx hb dX8_totalBefore_50 (lv_at hl 3 rfl) ?_
        refine xr_ild hx hb hKN.1 hP 3 0 rfl rfl (j := x) (Nat.lt_of_le_of_lt hx9 (by decide)) (by decide) dX8_totalBefore_52 ?_
        refine xr_lld hx hb hKN.1 hP 7 1 rfl rfl (j := lf x) (Nat.lt_of_le_of_lt (hlf x) (by decide)) (by decide) dX8_totalBefore_53 ?_
        refine lv_aload_n hx hb dX8_totalBefore_54 rfl (lv_at hl 0 rfl) ?_
        refine va_get (D := D) (ci := 6) (v := .ref (a 2)) (C := RX8) (T := TX8) (N := 15) hx hb hts inX8 hown hKN.1 hP 0 rfl rfl 1 (by decide) (hts (.fieldLink RX8 15 "TreeFamily$Tree" "values" "[I") (by decide +kernel)) (fun _ h9 => h9) rfl dX8_totalBefore_55 ?_
        refine lv_iload hx hb dX8_totalBefore_58 (lv_at hl 3 rfl) ?_
        refine xr_ild hx hb hKN.1 hP 2 0 rfl rfl (j := x) (Nat.lt_of_le_of_lt hx9 (by decide)) (by decide) dX8_totalBefore_60 ?_
        refine lv_i2l hx hb dX8_totalBefore_61 rfl ?_
        refine lv_ladd hx hb dX8_totalBefore_62 ?_
        refine lv_ladd hx hb dX8_totalBefore_63 ?_
        refine lv_lstore_n (lv' := [(2, .long (b + ((tt (lf x)) + ((vl x).toInt64)))), (0, .ref (a 0)), (1, .int key), (4, .int (nI x)), (5, .int (nI k))]) hx hb dX8_totalBefore_64 rfl hl (by decide) rfl (fun ls hl => ?_)
        refine lv_aload_n hx hb dX8_totalBefore_65 rfl (lv_at hl 1 rfl) ?_
        refine va_get (D := D) (ci := 6) (v := .ref (a 4)) (C := RX8) (T := TX8) (N := 15) hx hb hts inX8 hown hKN.1 hP 0 rfl rfl 3 (by decide) (hts (.fieldLink RX8 21 "TreeFamily$Tree" "right" "[I") (by decide +kernel)) (fun _ h9 => h9) rfl dX8_totalBefore_66 ?_
        refine lv_iload hx hb dX8_totalBefore_69 (lv_at hl 3 rfl) ?_
        refine xr_ild hx hb hKN.1 hP 4 0 rfl rfl (j := x) (Nat.lt_of_le_of_lt hx9 (by decide)) (by decide) dX8_totalBefore_71 ?_
        refine lv_istore (lv' := [(4, .int (nI (rt x))), (2, .long (b + ((tt (lf x)) + ((vl x).toInt64)))), (0, .ref (a 0)), (1, .int key), (5, .int (nI k))]) hx hb dX8_totalBefore_72 hl (by decide) rfl (fun ls hl => ?_)
        refine lv_goto (tgt := 86) hx hb dX8_totalBefore_74 (by decide) ?_
        refine lv_iinc (v := (nI (k + 1))) (lv' := [(5, .int (nI (k + 1))), (4, .int (nI (rt x))), (2, .long (b + ((tt (lf x)) + ((vl x).toInt64)))), (0, .ref (a 0)), (1, .int key)]) hx hb dX8_totalBefore_86 hl (k := 4) rfl (nI_1 _) (by decide) rfl (fun ls hl => ?_)
        refine lv_goto (tgt := 11) hx hb dX8_totalBefore_89 (by decide) ?_
        exact ih n (by omega) (rt x, b + ((tt (lf x)) + ((vl x).toInt64)), k + 1) _ _ _ ⟨(hrt x), (by omega), hg.trans (by rw [tb_go, if_neg c13]; first | rw [if_pos c38] | rw [if_neg (by rw [c38]; decide)]), hP, hD, hS, lv_sub hl [3, 4, 2, 1, 0] rfl⟩

-- Tree.nodeAt
set_option maxHeartbeats 4000000 in
set_option maxRecDepth 100000 in
theorem c_X8_nodeAt (l : Launch) (D : va_G) (ca : Nat → ClassId) (kq a : Nat → Nat) (sz : Nat) (ky vl : Nat → Int32) (lf rt : Nat → Nat) (ct ht : Nat → Int32) (tt : Nat → Int64) (sp pa ro : Nat → Nat) (ss dp rn : Nat) (od : Int32) (kd : Nat) (tp : Nat) (pl : Int32) (hlf : ∀ k, lf k ≤ 60) (hrt : ∀ k, rt k ≤ 60) (hsp : ∀ k, sp k ≤ 60) (hpa : ∀ k, pa k ≤ 60) (hro : ∀ k, ro k ≤ 60) (hrn : rn ≤ 60) (htp : tp ≤ 60): Met l yX8_nodeAt wsX8_nodeAt ({ frames := 1, cells := 0, slots := 0, locals := 21 } : Room) (xPc D (TY ca) [.ref (a 0), .int (nI tp), .int pl] (wT ca kq a (ky, vl, lf, rt, ct, ht, tt, sp, pa, ro, ss, dp, rn, od, kd)) sz) (va_Qi (fun (r : Int32) (u : TS) => r = nI (f_nodeAt (ky, vl, lf, rt, ct, ht, tt, sp, pa, ro, ss, dp, rn, od, kd) tp pl) ∧ u = (ky, vl, lf, rt, ct, ht, tt, sp, pa, ro, ss, dp, rn, od, kd)) (xB D (wT ca kq a) (va_A (wT ca kq a (ky, vl, lf, rt, ct, ht, tt, sp, pa, ro, ss, dp, rn, od, kd)) sz)) (va_A (wT ca kq a (ky, vl, lf, rt, ct, ht, tt, sp, pa, ro, ss, dp, rn, od, kd)) sz)) 0 0 (va_A (wT ca kq a (ky, vl, lf, rt, ct, ht, tt, sp, pa, ro, ss, dp, rn, od, kd)) sz) := by
  refine Met.ofW (cc := cX8_nodeAt) (maxL := 7) (ret := (some .int)) (by decide) rfl ?_
  intro p e s m args below meth c s₁ B hml hv
  obtain ⟨rfl, hsz, hP, hKN, hD0⟩ := hv
  have hx := B.exec
  have hb := B.bytes
  have hr := B.returns
  have hts := atoms_spec (ws := wsX8_nodeAt) B.pre
  have hown : s.vm.findClass RX8 = some m.cls := findClass_of_methodNamed B.named
  have hlocks := B.notSynchronized
  have inX8 : ∀ w ∈ wsX80, w ∈ wsX8_nodeAt := by decide +kernel
  subst hsz
  have hD := hD0.self (sz := s.heap.size)
  generalize hAe : va_A (wT ca kq a (ky, vl, lf, rt, ct, ht, tt, sp, pa, ro, ss, dp, rn, od, kd)) s.heap.size = A at hD ⊢
  have hA : ∀ q : Nat, s.heap.size ≤ q → A q := fun q h => by rw [← hAe]; exact Or.inr h
  have hS : va_S A s.heap s.heap [] := va_S.rf
  have hl := lv_entry ([.ref (a 0), .int (nI tp), .int pl]) (n := 7) (Nat.le_of_ble_eq_true rfl)
  rw [lg_entry_eq]
  generalize (lg_sl ([.ref (a 0), .int (nI tp), .int pl]) ++ List.replicate (7 - (lg_sl ([.ref (a 0), .int (nI tp), .int pl])).length) Slot.unset).toArray = ls at hl ⊢
  have hl : lv_has ls 7 [(0, .ref (a 0)), (1, .int (nI tp)), (2, .int pl)] := hl
  refine lv_iload_n hx hb dX8_nodeAt_0 rfl (lv_at hl 2 rfl) ?_
  refine lv_aload_n hx hb dX8_nodeAt_1 rfl (lv_at hl 0 rfl) ?_
  refine va_get (D := D) (ci := 6) (v := .ref (a 5)) (C := RX8) (T := TX8) (N := 15) hx hb hts inX8 hown hKN.1 hP 0 rfl rfl 4 (by decide) (hts (.fieldLink RX8 24 "TreeFamily$Tree" "counts" "[I") (by decide +kernel)) (fun _ h9 => h9) rfl dX8_nodeAt_2 ?_
  refine lv_iload_n hx hb dX8_nodeAt_5 rfl (lv_at hl 1 rfl) ?_
  refine xr_ild hx hb hKN.1 hP 5 0 rfl rfl (j := tp) (Nat.lt_of_le_of_lt htp (by decide)) (by decide) dX8_nodeAt_6 ?_
  refine xs_i (va_runSN (As := [.int pl, .int (ct tp)]) (rest := []) ⟨hx, hb, hml, hown, hts⟩ (c_X10_isBelow l _ _) ⟨va_cnB 2 hts gX8_nodeAt_X10_isBelow_n68 rfl rfl rfl (NW.m hKN.2 (a := RX8) (i := 68) (x := yX10_isBelow) (g := "TreeFamily") (by decide +kernel)) (hts _ (List.mem_of_elem_eq_true (by decide +kernel) : Cond.initialized yX10_isBelow.cls ∈ wsX8_nodeAt)) (by decide +kernel) ⟨(Nat.le_of_ble_eq_true rfl), (Nat.le_of_ble_eq_true rfl)⟩, hts (.static yX10_isBelow) (by decide +kernel), trivial⟩ xPreT rfl rfl hl.1 rfl (lv_room (Nat.le_of_ble_eq_true rfl)) dX8_nodeAt_7 ⟨(Nat.le_of_ble_eq_true rfl), (Nat.le_of_ble_eq_true rfl)⟩) (fun r7 er7 => ?_)
  subst er7
  refine lv_if_ne (tgt := 15) hx hb dX8_nodeAt_10 (by decide) (fun c10 => ?_) (fun c10 => ?_)
  · skip
    have c10 := bI_ne.mp c10
    refine lv_iload_n hx hb dX8_nodeAt_15 rfl (lv_at hl 1 rfl) ?_
    refine lv_istore_n (lv' := [(3, .int (nI tp)), (0, .ref (a 0)), (1, .int (nI tp)), (2, .int pl)]) hx hb dX8_nodeAt_16 rfl hl (by decide) rfl (fun ls hl => ?_)
    refine lv_iload_n hx hb dX8_nodeAt_17 rfl (lv_at hl 3 rfl) ?_
    refine lv_istore (lv' := [(4, .int pl), (3, .int (nI tp)), (0, .ref (a 0)), (1, .int (nI tp)), (2, .int pl)]) hx hb dX8_nodeAt_18 hl (by decide) rfl (fun ls hl => ?_)
    refine lv_iconst (v := 0) hx hb dX8_nodeAt_20 (by decide) ?_
    refine lv_istore (lv' := [(5, .int 0), (4, .int pl), (3, .int (nI tp)), (0, .ref (a 0)), (1, .int (nI tp)), (2, .int pl)]) hx hb dX8_nodeAt_21 hl (by decide) rfl (fun ls hl => ?_)
    refine xl 23 (σ := Nat × Int32 × Nat) (fun n u H locs ls => match u with | (x, i, k) => x ≤ 60 ∧ k + n = 60 ∧ f_nodeAt (ky, vl, lf, rt, ct, ht, tt, sp, pa, ro, ss, dp, rn, od, kd) tp pl = na_go (ky, vl, lf, rt, ct, ht, tt, sp, pa, ro, ss, dp, rn, od, kd) n x i ∧ va_P D vwCl (wT ca kq a (ky, vl, lf, rt, ct, ht, tt, sp, pa, ro, ss, dp, rn, od, kd)) H ∧ va_D A (wT ca kq a (ky, vl, lf, rt, ct, ht, tt, sp, pa, ro, ss, dp, rn, od, kd)) ∧ va_S A s.heap H locs ∧ lv_has ls 7 [(0, .ref (a 0)), (1, .int (nI tp)), (2, .int pl), (3, .int (nI x)), (4, .int i), (5, .int (nI k))]) ?_ 60 (tp, pl, 0) _ _ _ ⟨htp, rfl, (if_pos c10), hP, hD, hS, lv_sub hl [3, 4, 5, 2, 1, 0] rfl⟩
    clear hP hD hS hl
    intro n ih u H locs ls hI
    obtain ⟨x, i, k⟩ := u
    obtain ⟨hx9, hn, hg, hP, hD, hS, hl⟩ := hI
    refine lv_iload_n hx hb dX8_nodeAt_23 rfl (lv_at hl 3 rfl) ?_
    refine lv_if_eq (tgt := 95) hx hb dX8_nodeAt_24 (by decide) (fun c24 => ?_) (fun c24 => ?_)
    · skip
      have c24 : x = 0 := (xn_eq (a := x) (b := 0) (Nat.lt_of_le_of_lt hx9 (by decide)) (by decide)).mp c24
      refine lv_iconst (v := 0) hx hb dX8_nodeAt_95 (by decide) ?_
      exact W.iret (v := 0) hx hb hr (fun t9 e9 w9 => ⟨⟨_, (ky, vl, lf, rt, ct, ht, tt, sp, pa, ro, ss, dp, rn, od, kd), rfl, ⟨(congrArg nI (hg.trans (by first | (cases n with | zero => rfl | succ n => rw [na_go, if_pos c24]) | (obtain rfl : n = 0 := (by omega); rfl)))).symm, rfl⟩, by rw [e9]; exact hP, hD⟩, hS.F e9⟩) hS.2.2 dX8_nodeAt_96
    · skip
      have c24 : ¬ x = 0 := fun h9 => c24 ((xn_eq (a := x) (b := 0) (Nat.lt_of_le_of_lt hx9 (by decide)) (by decide)).mpr h9)
      refine lv_iload hx hb dX8_nodeAt_27 (lv_at hl 5 rfl) ?_
      refine lv_bipush (v := 60) hx hb dX8_nodeAt_29 (by decide) ?_
      refine lv_icmp_ge (tgt := 95) hx hb dX8_nodeAt_31 (by decide) (fun c31 => ?_) (fun c31 => ?_)
      · skip
        have c31 : 60 ≤ k := (xn_le (a := 60) (b := k) (by decide) (by omega)).mp c31
        refine lv_iconst (v := 0) hx hb dX8_nodeAt_95 (by decide) ?_
        exact W.iret (v := 0) hx hb hr (fun t9 e9 w9 => ⟨⟨_, (ky, vl, lf, rt, ct, ht, tt, sp, pa, ro, ss, dp, rn, od, kd), rfl, ⟨(congrArg nI (hg.trans (by first | (cases n with | zero => rfl | succ n => rw [na_go, if_pos c24]) | (obtain rfl : n = 0 := (by omega); rfl)))).symm, rfl⟩, by rw [e9]; exact hP, hD⟩, hS.F e9⟩) hS.2.2 dX8_nodeAt_96
      · skip
        have c31 : ¬ 60 ≤ k := fun h9 => c31 ((xn_le (a := 60) (b := k) (by decide) (by omega)).mpr h9)
        obtain ⟨n, rfl⟩ : ∃ k, n = k + 1 := ⟨n - 1, by omega⟩
        refine lv_aload_n hx hb dX8_nodeAt_34 rfl (lv_at hl 0 rfl) ?_
        refine va_get (D := D) (ci := 6) (v := .ref (a 5)) (C := RX8) (T := TX8) (N := 15) hx hb hts inX8 hown hKN.1 hP 0 rfl rfl 4 (by decide) (hts (.fieldLink RX8 24 "TreeFamily$Tree" "counts" "[I") (by decide +kernel)) (fun _ h9 => h9) rfl dX8_nodeAt_35 ?_
        refine lv_aload_n hx hb dX8_nodeAt_38 rfl (lv_at hl 0 rfl) ?_
        refine va_get (D := D) (ci := 6) (v := .ref (a 3)) (C := RX8) (T := TX8) (N := 15) hx hb hts inX8 hown hKN.1 hP 0 rfl rfl 2 (by decide) (hts (.fieldLink RX8 18 "TreeFamily$Tree" "left" "[I") (by decide +kernel)) (fun _ h9 => h9) rfl dX8_nodeAt_39 ?_
        refine lv_iload_n hx hb dX8_nodeAt_42 rfl (lv_at hl 3 rfl) ?_
        refine xr_ild hx hb hKN.1 hP 3 0 rfl rfl (j := x) (Nat.lt_of_le_of_lt hx9 (by decide)) (by decide) dX8_nodeAt_43 ?_
        refine xr_ild hx hb hKN.1 hP 5 0 rfl rfl (j := lf x) (Nat.lt_of_le_of_lt (hlf x) (by decide)) (by decide) dX8_nodeAt_44 ?_
        refine lv_istore (lv' := [(6, .int (ct (lf x))), (0, .ref (a 0)), (1, .int (nI tp)), (2, .int pl), (3, .int (nI x)), (4, .int i), (5, .int (nI k))]) hx hb dX8_nodeAt_45 hl (by decide) rfl (fun ls hl => ?_)
        refine lv_iload hx hb dX8_nodeAt_47 (lv_at hl 5 rfl) ?_
        refine lv_iload hx hb dX8_nodeAt_49 (lv_at hl 0 rfl) ?_
        refine lv_icmp_ne (tgt := 56) hx hb dX8_nodeAt_51 (by decide) (fun c51 => ?_) (fun c51 => ?_)
        · skip
          refine lv_iload hx hb dX8_nodeAt_56 (lv_at hl 5 rfl) ?_
          refine lv_iload hx hb dX8_nodeAt_58 (lv_at hl 0 rfl) ?_
          refine lv_icmp_ge (tgt := 73) hx hb dX8_nodeAt_60 (by decide) (fun c60 => ?_) (fun c60 => ?_)
          · skip
            refine lv_iload hx hb dX8_nodeAt_73 (lv_at hl 5 rfl) ?_
            refine lv_iload hx hb dX8_nodeAt_75 (lv_at hl 0 rfl) ?_
            refine lv_iconst (v := 1) hx hb dX8_nodeAt_77 (by decide) ?_
            refine lv_iadd hx hb dX8_nodeAt_78 ?_
            refine lv_isub hx hb dX8_nodeAt_79 ?_
            refine lv_istore (lv' := [(4, .int (i - ((ct (lf x)) + 1))), (6, .int (ct (lf x))), (0, .ref (a 0)), (1, .int (nI tp)), (2, .int pl), (3, .int (nI x)), (5, .int (nI k))]) hx hb dX8_nodeAt_80 hl (by decide) rfl (fun ls hl => ?_)
            refine lv_aload_n hx hb dX8_nodeAt_82 rfl (lv_at hl 2 rfl) ?_
            refine va_get (D := D) (ci := 6) (v := .ref (a 4)) (C := RX8) (T := TX8) (N := 15) hx hb hts inX8 hown hKN.1 hP 0 rfl rfl 3 (by decide) (hts (.fieldLink RX8 21 "TreeFamily$Tree" "right" "[I") (by decide +kernel)) (fun _ h9 => h9) rfl dX8_nodeAt_83 ?_
            refine lv_iload_n hx hb dX8_nodeAt_86 rfl (lv_at hl 5 rfl) ?_
            refine xr_ild hx hb hKN.1 hP 4 0 rfl rfl (j := x) (Nat.lt_of_le_of_lt hx9 (by decide)) (by decide) dX8_nodeAt_87 ?_
            refine lv_istore_n (lv' := [(3, .int (nI (rt x))), (4, .int (i - ((ct (lf x)) + 1))), (6, .int (ct (lf x))), (0, .ref (a 0)), (1, .int (nI tp)), (2, .int pl), (5, .int (nI k))]) hx hb dX8_nodeAt_88 rfl hl (by decide) rfl (fun ls hl => ?_)
            refine lv_iinc (v := (nI (k + 1))) (lv' := [(5, .int (nI (k + 1))), (3, .int (nI (rt x))), (4, .int (i - ((ct (lf x)) + 1))), (6, .int (ct (lf x))), (0, .ref (a 0)), (1, .int (nI tp)), (2, .int pl)]) hx hb dX8_nodeAt_89 hl (k := 6) rfl (nI_1 _) (by decide) rfl (fun ls hl => ?_)
            refine lv_goto (tgt := 23) hx hb dX8_nodeAt_92 (by decide) ?_
            exact ih n (by omega) (rt x, i - ((ct (lf x)) + 1), k + 1) _ _ _ ⟨(hrt x), (by omega), hg.trans (by rw [na_go, if_neg c24, if_neg c51]; first | rw [if_pos c60] | rw [if_neg c60]), hP, hD, hS, lv_sub hl [4, 5, 6, 1, 2, 0] rfl⟩
          · skip
            refine lv_aload_n hx hb dX8_nodeAt_63 rfl (lv_at hl 1 rfl) ?_
            refine va_get (D := D) (ci := 6) (v := .ref (a 3)) (C := RX8) (T := TX8) (N := 15) hx hb hts inX8 hown hKN.1 hP 0 rfl rfl 2 (by decide) (hts (.fieldLink RX8 18 "TreeFamily$Tree" "left" "[I") (by decide +kernel)) (fun _ h9 => h9) rfl dX8_nodeAt_64 ?_
            refine lv_iload_n hx hb dX8_nodeAt_67 rfl (lv_at hl 4 rfl) ?_
            refine xr_ild hx hb hKN.1 hP 3 0 rfl rfl (j := x) (Nat.lt_of_le_of_lt hx9 (by decide)) (by decide) dX8_nodeAt_68 ?_
            refine lv_istore_n (lv' := [(3, .int (nI (lf x))), (6, .int (ct (lf x))), (0, .ref (a 0)), (1, .int (nI tp)), (2, .int pl), (4, .int i), (5, .int (nI k))]) hx hb dX8_nodeAt_69 rfl hl (by decide) rfl (fun ls hl => ?_)
            refine lv_goto (tgt := 89) hx hb dX8_nodeAt_70 (by decide) ?_
            refine lv_iinc (v := (nI (k + 1))) (lv' := [(5, .int (nI (k + 1))), (3, .int (nI (lf x))), (6, .int (ct (lf x))), (0, .ref (a 0)), (1, .int (nI tp)), (2, .int pl), (4, .int i)]) hx hb dX8_nodeAt_89 hl (k := 6) rfl (nI_1 _) (by decide) rfl (fun ls hl => ?_)
            refine lv_goto (tgt := 23) hx hb dX8_nodeAt_92 (by decide) ?_
            exact ih n (by omega) (lf x, i, k + 1) _ _ _ ⟨(hlf x), (by omega), hg.trans (by rw [na_go, if_neg c24, if_neg c51]; first | rw [if_pos c60] | rw [if_neg c60]), hP, hD, hS, lv_sub hl [3, 4, 5, 1, 6, 0] rfl⟩
        · skip
          refine lv_iload_n hx hb dX8_nodeAt_54 rfl (lv_at hl 4 rfl) ?_
          exact W.iret (v := (nI x)) hx hb hr (fun t9 e9 w9 => ⟨⟨_, (ky, vl, lf, rt, ct, ht, tt, sp, pa, ro, ss, dp, rn, od, kd), rfl, ⟨(congrArg nI (hg.trans (by rw [na_go, if_neg c24, if_pos c51]))).symm, rfl⟩, by rw [e9]; exact hP, hD⟩, hS.F e9⟩) hS.2.2 dX8_nodeAt_55
  · skip
    have c10 := bI_0.mp c10
    refine lv_iconst (v := 0) hx hb dX8_nodeAt_13 (by decide) ?_
    exact W.iret (v := 0) hx hb hr (fun t9 e9 w9 => ⟨⟨_, (ky, vl, lf, rt, ct, ht, tt, sp, pa, ro, ss, dp, rn, od, kd), rfl, ⟨(by unfold f_nodeAt; rw [if_neg (by rw [c10]; decide)]; rfl), rfl⟩, by rw [e9]; exact hP, hD⟩, hS.F e9⟩) hS.2.2 dX8_nodeAt_14
