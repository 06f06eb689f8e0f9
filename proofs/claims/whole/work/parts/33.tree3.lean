-- Tree.takeFollower
set_option maxHeartbeats 4000000 in
set_option maxRecDepth 100000 in
theorem c_X8_takeFollower (l : Launch) (D : va_G) (ca : Nat → ClassId) (kq a : Nat → Nat) (sz : Nat) (ky vl : Nat → Int32) (lf rt : Nat → Nat) (ct ht : Nat → Int32) (tt : Nat → Int64) (sp pa ro : Nat → Nat) (ss dp rn : Nat) (od : Int32) (kd : Nat) (x : Nat) (hlf : ∀ k, lf k ≤ 60) (hrt : ∀ k, rt k ≤ 60) (hsp : ∀ k, sp k ≤ 60) (hpa : ∀ k, pa k ≤ 60) (hro : ∀ k, ro k ≤ 60) (hrn : rn ≤ 60) (hx60 : x ≤ 60) (hd1 : 1 ≤ dp) (hd60 : dp ≤ 60): Met l yX8_takeFollower wsX8_takeFollower ({ frames := 0, cells := 0, slots := 0, locals := 0 } : Room) (xPc D (TY ca) [.ref (a 0), .int (nI x)] (wT ca kq a (ky, vl, lf, rt, ct, ht, tt, sp, pa, ro, ss, dp, rn, od, kd)) sz) (va_Qv (fun u : TS => u = f_takeFollower (ky, vl, lf, rt, ct, ht, tt, sp, pa, ro, ss, dp, rn, od, kd) x) (xB D (wT ca kq a) (va_A (wT ca kq a (ky, vl, lf, rt, ct, ht, tt, sp, pa, ro, ss, dp, rn, od, kd)) sz)) (va_A (wT ca kq a (ky, vl, lf, rt, ct, ht, tt, sp, pa, ro, ss, dp, rn, od, kd)) sz)) 0 0 (va_A (wT ca kq a (ky, vl, lf, rt, ct, ht, tt, sp, pa, ro, ss, dp, rn, od, kd)) sz) := by
  refine Met.ofW (cc := cX8_takeFollower) (maxL := 4) (ret := none) (by decide) rfl ?_
  intro p e s m args below meth c s₁ B hml hv
  obtain ⟨rfl, hsz, hP, hKN, hD0⟩ := hv
  have hx := B.exec
  have hb := B.bytes
  have hr := B.returns
  have hts := atoms_spec (ws := wsX8_takeFollower) B.pre
  have hown : s.vm.findClass RX8 = some m.cls := findClass_of_methodNamed B.named
  have hlocks := B.notSynchronized
  have inX8 : ∀ w ∈ wsX80, w ∈ wsX8_takeFollower := by decide +kernel
  subst hsz
  have hD := hD0.self (sz := s.heap.size)
  generalize hAe : va_A (wT ca kq a (ky, vl, lf, rt, ct, ht, tt, sp, pa, ro, ss, dp, rn, od, kd)) s.heap.size = A at hD ⊢
  have hA : ∀ q : Nat, s.heap.size ≤ q → A q := fun q h => by rw [← hAe]; exact Or.inr h
  have hS : va_S A s.heap s.heap [] := va_S.rf
  have hl := lv_entry ([.ref (a 0), .int (nI x)]) (n := 4) (Nat.le_of_ble_eq_true rfl)
  rw [lg_entry_eq]
  generalize (lg_sl ([.ref (a 0), .int (nI x)]) ++ List.replicate (4 - (lg_sl ([.ref (a 0), .int (nI x)])).length) Slot.unset).toArray = ls at hl ⊢
  have hl : lv_has ls 4 [(0, .ref (a 0)), (1, .int (nI x))] := hl
  refine lv_aload_n hx hb dX8_takeFollower_0 rfl (lv_at hl 0 rfl) ?_
  refine va_get (D := D) (ci := 6) (v := .ref (a 4)) (C := RX8) (T := TX8) (N := 15) hx hb hts inX8 hown hKN.1 hP 0 rfl rfl 3 (by decide) (hts (.fieldLink RX8 21 "TreeFamily$Tree" "right" "[I") (by decide +kernel)) (fun _ h9 => h9) rfl dX8_takeFollower_1 ?_
  refine lv_iload_n hx hb dX8_takeFollower_4 rfl (lv_at hl 1 rfl) ?_
  refine xr_ild hx hb hKN.1 hP 4 0 rfl rfl (j := x) (Nat.lt_of_le_of_lt hx60 (by decide)) (by decide) dX8_takeFollower_5 ?_
  refine lv_istore_n (lv' := [(2, .int (nI (rt x))), (0, .ref (a 0)), (1, .int (nI x))]) hx hb dX8_takeFollower_6 rfl hl (by decide) rfl (fun ls hl => ?_)
  refine xl 7 (σ := Nat × Nat × (Nat → Nat)) (fun n u H locs ls => match u with | (y, d, q) => y ≤ 60 ∧ d + n = 60 ∧ 1 ≤ d ∧ (∀ k, q k ≤ 60) ∧ tf_go lf (60 - dp) (rt x) dp pa = tf_go lf n y d q ∧ va_P D vwCl (wT ca kq a (ky, vl, lf, rt, ct, ht, tt, sp, q, ro, ss, d, rn, od, kd)) H ∧ va_D A (wT ca kq a (ky, vl, lf, rt, ct, ht, tt, sp, q, ro, ss, d, rn, od, kd)) ∧ va_S A s.heap H locs ∧ lv_has ls 4 [(0, .ref (a 0)), (1, .int (nI x)), (2, .int (nI y))]) ?_ (60 - dp) (rt x, dp, pa) _ _ _ ⟨(hrt x), (by omega), hd1, hpa, rfl, hP, hD, hS, lv_sub hl [1, 2, 0] rfl⟩
  clear hP hD hS hl
  intro n ih u H locs ls hI
  obtain ⟨y, d, q⟩ := u
  obtain ⟨hy9, hn, hd9, hq, hg, hP, hD, hS, hl⟩ := hI
  refine lv_iload_n hx hb dX8_takeFollower_7 rfl (lv_at hl 2 rfl) ?_
  refine lv_if_eq (tgt := 50) hx hb dX8_takeFollower_8 (by decide) (fun c8 => ?_) (fun c8 => ?_)
  · skip
    have c8 : y = 0 := (xn_eq (a := y) (b := 0) (Nat.lt_of_le_of_lt hy9 (by decide)) (by decide)).mp c8
    refine lv_aload_n hx hb dX8_takeFollower_50 rfl (lv_at hl 0 rfl) ?_
    refine va_get (D := D) (ci := 6) (v := .ref (a 9)) (C := RX8) (T := TX8) (N := 15) hx hb hts inX8 hown hKN.1 hP 0 rfl rfl 8 (by decide) (hts (.fieldLink RX8 37 "TreeFamily$Tree" "path" "[I") (by decide +kernel)) (fun _ h9 => h9) rfl dX8_takeFollower_51 ?_
    refine lv_aload_n hx hb dX8_takeFollower_54 rfl (lv_at hl 0 rfl) ?_
    refine va_get (D := D) (ci := 6) (v := .int (nI d)) (C := RX8) (T := TX8) (N := 15) hx hb hts inX8 hown hKN.1 hP 0 rfl rfl 11 (by decide) (hts (.fieldLink RX8 58 "TreeFamily$Tree" "depth" "I") (by decide +kernel)) (fun _ h9 => h9) rfl dX8_takeFollower_55 ?_
    refine lv_iconst (v := 1) hx hb dX8_takeFollower_58 (by decide) ?_
    refine lv_isub hx hb dX8_takeFollower_59 ?_
    refine xr_top (y := nI (d - 1)) (pk_sub (a := d) (b := 1) (by omega)) ?_
    refine xr_ild hx hb hKN.1 hP 9 0 rfl rfl (j := d - 1) (by omega) (by decide) dX8_takeFollower_60 ?_
    refine lv_istore_n (lv' := [(3, .int (nI (q (d - 1)))), (0, .ref (a 0)), (1, .int (nI x)), (2, .int (nI y))]) hx hb dX8_takeFollower_61 rfl hl (by decide) rfl (fun ls hl => ?_)
    refine lv_aload_n hx hb dX8_takeFollower_62 rfl (lv_at hl 1 rfl) ?_
    refine va_get (D := D) (ci := 6) (v := .ref (a 1)) (C := RX8) (T := TX8) (N := 15) hx hb hts inX8 hown hKN.1 hP 0 rfl rfl 0 (by decide) (hts (.fieldLink RX8 9 "TreeFamily$Tree" "keys" "[I") (by decide +kernel)) (fun _ h9 => h9) rfl dX8_takeFollower_63 ?_
    refine lv_iload_n hx hb dX8_takeFollower_66 rfl (lv_at hl 2 rfl) ?_
    refine lv_aload_n hx hb dX8_takeFollower_67 rfl (lv_at hl 1 rfl) ?_
    refine va_get (D := D) (ci := 6) (v := .ref (a 1)) (C := RX8) (T := TX8) (N := 15) hx hb hts inX8 hown hKN.1 hP 0 rfl rfl 0 (by decide) (hts (.fieldLink RX8 9 "TreeFamily$Tree" "keys" "[I") (by decide +kernel)) (fun _ h9 => h9) rfl dX8_takeFollower_68 ?_
    refine lv_iload_n hx hb dX8_takeFollower_71 rfl (lv_at hl 0 rfl) ?_
    refine xr_ild hx hb hKN.1 hP 1 0 rfl rfl (j := q (d - 1)) (Nat.lt_of_le_of_lt (hq (d - 1)) (by decide)) (by decide) dX8_takeFollower_72 ?_
    refine xr_ist hx hb hKN.1 hP hD hS 1 0 rfl rfl (j := x) (Nat.lt_of_le_of_lt hx60 (by decide)) (by decide) dX8_takeFollower_73 (fun H locs hP hD hS => ?_)
    have hP : va_P D vwCl (wT ca kq a ((upd ky x (ky (q (d - 1)))), vl, lf, rt, ct, ht, tt, sp, q, ro, ss, d, rn, od, kd)) H := hP
    have hD : va_D A (wT ca kq a ((upd ky x (ky (q (d - 1)))), vl, lf, rt, ct, ht, tt, sp, q, ro, ss, d, rn, od, kd)) := hD
    refine lv_aload_n hx hb dX8_takeFollower_74 rfl (lv_at hl 1 rfl) ?_
    refine va_get (D := D) (ci := 6) (v := .ref (a 2)) (C := RX8) (T := TX8) (N := 15) hx hb hts inX8 hown hKN.1 hP 0 rfl rfl 1 (by decide) (hts (.fieldLink RX8 15 "TreeFamily$Tree" "values" "[I") (by decide +kernel)) (fun _ h9 => h9) rfl dX8_takeFollower_75 ?_
    refine lv_iload_n hx hb dX8_takeFollower_78 rfl (lv_at hl 2 rfl) ?_
    refine lv_aload_n hx hb dX8_takeFollower_79 rfl (lv_at hl 1 rfl) ?_
    refine va_get (D := D) (ci := 6) (v := .ref (a 2)) (C := RX8) (T := TX8) (N := 15) hx hb hts inX8 hown hKN.1 hP 0 rfl rfl 1 (by decide) (hts (.fieldLink RX8 15 "TreeFamily$Tree" "values" "[I") (by decide +kernel)) (fun _ h9 => h9) rfl dX8_takeFollower_80 ?_
    refine lv_iload_n hx hb dX8_takeFollower_83 rfl (lv_at hl 0 rfl) ?_
    refine xr_ild hx hb hKN.1 hP 2 0 rfl rfl (j := q (d - 1)) (Nat.lt_of_le_of_lt (hq (d - 1)) (by decide)) (by decide) dX8_takeFollower_84 ?_
    refine xr_ist hx hb hKN.1 hP hD hS 2 0 rfl rfl (j := x) (Nat.lt_of_le_of_lt hx60 (by decide)) (by decide) dX8_takeFollower_85 (fun H locs hP hD hS => ?_)
    have hP : va_P D vwCl (wT ca kq a ((upd ky x (ky (q (d - 1)))), (upd vl x (vl (q (d - 1)))), lf, rt, ct, ht, tt, sp, q, ro, ss, d, rn, od, kd)) H := hP
    have hD : va_D A (wT ca kq a ((upd ky x (ky (q (d - 1)))), (upd vl x (vl (q (d - 1)))), lf, rt, ct, ht, tt, sp, q, ro, ss, d, rn, od, kd)) := hD
    exact W.vret hx hb hr (fun t9 e9 w9 => ⟨⟨((upd ky x (ky (q (d - 1)))), (upd vl x (vl (q (d - 1)))), lf, rt, ct, ht, tt, sp, q, ro, ss, d, rn, od, kd), rfl, by have h9 : tf_go lf (60 - dp) (rt x) dp pa = (d, q) := hg.trans (by first | (cases n with | zero => rfl | succ n => rw [tf_go, if_pos c8]) | (obtain rfl : n = 0 := (by omega); rfl)); show _ = setKV (setPa (ky, vl, lf, rt, ct, ht, tt, sp, pa, ro, ss, dp, rn, od, kd) (tf_go lf (60 - dp) (rt x) dp pa).2 (tf_go lf (60 - dp) (rt x) dp pa).1) x ((tf_go lf (60 - dp) (rt x) dp pa).2 ((tf_go lf (60 - dp) (rt x) dp pa).1 - 1)); rw [h9]; rfl, by rw [e9]; exact hP, hD⟩, hS.F e9⟩) hS.2.2 dX8_takeFollower_86
  · skip
    have c8 : ¬ y = 0 := fun h9 => c8 ((xn_eq (a := y) (b := 0) (Nat.lt_of_le_of_lt hy9 (by decide)) (by decide)).mpr h9)
    refine lv_aload_n hx hb dX8_takeFollower_11 rfl (lv_at hl 0 rfl) ?_
    refine va_get (D := D) (ci := 6) (v := .int (nI d)) (C := RX8) (T := TX8) (N := 15) hx hb hts inX8 hown hKN.1 hP 0 rfl rfl 11 (by decide) (hts (.fieldLink RX8 58 "TreeFamily$Tree" "depth" "I") (by decide +kernel)) (fun _ h9 => h9) rfl dX8_takeFollower_12 ?_
    refine lv_bipush (v := 60) hx hb dX8_takeFollower_15 (by decide) ?_
    refine lv_icmp_ge (tgt := 50) hx hb dX8_takeFollower_17 (by decide) (fun c17 => ?_) (fun c17 => ?_)
    · skip
      have c17 : 60 ≤ d := (xn_le (a := 60) (b := d) (by decide) (by omega)).mp c17
      refine lv_aload_n hx hb dX8_takeFollower_50 rfl (lv_at hl 0 rfl) ?_
      refine va_get (D := D) (ci := 6) (v := .ref (a 9)) (C := RX8) (T := TX8) (N := 15) hx hb hts inX8 hown hKN.1 hP 0 rfl rfl 8 (by decide) (hts (.fieldLink RX8 37 "TreeFamily$Tree" "path" "[I") (by decide +kernel)) (fun _ h9 => h9) rfl dX8_takeFollower_51 ?_
      refine lv_aload_n hx hb dX8_takeFollower_54 rfl (lv_at hl 0 rfl) ?_
      refine va_get (D := D) (ci := 6) (v := .int (nI d)) (C := RX8) (T := TX8) (N := 15) hx hb hts inX8 hown hKN.1 hP 0 rfl rfl 11 (by decide) (hts (.fieldLink RX8 58 "TreeFamily$Tree" "depth" "I") (by decide +kernel)) (fun _ h9 => h9) rfl dX8_takeFollower_55 ?_
      refine lv_iconst (v := 1) hx hb dX8_takeFollower_58 (by decide) ?_
      refine lv_isub hx hb dX8_takeFollower_59 ?_
      refine xr_top (y := nI (d - 1)) (pk_sub (a := d) (b := 1) (by omega)) ?_
      refine xr_ild hx hb hKN.1 hP 9 0 rfl rfl (j := d - 1) (by omega) (by decide) dX8_takeFollower_60 ?_
      refine lv_istore_n (lv' := [(3, .int (nI (q (d - 1)))), (0, .ref (a 0)), (1, .int (nI x)), (2, .int (nI y))]) hx hb dX8_takeFollower_61 rfl hl (by decide) rfl (fun ls hl => ?_)
      refine lv_aload_n hx hb dX8_takeFollower_62 rfl (lv_at hl 1 rfl) ?_
      refine va_get (D := D) (ci := 6) (v := .ref (a 1)) (C := RX8) (T := TX8) (N := 15) hx hb hts inX8 hown hKN.1 hP 0 rfl rfl 0 (by decide) (hts (.fieldLink RX8 9 "TreeFamily$Tree" "keys" "[I") (by decide +kernel)) (fun _ h9 => h9) rfl dX8_takeFollower_63 ?_
      refine lv_iload_n hx hb dX8_takeFollower_66 rfl (lv_at hl 2 rfl) ?_
      refine lv_aload_n hx hb dX8_takeFollower_67 rfl (lv_at hl 1 rfl) ?_
      refine va_get (D := D) (ci := 6) (v := .ref (a 1)) (C := RX8) (T := TX8) (N := 15) hx hb hts inX8 hown hKN.1 hP 0 rfl rfl 0 (by decide) (hts (.fieldLink RX8 9 "TreeFamily$Tree" "keys" "[I") (by decide +kernel)) (fun _ h9 => h9) rfl dX8_takeFollower_68 ?_
      refine lv_iload_n hx hb dX8_takeFollower_71 rfl (lv_at hl 0 rfl) ?_
      refine xr_ild hx hb hKN.1 hP 1 0 rfl rfl (j := q (d - 1)) (Nat.lt_of_le_of_lt (hq (d - 1)) (by decide)) (by decide) dX8_takeFollower_72 ?_
      refine xr_ist hx hb hKN.1 hP hD hS 1 0 rfl rfl (j := x) (Nat.lt_of_le_of_lt hx60 (by decide)) (by decide) dX8_takeFollower_73 (fun H locs hP hD hS => ?_)
      have hP : va_P D vwCl (wT ca kq a ((upd ky x (ky (q (d - 1)))), vl, lf, rt, ct, ht, tt, sp, q, ro, ss, d, rn, od, kd)) H := hP
      have hD : va_D A (wT ca kq a ((upd ky x (ky (q (d - 1)))), vl, lf, rt, ct, ht, tt, sp, q, ro, ss, d, rn, od, kd)) := hD
      refine lv_aload_n hx hb dX8_takeFollower_74 rfl (lv_at hl 1 rfl) ?_
      refine va_get (D := D) (ci := 6) (v := .ref (a 2)) (C := RX8) (T := TX8) (N := 15) hx hb hts inX8 hown hKN.1 hP 0 rfl rfl 1 (by decide) (hts (.fieldLink RX8 15 "TreeFamily$Tree" "values" "[I") (by decide +kernel)) (fun _ h9 => h9) rfl dX8_takeFollower_75 ?_
      refine lv_iload_n hx hb dX8_takeFollower_78 rfl (lv_at hl 2 rfl) ?_
      refine lv_aload_n hx hb dX8_takeFollower_79 rfl (lv_at hl 1 rfl) ?_
      refine va_get (D := D) (ci := 6) (v := .ref (a 2)) (C := RX8) (T := TX8) (N := 15) hx hb hts inX8 hown hKN.1 hP 0 rfl rfl 1 (by decide) (hts (.fieldLink RX8 15 "TreeFamily$Tree" "values" "[I") (by decide +kernel)) (fun _ h9 => h9) rfl dX8_takeFollower_80 ?_
      refine lv_iload_n hx hb dX8_takeFollower_83 rfl (lv_at hl 0 rfl) ?_
      refine xr_ild hx hb hKN.1 hP 2 0 rfl rfl (j := q (d - 1)) (Nat.lt_of_le_of_lt (hq (d - 1)) (by decide)) (by decide) dX8_takeFollower_84 ?_
      refine xr_ist hx hb hKN.1 hP hD hS 2 0 rfl rfl (j := x) (Nat.lt_of_le_of_lt hx60 (by decide)) (by decide) dX8_takeFollower_85 (fun H locs hP hD hS => ?_)
      have hP : va_P D vwCl (wT ca kq a ((upd ky x (ky (q (d - 1)))), (upd vl x (vl (q (d - 1)))), lf, rt, ct, ht, tt, sp, q, ro, ss, d, rn, od, kd)) H := hP
      have hD : va_D A (wT ca kq a ((upd ky x (ky (q (d - 1)))), (upd vl x (vl (q (d - 1)))), lf, rt, ct, ht, tt, sp, q, ro, ss, d, rn, od, kd)) := hD
      exact W.vret hx hb hr (fun t9 e9 w9 => ⟨⟨((upd ky x (ky (q (d - 1)))), (upd vl x (vl (q (d - 1)))), lf, rt, ct, ht, tt, sp, q, ro, ss, d, rn, od, kd), rfl, by have h9 : tf_go lf (60 - dp) (rt x) dp pa = (d, q) := hg.trans (by first | (cases n with | zero => rfl | succ n => rw [tf_go, if_pos c8]) | (obtain rfl : n = 0 := (by omega); rfl)); show _ = setKV (setPa (ky, vl, lf, rt, ct, ht, tt, sp, pa, ro, ss, dp, rn, od, kd) (tf_go lf (60 - dp) (rt x) dp pa).2 (tf_go lf (60 - dp) (rt x) dp pa).1) x ((tf_go lf (60 - dp) (rt x) dp pa).2 ((tf_go lf (60 - dp) (rt x) dp pa).1 - 1)); rw [h9]; rfl, by rw [e9]; exact hP, hD⟩, hS.F e9⟩) hS.2.2 dX8_takeFollower_86
    · skip
      have c17 : ¬ 60 ≤ d := fun h9 => c17 ((xn_le (a := 60) (b := d) (by decide) (by omega)).mpr h9)
      obtain ⟨n, rfl⟩ : ∃ k, n = k + 1 := ⟨n - 1, by omega⟩
      refine lv_aload_n hx hb dX8_takeFollower_20 rfl (lv_at hl 0 rfl) ?_
      refine va_get (D := D) (ci := 6) (v := .ref (a 9)) (C := RX8) (T := TX8) (N := 15) hx hb hts inX8 hown hKN.1 hP 0 rfl rfl 8 (by decide) (hts (.fieldLink RX8 37 "TreeFamily$Tree" "path" "[I") (by decide +kernel)) (fun _ h9 => h9) rfl dX8_takeFollower_21 ?_
      refine lv_aload_n hx hb dX8_takeFollower_24 rfl (lv_at hl 0 rfl) ?_
      refine va_get (D := D) (ci := 6) (v := .int (nI d)) (C := RX8) (T := TX8) (N := 15) hx hb hts inX8 hown hKN.1 hP 0 rfl rfl 11 (by decide) (hts (.fieldLink RX8 58 "TreeFamily$Tree" "depth" "I") (by decide +kernel)) (fun _ h9 => h9) rfl dX8_takeFollower_25 ?_
      refine lv_iload_n hx hb dX8_takeFollower_28 rfl (lv_at hl 2 rfl) ?_
      refine xr_nst hx hb hKN.1 hP hD hS 9 0 (g := q) rfl rfl (j := d) (v := y) (by omega) (by decide) dX8_takeFollower_29 (fun H locs hP hD hS => ?_)
      have hP : va_P D vwCl (wT ca kq a (ky, vl, lf, rt, ct, ht, tt, sp, (va_up q d y), ro, ss, d, rn, od, kd)) H := hP
      have hD : va_D A (wT ca kq a (ky, vl, lf, rt, ct, ht, tt, sp, (va_up q d y), ro, ss, d, rn, od, kd)) := hD
      refine lv_aload_n hx hb dX8_takeFollower_30 rfl (lv_at hl 0 rfl) ?_
      refine lv_dup hx hb dX8_takeFollower_31 rfl ?_
      refine va_get (D := D) (ci := 6) (v := .int (nI d)) (C := RX8) (T := TX8) (N := 15) hx hb hts inX8 hown hKN.1 hP 0 rfl rfl 11 (by decide) (hts (.fieldLink RX8 58 "TreeFamily$Tree" "depth" "I") (by decide +kernel)) (fun _ h9 => h9) rfl dX8_takeFollower_32 ?_
      refine lv_iconst (v := 1) hx hb dX8_takeFollower_35 (by decide) ?_
      refine lv_iadd hx hb dX8_takeFollower_36 ?_
      refine xr_top (y := nI (d + 1)) (nI_add d 1) ?_
      refine va_put (D := D) (ci := 6) (v := .int (nI (d + 1))) (ty := .int) (C := RX8) (T := TX8) (N := 15) hx hb hts inX8 tyX8 tyX8_ok nmX8 hown hKN.1 hP hD hS 0 rfl rfl 11 (by decide) (hts (.fieldLink RX8 58 "TreeFamily$Tree" "depth" "I") (by decide +kernel)) (fun _ h9 => h9) rfl (by decide +kernel) rfl rfl (Nat.le_of_ble_eq_true rfl) dX8_takeFollower_37 (fun H locs hP hD hS => ?_)
      have hP : va_P D vwCl (wT ca kq a (ky, vl, lf, rt, ct, ht, tt, sp, (va_up q d y), ro, ss, (d + 1), rn, od, kd)) H := hP
      have hD : va_D A (wT ca kq a (ky, vl, lf, rt, ct, ht, tt, sp, (va_up q d y), ro, ss, (d + 1), rn, od, kd)) := hD
      refine lv_aload_n hx hb dX8_takeFollower_40 rfl (lv_at hl 0 rfl) ?_
      refine va_get (D := D) (ci := 6) (v := .ref (a 3)) (C := RX8) (T := TX8) (N := 15) hx hb hts inX8 hown hKN.1 hP 0 rfl rfl 2 (by decide) (hts (.fieldLink RX8 18 "TreeFamily$Tree" "left" "[I") (by decide +kernel)) (fun _ h9 => h9) rfl dX8_takeFollower_41 ?_
      refine lv_iload_n hx hb dX8_takeFollower_44 rfl (lv_at hl 2 rfl) ?_
      refine xr_ild hx hb hKN.1 hP 3 0 rfl rfl (j := y) (Nat.lt_of_le_of_lt hy9 (by decide)) (by decide) dX8_takeFollower_45 ?_
      refine lv_istore_n (lv' := [(2, .int (nI (lf y))), (0, .ref (a 0)), (1, .int (nI x))]) hx hb dX8_takeFollower_46 rfl hl (by decide) rfl (fun ls hl => ?_)
      refine lv_goto (tgt := 7) hx hb dX8_takeFollower_47 (by decide) ?_
      exact ih n (by omega) (lf y, (d + 1), (va_up q d y)) _ _ _ ⟨(hlf y), (by omega), (by omega), (vu_le hq hy9), hg.trans (by rw [tf_go, if_neg c8]), hP, hD, hS, lv_sub hl [1, 2, 0] rfl⟩

-- Tree.hang
set_option maxHeartbeats 4000000 in
set_option maxRecDepth 100000 in
theorem c_X8_hang (l : Launch) (D : va_G) (ca : Nat → ClassId) (kq a : Nat → Nat) (sz : Nat) (ky vl : Nat → Int32) (lf rt : Nat → Nat) (ct ht : Nat → Int32) (tt : Nat → Int64) (sp pa ro : Nat → Nat) (ss dp rn : Nat) (od : Int32) (kd : Nat) (key : Int32) (hlf : ∀ k, lf k ≤ 60) (hrt : ∀ k, rt k ≤ 60) (hsp : ∀ k, sp k ≤ 60) (hpa : ∀ k, pa k ≤ 60) (hro : ∀ k, ro k ≤ 60) (hrn : rn ≤ 60) (hs1 : 1 ≤ ss) (hs60 : ss ≤ 60) (hd60 : dp ≤ 60): Met l yX8_hang wsX8_hang ({ frames := 2, cells := 0, slots := 0, locals := 44 } : Room) (xPc D (TY ca) [.ref (a 0), .int key] (wT ca kq a (ky, vl, lf, rt, ct, ht, tt, sp, pa, ro, ss, dp, rn, od, kd)) sz) (va_Qi (fun (r : Int32) (u : TS) => r = nI (sp (ss - 1)) ∧ u = f_hang (ky, vl, lf, rt, ct, ht, tt, sp, pa, ro, ss, dp, rn, od, kd) key) (xB D (wT ca kq a) (va_A (wT ca kq a (ky, vl, lf, rt, ct, ht, tt, sp, pa, ro, ss, dp, rn, od, kd)) sz)) (va_A (wT ca kq a (ky, vl, lf, rt, ct, ht, tt, sp, pa, ro, ss, dp, rn, od, kd)) sz)) 0 0 (va_A (wT ca kq a (ky, vl, lf, rt, ct, ht, tt, sp, pa, ro, ss, dp, rn, od, kd)) sz) := by
  refine Met.ofW (cc := cX8_hang) (maxL := 3) (ret := (some .int)) (by decide) rfl ?_
  intro p e s m args below meth c s₁ B hml hv
  obtain ⟨rfl, hsz, hP, hKN, hD0⟩ := hv
  have hx := B.exec
  have hb := B.bytes
  have hr := B.returns
  have hts := atoms_spec (ws := wsX8_hang) B.pre
  have hown : s.vm.findClass RX8 = some m.cls := findClass_of_methodNamed B.named
  have hlocks := B.notSynchronized
  have inX8 : ∀ w ∈ wsX80, w ∈ wsX8_hang := by decide +kernel
  subst hsz
  have hD := hD0.self (sz := s.heap.size)
  generalize hAe : va_A (wT ca kq a (ky, vl, lf, rt, ct, ht, tt, sp, pa, ro, ss, dp, rn, od, kd)) s.heap.size = A at hD ⊢
  have hA : ∀ q : Nat, s.heap.size ≤ q → A q := fun q h => by rw [← hAe]; exact Or.inr h
  have hS : va_S A s.heap s.heap [] := va_S.rf
  have hl := lv_entry ([.ref (a 0), .int key]) (n := 3) (Nat.le_of_ble_eq_true rfl)
  rw [lg_entry_eq]
  generalize (lg_sl ([.ref (a 0), .int key]) ++ List.replicate (3 - (lg_sl ([.ref (a 0), .int key])).length) Slot.unset).toArray = ls at hl ⊢
  have hl : lv_has ls 3 [(0, .ref (a 0)), (1, .int key)] := hl
  refine lv_aload_n hx hb dX8_hang_0 rfl (lv_at hl 0 rfl) ?_
  refine lv_dup hx hb dX8_hang_1 rfl ?_
  refine va_get (D := D) (ci := 6) (v := .int (nI ss)) (C := RX8) (T := TX8) (N := 15) hx hb hts inX8 hown hKN.1 hP 0 rfl rfl 10 (by decide) (hts (.fieldLink RX8 61 "TreeFamily$Tree" "spares" "I") (by decide +kernel)) (fun _ h9 => h9) rfl dX8_hang_2 ?_
  refine lv_iconst (v := 1) hx hb dX8_hang_5 (by decide) ?_
  refine lv_isub hx hb dX8_hang_6 ?_
  refine xr_top (y := nI (ss - 1)) (pk_sub (a := ss) (b := 1) (by omega)) ?_
  refine va_put (D := D) (ci := 6) (v := .int (nI (ss - 1))) (ty := .int) (C := RX8) (T := TX8) (N := 15) hx hb hts inX8 tyX8 tyX8_ok nmX8 hown hKN.1 hP hD hS 0 rfl rfl 10 (by decide) (hts (.fieldLink RX8 61 "TreeFamily$Tree" "spares" "I") (by decide +kernel)) (fun _ h9 => h9) rfl (by decide +kernel) rfl rfl (Nat.le_of_ble_eq_true rfl) dX8_hang_7 (fun H locs hP hD hS => ?_)
  have hP : va_P D vwCl (wT ca kq a (ky, vl, lf, rt, ct, ht, tt, sp, pa, ro, (ss - 1), dp, rn, od, kd)) H := hP
  have hD : va_D A (wT ca kq a (ky, vl, lf, rt, ct, ht, tt, sp, pa, ro, (ss - 1), dp, rn, od, kd)) := hD
  refine lv_aload_n hx hb dX8_hang_10 rfl (lv_at hl 0 rfl) ?_
  refine va_get (D := D) (ci := 6) (v := .ref (a 8)) (C := RX8) (T := TX8) (N := 15) hx hb hts inX8 hown hKN.1 hP 0 rfl rfl 7 (by decide) (hts (.fieldLink RX8 34 "TreeFamily$Tree" "spare" "[I") (by decide +kernel)) (fun _ h9 => h9) rfl dX8_hang_11 ?_
  refine lv_aload_n hx hb dX8_hang_14 rfl (lv_at hl 0 rfl) ?_
  refine va_get (D := D) (ci := 6) (v := .int (nI (ss - 1))) (C := RX8) (T := TX8) (N := 15) hx hb hts inX8 hown hKN.1 hP 0 rfl rfl 10 (by decide) (hts (.fieldLink RX8 61 "TreeFamily$Tree" "spares" "I") (by decide +kernel)) (fun _ h9 => h9) rfl dX8_hang_15 ?_
  refine xr_ild hx hb hKN.1 hP 8 0 rfl rfl (j := (ss - 1)) (by omega) (by decide) dX8_hang_18 ?_
  refine lv_istore_n (lv' := [(2, .int (nI (sp (ss - 1)))), (0, .ref (a 0)), (1, .int key)]) hx hb dX8_hang_19 rfl hl (by decide) rfl (fun ls hl => ?_)
  refine lv_aload_n hx hb dX8_hang_20 rfl (lv_at hl 1 rfl) ?_
  refine va_get (D := D) (ci := 6) (v := .ref (a 1)) (C := RX8) (T := TX8) (N := 15) hx hb hts inX8 hown hKN.1 hP 0 rfl rfl 0 (by decide) (hts (.fieldLink RX8 9 "TreeFamily$Tree" "keys" "[I") (by decide +kernel)) (fun _ h9 => h9) rfl dX8_hang_21 ?_
  refine lv_iload_n hx hb dX8_hang_24 rfl (lv_at hl 0 rfl) ?_
  refine lv_iload_n hx hb dX8_hang_25 rfl (lv_at hl 2 rfl) ?_
  refine xr_ist hx hb hKN.1 hP hD hS 1 0 rfl rfl (j := sp (ss - 1)) (Nat.lt_of_le_of_lt (hsp (ss - 1)) (by decide)) (by decide) dX8_hang_26 (fun H locs hP hD hS => ?_)
  have hP : va_P D vwCl (wT ca kq a ((upd ky (sp (ss - 1)) key), vl, lf, rt, ct, ht, tt, sp, pa, ro, (ss - 1), dp, rn, od, kd)) H := hP
  have hD : va_D A (wT ca kq a ((upd ky (sp (ss - 1)) key), vl, lf, rt, ct, ht, tt, sp, pa, ro, (ss - 1), dp, rn, od, kd)) := hD
  refine lv_aload_n hx hb dX8_hang_27 rfl (lv_at hl 1 rfl) ?_
  refine va_get (D := D) (ci := 6) (v := .ref (a 3)) (C := RX8) (T := TX8) (N := 15) hx hb hts inX8 hown hKN.1 hP 0 rfl rfl 2 (by decide) (hts (.fieldLink RX8 18 "TreeFamily$Tree" "left" "[I") (by decide +kernel)) (fun _ h9 => h9) rfl dX8_hang_28 ?_
  refine lv_iload_n hx hb dX8_hang_31 rfl (lv_at hl 0 rfl) ?_
  refine lv_iconst (v := 0) hx hb dX8_hang_32 (by decide) ?_
  refine xr_nst hx hb hKN.1 hP hD hS 3 0 (g := lf) rfl rfl (j := sp (ss - 1)) (v := 0) (Nat.lt_of_le_of_lt (hsp (ss - 1)) (by decide)) (by decide) dX8_hang_33 (fun H locs hP hD hS => ?_)
  have hP : va_P D vwCl (wT ca kq a ((upd ky (sp (ss - 1)) key), vl, (va_up lf (sp (ss - 1)) 0), rt, ct, ht, tt, sp, pa, ro, (ss - 1), dp, rn, od, kd)) H := hP
  have hD : va_D A (wT ca kq a ((upd ky (sp (ss - 1)) key), vl, (va_up lf (sp (ss - 1)) 0), rt, ct, ht, tt, sp, pa, ro, (ss - 1), dp, rn, od, kd)) := hD
  refine lv_aload_n hx hb dX8_hang_34 rfl (lv_at hl 1 rfl) ?_
  refine va_get (D := D) (ci := 6) (v := .ref (a 4)) (C := RX8) (T := TX8) (N := 15) hx hb hts inX8 hown hKN.1 hP 0 rfl rfl 3 (by decide) (hts (.fieldLink RX8 21 "TreeFamily$Tree" "right" "[I") (by decide +kernel)) (fun _ h9 => h9) rfl dX8_hang_35 ?_
  refine lv_iload_n hx hb dX8_hang_38 rfl (lv_at hl 0 rfl) ?_
  refine lv_iconst (v := 0) hx hb dX8_hang_39 (by decide) ?_
  refine xr_nst hx hb hKN.1 hP hD hS 4 0 (g := rt) rfl rfl (j := sp (ss - 1)) (v := 0) (Nat.lt_of_le_of_lt (hsp (ss - 1)) (by decide)) (by decide) dX8_hang_40 (fun H locs hP hD hS => ?_)
  have hP : va_P D vwCl (wT ca kq a ((upd ky (sp (ss - 1)) key), vl, (va_up lf (sp (ss - 1)) 0), (va_up rt (sp (ss - 1)) 0), ct, ht, tt, sp, pa, ro, (ss - 1), dp, rn, od, kd)) H := hP
  have hD : va_D A (wT ca kq a ((upd ky (sp (ss - 1)) key), vl, (va_up lf (sp (ss - 1)) 0), (va_up rt (sp (ss - 1)) 0), ct, ht, tt, sp, pa, ro, (ss - 1), dp, rn, od, kd)) := hD
  refine lv_aload_n hx hb dX8_hang_41 rfl (lv_at hl 1 rfl) ?_
  refine va_get (D := D) (ci := 6) (v := .int (nI dp)) (C := RX8) (T := TX8) (N := 15) hx hb hts inX8 hown hKN.1 hP 0 rfl rfl 11 (by decide) (hts (.fieldLink RX8 58 "TreeFamily$Tree" "depth" "I") (by decide +kernel)) (fun _ h9 => h9) rfl dX8_hang_42 ?_
  refine lv_if_ne (tgt := 56) hx hb dX8_hang_45 (by decide) (fun c45 => ?_) (fun c45 => ?_)
  · skip
    have c45 : ¬ dp = 0 := fun h9 => c45 ((xn_eq (a := dp) (b := 0) (by omega) (by decide)).mpr h9)
    refine lv_aload_n hx hb dX8_hang_56 rfl (lv_at hl 1 rfl) ?_
    refine va_get (D := D) (ci := 6) (v := .int od) (C := RX8) (T := TX8) (N := 15) hx hb hts inX8 hown hKN.1 hP 0 rfl rfl 13 (by decide) (hts (.fieldLink RX8 51 "TreeFamily$Tree" "order" "I") (by decide +kernel)) (fun _ h9 => h9) rfl dX8_hang_57 ?_
    refine lv_iload_n hx hb dX8_hang_60 rfl (lv_at hl 2 rfl) ?_
    refine lv_aload_n hx hb dX8_hang_61 rfl (lv_at hl 1 rfl) ?_
    refine va_get (D := D) (ci := 6) (v := .ref (a 1)) (C := RX8) (T := TX8) (N := 15) hx hb hts inX8 hown hKN.1 hP 0 rfl rfl 0 (by decide) (hts (.fieldLink RX8 9 "TreeFamily$Tree" "keys" "[I") (by decide +kernel)) (fun _ h9 => h9) rfl dX8_hang_62 ?_
    refine lv_aload_n hx hb dX8_hang_65 rfl (lv_at hl 1 rfl) ?_
    refine va_get (D := D) (ci := 6) (v := .ref (a 9)) (C := RX8) (T := TX8) (N := 15) hx hb hts inX8 hown hKN.1 hP 0 rfl rfl 8 (by decide) (hts (.fieldLink RX8 37 "TreeFamily$Tree" "path" "[I") (by decide +kernel)) (fun _ h9 => h9) rfl dX8_hang_66 ?_
    refine lv_aload_n hx hb dX8_hang_69 rfl (lv_at hl 1 rfl) ?_
    refine va_get (D := D) (ci := 6) (v := .int (nI dp)) (C := RX8) (T := TX8) (N := 15) hx hb hts inX8 hown hKN.1 hP 0 rfl rfl 11 (by decide) (hts (.fieldLink RX8 58 "TreeFamily$Tree" "depth" "I") (by decide +kernel)) (fun _ h9 => h9) rfl dX8_hang_70 ?_
    refine lv_iconst (v := 1) hx hb dX8_hang_73 (by decide) ?_
    refine lv_isub hx hb dX8_hang_74 ?_
    refine xr_top (y := nI (dp - 1)) (pk_sub (a := dp) (b := 1) (by omega)) ?_
    refine xr_ild hx hb hKN.1 hP 9 0 rfl rfl (j := dp - 1) (by omega) (by decide) dX8_hang_75 ?_
    refine xr_ild hx hb hKN.1 hP 1 0 rfl rfl (j := pa (dp - 1)) (Nat.lt_of_le_of_lt (hpa (dp - 1)) (by decide)) (by decide) dX8_hang_76 ?_
    refine xs_i (va_runSN (As := [.int od, .int key, .int ((upd ky (sp (ss - 1)) key) (pa (dp - 1)))]) (rest := []) ⟨hx, hb, hml, hown, hts⟩ (c_X10_goesBefore l _ _ _) ⟨va_cnB 3 hts gX8_hang_X10_goesBefore_n64 rfl rfl rfl (NW.m hKN.2 (a := RX8) (i := 64) (x := yX10_goesBefore) (g := "TreeFamily") (by decide +kernel)) (hts _ (List.mem_of_elem_eq_true (by decide +kernel) : Cond.initialized yX10_goesBefore.cls ∈ wsX8_hang)) (by decide +kernel) ⟨(Nat.le_of_ble_eq_true rfl), (Nat.le_of_ble_eq_true rfl)⟩, hts (.static yX10_goesBefore) (by decide +kernel), trivial⟩ xPreT rfl rfl hl.1 rfl (lv_room (Nat.le_of_ble_eq_true rfl)) dX8_hang_77 ⟨(Nat.le_of_ble_eq_true rfl), (Nat.le_of_ble_eq_true rfl)⟩) (fun r77 er77 => ?_)
    subst er77
    refine lv_if_eq (tgt := 103) hx hb dX8_hang_80 (by decide) (fun c80 => ?_) (fun c80 => ?_)
    · skip
      have c80 := bI_0.mp c80
      refine lv_aload_n hx hb dX8_hang_103 rfl (lv_at hl 1 rfl) ?_
      refine va_get (D := D) (ci := 6) (v := .ref (a 4)) (C := RX8) (T := TX8) (N := 15) hx hb hts inX8 hown hKN.1 hP 0 rfl rfl 3 (by decide) (hts (.fieldLink RX8 21 "TreeFamily$Tree" "right" "[I") (by decide +kernel)) (fun _ h9 => h9) rfl dX8_hang_104 ?_
      refine lv_aload_n hx hb dX8_hang_107 rfl (lv_at hl 1 rfl) ?_
      refine va_get (D := D) (ci := 6) (v := .ref (a 9)) (C := RX8) (T := TX8) (N := 15) hx hb hts inX8 hown hKN.1 hP 0 rfl rfl 8 (by decide) (hts (.fieldLink RX8 37 "TreeFamily$Tree" "path" "[I") (by decide +kernel)) (fun _ h9 => h9) rfl dX8_hang_108 ?_
      refine lv_aload_n hx hb dX8_hang_111 rfl (lv_at hl 1 rfl) ?_
      refine va_get (D := D) (ci := 6) (v := .int (nI dp)) (C := RX8) (T := TX8) (N := 15) hx hb hts inX8 hown hKN.1 hP 0 rfl rfl 11 (by decide) (hts (.fieldLink RX8 58 "TreeFamily$Tree" "depth" "I") (by decide +kernel)) (fun _ h9 => h9) rfl dX8_hang_112 ?_
      refine lv_iconst (v := 1) hx hb dX8_hang_115 (by decide) ?_
      refine lv_isub hx hb dX8_hang_116 ?_
      refine xr_top (y := nI (dp - 1)) (pk_sub (a := dp) (b := 1) (by omega)) ?_
      refine xr_ild hx hb hKN.1 hP 9 0 rfl rfl (j := dp - 1) (by omega) (by decide) dX8_hang_117 ?_
      refine lv_iload_n hx hb dX8_hang_118 rfl (lv_at hl 0 rfl) ?_
      refine xr_nst hx hb hKN.1 hP hD hS 4 0 (g := (va_up rt (sp (ss - 1)) 0)) rfl rfl (j := pa (dp - 1)) (v := sp (ss - 1)) (Nat.lt_of_le_of_lt (hpa (dp - 1)) (by decide)) (by decide) dX8_hang_119 (fun H locs hP hD hS => ?_)
      have hP : va_P D vwCl (wT ca kq a ((upd ky (sp (ss - 1)) key), vl, (va_up lf (sp (ss - 1)) 0), (va_up (va_up rt (sp (ss - 1)) 0) (pa (dp - 1)) (sp (ss - 1))), ct, ht, tt, sp, pa, ro, (ss - 1), dp, rn, od, kd)) H := hP
      have hD : va_D A (wT ca kq a ((upd ky (sp (ss - 1)) key), vl, (va_up lf (sp (ss - 1)) 0), (va_up (va_up rt (sp (ss - 1)) 0) (pa (dp - 1)) (sp (ss - 1))), ct, ht, tt, sp, pa, ro, (ss - 1), dp, rn, od, kd)) := hD
      refine lv_aload_n hx hb dX8_hang_120 rfl (lv_at hl 1 rfl) ?_
      refine va_get (D := D) (ci := 6) (v := .ref (a 9)) (C := RX8) (T := TX8) (N := 15) hx hb hts inX8 hown hKN.1 hP 0 rfl rfl 8 (by decide) (hts (.fieldLink RX8 37 "TreeFamily$Tree" "path" "[I") (by decide +kernel)) (fun _ h9 => h9) rfl dX8_hang_121 ?_
      refine lv_aload_n hx hb dX8_hang_124 rfl (lv_at hl 1 rfl) ?_
      refine va_get (D := D) (ci := 6) (v := .int (nI dp)) (C := RX8) (T := TX8) (N := 15) hx hb hts inX8 hown hKN.1 hP 0 rfl rfl 11 (by decide) (hts (.fieldLink RX8 58 "TreeFamily$Tree" "depth" "I") (by decide +kernel)) (fun _ h9 => h9) rfl dX8_hang_125 ?_
      refine lv_iload_n hx hb dX8_hang_128 rfl (lv_at hl 0 rfl) ?_
      refine xr_nst hx hb hKN.1 hP hD hS 9 0 (g := pa) rfl rfl (j := dp) (v := sp (ss - 1)) (by omega) (by decide) dX8_hang_129 (fun H locs hP hD hS => ?_)
      have hP : va_P D vwCl (wT ca kq a ((upd ky (sp (ss - 1)) key), vl, (va_up lf (sp (ss - 1)) 0), (va_up (va_up rt (sp (ss - 1)) 0) (pa (dp - 1)) (sp (ss - 1))), ct, ht, tt, sp, (va_up pa dp (sp (ss - 1))), ro, (ss - 1), dp, rn, od, kd)) H := hP
      have hD : va_D A (wT ca kq a ((upd ky (sp (ss - 1)) key), vl, (va_up lf (sp (ss - 1)) 0), (va_up (va_up rt (sp (ss - 1)) 0) (pa (dp - 1)) (sp (ss - 1))), ct, ht, tt, sp, (va_up pa dp (sp (ss - 1))), ro, (ss - 1), dp, rn, od, kd)) := hD
      refine lv_aload_n hx hb dX8_hang_130 rfl (lv_at hl 1 rfl) ?_
      refine lv_dup hx hb dX8_hang_131 rfl ?_
      refine va_get (D := D) (ci := 6) (v := .int (nI dp)) (C := RX8) (T := TX8) (N := 15) hx hb hts inX8 hown hKN.1 hP 0 rfl rfl 11 (by decide) (hts (.fieldLink RX8 58 "TreeFamily$Tree" "depth" "I") (by decide +kernel)) (fun _ h9 => h9) rfl dX8_hang_132 ?_
      refine lv_iconst (v := 1) hx hb dX8_hang_135 (by decide) ?_
      refine lv_iadd hx hb dX8_hang_136 ?_
      refine xr_top (y := nI (dp + 1)) (nI_add dp 1) ?_
      refine va_put (D := D) (ci := 6) (v := .int (nI (dp + 1))) (ty := .int) (C := RX8) (T := TX8) (N := 15) hx hb hts inX8 tyX8 tyX8_ok nmX8 hown hKN.1 hP hD hS 0 rfl rfl 11 (by decide) (hts (.fieldLink RX8 58 "TreeFamily$Tree" "depth" "I") (by decide +kernel)) (fun _ h9 => h9) rfl (by decide +kernel) rfl rfl (Nat.le_of_ble_eq_true rfl) dX8_hang_137 (fun H locs hP hD hS => ?_)
      have hP : va_P D vwCl (wT ca kq a ((upd ky (sp (ss - 1)) key), vl, (va_up lf (sp (ss - 1)) 0), (va_up (va_up rt (sp (ss - 1)) 0) (pa (dp - 1)) (sp (ss - 1))), ct, ht, tt, sp, (va_up pa dp (sp (ss - 1))), ro, (ss - 1), (dp + 1), rn, od, kd)) H := hP
      have hD : va_D A (wT ca kq a ((upd ky (sp (ss - 1)) key), vl, (va_up lf (sp (ss - 1)) 0), (va_up (va_up rt (sp (ss - 1)) 0) (pa (dp - 1)) (sp (ss - 1))), ct, ht, tt, sp, (va_up pa dp (sp (ss - 1))), ro, (ss - 1), (dp + 1), rn, od, kd)) := hD
      refine lv_iload_n hx hb dX8_hang_140 rfl (lv_at hl 0 rfl) ?_
      exact W.iret (v := (nI (sp (ss - 1)))) hx hb hr (fun t9 e9 w9 => ⟨⟨_, ((upd ky (sp (ss - 1)) key), vl, (va_up lf (sp (ss - 1)) 0), (va_up (va_up rt (sp (ss - 1)) 0) (pa (dp - 1)) (sp (ss - 1))), ct, ht, tt, sp, (va_up pa dp (sp (ss - 1))), ro, (ss - 1), (dp + 1), rn, od, kd), rfl, ⟨rfl, by first | exact (if_pos c45).symm | exact ((if_neg c45).trans (if_pos c80)).symm | exact ((if_neg c45).trans (if_neg (by rw [c80]; decide))).symm⟩, by rw [e9]; exact hP, hD⟩, hS.F e9⟩) hS.2.2 dX8_hang_141
    · skip
      have c80 := bI_ne.mp c80
      refine lv_aload_n hx hb dX8_hang_83 rfl (lv_at hl 1 rfl) ?_
      refine va_get (D := D) (ci := 6) (v := .ref (a 3)) (C := RX8) (T := TX8) (N := 15) hx hb hts inX8 hown hKN.1 hP 0 rfl rfl 2 (by decide) (hts (.fieldLink RX8 18 "TreeFamily$Tree" "left" "[I") (by decide +kernel)) (fun _ h9 => h9) rfl dX8_hang_84 ?_
      refine lv_aload_n hx hb dX8_hang_87 rfl (lv_at hl 1 rfl) ?_
      refine va_get (D := D) (ci := 6) (v := .ref (a 9)) (C := RX8) (T := TX8) (N := 15) hx hb hts inX8 hown hKN.1 hP 0 rfl rfl 8 (by decide) (hts (.fieldLink RX8 37 "TreeFamily$Tree" "path" "[I") (by decide +kernel)) (fun _ h9 => h9) rfl dX8_hang_88 ?_
      refine lv_aload_n hx hb dX8_hang_91 rfl (lv_at hl 1 rfl) ?_
      refine va_get (D := D) (ci := 6) (v := .int (nI dp)) (C := RX8) (T := TX8) (N := 15) hx hb hts inX8 hown hKN.1 hP 0 rfl rfl 11 (by decide) (hts (.fieldLink RX8 58 "TreeFamily$Tree" "depth" "I") (by decide +kernel)) (fun _ h9 => h9) rfl dX8_hang_92 ?_
      refine lv_iconst (v := 1) hx hb dX8_hang_95 (by decide) ?_
      refine lv_isub hx hb dX8_hang_96 ?_
      refine xr_top (y := nI (dp - 1)) (pk_sub (a := dp) (b := 1) (by omega)) ?_
      refine xr_ild hx hb hKN.1 hP 9 0 rfl rfl (j := dp - 1) (by omega) (by decide) dX8_hang_97 ?_
      refine lv_iload_n hx hb dX8_hang_98 rfl (lv_at hl 0 rfl) ?_
      refine xr_nst hx hb hKN.1 hP hD hS 3 0 (g := (va_up lf (sp (ss - 1)) 0)) rfl rfl (j := pa (dp - 1)) (v := sp (ss - 1)) (Nat.lt_of_le_of_lt (hpa (dp - 1)) (by decide)) (by decide) dX8_hang_99 (fun H locs hP hD hS => ?_)
      have hP : va_P D vwCl (wT ca kq a ((upd ky (sp (ss - 1)) key), vl, (va_up (va_up lf (sp (ss - 1)) 0) (pa (dp - 1)) (sp (ss - 1))), (va_up rt (sp (ss - 1)) 0), ct, ht, tt, sp, pa, ro, (ss - 1), dp, rn, od, kd)) H := hP
      have hD : va_D A (wT ca kq a ((upd ky (sp (ss - 1)) key), vl, (va_up (va_up lf (sp (ss - 1)) 0) (pa (dp - 1)) (sp (ss - 1))), (va_up rt (sp (ss - 1)) 0), ct, ht, tt, sp, pa, ro, (ss - 1), dp, rn, od, kd)) := hD
      refine lv_goto (tgt := 120) hx hb dX8_hang_100 (by decide) ?_
      refine lv_aload_n hx hb dX8_hang_120 rfl (lv_at hl 1 rfl) ?_
      refine va_get (D := D) (ci := 6) (v := .ref (a 9)) (C := RX8) (T := TX8) (N := 15) hx hb hts inX8 hown hKN.1 hP 0 rfl rfl 8 (by decide) (hts (.fieldLink RX8 37 "TreeFamily$Tree" "path" "[I") (by decide +kernel)) (fun _ h9 => h9) rfl dX8_hang_121 ?_
      refine lv_aload_n hx hb dX8_hang_124 rfl (lv_at hl 1 rfl) ?_
      refine va_get (D := D) (ci := 6) (v := .int (nI dp)) (C := RX8) (T := TX8) (N := 15) hx hb hts inX8 hown hKN.1 hP 0 rfl rfl 11 (by decide) (hts (.fieldLink RX8 58 "TreeFamily$Tree" "depth" "I") (by decide +kernel)) (fun _ h9 => h9) rfl dX8_hang_125 ?_
      refine lv_iload_n hx hb dX8_hang_128 rfl (lv_at hl 0 rfl) ?_
      refine xr_nst hx hb hKN.1 hP hD hS 9 0 (g := pa) rfl rfl (j := dp) (v := sp (ss - 1)) (by omega) (by decide) dX8_hang_129 (fun H locs hP hD hS => ?_)
      have hP : va_P D vwCl (wT ca kq a ((upd ky (sp (ss - 1)) key), vl, (va_up (va_up lf (sp (ss - 1)) 0) (pa (dp - 1)) (sp (ss - 1))), (va_up rt (sp (ss - 1)) 0), ct, ht, tt, sp, (va_up pa dp (sp (ss - 1))), ro, (ss - 1), dp, rn, od, kd)) H := hP
      have hD : va_D A (wT ca kq a ((upd ky (sp (ss - 1)) key), vl, (va_up (va_up lf (sp (ss - 1)) 0) (pa (dp - 1)) (sp (ss - 1))), (va_up rt (sp (ss - 1)) 0), ct, ht, tt, sp, (va_up pa dp (sp (ss - 1))), ro, (ss - 1), dp, rn, od, kd)) := hD
      refine lv_aload_n hx hb dX8_hang_130 rfl (lv_at hl 1 rfl) ?_
      refine lv_dup hx hb dX8_hang_131 rfl ?_
      refine va_get (D := D) (ci := 6) (v := .int (nI dp)) (C := RX8) (T := TX8) (N := 15) hx hb hts inX8 hown hKN.1 hP 0 rfl rfl 11 (by decide) (hts (.fieldLink RX8 58 "TreeFamily$Tree" "depth" "I") (by decide +kernel)) (fun _ h9 => h9) rfl dX8_hang_132 ?_
      refine lv_iconst (v := 1) hx hb dX8_hang_135 (by decide) ?_
      refine lv_iadd hx hb dX8_hang_136 ?_
      refine xr_top (y := nI (dp + 1)) (nI_add dp 1) ?_
      refine va_put (D := D) (ci := 6) (v := .int (nI (dp + 1))) (ty := .int) (C := RX8) (T := TX8) (N := 15) hx hb hts inX8 tyX8 tyX8_ok nmX8 hown hKN.1 hP hD hS 0 rfl rfl 11 (by decide) (hts (.fieldLink RX8 58 "TreeFamily$Tree" "depth" "I") (by decide +kernel)) (fun _ h9 => h9) rfl (by decide +kernel) rfl rfl (Nat.le_of_ble_eq_true rfl) dX8_hang_137 (fun H locs hP hD hS => ?_)
      have hP : va_P D vwCl (wT ca kq a ((upd ky (sp (ss - 1)) key), vl, (va_up (va_up lf (sp (ss - 1)) 0) (pa (dp - 1)) (sp (ss - 1))), (va_up rt (sp (ss - 1)) 0), ct, ht, tt, sp, (va_up pa dp (sp (ss - 1))), ro, (ss - 1), (dp + 1), rn, od, kd)) H := hP
      have hD : va_D A (wT ca kq a ((upd ky (sp (ss - 1)) key), vl, (va_up (va_up lf (sp (ss - 1)) 0) (pa (dp - 1)) (sp (ss - 1))), (va_up rt (sp (ss - 1)) 0), ct, ht, tt, sp, (va_up pa dp (sp (ss - 1))), ro, (ss - 1), (dp + 1), rn, od, kd)) := hD
      refine lv_iload_n hx hb dX8_hang_140 rfl (lv_at hl 0 rfl) ?_
      exact W.iret (v := (nI (sp (ss - 1)))) hx hb hr (fun t9 e9 w9 => ⟨⟨_, ((upd ky (sp (ss - 1)) key), vl, (va_up (va_up lf (sp (ss - 1)) 0) (pa (dp - 1)) (sp (ss - 1))), (va_up rt (sp (ss - 1)) 0), ct, ht, tt, sp, (va_up pa dp (sp (ss - 1))), ro, (ss - 1), (dp + 1), rn, od, kd), rfl, ⟨rfl, by first | exact (if_pos c45).symm | exact ((if_neg c45).trans (if_pos c80)).symm | exact ((if_neg c45).trans (if_neg (by rw [c80]; decide))).symm⟩, by rw [e9]; exact hP, hD⟩, hS.F e9⟩) hS.2.2 dX8_hang_141
  · skip
    have c45 : dp = 0 := (xn_eq (a := dp) (b := 0) (by omega) (by decide)).mp c45
    refine lv_aload_n hx hb dX8_hang_48 rfl (lv_at hl 1 rfl) ?_
    refine lv_iload_n hx hb dX8_hang_49 rfl (lv_at hl 0 rfl) ?_
    refine va_put (D := D) (ci := 6) (v := .int (nI (sp (ss - 1)))) (ty := .int) (C := RX8) (T := TX8) (N := 15) hx hb hts inX8 tyX8 tyX8_ok nmX8 hown hKN.1 hP hD hS 0 rfl rfl 12 (by decide) (hts (.fieldLink RX8 55 "TreeFamily$Tree" "root" "I") (by decide +kernel)) (fun _ h9 => h9) rfl (by decide +kernel) rfl rfl (Nat.le_of_ble_eq_true rfl) dX8_hang_50 (fun H locs hP hD hS => ?_)
    have hP : va_P D vwCl (wT ca kq a ((upd ky (sp (ss - 1)) key), vl, (va_up lf (sp (ss - 1)) 0), (va_up rt (sp (ss - 1)) 0), ct, ht, tt, sp, pa, ro, (ss - 1), dp, (sp (ss - 1)), od, kd)) H := hP
    have hD : va_D A (wT ca kq a ((upd ky (sp (ss - 1)) key), vl, (va_up lf (sp (ss - 1)) 0), (va_up rt (sp (ss - 1)) 0), ct, ht, tt, sp, pa, ro, (ss - 1), dp, (sp (ss - 1)), od, kd)) := hD
    refine lv_goto (tgt := 120) hx hb dX8_hang_53 (by decide) ?_
    refine lv_aload_n hx hb dX8_hang_120 rfl (lv_at hl 1 rfl) ?_
    refine va_get (D := D) (ci := 6) (v := .ref (a 9)) (C := RX8) (T := TX8) (N := 15) hx hb hts inX8 hown hKN.1 hP 0 rfl rfl 8 (by decide) (hts (.fieldLink RX8 37 "TreeFamily$Tree" "path" "[I") (by decide +kernel)) (fun _ h9 => h9) rfl dX8_hang_121 ?_
    refine lv_aload_n hx hb dX8_hang_124 rfl (lv_at hl 1 rfl) ?_
    refine va_get (D := D) (ci := 6) (v := .int (nI dp)) (C := RX8) (T := TX8) (N := 15) hx hb hts inX8 hown hKN.1 hP 0 rfl rfl 11 (by decide) (hts (.fieldLink RX8 58 "TreeFamily$Tree" "depth" "I") (by decide +kernel)) (fun _ h9 => h9) rfl dX8_hang_125 ?_
    refine lv_iload_n hx hb dX8_hang_128 rfl (lv_at hl 0 rfl) ?_
    refine xr_nst hx hb hKN.1 hP hD hS 9 0 (g := pa) rfl rfl (j := dp) (v := sp (ss - 1)) (by omega) (by decide) dX8_hang_129 (fun H locs hP hD hS => ?_)
    have hP : va_P D vwCl (wT ca kq a ((upd ky (sp (ss - 1)) key), vl, (va_up lf (sp (ss - 1)) 0), (va_up rt (sp (ss - 1)) 0), ct, ht, tt, sp, (va_up pa dp (sp (ss - 1))), ro, (ss - 1), dp, (sp (ss - 1)), od, kd)) H := hP
    have hD : va_D A (wT ca kq a ((upd ky (sp (ss - 1)) key), vl, (va_up lf (sp (ss - 1)) 0), (va_up rt (sp (ss - 1)) 0), ct, ht, tt, sp, (va_up pa dp (sp (ss - 1))), ro, (ss - 1), dp, (sp (ss - 1)), od, kd)) := hD
    refine lv_aload_n hx hb dX8_hang_130 rfl (lv_at hl 1 rfl) ?_
    refine lv_dup hx hb dX8_hang_131 rfl ?_
    refine va_get (D := D) (ci := 6) (v := .int (nI dp)) (C := RX8) (T := TX8) (N := 15) hx hb hts inX8 hown hKN.1 hP 0 rfl rfl 11 (by decide) (hts (.fieldLink RX8 58 "TreeFamily$Tree" "depth" "I") (by decide +kernel)) (fun _ h9 => h9) rfl dX8_hang_132 ?_
    refine lv_iconst (v := 1) hx hb dX8_hang_135 (by decide) ?_
    refine lv_iadd hx hb dX8_hang_136 ?_
    refine xr_top (y := nI (dp + 1)) (nI_add dp 1) ?_
    refine va_put (D := D) (ci := 6) (v := .int (nI (dp + 1))) (ty := .int) (C := RX8) (T := TX8) (N := 15) hx hb hts inX8 tyX8 tyX8_ok nmX8 hown hKN.1 hP hD hS 0 rfl rfl 11 (by decide) (hts (.fieldLink RX8 58 "TreeFamily$Tree" "depth" "I") (by decide +kernel)) (fun _ h9 => h9) rfl (by decide +kernel) rfl rfl (Nat.le_of_ble_eq_true rfl) dX8_hang_137 (fun H locs hP hD hS => ?_)
    have hP : va_P D vwCl (wT ca kq a ((upd ky (sp (ss - 1)) key), vl, (va_up lf (sp (ss - 1)) 0), (va_up rt (sp (ss - 1)) 0), ct, ht, tt, sp, (va_up pa dp (sp (ss - 1))), ro, (ss - 1), (dp + 1), (sp (ss - 1)), od, kd)) H := hP
    have hD : va_D A (wT ca kq a ((upd ky (sp (ss - 1)) key), vl, (va_up lf (sp (ss - 1)) 0), (va_up rt (sp (ss - 1)) 0), ct, ht, tt, sp, (va_up pa dp (sp (ss - 1))), ro, (ss - 1), (dp + 1), (sp (ss - 1)), od, kd)) := hD
    refine lv_iload_n hx hb dX8_hang_140 rfl (lv_at hl 0 rfl) ?_
    exact W.iret (v := (nI (sp (ss - 1)))) hx hb hr (fun t9 e9 w9 => ⟨⟨_, ((upd ky (sp (ss - 1)) key), vl, (va_up lf (sp (ss - 1)) 0), (va_up rt (sp (ss - 1)) 0), ct, ht, tt, sp, (va_up pa dp (sp (ss - 1))), ro, (ss - 1), (dp + 1), (sp (ss - 1)), od, kd), rfl, ⟨rfl, by first | exact (if_pos c45).symm | exact ((if_neg c45).trans (if_pos c80)).symm | exact ((if_neg c45).trans (if_neg (by rw [c80]; decide))).symm⟩, by rw [e9]; exact hP, hD⟩, hS.F e9⟩) hS.2.2 dX8_hang_141

-- Tree.clear
set_option maxHeartbeats 4000000 in
set_option maxRecDepth 100000 in
theorem c_X8_clear (l : Launch) (D : va_G) (ca : Nat → ClassId) (kq a : Nat → Nat) (sz : Nat) (ky vl : Nat → Int32) (lf rt : Nat → Nat) (ct ht : Nat → Int32) (tt : Nat → Int64) (sp pa ro : Nat → Nat) (ss dp rn : Nat) (od : Int32) (kd : Nat) (k2 : Nat) (o2 : Int32) (hlf : ∀ k, lf k ≤ 60) (hrt : ∀ k, rt k ≤ 60) (hsp : ∀ k, sp k ≤ 60) (hpa : ∀ k, pa k ≤ 60) (hro : ∀ k, ro k ≤ 60) (hrn : rn ≤ 60): Met l yX8_clear wsX8_clear ({ frames := 0, cells := 0, slots := 0, locals := 0 } : Room) (xPc D (TY ca) [.ref (a 0), .ref (kq k2), .int o2] (wT ca kq a (ky, vl, lf, rt, ct, ht, tt, sp, pa, ro, ss, dp, rn, od, kd)) sz) (va_Qv (fun u : TS => u = f_clear (ky, vl, lf, rt, ct, ht, tt, sp, pa, ro, ss, dp, rn, od, kd) k2 o2) (xB D (wT ca kq a) (va_A (wT ca kq a (ky, vl, lf, rt, ct, ht, tt, sp, pa, ro, ss, dp, rn, od, kd)) sz)) (va_A (wT ca kq a (ky, vl, lf, rt, ct, ht, tt, sp, pa, ro, ss, dp, rn, od, kd)) sz)) 0 0 (va_A (wT ca kq a (ky, vl, lf, rt, ct, ht, tt, sp, pa, ro, ss, dp, rn, od, kd)) sz) := by
  refine Met.ofW (cc := cX8_clear) (maxL := 4) (ret := none) (by decide) rfl ?_
  intro p e s m args below meth c s₁ B hml hv
  obtain ⟨rfl, hsz, hP, hKN, hD0⟩ := hv
  have hx := B.exec
  have hb := B.bytes
  have hr := B.returns
  have hts := atoms_spec (ws := wsX8_clear) B.pre
  have hown : s.vm.findClass RX8 = some m.cls := findClass_of_methodNamed B.named
  have hlocks := B.notSynchronized
  have inX8 : ∀ w ∈ wsX80, w ∈ wsX8_clear := by decide +kernel
  subst hsz
  have hD := hD0.self (sz := s.heap.size)
  generalize hAe : va_A (wT ca kq a (ky, vl, lf, rt, ct, ht, tt, sp, pa, ro, ss, dp, rn, od, kd)) s.heap.size = A at hD ⊢
  have hA : ∀ q : Nat, s.heap.size ≤ q → A q := fun q h => by rw [← hAe]; exact Or.inr h
  have hS : va_S A s.heap s.heap [] := va_S.rf
  have hl := lv_entry ([.ref (a 0), .ref (kq k2), .int o2]) (n := 4) (Nat.le_of_ble_eq_true rfl)
  rw [lg_entry_eq]
  generalize (lg_sl ([.ref (a 0), .ref (kq k2), .int o2]) ++ List.replicate (4 - (lg_sl ([.ref (a 0), .ref (kq k2), .int o2])).length) Slot.unset).toArray = ls at hl ⊢
  have hl : lv_has ls 4 [(0, .ref (a 0)), (1, .ref (kq k2)), (2, .int o2)] := hl
  refine lv_aload_n hx hb dX8_clear_0 rfl (lv_at hl 0 rfl) ?_
  refine lv_aload_n hx hb dX8_clear_1 rfl (lv_at hl 1 rfl) ?_
  refine va_put (D := D) (ci := 6) (v := .ref (kq k2)) (ty := .object "TreeFamily$Kind") (C := RX8) (T := TX8) (N := 15) hx hb hts inX8 tyX8 tyX8_ok nmX8 hown hKN.1 hP hD hS 0 rfl rfl 14 (by decide) (hts (.fieldLink RX8 47 "TreeFamily$Tree" "kind" "LTreeFamily$Kind;") (by decide +kernel)) (fun _ h9 => h9) rfl (by decide +kernel) rfl rfl (Nat.le_of_ble_eq_true rfl) dX8_clear_2 (fun H locs hP hD hS => ?_)
  have hP : va_P D vwCl (wT ca kq a (ky, vl, lf, rt, ct, ht, tt, sp, pa, ro, ss, dp, rn, od, k2)) H := hP
  have hD : va_D A (wT ca kq a (ky, vl, lf, rt, ct, ht, tt, sp, pa, ro, ss, dp, rn, od, k2)) := hD
  refine lv_aload_n hx hb dX8_clear_5 rfl (lv_at hl 0 rfl) ?_
  refine lv_iload_n hx hb dX8_clear_6 rfl (lv_at hl 2 rfl) ?_
  refine va_put (D := D) (ci := 6) (v := .int o2) (ty := .int) (C := RX8) (T := TX8) (N := 15) hx hb hts inX8 tyX8 tyX8_ok nmX8 hown hKN.1 hP hD hS 0 rfl rfl 13 (by decide) (hts (.fieldLink RX8 51 "TreeFamily$Tree" "order" "I") (by decide +kernel)) (fun _ h9 => h9) rfl (by decide +kernel) rfl rfl (Nat.le_of_ble_eq_true rfl) dX8_clear_7 (fun H locs hP hD hS => ?_)
  have hP : va_P D vwCl (wT ca kq a (ky, vl, lf, rt, ct, ht, tt, sp, pa, ro, ss, dp, rn, o2, k2)) H := hP
  have hD : va_D A (wT ca kq a (ky, vl, lf, rt, ct, ht, tt, sp, pa, ro, ss, dp, rn, o2, k2)) := hD
  refine lv_aload_n hx hb dX8_clear_10 rfl (lv_at hl 0 rfl) ?_
  refine lv_iconst (v := 0) hx hb dX8_clear_11 (by decide) ?_
  refine va_put (D := D) (ci := 6) (v := .int 0) (ty := .int) (C := RX8) (T := TX8) (N := 15) hx hb hts inX8 tyX8 tyX8_ok nmX8 hown hKN.1 hP hD hS 0 rfl rfl 12 (by decide) (hts (.fieldLink RX8 55 "TreeFamily$Tree" "root" "I") (by decide +kernel)) (fun _ h9 => h9) rfl (by decide +kernel) rfl rfl (Nat.le_of_ble_eq_true rfl) dX8_clear_12 (fun H locs hP hD hS => ?_)
  have hP : va_P D vwCl (wT ca kq a (ky, vl, lf, rt, ct, ht, tt, sp, pa, ro, ss, dp, 0, o2, k2)) H := hP
  have hD : va_D A (wT ca kq a (ky, vl, lf, rt, ct, ht, tt, sp, pa, ro, ss, dp, 0, o2, k2)) := hD
  refine lv_aload_n hx hb dX8_clear_15 rfl (lv_at hl 0 rfl) ?_
  refine lv_iconst (v := 0) hx hb dX8_clear_16 (by decide) ?_
  refine va_put (D := D) (ci := 6) (v := .int 0) (ty := .int) (C := RX8) (T := TX8) (N := 15) hx hb hts inX8 tyX8 tyX8_ok nmX8 hown hKN.1 hP hD hS 0 rfl rfl 11 (by decide) (hts (.fieldLink RX8 58 "TreeFamily$Tree" "depth" "I") (by decide +kernel)) (fun _ h9 => h9) rfl (by decide +kernel) rfl rfl (Nat.le_of_ble_eq_true rfl) dX8_clear_17 (fun H locs hP hD hS => ?_)
  have hP : va_P D vwCl (wT ca kq a (ky, vl, lf, rt, ct, ht, tt, sp, pa, ro, ss, 0, 0, o2, k2)) H := hP
  have hD : va_D A (wT ca kq a (ky, vl, lf, rt, ct, ht, tt, sp, pa, ro, ss, 0, 0, o2, k2)) := hD
  refine lv_aload_n hx hb dX8_clear_20 rfl (lv_at hl 0 rfl) ?_
  refine lv_bipush (v := 60) hx hb dX8_clear_21 (by decide) ?_
  refine va_put (D := D) (ci := 6) (v := .int 60) (ty := .int) (C := RX8) (T := TX8) (N := 15) hx hb hts inX8 tyX8 tyX8_ok nmX8 hown hKN.1 hP hD hS 0 rfl rfl 10 (by decide) (hts (.fieldLink RX8 61 "TreeFamily$Tree" "spares" "I") (by decide +kernel)) (fun _ h9 => h9) rfl (by decide +kernel) rfl rfl (Nat.le_of_ble_eq_true rfl) dX8_clear_23 (fun H locs hP hD hS => ?_)
  have hP : va_P D vwCl (wT ca kq a (ky, vl, lf, rt, ct, ht, tt, sp, pa, ro, 60, 0, 0, o2, k2)) H := hP
  have hD : va_D A (wT ca kq a (ky, vl, lf, rt, ct, ht, tt, sp, pa, ro, 60, 0, 0, o2, k2)) := hD
  refine lv_iconst (v := 0) hx hb dX8_clear_26 (by decide) ?_
  refine lv_istore_n (lv' := [(3, .int 0), (0, .ref (a 0)), (1, .ref (kq k2)), (2, .int o2)]) hx hb dX8_clear_27 rfl hl (by decide) rfl (fun ls hl => ?_)
  refine xl 28 (σ := Nat × (Nat → Nat)) (fun n u H locs ls => match u with | (i, q) => i + n = 60 ∧ (∀ k, q k ≤ 60) ∧ sp_go 60 0 sp = sp_go n i q ∧ va_P D vwCl (wT ca kq a (ky, vl, lf, rt, ct, ht, tt, q, pa, ro, 60, 0, 0, o2, k2)) H ∧ va_D A (wT ca kq a (ky, vl, lf, rt, ct, ht, tt, q, pa, ro, 60, 0, 0, o2, k2)) ∧ va_S A s.heap H locs ∧ lv_has ls 4 [(0, .ref (a 0)), (1, .ref (kq k2)), (2, .int o2), (3, .int (nI i))]) ?_ 60 (0, sp) _ _ _ ⟨rfl, hsp, rfl, hP, hD, hS, lv_sub hl [1, 2, 3, 0] rfl⟩
  clear hP hD hS hl
  intro n ih u H locs ls hI
  obtain ⟨i, q⟩ := u
  obtain ⟨hn, hq, hg, hP, hD, hS, hl⟩ := hI
  refine lv_iload_n hx hb dX8_clear_28 rfl (lv_at hl 3 rfl) ?_
  refine lv_bipush (v := 60) hx hb dX8_clear_29 (by decide) ?_
  refine lv_icmp_ge (tgt := 50) hx hb dX8_clear_31 (by decide) (fun c31 => ?_) (fun c31 => ?_)
  · skip
    have c31 : 60 ≤ i := (xn_le (a := 60) (b := i) (by decide) (by omega)).mp c31
    exact W.vret hx hb hr (fun t9 e9 w9 => ⟨⟨(ky, vl, lf, rt, ct, ht, tt, q, pa, ro, 60, 0, 0, o2, k2), rfl, by obtain rfl : n = 0 := (by omega); show _ = (ky, vl, lf, rt, ct, ht, tt, sp_go 60 0 sp, pa, ro, 60, 0, 0, o2, k2); rw [hg]; rfl, by rw [e9]; exact hP, hD⟩, hS.F e9⟩) hS.2.2 dX8_clear_50
  · skip
    have c31 : ¬ 60 ≤ i := fun h9 => c31 ((xn_le (a := 60) (b := i) (by decide) (by omega)).mpr h9)
    obtain ⟨n, rfl⟩ : ∃ k, n = k + 1 := ⟨n - 1, by omega⟩
    refine lv_aload_n hx hb dX8_clear_34 rfl (lv_at hl 0 rfl) ?_
    refine va_get (D := D) (ci := 6) (v := .ref (a 8)) (C := RX8) (T := TX8) (N := 15) hx hb hts inX8 hown hKN.1 hP 0 rfl rfl 7 (by decide) (hts (.fieldLink RX8 34 "TreeFamily$Tree" "spare" "[I") (by decide +kernel)) (fun _ h9 => h9) rfl dX8_clear_35 ?_
    refine lv_iload_n hx hb dX8_clear_38 rfl (lv_at hl 3 rfl) ?_
    refine lv_bipush (v := 60) hx hb dX8_clear_39 (by decide) ?_
    refine lv_iload_n hx hb dX8_clear_41 rfl (lv_at hl 3 rfl) ?_
    refine lv_isub hx hb dX8_clear_42 ?_
    refine xr_top (y := nI (60 - i)) (pk_sub (a := 60) (b := i) (by omega)) ?_
    refine xr_nst hx hb hKN.1 hP hD hS 8 0 (g := q) rfl rfl (j := i) (v := 60 - i) (by omega) (by decide) dX8_clear_43 (fun H locs hP hD hS => ?_)
    have hP : va_P D vwCl (wT ca kq a (ky, vl, lf, rt, ct, ht, tt, (va_up q i (60 - i)), pa, ro, 60, 0, 0, o2, k2)) H := hP
    have hD : va_D A (wT ca kq a (ky, vl, lf, rt, ct, ht, tt, (va_up q i (60 - i)), pa, ro, 60, 0, 0, o2, k2)) := hD
    refine lv_iinc (v := (nI (i + 1))) (lv' := [(3, .int (nI (i + 1))), (0, .ref (a 0)), (1, .ref (kq k2)), (2, .int o2)]) hx hb dX8_clear_44 hl (k := 3) rfl (nI_1 _) (by decide) rfl (fun ls hl => ?_)
    refine lv_goto (tgt := 28) hx hb dX8_clear_47 (by decide) ?_
    exact ih n (by omega) (i + 1, (va_up q i (60 - i))) _ _ _ ⟨(by omega), (vu_le hq (by omega)), hg.trans (by rw [sp_go]), hP, hD, hS, lv_sub hl [1, 2, 3, 0] rfl⟩

-- Tree.addsUp
set_option maxHeartbeats 4000000 in
set_option maxRecDepth 100000 in
theorem c_X8_addsUp (l : Launch) (D : va_G) (ca : Nat → ClassId) (kq a : Nat → Nat) (sz : Nat) (ky vl : Nat → Int32) (lf rt : Nat → Nat) (ct ht : Nat → Int32) (tt : Nat → Int64) (sp pa ro : Nat → Nat) (ss dp rn : Nat) (od : Int32) (kd : Nat) (x : Nat) (hlf : ∀ k, lf k ≤ 60) (hrt : ∀ k, rt k ≤ 60) (hsp : ∀ k, sp k ≤ 60) (hpa : ∀ k, pa k ≤ 60) (hro : ∀ k, ro k ≤ 60) (hrn : rn ≤ 60) (hx60 : x ≤ 60): Met l yX8_addsUp wsX8_addsUp ({ frames := 0, cells := 0, slots := 0, locals := 0 } : Room) (xPc D (TY ca) [.ref (a 0), .int (nI x)] (wT ca kq a (ky, vl, lf, rt, ct, ht, tt, sp, pa, ro, ss, dp, rn, od, kd)) sz) (va_Qi (fun (r : Int32) (u : TS) => r = bI (f_addsUp (ky, vl, lf, rt, ct, ht, tt, sp, pa, ro, ss, dp, rn, od, kd) x) ∧ u = (ky, vl, lf, rt, ct, ht, tt, sp, pa, ro, ss, dp, rn, od, kd)) (xB D (wT ca kq a) (va_A (wT ca kq a (ky, vl, lf, rt, ct, ht, tt, sp, pa, ro, ss, dp, rn, od, kd)) sz)) (va_A (wT ca kq a (ky, vl, lf, rt, ct, ht, tt, sp, pa, ro, ss, dp, rn, od, kd)) sz)) 0 0 (va_A (wT ca kq a (ky, vl, lf, rt, ct, ht, tt, sp, pa, ro, ss, dp, rn, od, kd)) sz) := by
  refine Met.ofW (cc := cX8_addsUp) (maxL := 4) (ret := (some .boolean)) (by decide) rfl ?_
  intro p e s m args below meth c s₁ B hml hv
  obtain ⟨rfl, hsz, hP, hKN, hD0⟩ := hv
  have hx := B.exec
  have hb := B.bytes
  have hr := B.returns
  have hts := atoms_spec (ws := wsX8_addsUp) B.pre
  have hown : s.vm.findClass RX8 = some m.cls := findClass_of_methodNamed B.named
  have hlocks := B.notSynchronized
  have inX8 : ∀ w ∈ wsX80, w ∈ wsX8_addsUp := by decide +kernel
  subst hsz
  have hD := hD0.self (sz := s.heap.size)
  generalize hAe : va_A (wT ca kq a (ky, vl, lf, rt, ct, ht, tt, sp, pa, ro, ss, dp, rn, od, kd)) s.heap.size = A at hD ⊢
  have hA : ∀ q : Nat, s.heap.size ≤ q → A q := fun q h => by rw [← hAe]; exact Or.inr h
  have hS : va_S A s.heap s.heap [] := va_S.rf
  have hl := lv_entry ([.ref (a 0), .int (nI x)]) (n := 4) (Nat.le_of_ble_eq_true rfl)
  rw [lg_entry_eq]
  generalize (lg_sl ([.ref (a 0), .int (nI x)]) ++ List.replicate (4 - (lg_sl ([.ref (a 0), .int (nI x)])).length) Slot.unset).toArray = ls at hl ⊢
  have hl : lv_has ls 4 [(0, .ref (a 0)), (1, .int (nI x))] := hl
  refine lv_aload_n hx hb dX8_addsUp_0 rfl (lv_at hl 0 rfl) ?_
  refine va_get (D := D) (ci := 6) (v := .ref (a 3)) (C := RX8) (T := TX8) (N := 15) hx hb hts inX8 hown hKN.1 hP 0 rfl rfl 2 (by decide) (hts (.fieldLink RX8 18 "TreeFamily$Tree" "left" "[I") (by decide +kernel)) (fun _ h9 => h9) rfl dX8_addsUp_1 ?_
  refine lv_iload_n hx hb dX8_addsUp_4 rfl (lv_at hl 1 rfl) ?_
  refine xr_ild hx hb hKN.1 hP 3 0 rfl rfl (j := x) (Nat.lt_of_le_of_lt hx60 (by decide)) (by decide) dX8_addsUp_5 ?_
  refine lv_istore_n (lv' := [(2, .int (nI (lf x))), (0, .ref (a 0)), (1, .int (nI x))]) hx hb dX8_addsUp_6 rfl hl (by decide) rfl (fun ls hl => ?_)
  refine lv_aload_n hx hb dX8_addsUp_7 rfl (lv_at hl 1 rfl) ?_
  refine va_get (D := D) (ci := 6) (v := .ref (a 4)) (C := RX8) (T := TX8) (N := 15) hx hb hts inX8 hown hKN.1 hP 0 rfl rfl 3 (by decide) (hts (.fieldLink RX8 21 "TreeFamily$Tree" "right" "[I") (by decide +kernel)) (fun _ h9 => h9) rfl dX8_addsUp_8 ?_
  refine lv_iload_n hx hb dX8_addsUp_11 rfl (lv_at hl 2 rfl) ?_
  refine xr_ild hx hb hKN.1 hP 4 0 rfl rfl (j := x) (Nat.lt_of_le_of_lt hx60 (by decide)) (by decide) dX8_addsUp_12 ?_
  refine lv_istore_n (lv' := [(3, .int (nI (rt x))), (2, .int (nI (lf x))), (0, .ref (a 0)), (1, .int (nI x))]) hx hb dX8_addsUp_13 rfl hl (by decide) rfl (fun ls hl => ?_)
  refine lv_aload_n hx hb dX8_addsUp_14 rfl (lv_at hl 2 rfl) ?_
  refine va_get (D := D) (ci := 6) (v := .ref (a 5)) (C := RX8) (T := TX8) (N := 15) hx hb hts inX8 hown hKN.1 hP 0 rfl rfl 4 (by decide) (hts (.fieldLink RX8 24 "TreeFamily$Tree" "counts" "[I") (by decide +kernel)) (fun _ h9 => h9) rfl dX8_addsUp_15 ?_
  refine lv_iload_n hx hb dX8_addsUp_18 rfl (lv_at hl 3 rfl) ?_
  refine xr_ild hx hb hKN.1 hP 5 0 rfl rfl (j := x) (Nat.lt_of_le_of_lt hx60 (by decide)) (by decide) dX8_addsUp_19 ?_
  refine lv_aload_n hx hb dX8_addsUp_20 rfl (lv_at hl 2 rfl) ?_
  refine va_get (D := D) (ci := 6) (v := .ref (a 5)) (C := RX8) (T := TX8) (N := 15) hx hb hts inX8 hown hKN.1 hP 0 rfl rfl 4 (by decide) (hts (.fieldLink RX8 24 "TreeFamily$Tree" "counts" "[I") (by decide +kernel)) (fun _ h9 => h9) rfl dX8_addsUp_21 ?_
  refine lv_iload_n hx hb dX8_addsUp_24 rfl (lv_at hl 1 rfl) ?_
  refine xr_ild hx hb hKN.1 hP 5 0 rfl rfl (j := lf x) (Nat.lt_of_le_of_lt (hlf x) (by decide)) (by decide) dX8_addsUp_25 ?_
  refine lv_aload_n hx hb dX8_addsUp_26 rfl (lv_at hl 2 rfl) ?_
  refine va_get (D := D) (ci := 6) (v := .ref (a 5)) (C := RX8) (T := TX8) (N := 15) hx hb hts inX8 hown hKN.1 hP 0 rfl rfl 4 (by decide) (hts (.fieldLink RX8 24 "TreeFamily$Tree" "counts" "[I") (by decide +kernel)) (fun _ h9 => h9) rfl dX8_addsUp_27 ?_
  refine lv_iload_n hx hb dX8_addsUp_30 rfl (lv_at hl 0 rfl) ?_
  refine xr_ild hx hb hKN.1 hP 5 0 rfl rfl (j := rt x) (Nat.lt_of_le_of_lt (hrt x) (by decide)) (by decide) dX8_addsUp_31 ?_
  refine lv_iadd hx hb dX8_addsUp_32 ?_
  refine lv_iconst (v := 1) hx hb dX8_addsUp_33 (by decide) ?_
  refine lv_iadd hx hb dX8_addsUp_34 ?_
  refine lv_icmp_ne (tgt := 114) hx hb dX8_addsUp_35 (by decide) (fun c35 => ?_) (fun c35 => ?_)
  · skip
    refine lv_iconst (v := 0) hx hb dX8_addsUp_114 (by decide) ?_
    exact W.zret (v := 0) hx hb hr (by decide) (fun t9 e9 w9 => ⟨⟨_, (ky, vl, lf, rt, ct, ht, tt, sp, pa, ro, ss, dp, rn, od, kd), rfl, ⟨by unfold f_addsUp; first | (rw [if_neg c35]; rfl) | (rw [if_pos c35, if_neg c66]; rfl) | (rw [if_pos c35, if_pos c66, if_neg c107]; rfl) | (rw [if_pos c35, if_pos c66, if_pos c107]; rfl), rfl⟩, by rw [e9]; exact hP, hD⟩, hS.F e9⟩) hS.2.2 dX8_addsUp_115
  · skip
    refine lv_aload_n hx hb dX8_addsUp_38 rfl (lv_at hl 2 rfl) ?_
    refine va_get (D := D) (ci := 6) (v := .ref (a 7)) (C := RX8) (T := TX8) (N := 15) hx hb hts inX8 hown hKN.1 hP 0 rfl rfl 6 (by decide) (hts (.fieldLink RX8 30 "TreeFamily$Tree" "totals" "[J") (by decide +kernel)) (fun _ h9 => h9) rfl dX8_addsUp_39 ?_
    refine lv_iload_n hx hb dX8_addsUp_42 rfl (lv_at hl 3 rfl) ?_
    refine xr_lld hx hb hKN.1 hP 7 1 rfl rfl (j := x) (Nat.lt_of_le_of_lt hx60 (by decide)) (by decide) dX8_addsUp_43 ?_
    refine lv_aload_n hx hb dX8_addsUp_44 rfl (lv_at hl 2 rfl) ?_
    refine va_get (D := D) (ci := 6) (v := .ref (a 7)) (C := RX8) (T := TX8) (N := 15) hx hb hts inX8 hown hKN.1 hP 0 rfl rfl 6 (by decide) (hts (.fieldLink RX8 30 "TreeFamily$Tree" "totals" "[J") (by decide +kernel)) (fun _ h9 => h9) rfl dX8_addsUp_45 ?_
    refine lv_iload_n hx hb dX8_addsUp_48 rfl (lv_at hl 1 rfl) ?_
    refine xr_lld hx hb hKN.1 hP 7 1 rfl rfl (j := lf x) (Nat.lt_of_le_of_lt (hlf x) (by decide)) (by decide) dX8_addsUp_49 ?_
    refine lv_aload_n hx hb dX8_addsUp_50 rfl (lv_at hl 2 rfl) ?_
    refine va_get (D := D) (ci := 6) (v := .ref (a 7)) (C := RX8) (T := TX8) (N := 15) hx hb hts inX8 hown hKN.1 hP 0 rfl rfl 6 (by decide) (hts (.fieldLink RX8 30 "TreeFamily$Tree" "totals" "[J") (by decide +kernel)) (fun _ h9 => h9) rfl dX8_addsUp_51 ?_
    refine lv_iload_n hx hb dX8_addsUp_54 rfl (lv_at hl 0 rfl) ?_
    refine xr_lld hx hb hKN.1 hP 7 1 rfl rfl (j := rt x) (Nat.lt_of_le_of_lt (hrt x) (by decide)) (by decide) dX8_addsUp_55 ?_
    refine lv_ladd hx hb dX8_addsUp_56 ?_
    refine lv_aload_n hx hb dX8_addsUp_57 rfl (lv_at hl 2 rfl) ?_
    refine va_get (D := D) (ci := 6) (v := .ref (a 2)) (C := RX8) (T := TX8) (N := 15) hx hb hts inX8 hown hKN.1 hP 0 rfl rfl 1 (by decide) (hts (.fieldLink RX8 15 "TreeFamily$Tree" "values" "[I") (by decide +kernel)) (fun _ h9 => h9) rfl dX8_addsUp_58 ?_
    refine lv_iload_n hx hb dX8_addsUp_61 rfl (lv_at hl 3 rfl) ?_
    refine xr_ild hx hb hKN.1 hP 2 0 rfl rfl (j := x) (Nat.lt_of_le_of_lt hx60 (by decide)) (by decide) dX8_addsUp_62 ?_
    refine lv_i2l hx hb dX8_addsUp_63 rfl ?_
    refine lv_ladd hx hb dX8_addsUp_64 ?_
    refine W.lcmp hx hb dX8_addsUp_65 ?_
    refine lv_if_ne (tgt := 114) hx hb dX8_addsUp_66 (by decide) (fun c66 => ?_) (fun c66 => ?_)
    · skip
      have c66 := fun h9 => c66 (lgc_0.mpr h9)
      refine lv_iconst (v := 0) hx hb dX8_addsUp_114 (by decide) ?_
      exact W.zret (v := 0) hx hb hr (by decide) (fun t9 e9 w9 => ⟨⟨_, (ky, vl, lf, rt, ct, ht, tt, sp, pa, ro, ss, dp, rn, od, kd), rfl, ⟨by unfold f_addsUp; first | (rw [if_neg c35]; rfl) | (rw [if_pos c35, if_neg c66]; rfl) | (rw [if_pos c35, if_pos c66, if_neg c107]; rfl) | (rw [if_pos c35, if_pos c66, if_pos c107]; rfl), rfl⟩, by rw [e9]; exact hP, hD⟩, hS.F e9⟩) hS.2.2 dX8_addsUp_115
    · skip
      have c66 := lgc_0.mp c66
      refine lv_aload_n hx hb dX8_addsUp_69 rfl (lv_at hl 2 rfl) ?_
      refine va_get (D := D) (ci := 6) (v := .ref (a 6)) (C := RX8) (T := TX8) (N := 15) hx hb hts inX8 hown hKN.1 hP 0 rfl rfl 5 (by decide) (hts (.fieldLink RX8 27 "TreeFamily$Tree" "heights" "[I") (by decide +kernel)) (fun _ h9 => h9) rfl dX8_addsUp_70 ?_
      refine lv_iload_n hx hb dX8_addsUp_73 rfl (lv_at hl 3 rfl) ?_
      refine xr_ild hx hb hKN.1 hP 6 0 rfl rfl (j := x) (Nat.lt_of_le_of_lt hx60 (by decide)) (by decide) dX8_addsUp_74 ?_
      refine lv_aload_n hx hb dX8_addsUp_75 rfl (lv_at hl 2 rfl) ?_
      refine va_get (D := D) (ci := 6) (v := .ref (a 6)) (C := RX8) (T := TX8) (N := 15) hx hb hts inX8 hown hKN.1 hP 0 rfl rfl 5 (by decide) (hts (.fieldLink RX8 27 "TreeFamily$Tree" "heights" "[I") (by decide +kernel)) (fun _ h9 => h9) rfl dX8_addsUp_76 ?_
      refine lv_iload_n hx hb dX8_addsUp_79 rfl (lv_at hl 1 rfl) ?_
      refine xr_ild hx hb hKN.1 hP 6 0 rfl rfl (j := lf x) (Nat.lt_of_le_of_lt (hlf x) (by decide)) (by decide) dX8_addsUp_80 ?_
      refine lv_aload_n hx hb dX8_addsUp_81 rfl (lv_at hl 2 rfl) ?_
      refine va_get (D := D) (ci := 6) (v := .ref (a 6)) (C := RX8) (T := TX8) (N := 15) hx hb hts inX8 hown hKN.1 hP 0 rfl rfl 5 (by decide) (hts (.fieldLink RX8 27 "TreeFamily$Tree" "heights" "[I") (by decide +kernel)) (fun _ h9 => h9) rfl dX8_addsUp_82 ?_
      refine lv_iload_n hx hb dX8_addsUp_85 rfl (lv_at hl 0 rfl) ?_
      refine xr_ild hx hb hKN.1 hP 6 0 rfl rfl (j := rt x) (Nat.lt_of_le_of_lt (hrt x) (by decide)) (by decide) dX8_addsUp_86 ?_
      refine lv_icmp_le (tgt := 99) hx hb dX8_addsUp_87 (by decide) (fun c87 => ?_) (fun c87 => ?_)
      · skip
        refine lv_aload_n hx hb dX8_addsUp_99 rfl (lv_at hl 2 rfl) ?_
        refine va_get (D := D) (ci := 6) (v := .ref (a 6)) (C := RX8) (T := TX8) (N := 15) hx hb hts inX8 hown hKN.1 hP 0 rfl rfl 5 (by decide) (hts (.fieldLink RX8 27 "TreeFamily$Tree" "heights" "[I") (by decide +kernel)) (fun _ h9 => h9) rfl dX8_addsUp_100 ?_
        refine lv_iload_n hx hb dX8_addsUp_103 rfl (lv_at hl 0 rfl) ?_
        refine xr_ild hx hb hKN.1 hP 6 0 rfl rfl (j := rt x) (Nat.lt_of_le_of_lt (hrt x) (by decide)) (by decide) dX8_addsUp_104 ?_
        refine xr_top (y := mx (ht (lf x)) (ht (rt x))) (by first | rw [mx, if_pos c87] | rw [mx, if_neg c87]) ?_
        refine lv_iconst (v := 1) hx hb dX8_addsUp_105 (by decide) ?_
        refine lv_iadd hx hb dX8_addsUp_106 ?_
        refine lv_icmp_ne (tgt := 114) hx hb dX8_addsUp_107 (by decide) (fun c107 => ?_) (fun c107 => ?_)
        · skip
          refine lv_iconst (v := 0) hx hb dX8_addsUp_114 (by decide) ?_
          exact W.zret (v := 0) hx hb hr (by decide) (fun t9 e9 w9 => ⟨⟨_, (ky, vl, lf, rt, ct, ht, tt, sp, pa, ro, ss, dp, rn, od, kd), rfl, ⟨by unfold f_addsUp; first | (rw [if_neg c35]; rfl) | (rw [if_pos c35, if_neg c66]; rfl) | (rw [if_pos c35, if_pos c66, if_neg c107]; rfl) | (rw [if_pos c35, if_pos c66, if_pos c107]; rfl), rfl⟩, by rw [e9]; exact hP, hD⟩, hS.F e9⟩) hS.2.2 dX8_addsUp_115
        · skip
          refine lv_iconst (v := 1) hx hb dX8_addsUp_110 (by decide) ?_
          refine lv_goto (tgt := 115) hx hb dX8_addsUp_111 (by decide) ?_
          exact W.zret (v := 1) hx hb hr (by decide) (fun t9 e9 w9 => ⟨⟨_, (ky, vl, lf, rt, ct, ht, tt, sp, pa, ro, ss, dp, rn, od, kd), rfl, ⟨by unfold f_addsUp; first | (rw [if_neg c35]; rfl) | (rw [if_pos c35, if_neg c66]; rfl) | (rw [if_pos c35, if_pos c66, if_neg c107]; rfl) | (rw [if_pos c35, if_pos c66, if_pos c107]; rfl), rfl⟩, by rw [e9]; exact hP, hD⟩, hS.F e9⟩) hS.2.2 dX8_addsUp_115
      · skip
        refine lv_aload_n hx hb dX8_addsUp_90 rfl (lv_at hl 2 rfl) ?_
        refine va_get (D := D) (ci := 6) (v := .ref (a 6)) (C := RX8) (T := TX8) (N := 15) hx hb hts inX8 hown hKN.1 hP 0 rfl rfl 5 (by decide) (hts (.fieldLink RX8 27 "TreeFamily$Tree" "heights" "[I") (by decide +kernel)) (fun _ h9 => h9) rfl dX8_addsUp_91 ?_
        refine lv_iload_n hx hb dX8_addsUp_94 rfl (lv_at hl 1 rfl) ?_
        refine xr_ild hx hb hKN.1 hP 6 0 rfl rfl (j := lf x) (Nat.lt_of_le_of_lt (hlf x) (by decide)) (by decide) dX8_addsUp_95 ?_
        refine lv_goto (tgt := 105) hx hb dX8_addsUp_96 (by decide) ?_
        refine xr_top (y := mx (ht (lf x)) (ht (rt x))) (by first | rw [mx, if_pos c87] | rw [mx, if_neg c87]) ?_
        refine lv_iconst (v := 1) hx hb dX8_addsUp_105 (by decide) ?_
        refine lv_iadd hx hb dX8_addsUp_106 ?_
        refine lv_icmp_ne (tgt := 114) hx hb dX8_addsUp_107 (by decide) (fun c107 => ?_) (fun c107 => ?_)
        · skip
          refine lv_iconst (v := 0) hx hb dX8_addsUp_114 (by decide) ?_
          exact W.zret (v := 0) hx hb hr (by decide) (fun t9 e9 w9 => ⟨⟨_, (ky, vl, lf, rt, ct, ht, tt, sp, pa, ro, ss, dp, rn, od, kd), rfl, ⟨by unfold f_addsUp; first | (rw [if_neg c35]; rfl) | (rw [if_pos c35, if_neg c66]; rfl) | (rw [if_pos c35, if_pos c66, if_neg c107]; rfl) | (rw [if_pos c35, if_pos c66, if_pos c107]; rfl), rfl⟩, by rw [e9]; exact hP, hD⟩, hS.F e9⟩) hS.2.2 dX8_addsUp_115
        · skip
          refine lv_iconst (v := 1) hx hb dX8_addsUp_110 (by decide) ?_
          refine lv_goto (tgt := 115) hx hb dX8_addsUp_111 (by decide) ?_
          exact W.zret (v := 1) hx hb hr (by decide) (fun t9 e9 w9 => ⟨⟨_, (ky, vl, lf, rt, ct, ht, tt, sp, pa, ro, ss, dp, rn, od, kd), rfl, ⟨by unfold f_addsUp; first | (rw [if_neg c35]; rfl) | (rw [if_pos c35, if_neg c66]; rfl) | (rw [if_pos c35, if_pos c66, if_neg c107]; rfl) | (rw [if_pos c35, if_pos c66, if_pos c107]; rfl), rfl⟩, by rw [e9]; exact hP, hD⟩, hS.F e9⟩) hS.2.2 dX8_addsUp_115
