-- Tree.isSound
set_option maxHeartbeats 4000000 in
set_option maxRecDepth 100000 in
theorem c_X8_isSound (l : Launch) (D : va_G) (ca : Nat → ClassId) (kq a : Nat → Nat) (sz : Nat) (ky vl : Nat → Int32) (lf rt : Nat → Nat) (ct ht : Nat → Int32) (tt : Nat → Int64) (sp pa ro : Nat → Nat) (ss dp rn : Nat) (od : Int32) (kd : Nat) (c9 : Nat) (hlf : ∀ k, lf k ≤ 60) (hrt : ∀ k, rt k ≤ 60) (hsp : ∀ k, sp k ≤ 60) (hpa : ∀ k, pa k ≤ 60) (hro : ∀ k, ro k ≤ 60) (hrn : rn ≤ 60) (hkd : kd < 4) (hc : ct rn = nI c9) (hc60 : c9 ≤ 60): Met l yX8_isSound wsX8_isSound ({ frames := 3, cells := 0, slots := 0, locals := 67 } : Room) (xPc D (TY ca) [.ref (a 0)] ((wKd kq) ++ (wT ca kq a (ky, vl, lf, rt, ct, ht, tt, sp, pa, ro, ss, dp, rn, od, kd))) sz) (va_Qi (fun (r : Int32) (u : TS) => r = bI (f_isSound (ky, vl, lf, rt, ct, ht, tt, sp, pa, ro, ss, dp, rn, od, kd) c9) ∧ u = (ky, vl, lf, rt, ct, ht, tt, sp, pa, ro, ss, dp, rn, od, kd)) (xB D (fun t : TS => (wKd kq) ++ (wT ca kq a t)) (va_A ((wKd kq) ++ (wT ca kq a (ky, vl, lf, rt, ct, ht, tt, sp, pa, ro, ss, dp, rn, od, kd))) sz)) (va_A ((wKd kq) ++ (wT ca kq a (ky, vl, lf, rt, ct, ht, tt, sp, pa, ro, ss, dp, rn, od, kd))) sz)) 0 0 (va_A ((wKd kq) ++ (wT ca kq a (ky, vl, lf, rt, ct, ht, tt, sp, pa, ro, ss, dp, rn, od, kd))) sz) := by
  refine Met.ofW (cc := cX8_isSound) (maxL := 4) (ret := (some .boolean)) (by decide) rfl ?_
  intro p e s m args below meth c s₁ B hml hv
  obtain ⟨rfl, hsz, hP, hKN, hD0⟩ := hv
  have hx := B.exec
  have hb := B.bytes
  have hr := B.returns
  have hts := atoms_spec (ws := wsX8_isSound) B.pre
  have hown : s.vm.findClass RX8 = some m.cls := findClass_of_methodNamed B.named
  have hlocks := B.notSynchronized
  have inX8 : ∀ w ∈ wsX80, w ∈ wsX8_isSound := by decide +kernel
  subst hsz
  have hD := hD0.self (sz := s.heap.size)
  generalize hAe : va_A ((wKd kq) ++ (wT ca kq a (ky, vl, lf, rt, ct, ht, tt, sp, pa, ro, ss, dp, rn, od, kd))) s.heap.size = A at hD ⊢
  have hA : ∀ q : Nat, s.heap.size ≤ q → A q := fun q h => by rw [← hAe]; exact Or.inr h
  have hS : va_S A s.heap s.heap [] := va_S.rf
  have hl := lv_entry ([.ref (a 0)]) (n := 4) (Nat.le_of_ble_eq_true rfl)
  rw [lg_entry_eq]
  generalize (lg_sl ([.ref (a 0)]) ++ List.replicate (4 - (lg_sl ([.ref (a 0)])).length) Slot.unset).toArray = ls at hl ⊢
  have hl : lv_has ls 4 [(0, .ref (a 0))] := hl
  refine lv_aload_n hx hb dX8_isSound_0 rfl (lv_at hl 0 rfl) ?_
  refine va_get (D := D) (ci := 6) (v := .ref (a 5)) (C := RX8) (T := TX8) (N := 15) hx hb hts inX8 hown hKN.1 hP 4 rfl rfl 4 (by decide) (hts (.fieldLink RX8 24 "TreeFamily$Tree" "counts" "[I") (by decide +kernel)) (fun _ h9 => h9) rfl dX8_isSound_1 ?_
  refine lv_aload_n hx hb dX8_isSound_4 rfl (lv_at hl 0 rfl) ?_
  refine va_get (D := D) (ci := 6) (v := .int (nI rn)) (C := RX8) (T := TX8) (N := 15) hx hb hts inX8 hown hKN.1 hP 4 rfl rfl 12 (by decide) (hts (.fieldLink RX8 55 "TreeFamily$Tree" "root" "I") (by decide +kernel)) (fun _ h9 => h9) rfl dX8_isSound_5 ?_
  refine xr_ild hx hb hKN.1 hP 9 0 rfl rfl (j := rn) (Nat.lt_of_le_of_lt hrn (by decide)) (by decide) dX8_isSound_8 ?_
  refine xr_top (y := nI c9) hc ?_
  refine lv_istore_n (lv' := [(1, .int (nI c9)), (0, .ref (a 0))]) hx hb dX8_isSound_9 rfl hl (by decide) rfl (fun ls hl => ?_)
  refine lv_iconst (v := 0) hx hb dX8_isSound_10 (by decide) ?_
  refine lv_istore_n (lv' := [(2, .int 0), (1, .int (nI c9)), (0, .ref (a 0))]) hx hb dX8_isSound_11 rfl hl (by decide) rfl (fun ls hl => ?_)
  refine xl 12 (σ := Nat) (fun n u H locs ls => match u with | (i) => i + n = c9 ∧ f_isSound (ky, vl, lf, rt, ct, ht, tt, sp, pa, ro, ss, dp, rn, od, kd) c9 = so_go (ky, vl, lf, rt, ct, ht, tt, sp, pa, ro, ss, dp, rn, od, kd) c9 n i ∧ va_P D vwCl ((wKd kq) ++ (wT ca kq a (ky, vl, lf, rt, ct, ht, tt, sp, pa, ro, ss, dp, rn, od, kd))) H ∧ va_D A ((wKd kq) ++ (wT ca kq a (ky, vl, lf, rt, ct, ht, tt, sp, pa, ro, ss, dp, rn, od, kd))) ∧ va_S A s.heap H locs ∧ lv_has ls 4 [(0, .ref (a 0)), (1, .int (nI c9)), (2, .int (nI i))]) ?_ c9 (0) _ _ _ ⟨(by omega), rfl, hP, hD, hS, lv_sub hl [2, 1, 0] rfl⟩
  clear hP hD hS hl
  intro n ih i H locs ls hI
  obtain ⟨hn, hg, hP, hD, hS, hl⟩ := hI
  refine lv_iload_n hx hb dX8_isSound_12 rfl (lv_at hl 2 rfl) ?_
  refine lv_iload_n hx hb dX8_isSound_13 rfl (lv_at hl 1 rfl) ?_
  refine lv_icmp_ge (tgt := 97) hx hb dX8_isSound_14 (by decide) (fun c14 => ?_) (fun c14 => ?_)
  · skip
    have c14 : c9 ≤ i := (xn_le (a := c9) (b := i) (Nat.lt_of_le_of_lt hc60 (by decide)) (by omega)).mp c14
    refine lv_iload_n hx hb dX8_isSound_97 rfl (lv_at hl 1 rfl) ?_
    refine lv_aload_n hx hb dX8_isSound_98 rfl (lv_at hl 0 rfl) ?_
    refine va_get (D := D) (ci := 6) (v := .int (nI ss)) (C := RX8) (T := TX8) (N := 15) hx hb hts inX8 hown hKN.1 hP 4 rfl rfl 10 (by decide) (hts (.fieldLink RX8 61 "TreeFamily$Tree" "spares" "I") (by decide +kernel)) (fun _ h9 => h9) rfl dX8_isSound_99 ?_
    refine lv_iadd hx hb dX8_isSound_102 ?_
    refine lv_bipush (v := 60) hx hb dX8_isSound_103 (by decide) ?_
    refine lv_icmp_ne (tgt := 112) hx hb dX8_isSound_105 (by decide) (fun c105 => ?_) (fun c105 => ?_)
    · skip
      refine lv_iconst (v := 0) hx hb dX8_isSound_112 (by decide) ?_
      exact W.zret (v := 0) hx hb hr (by decide) (fun t9 e9 w9 => ⟨⟨_, (ky, vl, lf, rt, ct, ht, tt, sp, pa, ro, ss, dp, rn, od, kd), rfl, ⟨bI_of (c := false) (hg.trans (by obtain rfl : n = 0 := (by omega); rw [so_go]; first | exact if_pos c105 | exact if_neg c105)) rfl, rfl⟩, by rw [e9]; exact hP, hD⟩, hS.F e9⟩) hS.2.2 dX8_isSound_113
    · skip
      refine lv_iconst (v := 1) hx hb dX8_isSound_108 (by decide) ?_
      refine lv_goto (tgt := 113) hx hb dX8_isSound_109 (by decide) ?_
      exact W.zret (v := 1) hx hb hr (by decide) (fun t9 e9 w9 => ⟨⟨_, (ky, vl, lf, rt, ct, ht, tt, sp, pa, ro, ss, dp, rn, od, kd), rfl, ⟨bI_of (c := true) (hg.trans (by obtain rfl : n = 0 := (by omega); rw [so_go]; first | exact if_pos c105 | exact if_neg c105)) rfl, rfl⟩, by rw [e9]; exact hP, hD⟩, hS.F e9⟩) hS.2.2 dX8_isSound_113
  · skip
    have c14 : ¬ c9 ≤ i := fun h9 => c14 ((xn_le (a := c9) (b := i) (Nat.lt_of_le_of_lt hc60 (by decide)) (by omega)).mpr h9)
    obtain ⟨n, rfl⟩ : ∃ k, n = k + 1 := ⟨n - 1, by omega⟩
    refine lv_aload_n hx hb dX8_isSound_17 rfl (lv_at hl 0 rfl) ?_
    refine lv_aload_n hx hb dX8_isSound_18 rfl (lv_at hl 0 rfl) ?_
    refine va_get (D := D) (ci := 6) (v := .int (nI rn)) (C := RX8) (T := TX8) (N := 15) hx hb hts inX8 hown hKN.1 hP 4 rfl rfl 12 (by decide) (hts (.fieldLink RX8 55 "TreeFamily$Tree" "root" "I") (by decide +kernel)) (fun _ h9 => h9) rfl dX8_isSound_19 ?_
    refine lv_iload_n hx hb dX8_isSound_22 rfl (lv_at hl 2 rfl) ?_
    refine xc_i (wr := wKd kq) (va_runV (As := [.int (nI rn), .int (nI i)]) (rest := []) ⟨hx, hb, hml, hown, hts⟩ (c_X8_nodeAt l D ca kq a _ ky vl lf rt ct ht tt sp pa ro ss dp rn od kd rn (nI i) hlf hrt hsp hpa hro hrn hrn) (cwV 2 hts gX8_isSound_X8_nodeAt rfl rfl rfl (by decide +kernel) ⟨(Nat.le_of_ble_eq_true rfl), (Nat.le_of_ble_eq_true rfl)⟩) (xPreV hKN hP hD [4, 5, 6, 7, 8, 9, 10, 11, 12, 13, 14] (by decide) rfl (q0 := 4) rfl rfl rfl) rfl rfl hl.1 rfl (lv_room (Nat.le_of_ble_eq_true rfl)) dX8_isSound_23 ⟨(Nat.le_of_ble_eq_true rfl), (Nat.le_of_ble_eq_true rfl)⟩) hP hD hS hA [4, 5, 6, 7, 8, 9, 10, 11, 12, 13, 14] [0, 1, 2, 3] rfl rfl (by decide) (by decide) (fun r23 u23 H locs hu23 hP hD hS => ?_)
    obtain ⟨er23, eu23⟩ := hu23
    subst er23
    subst eu23
    have hP : va_P D vwCl ((wKd kq) ++ (wT ca kq a (ky, vl, lf, rt, ct, ht, tt, sp, pa, ro, ss, dp, rn, od, kd))) H := hP
    have hD : va_D A ((wKd kq) ++ (wT ca kq a (ky, vl, lf, rt, ct, ht, tt, sp, pa, ro, ss, dp, rn, od, kd))) := hD
    refine lv_istore_n (lv' := [(3, .int (nI (f_nodeAt (ky, vl, lf, rt, ct, ht, tt, sp, pa, ro, ss, dp, rn, od, kd) rn (nI i)))), (0, .ref (a 0)), (1, .int (nI c9)), (2, .int (nI i))]) hx hb dX8_isSound_26 rfl hl (by decide) rfl (fun ls hl => ?_)
    refine lv_iload_n hx hb dX8_isSound_27 rfl (lv_at hl 0 rfl) ?_
    refine lv_if_eq (tgt := 51) hx hb dX8_isSound_28 (by decide) (fun c28 => ?_) (fun c28 => ?_)
    · skip
      have c28 : (f_nodeAt (ky, vl, lf, rt, ct, ht, tt, sp, pa, ro, ss, dp, rn, od, kd) rn (nI i)) = 0 := (xn_eq (a := (f_nodeAt (ky, vl, lf, rt, ct, ht, tt, sp, pa, ro, ss, dp, rn, od, kd) rn (nI i))) (b := 0) (Nat.lt_of_le_of_lt (wf_nodeAt (⟨hlf, hrt, hsp, hpa, hro, hrn, hkd⟩ : WF (ky, vl, lf, rt, ct, ht, tt, sp, pa, ro, ss, dp, rn, od, kd)) hrn _) (by decide)) (by decide)).mp c28
      refine lv_iconst (v := 0) hx hb dX8_isSound_51 (by decide) ?_
      exact W.zret (v := 0) hx hb hr (by decide) (fun t9 e9 w9 => ⟨⟨_, (ky, vl, lf, rt, ct, ht, tt, sp, pa, ro, ss, dp, rn, od, kd), rfl, ⟨bI_of (c := false) (hg.trans (by rw [so_go]; first | rw [if_pos c28] | (rw [if_neg c28]; first | rw [if_pos c36] | (rw [if_neg (by rw [c36]; decide), if_pos c48])))) rfl, rfl⟩, by rw [e9]; exact hP, hD⟩, hS.F e9⟩) hS.2.2 dX8_isSound_52
    · skip
      have c28 : ¬ (f_nodeAt (ky, vl, lf, rt, ct, ht, tt, sp, pa, ro, ss, dp, rn, od, kd) rn (nI i)) = 0 := fun h9 => c28 ((xn_eq (a := (f_nodeAt (ky, vl, lf, rt, ct, ht, tt, sp, pa, ro, ss, dp, rn, od, kd) rn (nI i))) (b := 0) (Nat.lt_of_le_of_lt (wf_nodeAt (⟨hlf, hrt, hsp, hpa, hro, hrn, hkd⟩ : WF (ky, vl, lf, rt, ct, ht, tt, sp, pa, ro, ss, dp, rn, od, kd)) hrn _) (by decide)) (by decide)).mpr h9)
      refine lv_aload_n hx hb dX8_isSound_31 rfl (lv_at hl 1 rfl) ?_
      refine lv_iload_n hx hb dX8_isSound_32 rfl (lv_at hl 0 rfl) ?_
      refine xc_i (wr := wKd kq) (va_runV (As := [.int (nI (f_nodeAt (ky, vl, lf, rt, ct, ht, tt, sp, pa, ro, ss, dp, rn, od, kd) rn (nI i)))]) (rest := []) ⟨hx, hb, hml, hown, hts⟩ (c_X8_addsUp l D ca kq a _ ky vl lf rt ct ht tt sp pa ro ss dp rn od kd (f_nodeAt (ky, vl, lf, rt, ct, ht, tt, sp, pa, ro, ss, dp, rn, od, kd) rn (nI i)) hlf hrt hsp hpa hro hrn (wf_nodeAt (⟨hlf, hrt, hsp, hpa, hro, hrn, hkd⟩ : WF (ky, vl, lf, rt, ct, ht, tt, sp, pa, ro, ss, dp, rn, od, kd)) hrn _)) (cwV 1 hts gX8_isSound_X8_addsUp rfl rfl rfl (by decide +kernel) ⟨(Nat.le_of_ble_eq_true rfl), (Nat.le_of_ble_eq_true rfl)⟩) (xPreV hKN hP hD [4, 5, 6, 7, 8, 9, 10, 11, 12, 13, 14] (by decide) rfl (q0 := 4) rfl rfl rfl) rfl rfl hl.1 rfl (lv_room (Nat.le_of_ble_eq_true rfl)) dX8_isSound_33 ⟨(Nat.le_of_ble_eq_true rfl), (Nat.le_of_ble_eq_true rfl)⟩) hP hD hS hA [4, 5, 6, 7, 8, 9, 10, 11, 12, 13, 14] [0, 1, 2, 3] rfl rfl (by decide) (by decide) (fun r33 u33 H locs hu33 hP hD hS => ?_)
      obtain ⟨er33, eu33⟩ := hu33
      subst er33
      subst eu33
      have hP : va_P D vwCl ((wKd kq) ++ (wT ca kq a (ky, vl, lf, rt, ct, ht, tt, sp, pa, ro, ss, dp, rn, od, kd))) H := hP
      have hD : va_D A ((wKd kq) ++ (wT ca kq a (ky, vl, lf, rt, ct, ht, tt, sp, pa, ro, ss, dp, rn, od, kd))) := hD
      refine lv_if_eq (tgt := 51) hx hb dX8_isSound_36 (by decide) (fun c36 => ?_) (fun c36 => ?_)
      · skip
        have c36 := bI_0.mp c36
        refine lv_iconst (v := 0) hx hb dX8_isSound_51 (by decide) ?_
        exact W.zret (v := 0) hx hb hr (by decide) (fun t9 e9 w9 => ⟨⟨_, (ky, vl, lf, rt, ct, ht, tt, sp, pa, ro, ss, dp, rn, od, kd), rfl, ⟨bI_of (c := false) (hg.trans (by rw [so_go]; first | rw [if_pos c28] | (rw [if_neg c28]; first | rw [if_pos c36] | (rw [if_neg (by rw [c36]; decide), if_pos c48])))) rfl, rfl⟩, by rw [e9]; exact hP, hD⟩, hS.F e9⟩) hS.2.2 dX8_isSound_52
      · skip
        have c36 := bI_ne.mp c36
        refine lv_aload_n hx hb dX8_isSound_39 rfl (lv_at hl 1 rfl) ?_
        refine va_get (D := D) (ci := 6) (v := .ref (kq kd)) (C := RX8) (T := TX8) (N := 15) hx hb hts inX8 hown hKN.1 hP 4 rfl rfl 14 (by decide) (hts (.fieldLink RX8 47 "TreeFamily$Tree" "kind" "LTreeFamily$Kind;") (by decide +kernel)) (fun _ h9 => h9) rfl dX8_isSound_40 ?_
        refine lv_aload_n hx hb dX8_isSound_43 rfl (lv_at hl 1 rfl) ?_
        refine lv_iload_n hx hb dX8_isSound_44 rfl (lv_at hl 0 rfl) ?_
        rcases (show kd = 0 ∨ kd = 1 ∨ kd = 2 ∨ kd = 3 by omega) with rfl | rfl | rfl | rfl
        · skip
          refine xc_i (wr := []) (va_runU (As := [.ref (a 0), .int (nI (f_nodeAt (ky, vl, lf, rt, ct, ht, tt, sp, pa, ro, ss, dp, rn, od, 0) rn (nI i)))]) (rest := []) ⟨hx, hb, hml, hown, hts⟩ (c_X3_suits_X0 l D ca kq a _ ky vl lf rt ct ht tt sp pa ro ss dp rn od 0 (f_nodeAt (ky, vl, lf, rt, ct, ht, tt, sp, pa, ro, ss, dp, rn, od, 0) rn (nI i)) hlf hrt hsp hpa hro hrn (by decide : 0 < 4) (wf_nodeAt (⟨hlf, hrt, hsp, hpa, hro, hrn, (by decide : 0 < 4)⟩ : WF (ky, vl, lf, rt, ct, ht, tt, sp, pa, ro, ss, dp, rn, od, 0)) hrn _)) (va_cwA 2 hts gX8_isSound_X3_suits_u111X0 rfl rfl rfl (NW.d hKN.2 (by decide +kernel)) (by decide +kernel) ⟨(Nat.le_of_ble_eq_true rfl), (Nat.le_of_ble_eq_true rfl)⟩) (xPreV hKN hP hD [0, 1, 2, 3, 4, 5, 6, 7, 8, 9, 10, 11, 12, 13, 14] (by decide) rfl (q0 := 0) rfl rfl rfl) rfl rfl hl.1 rfl (lv_room (Nat.le_of_ble_eq_true rfl)) dX8_isSound_45 ⟨(Nat.le_of_ble_eq_true rfl), (Nat.le_of_ble_eq_true rfl)⟩) hP hD hS hA [0, 1, 2, 3, 4, 5, 6, 7, 8, 9, 10, 11, 12, 13, 14] [] rfl rfl (by decide) (by decide) (fun r45 u45 H locs hu45 hP hD hS => ?_)
          rw [← suits_0 (t := (ky, vl, lf, rt, ct, ht, tt, sp, pa, ro, ss, dp, rn, od, 0)) (x := f_nodeAt (ky, vl, lf, rt, ct, ht, tt, sp, pa, ro, ss, dp, rn, od, 0) rn (nI i)) rfl] at hu45
          obtain ⟨er45, eu45⟩ := hu45
          subst er45
          subst eu45
          have hP : va_P D vwCl ((wKd kq) ++ (wT ca kq a (ky, vl, lf, rt, ct, ht, tt, sp, pa, ro, ss, dp, rn, od, 0))) H := hP
          have hD : va_D A ((wKd kq) ++ (wT ca kq a (ky, vl, lf, rt, ct, ht, tt, sp, pa, ro, ss, dp, rn, od, 0))) := hD
          refine lv_if_ne (tgt := 53) hx hb dX8_isSound_48 (by decide) (fun c48 => ?_) (fun c48 => ?_)
          · skip
            have c48 := bI_ne.mp c48
            refine lv_iload_n hx hb dX8_isSound_53 rfl (lv_at hl 3 rfl) ?_
            refine lv_if_le (tgt := 91) hx hb dX8_isSound_54 (by decide) (fun c54 => ?_) (fun c54 => ?_)
            · skip
              have c54 : i ≤ 0 := (xn_le (a := i) (b := 0) (by omega) (by decide)).mp c54
              refine lv_iinc (v := (nI (i + 1))) (lv' := [(2, .int (nI (i + 1))), (3, .int (nI (f_nodeAt (ky, vl, lf, rt, ct, ht, tt, sp, pa, ro, ss, dp, rn, od, 0) rn (nI i)))), (0, .ref (a 0)), (1, .int (nI c9))]) hx hb dX8_isSound_91 hl (k := 3) rfl (nI_1 _) (by decide) rfl (fun ls hl => ?_)
              refine lv_goto (tgt := 12) hx hb dX8_isSound_94 (by decide) ?_
              exact ih n (by omega) (i + 1) _ _ _ ⟨(by omega), hg.trans (by rw [so_go]; rw [if_neg c28, if_neg (by rw [c36]; decide), if_neg (by rw [c48]; decide)]; rw [if_neg (fun h9 : (0 < i ∧ gB od (ky (f_nodeAt (ky, vl, lf, rt, ct, ht, tt, sp, pa, ro, ss, dp, rn, od, 0) rn (nI (i - 1)))) (ky (f_nodeAt (ky, vl, lf, rt, ct, ht, tt, sp, pa, ro, ss, dp, rn, od, 0) rn (nI i))) = false) => absurd h9.1 (Nat.not_lt.mpr c54))]), hP, hD, hS, lv_sub hl [2, 3, 0] rfl⟩
            · skip
              have c54 : ¬ i ≤ 0 := fun h9 => c54 ((xn_le (a := i) (b := 0) (by omega) (by decide)).mpr h9)
              refine lv_aload_n hx hb dX8_isSound_57 rfl (lv_at hl 1 rfl) ?_
              refine va_get (D := D) (ci := 6) (v := .int od) (C := RX8) (T := TX8) (N := 15) hx hb hts inX8 hown hKN.1 hP 4 rfl rfl 13 (by decide) (hts (.fieldLink RX8 51 "TreeFamily$Tree" "order" "I") (by decide +kernel)) (fun _ h9 => h9) rfl dX8_isSound_58 ?_
              refine lv_aload_n hx hb dX8_isSound_61 rfl (lv_at hl 1 rfl) ?_
              refine va_get (D := D) (ci := 6) (v := .ref (a 1)) (C := RX8) (T := TX8) (N := 15) hx hb hts inX8 hown hKN.1 hP 4 rfl rfl 0 (by decide) (hts (.fieldLink RX8 9 "TreeFamily$Tree" "keys" "[I") (by decide +kernel)) (fun _ h9 => h9) rfl dX8_isSound_62 ?_
              refine lv_aload_n hx hb dX8_isSound_65 rfl (lv_at hl 1 rfl) ?_
              refine lv_aload_n hx hb dX8_isSound_66 rfl (lv_at hl 1 rfl) ?_
              refine va_get (D := D) (ci := 6) (v := .int (nI rn)) (C := RX8) (T := TX8) (N := 15) hx hb hts inX8 hown hKN.1 hP 4 rfl rfl 12 (by decide) (hts (.fieldLink RX8 55 "TreeFamily$Tree" "root" "I") (by decide +kernel)) (fun _ h9 => h9) rfl dX8_isSound_67 ?_
              refine lv_iload_n hx hb dX8_isSound_70 rfl (lv_at hl 3 rfl) ?_
              refine lv_iconst (v := 1) hx hb dX8_isSound_71 (by decide) ?_
              refine lv_isub hx hb dX8_isSound_72 ?_
              refine xr_top (y := nI (i - 1)) (pk_sub (a := i) (b := 1) (by omega)) ?_
              refine xc_i (wr := wKd kq) (va_runV (As := [.int (nI rn), .int (nI (i - 1))]) (rest := [.ref (a 1), .int od]) ⟨hx, hb, hml, hown, hts⟩ (c_X8_nodeAt l D ca kq a _ ky vl lf rt ct ht tt sp pa ro ss dp rn od 0 rn (nI (i - 1)) hlf hrt hsp hpa hro hrn hrn) (cwV 2 hts gX8_isSound_X8_nodeAt rfl rfl rfl (by decide +kernel) ⟨(Nat.le_of_ble_eq_true rfl), (Nat.le_of_ble_eq_true rfl)⟩) (xPreV hKN hP hD [4, 5, 6, 7, 8, 9, 10, 11, 12, 13, 14] (by decide) rfl (q0 := 4) rfl rfl rfl) rfl rfl hl.1 rfl (lv_room (Nat.le_of_ble_eq_true rfl)) dX8_isSound_73 ⟨(Nat.le_of_ble_eq_true rfl), (Nat.le_of_ble_eq_true rfl)⟩) hP hD hS hA [4, 5, 6, 7, 8, 9, 10, 11, 12, 13, 14] [0, 1, 2, 3] rfl rfl (by decide) (by decide) (fun r73 u73 H locs hu73 hP hD hS => ?_)
              obtain ⟨er73, eu73⟩ := hu73
              subst er73
              subst eu73
              have hP : va_P D vwCl ((wKd kq) ++ (wT ca kq a (ky, vl, lf, rt, ct, ht, tt, sp, pa, ro, ss, dp, rn, od, 0))) H := hP
              have hD : va_D A ((wKd kq) ++ (wT ca kq a (ky, vl, lf, rt, ct, ht, tt, sp, pa, ro, ss, dp, rn, od, 0))) := hD
              refine xr_ild hx hb hKN.1 hP 5 0 rfl rfl (j := f_nodeAt (ky, vl, lf, rt, ct, ht, tt, sp, pa, ro, ss, dp, rn, od, 0) rn (nI (i - 1))) (Nat.lt_of_le_of_lt (wf_nodeAt (⟨hlf, hrt, hsp, hpa, hro, hrn, (by decide : 0 < 4)⟩ : WF (ky, vl, lf, rt, ct, ht, tt, sp, pa, ro, ss, dp, rn, od, 0)) hrn _) (by decide)) (by decide) dX8_isSound_76 ?_
              refine lv_aload_n hx hb dX8_isSound_77 rfl (lv_at hl 1 rfl) ?_
              refine va_get (D := D) (ci := 6) (v := .ref (a 1)) (C := RX8) (T := TX8) (N := 15) hx hb hts inX8 hown hKN.1 hP 4 rfl rfl 0 (by decide) (hts (.fieldLink RX8 9 "TreeFamily$Tree" "keys" "[I") (by decide +kernel)) (fun _ h9 => h9) rfl dX8_isSound_78 ?_
              refine lv_iload_n hx hb dX8_isSound_81 rfl (lv_at hl 0 rfl) ?_
              refine xr_ild hx hb hKN.1 hP 5 0 rfl rfl (j := f_nodeAt (ky, vl, lf, rt, ct, ht, tt, sp, pa, ro, ss, dp, rn, od, 0) rn (nI i)) (Nat.lt_of_le_of_lt (wf_nodeAt (⟨hlf, hrt, hsp, hpa, hro, hrn, (by decide : 0 < 4)⟩ : WF (ky, vl, lf, rt, ct, ht, tt, sp, pa, ro, ss, dp, rn, od, 0)) hrn _) (by decide)) (by decide) dX8_isSound_82 ?_
              refine xs_i (va_runSN (As := [.int od, .int (ky (f_nodeAt (ky, vl, lf, rt, ct, ht, tt, sp, pa, ro, ss, dp, rn, od, 0) rn (nI (i - 1)))), .int (ky (f_nodeAt (ky, vl, lf, rt, ct, ht, tt, sp, pa, ro, ss, dp, rn, od, 0) rn (nI i)))]) (rest := []) ⟨hx, hb, hml, hown, hts⟩ (c_X10_goesBefore l _ _ _) ⟨va_cnB 3 hts gX8_isSound_X10_goesBefore_n64 rfl rfl rfl (NW.m hKN.2 (a := RX8) (i := 64) (x := yX10_goesBefore) (g := "TreeFamily") (by decide +kernel)) (hts _ (List.mem_of_elem_eq_true (by decide +kernel) : Cond.initialized yX10_goesBefore.cls ∈ wsX8_isSound)) (by decide +kernel) ⟨(Nat.le_of_ble_eq_true rfl), (Nat.le_of_ble_eq_true rfl)⟩, hts (.static yX10_goesBefore) (by decide +kernel), trivial⟩ xPreT rfl rfl hl.1 rfl (lv_room (Nat.le_of_ble_eq_true rfl)) dX8_isSound_83 ⟨(Nat.le_of_ble_eq_true rfl), (Nat.le_of_ble_eq_true rfl)⟩) (fun r83 er83 => ?_)
              subst er83
              refine lv_if_ne (tgt := 91) hx hb dX8_isSound_86 (by decide) (fun c86 => ?_) (fun c86 => ?_)
              · skip
                have c86 := bI_ne.mp c86
                refine lv_iinc (v := (nI (i + 1))) (lv' := [(2, .int (nI (i + 1))), (3, .int (nI (f_nodeAt (ky, vl, lf, rt, ct, ht, tt, sp, pa, ro, ss, dp, rn, od, 0) rn (nI i)))), (0, .ref (a 0)), (1, .int (nI c9))]) hx hb dX8_isSound_91 hl (k := 3) rfl (nI_1 _) (by decide) rfl (fun ls hl => ?_)
                refine lv_goto (tgt := 12) hx hb dX8_isSound_94 (by decide) ?_
                exact ih n (by omega) (i + 1) _ _ _ ⟨(by omega), hg.trans (by rw [so_go]; rw [if_neg c28, if_neg (by rw [c36]; decide), if_neg (by rw [c48]; decide)]; rw [if_neg (fun h9 : (0 < i ∧ gB od (ky (f_nodeAt (ky, vl, lf, rt, ct, ht, tt, sp, pa, ro, ss, dp, rn, od, 0) rn (nI (i - 1)))) (ky (f_nodeAt (ky, vl, lf, rt, ct, ht, tt, sp, pa, ro, ss, dp, rn, od, 0) rn (nI i))) = false) => absurd (h9.2.symm.trans c86) (by decide))]), hP, hD, hS, lv_sub hl [2, 3, 0] rfl⟩
              · skip
                have c86 := bI_0.mp c86
                refine lv_iconst (v := 0) hx hb dX8_isSound_89 (by decide) ?_
                exact W.zret (v := 0) hx hb hr (by decide) (fun t9 e9 w9 => ⟨⟨_, (ky, vl, lf, rt, ct, ht, tt, sp, pa, ro, ss, dp, rn, od, 0), rfl, ⟨bI_of (c := false) (hg.trans (by rw [so_go]; rw [if_neg c28, if_neg (by rw [c36]; decide), if_neg (by rw [c48]; decide)]; rw [if_pos (show (0 < i ∧ gB od (ky (f_nodeAt (ky, vl, lf, rt, ct, ht, tt, sp, pa, ro, ss, dp, rn, od, 0) rn (nI (i - 1)))) (ky (f_nodeAt (ky, vl, lf, rt, ct, ht, tt, sp, pa, ro, ss, dp, rn, od, 0) rn (nI i))) = false) from ⟨Nat.not_le.mp c54, c86⟩)])) rfl, rfl⟩, by rw [e9]; exact hP, hD⟩, hS.F e9⟩) hS.2.2 dX8_isSound_90
          · skip
            have c48 := bI_0.mp c48
            refine lv_iconst (v := 0) hx hb dX8_isSound_51 (by decide) ?_
            exact W.zret (v := 0) hx hb hr (by decide) (fun t9 e9 w9 => ⟨⟨_, (ky, vl, lf, rt, ct, ht, tt, sp, pa, ro, ss, dp, rn, od, 0), rfl, ⟨bI_of (c := false) (hg.trans (by rw [so_go]; first | rw [if_pos c28] | (rw [if_neg c28]; first | rw [if_pos c36] | (rw [if_neg (by rw [c36]; decide), if_pos c48])))) rfl, rfl⟩, by rw [e9]; exact hP, hD⟩, hS.F e9⟩) hS.2.2 dX8_isSound_52
        · skip
          refine xc_i (wr := []) (va_runU (As := [.ref (a 0), .int (nI (f_nodeAt (ky, vl, lf, rt, ct, ht, tt, sp, pa, ro, ss, dp, rn, od, 1) rn (nI i)))]) (rest := []) ⟨hx, hb, hml, hown, hts⟩ (c_X3_suits_X4 l D ca kq a _ ky vl lf rt ct ht tt sp pa ro ss dp rn od 1 (f_nodeAt (ky, vl, lf, rt, ct, ht, tt, sp, pa, ro, ss, dp, rn, od, 1) rn (nI i)) hlf hrt hsp hpa hro hrn (by decide : 1 < 4) (wf_nodeAt (⟨hlf, hrt, hsp, hpa, hro, hrn, (by decide : 1 < 4)⟩ : WF (ky, vl, lf, rt, ct, ht, tt, sp, pa, ro, ss, dp, rn, od, 1)) hrn _)) (va_cwA 2 hts gX8_isSound_X3_suits_u111X4 rfl rfl rfl (NW.d hKN.2 (by decide +kernel)) (by decide +kernel) ⟨(Nat.le_of_ble_eq_true rfl), (Nat.le_of_ble_eq_true rfl)⟩) (xPreV hKN hP hD [0, 1, 2, 3, 4, 5, 6, 7, 8, 9, 10, 11, 12, 13, 14] (by decide) rfl (q0 := 1) rfl rfl rfl) rfl rfl hl.1 rfl (lv_room (Nat.le_of_ble_eq_true rfl)) dX8_isSound_45 ⟨(Nat.le_of_ble_eq_true rfl), (Nat.le_of_ble_eq_true rfl)⟩) hP hD hS hA [0, 1, 2, 3, 4, 5, 6, 7, 8, 9, 10, 11, 12, 13, 14] [] rfl rfl (by decide) (by decide) (fun r45 u45 H locs hu45 hP hD hS => ?_)
          rw [← suits_1 (t := (ky, vl, lf, rt, ct, ht, tt, sp, pa, ro, ss, dp, rn, od, 1)) (x := f_nodeAt (ky, vl, lf, rt, ct, ht, tt, sp, pa, ro, ss, dp, rn, od, 1) rn (nI i)) rfl] at hu45
          obtain ⟨er45, eu45⟩ := hu45
          subst er45
          subst eu45
          have hP : va_P D vwCl ((wKd kq) ++ (wT ca kq a (ky, vl, lf, rt, ct, ht, tt, sp, pa, ro, ss, dp, rn, od, 1))) H := hP
          have hD : va_D A ((wKd kq) ++ (wT ca kq a (ky, vl, lf, rt, ct, ht, tt, sp, pa, ro, ss, dp, rn, od, 1))) := hD
          refine lv_if_ne (tgt := 53) hx hb dX8_isSound_48 (by decide) (fun c48 => ?_) (fun c48 => ?_)
          · skip
            have c48 := bI_ne.mp c48
            refine lv_iload_n hx hb dX8_isSound_53 rfl (lv_at hl 3 rfl) ?_
            refine lv_if_le (tgt := 91) hx hb dX8_isSound_54 (by decide) (fun c54 => ?_) (fun c54 => ?_)
            · skip
              have c54 : i ≤ 0 := (xn_le (a := i) (b := 0) (by omega) (by decide)).mp c54
              refine lv_iinc (v := (nI (i + 1))) (lv' := [(2, .int (nI (i + 1))), (3, .int (nI (f_nodeAt (ky, vl, lf, rt, ct, ht, tt, sp, pa, ro, ss, dp, rn, od, 1) rn (nI i)))), (0, .ref (a 0)), (1, .int (nI c9))]) hx hb dX8_isSound_91 hl (k := 3) rfl (nI_1 _) (by decide) rfl (fun ls hl => ?_)
              refine lv_goto (tgt := 12) hx hb dX8_isSound_94 (by decide) ?_
              exact ih n (by omega) (i + 1) _ _ _ ⟨(by omega), hg.trans (by rw [so_go]; rw [if_neg c28, if_neg (by rw [c36]; decide), if_neg (by rw [c48]; decide)]; rw [if_neg (fun h9 : (0 < i ∧ gB od (ky (f_nodeAt (ky, vl, lf, rt, ct, ht, tt, sp, pa, ro, ss, dp, rn, od, 1) rn (nI (i - 1)))) (ky (f_nodeAt (ky, vl, lf, rt, ct, ht, tt, sp, pa, ro, ss, dp, rn, od, 1) rn (nI i))) = false) => absurd h9.1 (Nat.not_lt.mpr c54))]), hP, hD, hS, lv_sub hl [2, 3, 0] rfl⟩
            · skip
              have c54 : ¬ i ≤ 0 := fun h9 => c54 ((xn_le (a := i) (b := 0) (by omega) (by decide)).mpr h9)
              refine lv_aload_n hx hb dX8_isSound_57 rfl (lv_at hl 1 rfl) ?_
              refine va_get (D := D) (ci := 6) (v := .int od) (C := RX8) (T := TX8) (N := 15) hx hb hts inX8 hown hKN.1 hP 4 rfl rfl 13 (by decide) (hts (.fieldLink RX8 51 "TreeFamily$Tree" "order" "I") (by decide +kernel)) (fun _ h9 => h9) rfl dX8_isSound_58 ?_
              refine lv_aload_n hx hb dX8_isSound_61 rfl (lv_at hl 1 rfl) ?_
              refine va_get (D := D) (ci := 6) (v := .ref (a 1)) (C := RX8) (T := TX8) (N := 15) hx hb hts inX8 hown hKN.1 hP 4 rfl rfl 0 (by decide) (hts (.fieldLink RX8 9 "TreeFamily$Tree" "keys" "[I") (by decide +kernel)) (fun _ h9 => h9) rfl dX8_isSound_62 ?_
              refine lv_aload_n hx hb dX8_isSound_65 rfl (lv_at hl 1 rfl) ?_
              refine lv_aload_n hx hb dX8_isSound_66 rfl (lv_at hl 1 rfl) ?_
              refine va_get (D := D) (ci := 6) (v := .int (nI rn)) (C := RX8) (T := TX8) (N := 15) hx hb hts inX8 hown hKN.1 hP 4 rfl rfl 12 (by decide) (hts (.fieldLink RX8 55 "TreeFamily$Tree" "root" "I") (by decide +kernel)) (fun _ h9 => h9) rfl dX8_isSound_67 ?_
              refine lv_iload_n hx hb dX8_isSound_70 rfl (lv_at hl 3 rfl) ?_
              refine lv_iconst (v := 1) hx hb dX8_isSound_71 (by decide) ?_
              refine lv_isub hx hb dX8_isSound_72 ?_
              refine xr_top (y := nI (i - 1)) (pk_sub (a := i) (b := 1) (by omega)) ?_
              refine xc_i (wr := wKd kq) (va_runV (As := [.int (nI rn), .int (nI (i - 1))]) (rest := [.ref (a 1), .int od]) ⟨hx, hb, hml, hown, hts⟩ (c_X8_nodeAt l D ca kq a _ ky vl lf rt ct ht tt sp pa ro ss dp rn od 1 rn (nI (i - 1)) hlf hrt hsp hpa hro hrn hrn) (cwV 2 hts gX8_isSound_X8_nodeAt rfl rfl rfl (by decide +kernel) ⟨(Nat.le_of_ble_eq_true rfl), (Nat.le_of_ble_eq_true rfl)⟩) (xPreV hKN hP hD [4, 5, 6, 7, 8, 9, 10, 11, 12, 13, 14] (by decide) rfl (q0 := 4) rfl rfl rfl) rfl rfl hl.1 rfl (lv_room (Nat.le_of_ble_eq_true rfl)) dX8_isSound_73 ⟨(Nat.le_of_ble_eq_true rfl), (Nat.le_of_ble_eq_true rfl)⟩) hP hD hS hA [4, 5, 6, 7, 8, 9, 10, 11, 12, 13, 14] [0, 1, 2, 3] rfl rfl (by decide) (by decide) (fun r73 u73 H locs hu73 hP hD hS => ?_)
              obtain ⟨er73, eu73⟩ := hu73
              subst er73
              subst eu73
              have hP : va_P D vwCl ((wKd kq) ++ (wT ca kq a (ky, vl, lf, rt, ct, ht, tt, sp, pa, ro, ss, dp, rn, od, 1))) H := hP
              have hD : va_D A ((wKd kq) ++ (wT ca kq a (ky, vl, lf, rt, ct, ht, tt, sp, pa, ro, ss, dp, rn, od, 1))) := hD
              refine xr_ild hx hb hKN.1 hP 5 0 rfl rfl (j := f_nodeAt (ky, vl, lf, rt, ct, ht, tt, sp, pa, ro, ss, dp, rn, od, 1) rn (nI (i - 1))) (Nat.lt_of_le_of_lt (wf_nodeAt (⟨hlf, hrt, hsp, hpa, hro, hrn, (by decide : 1 < 4)⟩ : WF (ky, vl, lf, rt, ct, ht, tt, sp, pa, ro, ss, dp, rn, od, 1)) hrn _) (by decide)) (by decide) dX8_isSound_76 ?_
              refine lv_aload_n hx hb dX8_isSound_77 rfl (lv_at hl 1 rfl) ?_
              refine va_get (D := D) (ci := 6) (v := .ref (a 1)) (C := RX8) (T := TX8) (N := 15) hx hb hts inX8 hown hKN.1 hP 4 rfl rfl 0 (by decide) (hts (.fieldLink RX8 9 "TreeFamily$Tree" "keys" "[I") (by decide +kernel)) (fun _ h9 => h9) rfl dX8_isSound_78 ?_
              refine lv_iload_n hx hb dX8_isSound_81 rfl (lv_at hl 0 rfl) ?_
              refine xr_ild hx hb hKN.1 hP 5 0 rfl rfl (j := f_nodeAt (ky, vl, lf, rt, ct, ht, tt, sp, pa, ro, ss, dp, rn, od, 1) rn (nI i)) (Nat.lt_of_le_of_lt (wf_nodeAt (⟨hlf, hrt, hsp, hpa, hro, hrn, (by decide : 1 < 4)⟩ : WF (ky, vl, lf, rt, ct, ht, tt, sp, pa, ro, ss, dp, rn, od, 1)) hrn _) (by decide)) (by decide) dX8_isSound_82 ?_
              refine xs_i (va_runSN (As := [.int od, .int (ky (f_nodeAt (ky, vl, lf, rt, ct, ht, tt, sp, pa, ro, ss, dp, rn, od, 1) rn (nI (i - 1)))), .int (ky (f_nodeAt (ky, vl, lf, rt, ct, ht, tt, sp, pa, ro, ss, dp, rn, od, 1) rn (nI i)))]) (rest := []) ⟨hx, hb, hml, hown, hts⟩ (c_X10_goesBefore l _ _ _) ⟨va_cnB 3 hts gX8_isSound_X10_goesBefore_n64 rfl rfl rfl (NW.m hKN.2 (a := RX8) (i := 64) (x := yX10_goesBefore) (g := "TreeFamily") (by decide +kernel)) (hts _ (List.mem_of_elem_eq_true (by decide +kernel) : Cond.initialized yX10_goesBefore.cls ∈ wsX8_isSound)) (by decide +kernel) ⟨(Nat.le_of_ble_eq_true rfl), (Nat.le_of_ble_eq_true rfl)⟩, hts (.static yX10_goesBefore) (by decide +kernel), trivial⟩ xPreT rfl rfl hl.1 rfl (lv_room (Nat.le_of_ble_eq_true rfl)) dX8_isSound_83 ⟨(Nat.le_of_ble_eq_true rfl), (Nat.le_of_ble_eq_true rfl)⟩) (fun r83 er83 => ?_)
              subst er83
              refine lv_if_ne (tgt := 91) hx hb dX8_isSound_86 (by decide) (fun c86 => ?_) (fun c86 => ?_)
              · skip
                have c86 := bI_ne.mp c86
                refine lv_iinc (v := (nI (i + 1))) (lv' := [(2, .int (nI (i + 1))), (3, .int (nI (f_nodeAt (ky, vl, lf, rt, ct, ht, tt, sp, pa, ro, ss, dp, rn, od, 1) rn (nI i)))), (0, .ref (a 0)), (1, .int (nI c9))]) hx hb dX8_isSound_91 hl (k := 3) rfl (nI_1 _) (by decide) rfl (fun ls hl => ?_)
                refine lv_goto (tgt := 12) hx hb dX8_isSound_94 (by decide) ?_
                exact ih n (by omega) (i + 1) _ _ _ ⟨(by omega), hg.trans (by rw [so_go]; rw [if_neg c28, if_neg (by rw [c36]; decide), if_neg (by rw [c48]; decide)]; rw [if_neg (fun h9 : (0 < i ∧ gB od (ky (f_nodeAt (ky, vl, lf, rt, ct, ht, tt, sp, pa, ro, ss, dp, rn, od, 1) rn (nI (i - 1)))) (ky (f_nodeAt (ky, vl, lf, rt, ct, ht, tt, sp, pa, ro, ss, dp, rn, od, 1) rn (nI i))) = false) => absurd (h9.2.symm.trans c86) (by decide))]), hP, hD, hS, lv_sub hl [2, 3, 0] rfl⟩
              · skip
                have c86 := bI_0.mp c86
                refine lv_iconst (v := 0) hx hb dX8_isSound_89 (by decide) ?_
                exact W.zret (v := 0) hx hb hr (by decide) (fun t9 e9 w9 => ⟨⟨_, (ky, vl, lf, rt, ct, ht, tt, sp, pa, ro, ss, dp, rn, od, 1), rfl, ⟨bI_of (c := false) (hg.trans (by rw [so_go]; rw [if_neg c28, if_neg (by rw [c36]; decide), if_neg (by rw [c48]; decide)]; rw [if_pos (show (0 < i ∧ gB od (ky (f_nodeAt (ky, vl, lf, rt, ct, ht, tt, sp, pa, ro, ss, dp, rn, od, 1) rn (nI (i - 1)))) (ky (f_nodeAt (ky, vl, lf, rt, ct, ht, tt, sp, pa, ro, ss, dp, rn, od, 1) rn (nI i))) = false) from ⟨Nat.not_le.mp c54, c86⟩)])) rfl, rfl⟩, by rw [e9]; exact hP, hD⟩, hS.F e9⟩) hS.2.2 dX8_isSound_90
          · skip
            have c48 := bI_0.mp c48
            refine lv_iconst (v := 0) hx hb dX8_isSound_51 (by decide) ?_
            exact W.zret (v := 0) hx hb hr (by decide) (fun t9 e9 w9 => ⟨⟨_, (ky, vl, lf, rt, ct, ht, tt, sp, pa, ro, ss, dp, rn, od, 1), rfl, ⟨bI_of (c := false) (hg.trans (by rw [so_go]; first | rw [if_pos c28] | (rw [if_neg c28]; first | rw [if_pos c36] | (rw [if_neg (by rw [c36]; decide), if_pos c48])))) rfl, rfl⟩, by rw [e9]; exact hP, hD⟩, hS.F e9⟩) hS.2.2 dX8_isSound_52
        · skip
          refine xc_i (wr := wKd kq) (va_runU (As := [.ref (a 0), .int (nI (f_nodeAt (ky, vl, lf, rt, ct, ht, tt, sp, pa, ro, ss, dp, rn, od, 2) rn (nI i)))]) (rest := []) ⟨hx, hb, hml, hown, hts⟩ (c_X1_suits l D ca kq a _ ky vl lf rt ct ht tt sp pa ro ss dp rn od 2 (f_nodeAt (ky, vl, lf, rt, ct, ht, tt, sp, pa, ro, ss, dp, rn, od, 2) rn (nI i)) hlf hrt hsp hpa hro hrn (by decide : 2 < 4) (wf_nodeAt (⟨hlf, hrt, hsp, hpa, hro, hrn, (by decide : 2 < 4)⟩ : WF (ky, vl, lf, rt, ct, ht, tt, sp, pa, ro, ss, dp, rn, od, 2)) hrn _)) (va_cwA 2 hts gX8_isSound_X1_suits_u111X1 rfl rfl rfl (NW.d hKN.2 (by decide +kernel)) (by decide +kernel) ⟨(Nat.le_of_ble_eq_true rfl), (Nat.le_of_ble_eq_true rfl)⟩) (xPreV hKN hP hD [4, 5, 6, 7, 8, 9, 10, 11, 12, 13, 14] (by decide) rfl (q0 := 2) rfl rfl rfl) rfl rfl hl.1 rfl (lv_room (Nat.le_of_ble_eq_true rfl)) dX8_isSound_45 ⟨(Nat.le_of_ble_eq_true rfl), (Nat.le_of_ble_eq_true rfl)⟩) hP hD hS hA [4, 5, 6, 7, 8, 9, 10, 11, 12, 13, 14] [0, 1, 2, 3] rfl rfl (by decide) (by decide) (fun r45 u45 H locs hu45 hP hD hS => ?_)
          rw [← suits_2 (t := (ky, vl, lf, rt, ct, ht, tt, sp, pa, ro, ss, dp, rn, od, 2)) (x := f_nodeAt (ky, vl, lf, rt, ct, ht, tt, sp, pa, ro, ss, dp, rn, od, 2) rn (nI i)) rfl] at hu45
          obtain ⟨er45, eu45⟩ := hu45
          subst er45
          subst eu45
          have hP : va_P D vwCl ((wKd kq) ++ (wT ca kq a (ky, vl, lf, rt, ct, ht, tt, sp, pa, ro, ss, dp, rn, od, 2))) H := hP
          have hD : va_D A ((wKd kq) ++ (wT ca kq a (ky, vl, lf, rt, ct, ht, tt, sp, pa, ro, ss, dp, rn, od, 2))) := hD
          refine lv_if_ne (tgt := 53) hx hb dX8_isSound_48 (by decide) (fun c48 => ?_) (fun c48 => ?_)
          · skip
            have c48 := bI_ne.mp c48
            refine lv_iload_n hx hb dX8_isSound_53 rfl (lv_at hl 3 rfl) ?_
            refine lv_if_le (tgt := 91) hx hb dX8_isSound_54 (by decide) (fun c54 => ?_) (fun c54 => ?_)
            · skip
              have c54 : i ≤ 0 := (xn_le (a := i) (b := 0) (by omega) (by decide)).mp c54
              refine lv_iinc (v := (nI (i + 1))) (lv' := [(2, .int (nI (i + 1))), (3, .int (nI (f_nodeAt (ky, vl, lf, rt, ct, ht, tt, sp, pa, ro, ss, dp, rn, od, 2) rn (nI i)))), (0, .ref (a 0)), (1, .int (nI c9))]) hx hb dX8_isSound_91 hl (k := 3) rfl (nI_1 _) (by decide) rfl (fun ls hl => ?_)
              refine lv_goto (tgt := 12) hx hb dX8_isSound_94 (by decide) ?_
              exact ih n (by omega) (i + 1) _ _ _ ⟨(by omega), hg.trans (by rw [so_go]; rw [if_neg c28, if_neg (by rw [c36]; decide), if_neg (by rw [c48]; decide)]; rw [if_neg (fun h9 : (0 < i ∧ gB od (ky (f_nodeAt (ky, vl, lf, rt, ct, ht, tt, sp, pa, ro, ss, dp, rn, od, 2) rn (nI (i - 1)))) (ky (f_nodeAt (ky, vl, lf, rt, ct, ht, tt, sp, pa, ro, ss, dp, rn, od, 2) rn (nI i))) = false) => absurd h9.1 (Nat.not_lt.mpr c54))]), hP, hD, hS, lv_sub hl [2, 3, 0] rfl⟩
            · skip
              have c54 : ¬ i ≤ 0 := fun h9 => c54 ((xn_le (a := i) (b := 0) (by omega) (by decide)).mpr h9)
              refine lv_aload_n hx hb dX8_isSound_57 rfl (lv_at hl 1 rfl) ?_
              refine va_get (D := D) (ci := 6) (v := .int od) (C := RX8) (T := TX8) (N := 15) hx hb hts inX8 hown hKN.1 hP 4 rfl rfl 13 (by decide) (hts (.fieldLink RX8 51 "TreeFamily$Tree" "order" "I") (by decide +kernel)) (fun _ h9 => h9) rfl dX8_isSound_58 ?_
              refine lv_aload_n hx hb dX8_isSound_61 rfl (lv_at hl 1 rfl) ?_
              refine va_get (D := D) (ci := 6) (v := .ref (a 1)) (C := RX8) (T := TX8) (N := 15) hx hb hts inX8 hown hKN.1 hP 4 rfl rfl 0 (by decide) (hts (.fieldLink RX8 9 "TreeFamily$Tree" "keys" "[I") (by decide +kernel)) (fun _ h9 => h9) rfl dX8_isSound_62 ?_
              refine lv_aload_n hx hb dX8_isSound_65 rfl (lv_at hl 1 rfl) ?_
              refine lv_aload_n hx hb dX8_isSound_66 rfl (lv_at hl 1 rfl) ?_
              refine va_get (D := D) (ci := 6) (v := .int (nI rn)) (C := RX8) (T := TX8) (N := 15) hx hb hts inX8 hown hKN.1 hP 4 rfl rfl 12 (by decide) (hts (.fieldLink RX8 55 "TreeFamily$Tree" "root" "I") (by decide +kernel)) (fun _ h9 => h9) rfl dX8_isSound_67 ?_
              refine lv_iload_n hx hb dX8_isSound_70 rfl (lv_at hl 3 rfl) ?_
              refine lv_iconst (v := 1) hx hb dX8_isSound_71 (by decide) ?_
              refine lv_isub hx hb dX8_isSound_72 ?_
              refine xr_top (y := nI (i - 1)) (pk_sub (a := i) (b := 1) (by omega)) ?_
              refine xc_i (wr := wKd kq) (va_runV (As := [.int (nI rn), .int (nI (i - 1))]) (rest := [.ref (a 1), .int od]) ⟨hx, hb, hml, hown, hts⟩ (c_X8_nodeAt l D ca kq a _ ky vl lf rt ct ht tt sp pa ro ss dp rn od 2 rn (nI (i - 1)) hlf hrt hsp hpa hro hrn hrn) (cwV 2 hts gX8_isSound_X8_nodeAt rfl rfl rfl (by decide +kernel) ⟨(Nat.le_of_ble_eq_true rfl), (Nat.le_of_ble_eq_true rfl)⟩) (xPreV hKN hP hD [4, 5, 6, 7, 8, 9, 10, 11, 12, 13, 14] (by decide) rfl (q0 := 4) rfl rfl rfl) rfl rfl hl.1 rfl (lv_room (Nat.le_of_ble_eq_true rfl)) dX8_isSound_73 ⟨(Nat.le_of_ble_eq_true rfl), (Nat.le_of_ble_eq_true rfl)⟩) hP hD hS hA [4, 5, 6, 7, 8, 9, 10, 11, 12, 13, 14] [0, 1, 2, 3] rfl rfl (by decide) (by decide) (fun r73 u73 H locs hu73 hP hD hS => ?_)
              obtain ⟨er73, eu73⟩ := hu73
              subst er73
              subst eu73
              have hP : va_P D vwCl ((wKd kq) ++ (wT ca kq a (ky, vl, lf, rt, ct, ht, tt, sp, pa, ro, ss, dp, rn, od, 2))) H := hP
              have hD : va_D A ((wKd kq) ++ (wT ca kq a (ky, vl, lf, rt, ct, ht, tt, sp, pa, ro, ss, dp, rn, od, 2))) := hD
              refine xr_ild hx hb hKN.1 hP 5 0 rfl rfl (j := f_nodeAt (ky, vl, lf, rt, ct, ht, tt, sp, pa, ro, ss, dp, rn, od, 2) rn (nI (i - 1))) (Nat.lt_of_le_of_lt (wf_nodeAt (⟨hlf, hrt, hsp, hpa, hro, hrn, (by decide : 2 < 4)⟩ : WF (ky, vl, lf, rt, ct, ht, tt, sp, pa, ro, ss, dp, rn, od, 2)) hrn _) (by decide)) (by decide) dX8_isSound_76 ?_
              refine lv_aload_n hx hb dX8_isSound_77 rfl (lv_at hl 1 rfl) ?_
              refine va_get (D := D) (ci := 6) (v := .ref (a 1)) (C := RX8) (T := TX8) (N := 15) hx hb hts inX8 hown hKN.1 hP 4 rfl rfl 0 (by decide) (hts (.fieldLink RX8 9 "TreeFamily$Tree" "keys" "[I") (by decide +kernel)) (fun _ h9 => h9) rfl dX8_isSound_78 ?_
              refine lv_iload_n hx hb dX8_isSound_81 rfl (lv_at hl 0 rfl) ?_
              refine xr_ild hx hb hKN.1 hP 5 0 rfl rfl (j := f_nodeAt (ky, vl, lf, rt, ct, ht, tt, sp, pa, ro, ss, dp, rn, od, 2) rn (nI i)) (Nat.lt_of_le_of_lt (wf_nodeAt (⟨hlf, hrt, hsp, hpa, hro, hrn, (by decide : 2 < 4)⟩ : WF (ky, vl, lf, rt, ct, ht, tt, sp, pa, ro, ss, dp, rn, od, 2)) hrn _) (by decide)) (by decide) dX8_isSound_82 ?_
              refine xs_i (va_runSN (As := [.int od, .int (ky (f_nodeAt (ky, vl, lf, rt, ct, ht, tt, sp, pa, ro, ss, dp, rn, od, 2) rn (nI (i - 1)))), .int (ky (f_nodeAt (ky, vl, lf, rt, ct, ht, tt, sp, pa, ro, ss, dp, rn, od, 2) rn (nI i)))]) (rest := []) ⟨hx, hb, hml, hown, hts⟩ (c_X10_goesBefore l _ _ _) ⟨va_cnB 3 hts gX8_isSound_X10_goesBefore_n64 rfl rfl rfl (NW.m hKN.2 (a := RX8) (i := 64) (x := yX10_goesBefore) (g := "TreeFamily") (by decide +kernel)) (hts _ (List.mem_of_elem_eq_true (by decide +kernel) : Cond.initialized yX10_goesBefore.cls ∈ wsX8_isSound)) (by decide +kernel) ⟨(Nat.le_of_ble_eq_true rfl), (Nat.le_of_ble_eq_true rfl)⟩, hts (.static yX10_goesBefore) (by decide +kernel), trivial⟩ xPreT rfl rfl hl.1 rfl (lv_room (Nat.le_of_ble_eq_true rfl)) dX8_isSound_83 ⟨(Nat.le_of_ble_eq_true rfl), (Nat.le_of_ble_eq_true rfl)⟩) (fun r83 er83 => ?_)
              subst er83
              refine lv_if_ne (tgt := 91) hx hb dX8_isSound_86 (by decide) (fun c86 => ?_) (fun c86 => ?_)
              · skip
                have c86 := bI_ne.mp c86
                refine lv_iinc (v := (nI (i + 1))) (lv' := [(2, .int (nI (i + 1))), (3, .int (nI (f_nodeAt (ky, vl, lf, rt, ct, ht, tt, sp, pa, ro, ss, dp, rn, od, 2) rn (nI i)))), (0, .ref (a 0)), (1, .int (nI c9))]) hx hb dX8_isSound_91 hl (k := 3) rfl (nI_1 _) (by decide) rfl (fun ls hl => ?_)
                refine lv_goto (tgt := 12) hx hb dX8_isSound_94 (by decide) ?_
                exact ih n (by omega) (i + 1) _ _ _ ⟨(by omega), hg.trans (by rw [so_go]; rw [if_neg c28, if_neg (by rw [c36]; decide), if_neg (by rw [c48]; decide)]; rw [if_neg (fun h9 : (0 < i ∧ gB od (ky (f_nodeAt (ky, vl, lf, rt, ct, ht, tt, sp, pa, ro, ss, dp, rn, od, 2) rn (nI (i - 1)))) (ky (f_nodeAt (ky, vl, lf, rt, ct, ht, tt, sp, pa, ro, ss, dp, rn, od, 2) rn (nI i))) = false) => absurd (h9.2.symm.trans c86) (by decide))]), hP, hD, hS, lv_sub hl [2, 3, 0] rfl⟩
              · skip
                have c86 := bI_0.mp c86
                refine lv_iconst (v := 0) hx hb dX8_isSound_89 (by decide) ?_
                exact W.zret (v := 0) hx hb hr (by decide) (fun t9 e9 w9 => ⟨⟨_, (ky, vl, lf, rt, ct, ht, tt, sp, pa, ro, ss, dp, rn, od, 2), rfl, ⟨bI_of (c := false) (hg.trans (by rw [so_go]; rw [if_neg c28, if_neg (by rw [c36]; decide), if_neg (by rw [c48]; decide)]; rw [if_pos (show (0 < i ∧ gB od (ky (f_nodeAt (ky, vl, lf, rt, ct, ht, tt, sp, pa, ro, ss, dp, rn, od, 2) rn (nI (i - 1)))) (ky (f_nodeAt (ky, vl, lf, rt, ct, ht, tt, sp, pa, ro, ss, dp, rn, od, 2) rn (nI i))) = false) from ⟨Nat.not_le.mp c54, c86⟩)])) rfl, rfl⟩, by rw [e9]; exact hP, hD⟩, hS.F e9⟩) hS.2.2 dX8_isSound_90
          · skip
            have c48 := bI_0.mp c48
            refine lv_iconst (v := 0) hx hb dX8_isSound_51 (by decide) ?_
            exact W.zret (v := 0) hx hb hr (by decide) (fun t9 e9 w9 => ⟨⟨_, (ky, vl, lf, rt, ct, ht, tt, sp, pa, ro, ss, dp, rn, od, 2), rfl, ⟨bI_of (c := false) (hg.trans (by rw [so_go]; first | rw [if_pos c28] | (rw [if_neg c28]; first | rw [if_pos c36] | (rw [if_neg (by rw [c36]; decide), if_pos c48])))) rfl, rfl⟩, by rw [e9]; exact hP, hD⟩, hS.F e9⟩) hS.2.2 dX8_isSound_52
        · skip
          refine xc_i (wr := wKd kq) (va_runU (As := [.ref (a 0), .int (nI (f_nodeAt (ky, vl, lf, rt, ct, ht, tt, sp, pa, ro, ss, dp, rn, od, 3) rn (nI i)))]) (rest := []) ⟨hx, hb, hml, hown, hts⟩ (c_X2_suits l D ca kq a _ ky vl lf rt ct ht tt sp pa ro ss dp rn od 3 (f_nodeAt (ky, vl, lf, rt, ct, ht, tt, sp, pa, ro, ss, dp, rn, od, 3) rn (nI i)) hlf hrt hsp hpa hro hrn (wf_nodeAt (⟨hlf, hrt, hsp, hpa, hro, hrn, (by decide : 3 < 4)⟩ : WF (ky, vl, lf, rt, ct, ht, tt, sp, pa, ro, ss, dp, rn, od, 3)) hrn _)) (va_cwA 2 hts gX8_isSound_X2_suits_u111X2 rfl rfl rfl (NW.d hKN.2 (by decide +kernel)) (by decide +kernel) ⟨(Nat.le_of_ble_eq_true rfl), (Nat.le_of_ble_eq_true rfl)⟩) (xPreV hKN hP hD [4, 5, 6, 7, 8, 9, 10, 11, 12, 13, 14] (by decide) rfl (q0 := 3) rfl rfl rfl) rfl rfl hl.1 rfl (lv_room (Nat.le_of_ble_eq_true rfl)) dX8_isSound_45 ⟨(Nat.le_of_ble_eq_true rfl), (Nat.le_of_ble_eq_true rfl)⟩) hP hD hS hA [4, 5, 6, 7, 8, 9, 10, 11, 12, 13, 14] [0, 1, 2, 3] rfl rfl (by decide) (by decide) (fun r45 u45 H locs hu45 hP hD hS => ?_)
          rw [← suits_3 (t := (ky, vl, lf, rt, ct, ht, tt, sp, pa, ro, ss, dp, rn, od, 3)) (x := f_nodeAt (ky, vl, lf, rt, ct, ht, tt, sp, pa, ro, ss, dp, rn, od, 3) rn (nI i)) rfl] at hu45
          obtain ⟨er45, eu45⟩ := hu45
          subst er45
          subst eu45
          have hP : va_P D vwCl ((wKd kq) ++ (wT ca kq a (ky, vl, lf, rt, ct, ht, tt, sp, pa, ro, ss, dp, rn, od, 3))) H := hP
          have hD : va_D A ((wKd kq) ++ (wT ca kq a (ky, vl, lf, rt, ct, ht, tt, sp, pa, ro, ss, dp, rn, od, 3))) := hD
          refine lv_if_ne (tgt := 53) hx hb dX8_isSound_48 (by decide) (fun c48 => ?_) (fun c48 => ?_)
          · skip
            have c48 := bI_ne.mp c48
            refine lv_iload_n hx hb dX8_isSound_53 rfl (lv_at hl 3 rfl) ?_
            refine lv_if_le (tgt := 91) hx hb dX8_isSound_54 (by decide) (fun c54 => ?_) (fun c54 => ?_)
            · skip
              have c54 : i ≤ 0 := (xn_le (a := i) (b := 0) (by omega) (by decide)).mp c54
              refine lv_iinc (v := (nI (i + 1))) (lv' := [(2, .int (nI (i + 1))), (3, .int (nI (f_nodeAt (ky, vl, lf, rt, ct, ht, tt, sp, pa, ro, ss, dp, rn, od, 3) rn (nI i)))), (0, .ref (a 0)), (1, .int (nI c9))]) hx hb dX8_isSound_91 hl (k := 3) rfl (nI_1 _) (by decide) rfl (fun ls hl => ?_)
              refine lv_goto (tgt := 12) hx hb dX8_isSound_94 (by decide) ?_
              exact ih n (by omega) (i + 1) _ _ _ ⟨(by omega), hg.trans (by rw [so_go]; rw [if_neg c28, if_neg (by rw [c36]; decide), if_neg (by rw [c48]; decide)]; rw [if_neg (fun h9 : (0 < i ∧ gB od (ky (f_nodeAt (ky, vl, lf, rt, ct, ht, tt, sp, pa, ro, ss, dp, rn, od, 3) rn (nI (i - 1)))) (ky (f_nodeAt (ky, vl, lf, rt, ct, ht, tt, sp, pa, ro, ss, dp, rn, od, 3) rn (nI i))) = false) => absurd h9.1 (Nat.not_lt.mpr c54))]), hP, hD, hS, lv_sub hl [2, 3, 0] rfl⟩
            · skip
              have c54 : ¬ i ≤ 0 := fun h9 => c54 ((xn_le (a := i) (b := 0) (by omega) (by decide)).mpr h9)
              refine lv_aload_n hx hb dX8_isSound_57 rfl (lv_at hl 1 rfl) ?_
              refine va_get (D := D) (ci := 6) (v := .int od) (C := RX8) (T := TX8) (N := 15) hx hb hts inX8 hown hKN.1 hP 4 rfl rfl 13 (by decide) (hts (.fieldLink RX8 51 "TreeFamily$Tree" "order" "I") (by decide +kernel)) (fun _ h9 => h9) rfl dX8_isSound_58 ?_
              refine lv_aload_n hx hb dX8_isSound_61 rfl (lv_at hl 1 rfl) ?_
              refine va_get (D := D) (ci := 6) (v := .ref (a 1)) (C := RX8) (T := TX8) (N := 15) hx hb hts inX8 hown hKN.1 hP 4 rfl rfl 0 (by decide) (hts (.fieldLink RX8 9 "TreeFamily$Tree" "keys" "[I") (by decide +kernel)) (fun _ h9 => h9) rfl dX8_isSound_62 ?_
              refine lv_aload_n hx hb dX8_isSound_65 rfl (lv_at hl 1 rfl) ?_
              refine lv_aload_n hx hb dX8_isSound_66 rfl (lv_at hl 1 rfl) ?_
              refine va_get (D := D) (ci := 6) (v := .int (nI rn)) (C := RX8) (T := TX8) (N := 15) hx hb hts inX8 hown hKN.1 hP 4 rfl rfl 12 (by decide) (hts (.fieldLink RX8 55 "TreeFamily$Tree" "root" "I") (by decide +kernel)) (fun _ h9 => h9) rfl dX8_isSound_67 ?_
              refine lv_iload_n hx hb dX8_isSound_70 rfl (lv_at hl 3 rfl) ?_
              refine lv_iconst (v := 1) hx hb dX8_isSound_71 (by decide) ?_
              refine lv_isub hx hb dX8_isSound_72 ?_
              refine xr_top (y := nI (i - 1)) (pk_sub (a := i) (b := 1) (by omega)) ?_
              refine xc_i (wr := wKd kq) (va_runV (As := [.int (nI rn), .int (nI (i - 1))]) (rest := [.ref (a 1), .int od]) ⟨hx, hb, hml, hown, hts⟩ (c_X8_nodeAt l D ca kq a _ ky vl lf rt ct ht tt sp pa ro ss dp rn od 3 rn (nI (i - 1)) hlf hrt hsp hpa hro hrn hrn) (cwV 2 hts gX8_isSound_X8_nodeAt rfl rfl rfl (by decide +kernel) ⟨(Nat.le_of_ble_eq_true rfl), (Nat.le_of_ble_eq_true rfl)⟩) (xPreV hKN hP hD [4, 5, 6, 7, 8, 9, 10, 11, 12, 13, 14] (by decide) rfl (q0 := 4) rfl rfl rfl) rfl rfl hl.1 rfl (lv_room (Nat.le_of_ble_eq_true rfl)) dX8_isSound_73 ⟨(Nat.le_of_ble_eq_true rfl), (Nat.le_of_ble_eq_true rfl)⟩) hP hD hS hA [4, 5, 6, 7, 8, 9, 10, 11, 12, 13, 14] [0, 1, 2, 3] rfl rfl (by decide) (by decide) (fun r73 u73 H locs hu73 hP hD hS => ?_)
              obtain ⟨er73, eu73⟩ := hu73
              subst er73
              subst eu73
              have hP : va_P D vwCl ((wKd kq) ++ (wT ca kq a (ky, vl, lf, rt, ct, ht, tt, sp, pa, ro, ss, dp, rn, od, 3))) H := hP
              have hD : va_D A ((wKd kq) ++ (wT ca kq a (ky, vl, lf, rt, ct, ht, tt, sp, pa, ro, ss, dp, rn, od, 3))) := hD
              refine xr_ild hx hb hKN.1 hP 5 0 rfl rfl (j := f_nodeAt (ky, vl, lf, rt, ct, ht, tt, sp, pa, ro, ss, dp, rn, od, 3) rn (nI (i - 1))) (Nat.lt_of_le_of_lt (wf_nodeAt (⟨hlf, hrt, hsp, hpa, hro, hrn, (by decide : 3 < 4)⟩ : WF (ky, vl, lf, rt, ct, ht, tt, sp, pa, ro, ss, dp, rn, od, 3)) hrn _) (by decide)) (by decide) dX8_isSound_76 ?_
              refine lv_aload_n hx hb dX8_isSound_77 rfl (lv_at hl 1 rfl) ?_
              refine va_get (D := D) (ci := 6) (v := .ref (a 1)) (C := RX8) (T := TX8) (N := 15) hx hb hts inX8 hown hKN.1 hP 4 rfl rfl 0 (by decide) (hts (.fieldLink RX8 9 "TreeFamily$Tree" "keys" "[I") (by decide +kernel)) (fun _ h9 => h9) rfl dX8_isSound_78 ?_
              refine lv_iload_n hx hb dX8_isSound_81 rfl (lv_at hl 0 rfl) ?_
              refine xr_ild hx hb hKN.1 hP 5 0 rfl rfl (j := f_nodeAt (ky, vl, lf, rt, ct, ht, tt, sp, pa, ro, ss, dp, rn, od, 3) rn (nI i)) (Nat.lt_of_le_of_lt (wf_nodeAt (⟨hlf, hrt, hsp, hpa, hro, hrn, (by decide : 3 < 4)⟩ : WF (ky, vl, lf, rt, ct, ht, tt, sp, pa, ro, ss, dp, rn, od, 3)) hrn _) (by decide)) (by decide) dX8_isSound_82 ?_
              refine xs_i (va_runSN (As := [.int od, .int (ky (f_nodeAt (ky, vl, lf, rt, ct, ht, tt, sp, pa, ro, ss, dp, rn, od, 3) rn (nI (i - 1)))), .int (ky (f_nodeAt (ky, vl, lf, rt, ct, ht, tt, sp, pa, ro, ss, dp, rn, od, 3) rn (nI i)))]) (rest := []) ⟨hx, hb, hml, hown, hts⟩ (c_X10_goesBefore l _ _ _) ⟨va_cnB 3 hts gX8_isSound_X10_goesBefore_n64 rfl rfl rfl (NW.m hKN.2 (a := RX8) (i := 64) (x := yX10_goesBefore) (g := "TreeFamily") (by decide +kernel)) (hts _ (List.mem_of_elem_eq_true (by decide +kernel) : Cond.initialized yX10_goesBefore.cls ∈ wsX8_isSound)) (by decide +kernel) ⟨(Nat.le_of_ble_eq_true rfl), (Nat.le_of_ble_eq_true rfl)⟩, hts (.static yX10_goesBefore) (by decide +kernel), trivial⟩ xPreT rfl rfl hl.1 rfl (lv_room (Nat.le_of_ble_eq_true rfl)) dX8_isSound_83 ⟨(Nat.le_of_ble_eq_true rfl), (Nat.le_of_ble_eq_true rfl)⟩) (fun r83 er83 => ?_)
              subst er83
              refine lv_if_ne (tgt := 91) hx hb dX8_isSound_86 (by decide) (fun c86 => ?_) (fun c86 => ?_)
              · skip
                have c86 := bI_ne.mp c86
                refine lv_iinc (v := (nI (i + 1))) (lv' := [(2, .int (nI (i + 1))), (3, .int (nI (f_nodeAt (ky, vl, lf, rt, ct, ht, tt, sp, pa, ro, ss, dp, rn, od, 3) rn (nI i)))), (0, .ref (a 0)), (1, .int (nI c9))]) hx hb dX8_isSound_91 hl (k := 3) rfl (nI_1 _) (by decide) rfl (fun ls hl => ?_)
                refine lv_goto (tgt := 12) hx hb dX8_isSound_94 (by decide) ?_
                exact ih n (by omega) (i + 1) _ _ _ ⟨(by omega), hg.trans (by rw [so_go]; rw [if_neg c28, if_neg (by rw [c36]; decide), if_neg (by rw [c48]; decide)]; rw [if_neg (fun h9 : (0 < i ∧ gB od (ky (f_nodeAt (ky, vl, lf, rt, ct, ht, tt, sp, pa, ro, ss, dp, rn, od, 3) rn (nI (i - 1)))) (ky (f_nodeAt (ky, vl, lf, rt, ct, ht, tt, sp, pa, ro, ss, dp, rn, od, 3) rn (nI i))) = false) => absurd (h9.2.symm.trans c86) (by decide))]), hP, hD, hS, lv_sub hl [2, 3, 0] rfl⟩
              · skip
                have c86 := bI_0.mp c86
                refine lv_iconst (v := 0) hx hb dX8_isSound_89 (by decide) ?_
                exact W.zret (v := 0) hx hb hr (by decide) (fun t9 e9 w9 => ⟨⟨_, (ky, vl, lf, rt, ct, ht, tt, sp, pa, ro, ss, dp, rn, od, 3), rfl, ⟨bI_of (c := false) (hg.trans (by rw [so_go]; rw [if_neg c28, if_neg (by rw [c36]; decide), if_neg (by rw [c48]; decide)]; rw [if_pos (show (0 < i ∧ gB od (ky (f_nodeAt (ky, vl, lf, rt, ct, ht, tt, sp, pa, ro, ss, dp, rn, od, 3) rn (nI (i - 1)))) (ky (f_nodeAt (ky, vl, lf, rt, ct, ht, tt, sp, pa, ro, ss, dp, rn, od, 3) rn (nI i))) = false) from ⟨Nat.not_le.mp c54, c86⟩)])) rfl, rfl⟩, by rw [e9]; exact hP, hD⟩, hS.F e9⟩) hS.2.2 dX8_isSound_90
          · skip
            have c48 := bI_0.mp c48
            refine lv_iconst (v := 0) hx hb dX8_isSound_51 (by decide) ?_
            exact W.zret (v := 0) hx hb hr (by decide) (fun t9 e9 w9 => ⟨⟨_, (ky, vl, lf, rt, ct, ht, tt, sp, pa, ro, ss, dp, rn, od, 3), rfl, ⟨bI_of (c := false) (hg.trans (by rw [so_go]; first | rw [if_pos c28] | (rw [if_neg c28]; first | rw [if_pos c36] | (rw [if_neg (by rw [c36]; decide), if_pos c48])))) rfl, rfl⟩, by rw [e9]; exact hP, hD⟩, hS.F e9⟩) hS.2.2 dX8_isSound_52
