-- OneMap.valueOf
theorem inT_X6_valueOf_eIO : ∀ w ∈ (vx_atS RX6 64 eIO eNs).filter goodWord, w ∈ wsX6_valueOf := by decide +kernel
set_option maxHeartbeats 4000000 in
set_option maxRecDepth 100000 in
theorem c_X6_valueOf (l : Launch) (D : va_G) (ca : Nat → ClassId) (kq a : Nat → Nat) (sz : Nat) (hl9 : l.stackTraces = false) (ky vl : Nat → Int32) (lf rt : Nat → Nat) (ct ht : Nat → Int32) (tt : Nat → Int64) (sp pa ro : Nat → Nat) (ss dp rn : Nat) (od : Int32) (kd : Nat) (h1 h2 : Bool) (f1 f2 : Int32) (on bk gv : Bool) (kn ws9 we9 wp9 : Int32) (ch : Int32) (key : Int32) (hlf : ∀ k, lf k ≤ 60) (hrt : ∀ k, rt k ≤ 60) (hsp : ∀ k, sp k ≤ 60) (hpa : ∀ k, pa k ≤ 60) (hro : ∀ k, ro k ≤ 60) (hrn : rn ≤ 60) (hkd : kd < 4): vx_Met l yX6_valueOf wsX6_valueOf ({ frames := 6, cells := 1, slots := 6, locals := 90 } : Room) (xPcT D (TY ca) [.ref (a 11), .int key] ((wKd kq) ++ (wMo a ch) ++ (wRg a (h1, h2, f1, f2)) ++ (wWk a (on, bk, gv, kn, ws9, we9, wp9)) ++ (wT ca kq a (ky, vl, lf, rt, ct, ht, tt, sp, pa, ro, ss, dp, rn, od, kd))) sz) (va_Qi (fun (r : Int32) (u : MS) => (f_trace (ky, vl, lf, rt, ct, ht, tt, sp, pa, ro, ss, dp, rn, od, kd) key).1 ≠ 0 ∧ r = (f_trace (ky, vl, lf, rt, ct, ht, tt, sp, pa, ro, ss, dp, rn, od, kd) key).2.vl (f_trace (ky, vl, lf, rt, ct, ht, tt, sp, pa, ro, ss, dp, rn, od, kd) key).1 ∧ u = ((f_trace (ky, vl, lf, rt, ct, ht, tt, sp, pa, ro, ss, dp, rn, od, kd) key).2, (h1, h2, f1, f2), (on, bk, gv, kn, ws9, we9, wp9), ch)) (xB D (wM ca kq a) (va_A ((wKd kq) ++ (wMo a ch) ++ (wRg a (h1, h2, f1, f2)) ++ (wWk a (on, bk, gv, kn, ws9, we9, wp9)) ++ (wT ca kq a (ky, vl, lf, rt, ct, ht, tt, sp, pa, ro, ss, dp, rn, od, kd))) sz)) (va_A ((wKd kq) ++ (wMo a ch) ++ (wRg a (h1, h2, f1, f2)) ++ (wWk a (on, bk, gv, kn, ws9, we9, wp9)) ++ (wT ca kq a (ky, vl, lf, rt, ct, ht, tt, sp, pa, ro, ss, dp, rn, od, kd))) sz)) (xX D (wM ca kq a) (va_A ((wKd kq) ++ (wMo a ch) ++ (wRg a (h1, h2, f1, f2)) ++ (wWk a (on, bk, gv, kn, ws9, we9, wp9)) ++ (wT ca kq a (ky, vl, lf, rt, ct, ht, tt, sp, pa, ro, ss, dp, rn, od, kd))) sz) (fun (E : String) (u : MS) => E = eIO ∧ (f_trace (ky, vl, lf, rt, ct, ht, tt, sp, pa, ro, ss, dp, rn, od, kd) key).1 = 0 ∧ u = ((f_trace (ky, vl, lf, rt, ct, ht, tt, sp, pa, ro, ss, dp, rn, od, kd) key).2, (h1, h2, f1, f2), (on, bk, gv, kn, ws9, we9, wp9), ch))) 1 6 (va_A ((wKd kq) ++ (wMo a ch) ++ (wRg a (h1, h2, f1, f2)) ++ (wWk a (on, bk, gv, kn, ws9, we9, wp9)) ++ (wT ca kq a (ky, vl, lf, rt, ct, ht, tt, sp, pa, ro, ss, dp, rn, od, kd))) sz) := by
  refine vx_ofW (cc := cX6_valueOf) (maxL := 3) (ret := (some .int)) (by decide) rfl ?_
  intro p e s m args below meth c s₁ B hml hno hv
  obtain ⟨rfl, hsz, hP, hKN, hD0, hTZ⟩ := hv
  have hx := B.exec
  have hb := B.bytes
  have hr := B.returns
  have hts := atoms_spec (ws := wsX6_valueOf) B.pre
  have hown : s.vm.findClass RX6 = some m.cls := findClass_of_methodNamed B.named
  have hlocks := B.notSynchronized
  have inX6 : ∀ w ∈ wsX60, w ∈ wsX6_valueOf := by decide +kernel
  have inX8 : ∀ w ∈ wsX80, w ∈ wsX6_valueOf := by decide +kernel
  subst hsz
  have hD := hD0.self (sz := s.heap.size)
  generalize hAe : va_A ((wKd kq) ++ (wMo a ch) ++ (wRg a (h1, h2, f1, f2)) ++ (wWk a (on, bk, gv, kn, ws9, we9, wp9)) ++ (wT ca kq a (ky, vl, lf, rt, ct, ht, tt, sp, pa, ro, ss, dp, rn, od, kd))) s.heap.size = A at hD hTZ ⊢
  have hA : ∀ q : Nat, s.heap.size ≤ q → A q := fun q h => by rw [← hAe]; exact Or.inr h
  have hS : va_S A s.heap s.heap [] := va_S.rf
  have hl := lv_entry ([.ref (a 11), .int key]) (n := 3) (Nat.le_of_ble_eq_true rfl)
  rw [lg_entry_eq]
  generalize (lg_sl ([.ref (a 11), .int key]) ++ List.replicate (3 - (lg_sl ([.ref (a 11), .int key])).length) Slot.unset).toArray = ls at hl ⊢
  have hl : lv_has ls 3 [(0, .ref (a 11)), (1, .int key)] := hl
  refine lv_aload_n hx hb dX6_valueOf_0 rfl (lv_at hl 0 rfl) ?_
  refine va_get (D := D) (ci := 4) (v := .ref (a 0)) (C := RX6) (T := TX6) (N := 4) hx hb hts inX6 hown hKN.1 hP 4 rfl rfl 0 (by decide) (hts (.fieldLink RX6 14 "TreeFamily$OneMap" "tree" "LTreeFamily$Tree;") (by decide +kernel)) (fun _ h9 => h9) rfl dX6_valueOf_1 ?_
  refine lv_iload_n hx hb dX6_valueOf_4 rfl (lv_at hl 1 rfl) ?_
  refine xc_i (wr := (wKd kq) ++ (wMo a ch) ++ (wRg a (h1, h2, f1, f2)) ++ (wWk a (on, bk, gv, kn, ws9, we9, wp9))) (va_runV (As := [.int key]) (rest := []) ⟨hx, hb, hml, hown, hts⟩ (c_X8_trace l D ca kq a _ ky vl lf rt ct ht tt sp pa ro ss dp rn od kd key hlf hrt hsp hpa hro hrn) (cwV 1 hts gX6_valueOf_X8_trace rfl rfl rfl (by decide +kernel) ⟨(Nat.le_of_ble_eq_true rfl), (Nat.le_of_ble_eq_true rfl)⟩) (xPreV hKN hP hD [7, 8, 9, 10, 11, 12, 13, 14, 15, 16, 17] (by decide) rfl (q0 := 7) rfl rfl rfl) rfl rfl hl.1 rfl (lv_room (Nat.le_of_ble_eq_true rfl)) dX6_valueOf_5 ⟨(Nat.le_of_ble_eq_true rfl), (Nat.le_of_ble_eq_true rfl)⟩) hP hD hS hA [7, 8, 9, 10, 11, 12, 13, 14, 15, 16, 17] [0, 1, 2, 3, 4, 5, 6] rfl rfl (by decide) (by decide) (fun r5 u5 H locs hu5 hP hD hS => ?_)
  obtain ⟨er5, eu5⟩ := hu5
  obtain ⟨y5, ey5⟩ : ∃ z, z = (f_trace (ky, vl, lf, rt, ct, ht, tt, sp, pa, ro, ss, dp, rn, od, kd) key).1 := ⟨_, rfl⟩
  rw [← ey5] at er5
  subst er5
  have hy5 : y5 ≤ 60 := by rw [ey5]; exact (wf_trace (⟨hlf, hrt, hsp, hpa, hro, hrn, hkd⟩ : WF (ky, vl, lf, rt, ct, ht, tt, sp, pa, ro, ss, dp, rn, od, kd)) key).1
  obtain ⟨ky_5, vl_5, lf_5, rt_5, ct_5, ht_5, tt_5, sp_5, pa_5, ro_5, ss_5, dp_5, rn_5, od_5, kd_5⟩ := u5
  obtain ⟨hlf_5, hrt_5, hsp_5, hpa_5, hro_5, hrn_5, hkd_5⟩ : WF (ky_5, vl_5, lf_5, rt_5, ct_5, ht_5, tt_5, sp_5, pa_5, ro_5, ss_5, dp_5, rn_5, od_5, kd_5) := by rw [eu5]; exact (wf_trace (⟨hlf, hrt, hsp, hpa, hro, hrn, hkd⟩ : WF (ky, vl, lf, rt, ct, ht, tt, sp, pa, ro, ss, dp, rn, od, kd)) key).2
  have hP : va_P D vwCl ((wKd kq) ++ (wMo a ch) ++ (wRg a (h1, h2, f1, f2)) ++ (wWk a (on, bk, gv, kn, ws9, we9, wp9)) ++ (wT ca kq a (ky_5, vl_5, lf_5, rt_5, ct_5, ht_5, tt_5, sp_5, pa_5, ro_5, ss_5, dp_5, rn_5, od_5, kd_5))) H := hP
  have hD : va_D A ((wKd kq) ++ (wMo a ch) ++ (wRg a (h1, h2, f1, f2)) ++ (wWk a (on, bk, gv, kn, ws9, we9, wp9)) ++ (wT ca kq a (ky_5, vl_5, lf_5, rt_5, ct_5, ht_5, tt_5, sp_5, pa_5, ro_5, ss_5, dp_5, rn_5, od_5, kd_5))) := hD
  refine lv_istore_n (lv' := [(2, .int (nI y5)), (0, .ref (a 11)), (1, .int key)]) hx hb dX6_valueOf_8 rfl hl (by decide) rfl (fun ls hl => ?_)
  refine lv_iload_n hx hb dX6_valueOf_9 rfl (lv_at hl 0 rfl) ?_
  refine lv_if_ne (tgt := 23) hx hb dX6_valueOf_10 (by decide) (fun c10 => ?_) (fun c10 => ?_)
  · skip
    have c10 : ¬ y5 = 0 := fun h9 => c10 ((xn_eq (a := y5) (b := 0) (Nat.lt_of_le_of_lt hy5 (by decide)) (by decide)).mpr h9)
    refine lv_aload_n hx hb dX6_valueOf_23 rfl (lv_at hl 1 rfl) ?_
    refine va_get (D := D) (ci := 4) (v := .ref (a 0)) (C := RX6) (T := TX6) (N := 4) hx hb hts inX6 hown hKN.1 hP 4 rfl rfl 0 (by decide) (hts (.fieldLink RX6 14 "TreeFamily$OneMap" "tree" "LTreeFamily$Tree;") (by decide +kernel)) (fun _ h9 => h9) rfl dX6_valueOf_24 ?_
    refine va_getN (D := D) (ci := 6) (v := .ref (a 2)) (C := RX8) (T := TX8) (N := 15) hx hb hts inX8 hown hKN.1 hP 7 rfl rfl 1 (by decide) (va_Nw.use rfl (NW.f hKN.2 (a := RX6) (i := 77) (b := "TreeFamily$Tree") (n := "values") (d := "[I") (g := "TreeFamily") (by decide +kernel))) (fun _ h9 => h9) rfl dX6_valueOf_27 ?_
    refine lv_iload_n hx hb dX6_valueOf_30 rfl (lv_at hl 0 rfl) ?_
    refine xr_ild hx hb hKN.1 hP 9 0 rfl rfl (j := y5) (Nat.lt_of_le_of_lt hy5 (by decide)) (by decide) dX6_valueOf_31 ?_
    refine W.widen (k := 1) (n := 6) (by omega) (by omega) ?_
    exact vx_ret (W.iret (v := (vl_5 y5)) hx hb hr (fun t9 e9 w9 => ⟨⟨_, ((ky_5, vl_5, lf_5, rt_5, ct_5, ht_5, tt_5, sp_5, pa_5, ro_5, ss_5, dp_5, rn_5, od_5, kd_5), (h1, h2, f1, f2), (on, bk, gv, kn, ws9, we9, wp9), ch), rfl, ⟨by rw [← ey5]; exact c10, by rw [← ey5, ← eu5], by rw [← eu5]⟩, by rw [e9]; exact hP, hD⟩, hS.F e9⟩) hS.2.2 dX6_valueOf_32)
  · skip
    have c10 : y5 = 0 := (xn_eq (a := y5) (b := 0) (Nat.lt_of_le_of_lt hy5 (by decide)) (by decide)).mp c10
    obtain ⟨sa9, hsa⟩ := NW.s hKN.2 (a := RX6) (i := 75) (b := "no entry of a key alike") (by decide +kernel)
    exact vx_throwS (A := A) hx hb hl9 hown (by decide +kernel) hns_X (hts (.classLink RX6 60 eIO) (by decide +kernel)) (hts (.initialized eIO) (by decide +kernel)) hsa (hat_X6_eIO hKN.2 (fun w h => hts w (inT_X6_valueOf_eIO w h))) hgo_X6_eIO_60 hTZ.1 hTZ.2 hS (hl.1.trans hml.symm) dX6_valueOf_13 dX6_valueOf_16 dX6_valueOf_17 dX6_valueOf_19 dX6_valueOf_22 (fun x h => (hno x h).elim) (Nat.le_of_ble_eq_true rfl) (Nat.le_of_ble_eq_true rfl) (Nat.le_of_ble_eq_true rfl) (Nat.le_of_ble_eq_true rfl) hlocks (fun t9 _ hz9 hk9 => xX_of ((ky_5, vl_5, lf_5, rt_5, ct_5, ht_5, tt_5, sp_5, pa_5, ro_5, ss_5, dp_5, rn_5, od_5, kd_5), (h1, h2, f1, f2), (on, bk, gv, kn, ws9, we9, wp9), ch) (⟨rfl, by rw [← ey5]; exact c10, by rw [← eu5]⟩) hP hD hS hz9 hk9) hS.2.2 (by omega) (by omega)

-- OneMap.keyAt
theorem inT_X6_keyAt_eIO : ∀ w ∈ (vx_atS RX6 64 eIO eNs).filter goodWord, w ∈ wsX6_keyAt := by decide +kernel
set_option maxHeartbeats 4000000 in
set_option maxRecDepth 100000 in
theorem c_X6_keyAt (l : Launch) (D : va_G) (ca : Nat → ClassId) (kq a : Nat → Nat) (sz : Nat) (hl9 : l.stackTraces = false) (ky vl : Nat → Int32) (lf rt : Nat → Nat) (ct ht : Nat → Int32) (tt : Nat → Int64) (sp pa ro : Nat → Nat) (ss dp rn : Nat) (od : Int32) (kd : Nat) (h1 h2 : Bool) (f1 f2 : Int32) (on bk gv : Bool) (kn ws9 we9 wp9 : Int32) (ch : Int32) (i : Int32) (hlf : ∀ k, lf k ≤ 60) (hrt : ∀ k, rt k ≤ 60) (hsp : ∀ k, sp k ≤ 60) (hpa : ∀ k, pa k ≤ 60) (hro : ∀ k, ro k ≤ 60) (hrn : rn ≤ 60) (hkd : kd < 4): vx_Met l yX6_keyAt wsX6_keyAt ({ frames := 6, cells := 1, slots := 6, locals := 90 } : Room) (xPcT D (TY ca) [.ref (a 11), .int i] ((wKd kq) ++ (wMo a ch) ++ (wRg a (h1, h2, f1, f2)) ++ (wWk a (on, bk, gv, kn, ws9, we9, wp9)) ++ (wT ca kq a (ky, vl, lf, rt, ct, ht, tt, sp, pa, ro, ss, dp, rn, od, kd))) sz) (va_Qi (fun (r : Int32) (u : MS) => (f_nodeAt (ky, vl, lf, rt, ct, ht, tt, sp, pa, ro, ss, dp, rn, od, kd) rn i) ≠ 0 ∧ r = ky (f_nodeAt (ky, vl, lf, rt, ct, ht, tt, sp, pa, ro, ss, dp, rn, od, kd) rn i) ∧ u = ((ky, vl, lf, rt, ct, ht, tt, sp, pa, ro, ss, dp, rn, od, kd), (h1, h2, f1, f2), (on, bk, gv, kn, ws9, we9, wp9), ch)) (xB D (wM ca kq a) (va_A ((wKd kq) ++ (wMo a ch) ++ (wRg a (h1, h2, f1, f2)) ++ (wWk a (on, bk, gv, kn, ws9, we9, wp9)) ++ (wT ca kq a (ky, vl, lf, rt, ct, ht, tt, sp, pa, ro, ss, dp, rn, od, kd))) sz)) (va_A ((wKd kq) ++ (wMo a ch) ++ (wRg a (h1, h2, f1, f2)) ++ (wWk a (on, bk, gv, kn, ws9, we9, wp9)) ++ (wT ca kq a (ky, vl, lf, rt, ct, ht, tt, sp, pa, ro, ss, dp, rn, od, kd))) sz)) (xX D (wM ca kq a) (va_A ((wKd kq) ++ (wMo a ch) ++ (wRg a (h1, h2, f1, f2)) ++ (wWk a (on, bk, gv, kn, ws9, we9, wp9)) ++ (wT ca kq a (ky, vl, lf, rt, ct, ht, tt, sp, pa, ro, ss, dp, rn, od, kd))) sz) (fun (E : String) (u : MS) => E = eIO ∧ (f_nodeAt (ky, vl, lf, rt, ct, ht, tt, sp, pa, ro, ss, dp, rn, od, kd) rn i) = 0 ∧ u = ((ky, vl, lf, rt, ct, ht, tt, sp, pa, ro, ss, dp, rn, od, kd), (h1, h2, f1, f2), (on, bk, gv, kn, ws9, we9, wp9), ch))) 1 6 (va_A ((wKd kq) ++ (wMo a ch) ++ (wRg a (h1, h2, f1, f2)) ++ (wWk a (on, bk, gv, kn, ws9, we9, wp9)) ++ (wT ca kq a (ky, vl, lf, rt, ct, ht, tt, sp, pa, ro, ss, dp, rn, od, kd))) sz) := by
  refine vx_ofW (cc := cX6_keyAt) (maxL := 3) (ret := (some .int)) (by decide) rfl ?_
  intro p e s m args below meth c s₁ B hml hno hv
  obtain ⟨rfl, hsz, hP, hKN, hD0, hTZ⟩ := hv
  have hx := B.exec
  have hb := B.bytes
  have hr := B.returns
  have hts := atoms_spec (ws := wsX6_keyAt) B.pre
  have hown : s.vm.findClass RX6 = some m.cls := findClass_of_methodNamed B.named
  have hlocks := B.notSynchronized
  have inX6 : ∀ w ∈ wsX60, w ∈ wsX6_keyAt := by decide +kernel
  have inX8 : ∀ w ∈ wsX80, w ∈ wsX6_keyAt := by decide +kernel
  subst hsz
  have hD := hD0.self (sz := s.heap.size)
  generalize hAe : va_A ((wKd kq) ++ (wMo a ch) ++ (wRg a (h1, h2, f1, f2)) ++ (wWk a (on, bk, gv, kn, ws9, we9, wp9)) ++ (wT ca kq a (ky, vl, lf, rt, ct, ht, tt, sp, pa, ro, ss, dp, rn, od, kd))) s.heap.size = A at hD hTZ ⊢
  have hA : ∀ q : Nat, s.heap.size ≤ q → A q := fun q h => by rw [← hAe]; exact Or.inr h
  have hS : va_S A s.heap s.heap [] := va_S.rf
  have hl := lv_entry ([.ref (a 11), .int i]) (n := 3) (Nat.le_of_ble_eq_true rfl)
  rw [lg_entry_eq]
  generalize (lg_sl ([.ref (a 11), .int i]) ++ List.replicate (3 - (lg_sl ([.ref (a 11), .int i])).length) Slot.unset).toArray = ls at hl ⊢
  have hl : lv_has ls 3 [(0, .ref (a 11)), (1, .int i)] := hl
  refine lv_aload_n hx hb dX6_keyAt_0 rfl (lv_at hl 0 rfl) ?_
  refine va_get (D := D) (ci := 4) (v := .ref (a 0)) (C := RX6) (T := TX6) (N := 4) hx hb hts inX6 hown hKN.1 hP 4 rfl rfl 0 (by decide) (hts (.fieldLink RX6 14 "TreeFamily$OneMap" "tree" "LTreeFamily$Tree;") (by decide +kernel)) (fun _ h9 => h9) rfl dX6_keyAt_1 ?_
  refine lv_aload_n hx hb dX6_keyAt_4 rfl (lv_at hl 0 rfl) ?_
  refine va_get (D := D) (ci := 4) (v := .ref (a 0)) (C := RX6) (T := TX6) (N := 4) hx hb hts inX6 hown hKN.1 hP 4 rfl rfl 0 (by decide) (hts (.fieldLink RX6 14 "TreeFamily$OneMap" "tree" "LTreeFamily$Tree;") (by decide +kernel)) (fun _ h9 => h9) rfl dX6_keyAt_5 ?_
  refine va_getN (D := D) (ci := 6) (v := .int (nI rn)) (C := RX8) (T := TX8) (N := 15) hx hb hts inX8 hown hKN.1 hP 7 rfl rfl 12 (by decide) (va_Nw.use rfl (NW.f hKN.2 (a := RX6) (i := 81) (b := "TreeFamily$Tree") (n := "root") (d := "I") (g := "TreeFamily") (by decide +kernel))) (fun _ h9 => h9) rfl dX6_keyAt_8 ?_
  refine lv_iload_n hx hb dX6_keyAt_11 rfl (lv_at hl 1 rfl) ?_
  refine xc_i (wr := (wKd kq) ++ (wMo a ch) ++ (wRg a (h1, h2, f1, f2)) ++ (wWk a (on, bk, gv, kn, ws9, we9, wp9))) (va_runV (As := [.int (nI rn), .int i]) (rest := []) ⟨hx, hb, hml, hown, hts⟩ (c_X8_nodeAt l D ca kq a _ ky vl lf rt ct ht tt sp pa ro ss dp rn od kd rn i hlf hrt hsp hpa hro hrn hrn) (cwV 2 hts gX6_keyAt_X8_nodeAt rfl rfl rfl (by decide +kernel) ⟨(Nat.le_of_ble_eq_true rfl), (Nat.le_of_ble_eq_true rfl)⟩) (xPreV hKN hP hD [7, 8, 9, 10, 11, 12, 13, 14, 15, 16, 17] (by decide) rfl (q0 := 7) rfl rfl rfl) rfl rfl hl.1 rfl (lv_room (Nat.le_of_ble_eq_true rfl)) dX6_keyAt_12 ⟨(Nat.le_of_ble_eq_true rfl), (Nat.le_of_ble_eq_true rfl)⟩) hP hD hS hA [7, 8, 9, 10, 11, 12, 13, 14, 15, 16, 17] [0, 1, 2, 3, 4, 5, 6] rfl rfl (by decide) (by decide) (fun r12 u12 H locs hu12 hP hD hS => ?_)
  obtain ⟨er12, eu12⟩ := hu12
  subst er12
  subst eu12
  have hP : va_P D vwCl ((wKd kq) ++ (wMo a ch) ++ (wRg a (h1, h2, f1, f2)) ++ (wWk a (on, bk, gv, kn, ws9, we9, wp9)) ++ (wT ca kq a (ky, vl, lf, rt, ct, ht, tt, sp, pa, ro, ss, dp, rn, od, kd))) H := hP
  have hD : va_D A ((wKd kq) ++ (wMo a ch) ++ (wRg a (h1, h2, f1, f2)) ++ (wWk a (on, bk, gv, kn, ws9, we9, wp9)) ++ (wT ca kq a (ky, vl, lf, rt, ct, ht, tt, sp, pa, ro, ss, dp, rn, od, kd))) := hD
  refine lv_istore_n (lv' := [(2, .int (nI (f_nodeAt (ky, vl, lf, rt, ct, ht, tt, sp, pa, ro, ss, dp, rn, od, kd) rn i))), (0, .ref (a 11)), (1, .int i)]) hx hb dX6_keyAt_15 rfl hl (by decide) rfl (fun ls hl => ?_)
  refine lv_iload_n hx hb dX6_keyAt_16 rfl (lv_at hl 0 rfl) ?_
  refine lv_if_ne (tgt := 30) hx hb dX6_keyAt_17 (by decide) (fun c17 => ?_) (fun c17 => ?_)
  · skip
    have c17 : ¬ (f_nodeAt (ky, vl, lf, rt, ct, ht, tt, sp, pa, ro, ss, dp, rn, od, kd) rn i) = 0 := fun h9 => c17 ((xn_eq (a := (f_nodeAt (ky, vl, lf, rt, ct, ht, tt, sp, pa, ro, ss, dp, rn, od, kd) rn i)) (b := 0) (Nat.lt_of_le_of_lt (wf_nodeAt (⟨hlf, hrt, hsp, hpa, hro, hrn, hkd⟩ : WF (ky, vl, lf, rt, ct, ht, tt, sp, pa, ro, ss, dp, rn, od, kd)) hrn _) (by decide)) (by decide)).mpr h9)
    refine lv_aload_n hx hb dX6_keyAt_30 rfl (lv_at hl 1 rfl) ?_
    refine va_get (D := D) (ci := 4) (v := .ref (a 0)) (C := RX6) (T := TX6) (N := 4) hx hb hts inX6 hown hKN.1 hP 4 rfl rfl 0 (by decide) (hts (.fieldLink RX6 14 "TreeFamily$OneMap" "tree" "LTreeFamily$Tree;") (by decide +kernel)) (fun _ h9 => h9) rfl dX6_keyAt_31 ?_
    refine va_getN (D := D) (ci := 6) (v := .ref (a 1)) (C := RX8) (T := TX8) (N := 15) hx hb hts inX8 hown hKN.1 hP 7 rfl rfl 0 (by decide) (va_Nw.use rfl (NW.f hKN.2 (a := RX6) (i := 90) (b := "TreeFamily$Tree") (n := "keys") (d := "[I") (g := "TreeFamily") (by decide +kernel))) (fun _ h9 => h9) rfl dX6_keyAt_34 ?_
    refine lv_iload_n hx hb dX6_keyAt_37 rfl (lv_at hl 0 rfl) ?_
    refine xr_ild hx hb hKN.1 hP 8 0 rfl rfl (j := f_nodeAt (ky, vl, lf, rt, ct, ht, tt, sp, pa, ro, ss, dp, rn, od, kd) rn i) (Nat.lt_of_le_of_lt (wf_nodeAt (⟨hlf, hrt, hsp, hpa, hro, hrn, hkd⟩ : WF (ky, vl, lf, rt, ct, ht, tt, sp, pa, ro, ss, dp, rn, od, kd)) hrn _) (by decide)) (by decide) dX6_keyAt_38 ?_
    refine W.widen (k := 1) (n := 6) (by omega) (by omega) ?_
    exact vx_ret (W.iret (v := (ky (f_nodeAt (ky, vl, lf, rt, ct, ht, tt, sp, pa, ro, ss, dp, rn, od, kd) rn i))) hx hb hr (fun t9 e9 w9 => ⟨⟨_, ((ky, vl, lf, rt, ct, ht, tt, sp, pa, ro, ss, dp, rn, od, kd), (h1, h2, f1, f2), (on, bk, gv, kn, ws9, we9, wp9), ch), rfl, ⟨c17, rfl, rfl⟩, by rw [e9]; exact hP, hD⟩, hS.F e9⟩) hS.2.2 dX6_keyAt_39)
  · skip
    have c17 : (f_nodeAt (ky, vl, lf, rt, ct, ht, tt, sp, pa, ro, ss, dp, rn, od, kd) rn i) = 0 := (xn_eq (a := (f_nodeAt (ky, vl, lf, rt, ct, ht, tt, sp, pa, ro, ss, dp, rn, od, kd) rn i)) (b := 0) (Nat.lt_of_le_of_lt (wf_nodeAt (⟨hlf, hrt, hsp, hpa, hro, hrn, hkd⟩ : WF (ky, vl, lf, rt, ct, ht, tt, sp, pa, ro, ss, dp, rn, od, kd)) hrn _) (by decide)) (by decide)).mp c17
    obtain ⟨sa9, hsa⟩ := NW.s hKN.2 (a := RX6) (i := 88) (b := "no such entry") (by decide +kernel)
    exact vx_throwS (A := A) hx hb hl9 hown (by decide +kernel) hns_X (hts (.classLink RX6 60 eIO) (by decide +kernel)) (hts (.initialized eIO) (by decide +kernel)) hsa (hat_X6_eIO hKN.2 (fun w h => hts w (inT_X6_keyAt_eIO w h))) hgo_X6_eIO_60 hTZ.1 hTZ.2 hS (hl.1.trans hml.symm) dX6_keyAt_20 dX6_keyAt_23 dX6_keyAt_24 dX6_keyAt_26 dX6_keyAt_29 (fun x h => (hno x h).elim) (Nat.le_of_ble_eq_true rfl) (Nat.le_of_ble_eq_true rfl) (Nat.le_of_ble_eq_true rfl) (Nat.le_of_ble_eq_true rfl) hlocks (fun t9 _ hz9 hk9 => xX_of ((ky, vl, lf, rt, ct, ht, tt, sp, pa, ro, ss, dp, rn, od, kd), (h1, h2, f1, f2), (on, bk, gv, kn, ws9, we9, wp9), ch) (⟨rfl, c17, rfl⟩) hP hD hS hz9 hk9) hS.2.2 (by omega) (by omega)
