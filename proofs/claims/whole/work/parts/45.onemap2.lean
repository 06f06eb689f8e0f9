-- OneMap.valueOf
theorem inT_X6_valueOf_eIO : ∀ w ∈ (vx_atS RX6 64 eIO eNs).filter goodWord, w ∈ wsX6_valueOf := by decide +kernel
set_option maxHeartbeats 4000000 in
set_option maxRecDepth 100000 in
theorem c_X6_valueOf (l : Launch) (D : va_G) (ca : Nat → ClassId) (kq a : Nat → Nat) (sz : Nat) (hl9 : l.stackTraces = false) (ky vl : Nat → Int32) (lf rt : Nat → Nat) (ct ht : Nat → Int32) (tt : Nat → Int64) (sp pa ro : Nat → Nat) (ss dp rn : Nat) (od : Int32) (kd : Nat) (h1 h2 : Bool) (f1 f2 : Int32) (on bk gv : Bool) (kn ws9 we9 wp9 : Int32) (ch : Int32) (key : Int32) (hlf : ∀ k, lf k ≤ 60) (hrt : ∀ k, rt k ≤ 60) (hsp : ∀ k, sp k ≤ 60) (hpa : ∀ k, pa k ≤ 60) (hro : ∀ k, ro k ≤ 60) (hrn : rn ≤ 60) (hkd : kd < 4): vx_Met l yX6_valueOf wsX6_valueOf ({ frames := 6, cells := 1, slots := 6, locals := 90 } : Room) (xPcT D (TY ca) [.ref (a 11), .int key] ((wKd kq) ++ (wMo a ch) ++ (wRg a (h1, h2, f1, f2)) ++ (wWk a (on, bk, gv, kn, ws9, we9, wp9)) ++ (wT ca kq a (ky, vl, lf, rt, ct, ht, tt, sp, pa, ro, ss, dp, rn, od, kd))) sz) (va_Qi (fun (r : Int32) (u : MS) => (f_trace (ky, vl, lf, rt, ct, ht, tt, sp, pa, ro, ss, dp, rn, od, kd) key).1 ≠ 0 ∧ r = (f_trace (ky, vl, lf, rt, ct, ht, tt, sp, pa, ro, ss, dp, rn, od, kd) key).2.vl (f_trace (ky, vl, lf, rt, ct, ht, tt, sp, pa, ro, ss, dp, rn, od, kd) key).1 ∧ u = ((f_trace (ky, vl, lf, rt, ct, ht, tt, sp, pa, ro, ss, dp, rn, od, kd) key).2, (h1, h2, f1, f2), (on, bk, gv, kn, ws9, we9, wp9), ch)) (xB D (wM ca kq a) (va_A ((wKd kq) ++ (wMo a ch) ++ (wRg a (h1, h2, f1, f2)) ++ (wWk a (on, bk, gv, kn, ws9, we9, wp9)) ++ (wT ca kq a (ky, vl, lf, rt, ct, ht, tt, sp, pa, ro, ss, dp, rn, od, kd))) sz)) (va_A ((wKd kq) ++ (wMo a ch) ++ (wRg a (h1, h2, f1, f2)) ++ (wWk a (on, bk, gv, kn, ws9, we9, wp9)) ++ (wT ca kq a (ky, vl, lf, rt, ct, ht, tt, sp, pa, ro, ss, dp, rn, od, kd))) sz)) (xX D (wM ca kq a) (va_A ((wKd kq) ++ (wMo a ch) ++ (wRg a (h1, h2, f1, f2)) ++ (wWk a (on, bk, gv, kn, ws9, we9, wp9)) ++ (wT ca kq a (ky, vl, lf, rt, ct, ht, tt, sp, pa, ro, ss, dp, rn, od, kd))) sz) (fun (E : String) (u : MS) => E = eIO ∧ (f_trace (ky, vl, lf, rt, ct, ht, tt, sp, pa, ro, ss, dp, rn, od, kd) key).1 = 0 ∧ u = ((f_trace (ky, vl, lf, rt, ct, ht, tt, sp, pa, ro, ss, dp, rn, od, kd) key).2, (h1, h2, f1, f2), (on, bk, gv, kn, ws9, we9, wp9), ch))) 1 6 (va_A ((wKd kq) ++ (wMo a ch) ++ (wRg a (h1, h2, f1, f2)) ++ (wWk a (on, bk, gv, kn, ws9, we9, wp9)) ++ (wT ca kq a (ky, vl, lf, rt, ct, ht, tt, sp, pa, ro, ss, dp, rn, od, kd))) sz) := by
  refine vx_ofW (cc := cX6_valueOf) (maxL := 3) (ret := (some .int)) (by decide) rfl ?_
  intro p e s m args below meth c s₁ B hml hno hv
  obtain ⟨rfl, hsz, hP, hKN, hD0, hTZ⟩ := hv
  have hx := B.exec
  have hb := B.bytes
  have hr := B.returns
  have hts := atoms_spec (ws := wsX6_valueOf) B.pre
  have hown : s.vm.findClass RX6 = some m.cls := findClass_of_methodNamed B.named
  have hlocks := B.notSynchronized
  have inX6 : ∀ w ∈ wsX60, w ∈ wsX6_valueOf := by decide +kernel
  have inX8 : ∀ w ∈ wsX80, w ∈ wsX6_valueOf := by decide +kernel
  subst hsz
  have hD := hD0.self (sz := s.heap.size)
  generalize hAe : va_A ((wKd kq) ++ (wMo a ch) ++ (wRg a (h1, h2, f1, f2)) ++ (wWk a (on, bk, gv, kn, ws9, we9, wp9)) ++ (wT ca kq a (ky, vl, lf, rt, ct, ht, tt, sp, pa, ro, ss, dp, rn, od, kd))) s.heap.size = A at hD hTZ ⊢
  have hA : ∀ q : Nat, s.heap.size ≤ q → A q := fun q h => by rw [← hAe]; exact Or.inr h
  have hS : va_S A s.heap s.heap [] := va_S.rf
  have hl := lv_entry ([.ref (a 11), .int key]) (n := 3) (Nat.le_of_ble_eq_true rfl)
  rw [lg_entry_eq]
  generalize (lg_sl ([.ref (a 11), .int key]) ++ List.replicate (3 - (lg_sl ([.ref (a 11), .int key])).length) Slot.unset).toArray = ls at hl ⊢
  have hl : lv_has ls 3 [(0, .ref (a 11)), (1, .int key)] := hl
  refine lv_aload_n hx hb dX6_valueOf_0 rfl (lv_at hl 0 rfl) ?_
  refine va_get (D := D) (ci := 4) (v := .ref (a 0)) (C := RX6) (T := TX6) (N := 4) hx hb hts inX6 hown hKN.1 hP 4 rfl rfl 0 (by decide) (hts (.fieldLink RX6 14 "TreeFamily$OneMap" "tree" "LTreeFamily$Tree;") (by decide +kernel)) (fun _ h9 => h9) rfl dX6_valueOf_1 ?_
  refine lv_iload_n hx hb dX6_valueOf_4 rfl (lv_at hl 1 rfl) ?_
  refine xc_i (wr := (wKd kq) ++ (wMo a ch) ++ (wRg a (h1, h2, f1, f2)) ++ (wWk a (on, bk, gv, kn, ws9, we9, wp9))) (va_runV (As := [.int key]) (rest := []) ⟨hx, hb, hml, hown, hts⟩ (c_X8_trace l D ca kq a _ ky vl lf rt ct ht tt sp pa ro ss dp rn od kd key hlf hrt hsp hpa hro hrn) (cwV 1 hts gX6_valueOf_X8_trace rfl rfl rfl (by decide +kernel) ⟨(Nat.le_of_ble_eq_true rfl), (Nat.le_of_ble_eq_true rfl)⟩) (xPreV hKN hP hD [7, 8, 9, 10, 11, 12, 13, 14, 15, 16, 17] (by decide) rfl (q0 := 7) rfl rfl rfl) rfl rfl hl.1 rfl (lv_room (Nat.le_of_ble_eq_true rfl)) dX6_valueOf_5 ⟨(Nat.le_of_ble_eq_true rfl), (Nat.le_of_ble_eq_true rfl)⟩) hP hD hS hA [7, 8, 9, 10, 11, 12, 13, 14, 15, 16, 17] [0, 1, 2, 3, 4, 5, 6] rfl rfl (by decide) (by decide) (fun r5 u5 H locs hu5 hP hD hS => ?_)
  obtain ⟨er5, eu5⟩ := hu5
  obtain ⟨y5, ey5⟩ : ∃ z, z = (f_trace (ky, vl, lf, rt, ct, ht, tt, sp, pa, ro, ss, dp, rn, od, kd) key).1 := ⟨_, rfl⟩
  rw [← ey5] at er5
  subst er5
  have hy5 : y5 ≤ 60 := by rw [ey5]; exact (wf_trace (⟨hlf, hrt, hsp, hpa, hro, hrn, hkd⟩ : WF (ky, vl, lf, rt, ct, ht, tt, sp, pa, ro, ss, dp, rn, od, kd)) key).1
  obtain ⟨ky_5, vl_5, lf_5, rt_5, ct_5, ht_5, tt_5, sp_5, pa_5, ro_5, ss_5, dp_5, rn_5, od_5, kd_5⟩ := u5
  obtain ⟨hlf_5, hrt_5, hsp_5, hpa_5, hro_5, hrn_5, hkd_5⟩ : WF (ky_5, vl_5, lf_5, rt_5, ct_5, ht_5, tt_5, sp_5, pa_5, ro_5, ss_5, dp_5, rn_5, od_5, kd_5) := by rw [eu5]; exact (wf_trace (⟨hlf, hrt, hsp, hpa, hro, hrn, hkd⟩ : WF (ky, vl, lf, rt, ct, ht, tt, sp, pa, ro, ss, dp, rn, od, kd)) key).2
  have hP : va_P D vwCl ((wKd kq) ++ (wMo a ch) ++ (wRg a (h1, h2, f1, f2)) ++ (wWk a (on, bk, gv, kn, ws9, we9, wp9)) ++ (wT ca kq a (ky_5, vl_5, lf_5, rt_5, ct_5, ht_5, tt_5, sp_5, pa_5, ro_5, ss_5, dp_5, rn_5, od_5, kd_5))) H := hP
  have hD : va_D A ((wKd kq) ++ (wMo a ch) ++ (wRg a (h1, h2, f1, f2)) ++ (wWk a (on, bk, gv, kn, ws9, we9, wp9)) ++ (wT ca kq a (ky_5, vl_5, lf_5, rt_5, ct_5, ht_5, tt_5, sp_5, pa_5, ro_5, ss_5, dp_5, rn_5, od_5, kd_5))) := hD
  refine lv_istore_n (lv' := [(2, .int (nI y5)), (0, .ref (a 11)), (1, .int key)]) hx hb dX6_valueOf_8 rfl hl (by decide) rfl (fun ls hl => ?_)
  refine lv_iload_n hx hb dX6_valueOf_9 rfl (lv_at hl 0 rfl) ?_
  refine lv_if_ne (tgt := 23) hx hb dX6_valueOf_10 (by decide) (fun c10 => ?_) (fun c10 => ?_)
  · skip
    have c10 : ¬ y5 = 0 := fun h9 => c10 ((xn_eq (a := y5) (b := 0) (Nat.lt_of_le_of_lt hy5 (by decide)) (by decide)).mpr h9)
    refine lv_aload_n hx hb dX6_valueOf_23 rfl (lv_at hl 1 rfl) ?_
    refine va_get (D := D) (ci := 4) (v := .ref (a 0)) (C := RX6) (T := TX6) (N := 4) hx hb hts inX6 hown hKN.1 hP 4 rfl rfl 0 (by decide) (hts (.fieldLink RX6 14 "TreeFamily$OneMap" "tree" "LTreeFamily$Tree;") (by decide +kernel)) (fun _ h9 => h9) rfl dX6_valueOf_24 ?_
    refine va_getN (D := D) (ci := 6) (v := .ref (a 2)) (C := RX8) (T := TX8) (N := 15) hx hb hts inX8 hown hKN.1 hP 7 rfl rfl 1 (by decide) (va_Nw.use rfl (NW.f hKN.2 (a := RX6) (i := 77) (b := "TreeFamily$Tree") (n := "values") (d := "[I") (g := "TreeFamily") (by decide +kernel))) (fun _ h9 => h9) rfl dX6_valueOf_27 ?_
    refine lv_iload_n hx hb dX6_valueOf_30 rfl (lv_at hl 0 rfl) ?_
    refine xr_ild hx hb hKN.1 hP 9 0 rfl rfl (j := y5) (Nat.lt_of_le_of_lt hy5 (by decide)) (by decide) dX6_valueOf_31 ?_
    refine W.widen (k := 1) (n := 6) (by omega) (by omega) ?_
    exact vx_ret (W.iret (v := (vl_5 y5)) hx hb hr (fun t9 e9 w9 => ⟨⟨_, ((ky_5, vl_5, lf_5, rt_5, ct_5, ht_5, tt_5, sp_5, pa_5, ro_5, ss_5, dp_5, rn_5, od_5, kd_5), (h1, h2, f1, f2), (on, bk, gv, kn, ws9, we9, wp9), ch), rfl, ⟨by rw [← ey5]; exact c10, by rw [← ey5, ← eu5], by rw [← eu5]⟩, by rw [e9]; exact hP, hD⟩, hS.F e9⟩) hS.2.2 dX6_valueOf_32)
  · skip
    have c10 : y5 = 0 := (xn_eq (a := y5) (b := 0) (Nat.lt_of_le_of_lt hy5 (by decide)) (by decide)).mp c10
    obtain ⟨sa9, hsa⟩ := NW.s hKN.2 (a := RX6) (i := 75) (b := "no entry of a key alike") (by decide +kernel)
    exact vx_throwS (A := A) hx hb hl9 hown (by decide +kernel) hns_X (hts (.classLink RX6 60 eIO) (by decide +kernel)) (hts (.initialized eIO) (by decide +kernel)) hsa (hat_X6_eIO hKN.2 (fun w h => hts w (inT_X6_valueOf_eIO w h))) hgo_X6_eIO_60 hTZ.1 hTZ.2 hS (hl.1.trans hml.symm) dX6_valueOf_13 dX6_valueOf_16 dX6_valueOf_17 dX6_valueOf_19 dX6_valueOf_22 (fun x h => (hno x h).elim) (Nat.le_of_ble_eq_true rfl) (Nat.le_of_ble_eq_true rfl) (Nat.le_of_ble_eq_true rfl) (Nat.le_of_ble_eq_true rfl) hlocks (fun t9 _ hz9 hk9 => xX_of ((ky_5, vl_5, lf_5, rt_5, ct_5, ht_5, tt_5, sp_5, pa_5, ro_5, ss_5, dp_5, rn_5, od_5, kd_5), (h1, h2, f1, f2), (on, bk, gv, kn, ws9, we9, wp9), ch) (⟨rfl, by rw [← ey5]; exact c10, by rw [← eu5]⟩) hP hD hS hz9 hk9) hS.2.2 (by omega) (by omega)

-- OneMap.keyAt
theorem inT_X6_keyAt_eIO : ∀ w ∈ (vx_atS RX6 64 eIO eNs).filter goodWord, w ∈ wsX6_keyAt := by decide +kernel
set_option maxHeartbeats 4000000 in
set_option maxRecDepth 100000 in
theorem c_X6_keyAt (l : Launch) (D : va_G) (ca : Nat → ClassId) (kq a : Nat → Nat) (sz : Nat) (hl9 : l.stackTraces = false) (ky vl : Nat → Int32) (lf rt : Nat → Nat) (ct ht : Nat → Int32) (tt : Nat → Int64) (sp pa ro : Nat → Nat) (ss dp rn : Nat) (od : Int32) (kd : Nat) (h1 h2 : Bool) (f1 f2 : Int32) (on bk gv : Bool) (kn ws9 we9 wp9 : Int32) (ch : Int32) (i : Int32) (hlf : ∀ k, lf k ≤ 60) (hrt : ∀ k, rt k ≤ 60) (hsp : ∀ k, sp k ≤ 60) (hpa : ∀ k, pa k ≤ 60) (hro : ∀ k, ro k ≤ 60) (hrn : rn ≤ 60) (hkd : kd < 4): vx_Met l yX6_keyAt wsX6_keyAt ({ frames := 6, cells := 1, slots := 6, locals := 90 } : Room) (xPcT D (TY ca) [.ref (a 11), .int i] ((wKd kq) ++ (wMo a ch) ++ (wRg a (h1, h2, f1, f2)) ++ (wWk a (on, bk, gv, kn, ws9, we9, wp9)) ++ (wT ca kq a (ky, vl, lf, rt, ct, ht, tt, sp, pa, ro, ss, dp, rn, od, kd))) sz) (va_Qi (fun (r : Int32) (u : MS) => (f_nodeAt (ky, vl, lf, rt, ct, ht, tt, sp, pa, ro, ss, dp, rn, od, kd) rn i) ≠ 0 ∧ r = ky (f_nodeAt (ky, vl, lf, rt, ct, ht, tt, sp, pa, ro, ss, dp, rn, od, kd) rn i) ∧ u = ((ky, vl, lf, rt, ct, ht, tt, sp, pa, ro, ss, dp, rn, od, kd), (h1, h2, f1, f2), (on, bk, gv, kn, ws9, we9, wp9), ch)) (xB D (wM ca kq a) (va_A ((wKd kq) ++ (wMo a ch) ++ (wRg a (h1, h2, f1, f2)) ++ (wWk a (on, bk, gv, kn, ws9, we9, wp9)) ++ (wT ca kq a (ky, vl, lf, rt, ct, ht, tt, sp, pa, ro, ss, dp, rn, od, kd))) sz)) (va_A ((wKd kq) ++ (wMo a ch) ++ (wRg a (h1, h2, f1, f2)) ++ (wWk a (on, bk, gv, kn, ws9, we9, wp9)) ++ (wT ca kq a (ky, vl, lf, rt, ct, ht, tt, sp, pa, ro, ss, dp, rn, od, kd))) sz)) (xX D (wM ca kq a) (va_A ((wKd kq) ++ (wMo a ch) ++ (wRg a (h1, h2, f1, f2)) ++ (wWk a (on, bk, gv, kn, ws9, we9, wp9)) ++ (wT ca kq a (ky, vl, lf, rt, ct, ht, tt, sp, pa, ro, ss, dp, rn, od, kd))) sz) (fun (E : String) (u : MS) => E = eIO ∧ (f_nodeAt (ky, vl, lf, rt, ct, ht, tt, sp, pa, ro, ss, dp, rn, od, kd) rn i) = 0 ∧ u = ((ky, vl, lf, rt, ct, ht, tt, sp, pa, ro, ss, dp, rn, od, kd), (h1, h2, f1, f2), (on, bk, gv, kn, ws9, we9, wp9), ch))) 1 6 (va_A ((wKd kq) ++ (wMo a ch) ++ (wRg a (h1, h2, f1, f2)) ++ (wWk a (on, bk, gv, kn, ws9, we9, wp9)) ++ (wT ca kq a (ky, vl, lf, rt, ct, ht, tt, sp, pa, ro, ss, dp, rn, od, kd))) sz) := by
  refine vx_ofW (cc := cX6_keyAt) (maxL := 3) (ret := (some .int)) (by decide) rfl ?_
  intro p e s m args below meth c s₁ B hml hno hv
  obtain ⟨rfl, hsz, hP, hKN, hD0, hTZ⟩ := hv
  have hx := B.exec
  have hb := B.bytes
  have hr := B.returns
  have hts := atoms_spec (ws := wsX6_keyAt) B.pre
  have hown : s.vm.findClass RX6 = some m.cls := findClass_of_methodNamed B.named
  have hlocks := B.notSynchronized
  have inX6 : ∀ w ∈ wsX60, w ∈ wsX6_keyAt := by decide +kernel
  have inX8 : ∀ w ∈ wsX80, w ∈ wsX6_keyAt := by decide +kernel
  subst hsz
  have hD := hD0.self (sz := s.heap.size)
  generalize hAe : va_A ((wKd kq) ++ (wMo a ch) ++ (wRg a (h1, h2, f1, f2)) ++ (wWk a (on, bk, gv, kn, ws9, we9, wp9)) ++ (wT ca kq a (ky, vl, lf, rt, ct, ht, tt, sp, pa, ro, ss, dp, rn, od, kd))) s.heap.size = A at hD hTZ ⊢
  have hA : ∀ q : Nat, s.heap.size ≤ q → A q := fun q h => by rw [← hAe]; exact Or.inr h
  have hS : va_S A s.heap s.heap [] := va_S.rf
  have hl := lv_entry ([.ref (a 11), .int i]) (n := 3) (Nat.le_of_ble_eq_true rfl)
  rw [lg_entry_eq]
  generalize (lg_sl ([.ref (a 11), .int i]) ++ List.replicate (3 - (lg_sl ([.ref (a 11), .int i])).length) Slot.unset).toArray = ls at hl ⊢
  have hl : lv_has ls 3 [(0, .ref (a 11)), (1, .int i)] := hl
  refine lv_aload_n hx hb dX6_keyAt_0 rfl (lv_at hl 0 rfl) ?_
  refine va_get (D := D) (ci := 4) (v := .ref (a 0)) (C := RX6) (T := TX6) (N := 4) hx hb hts inX6 hown hKN.1 hP 4 rfl rfl 0 (by decide) (hts (.fieldLink RX6 14 "TreeFamily$OneMap" "tree" "LTreeFamily$Tree;") (by decide +kernel)) (fun _ h9 => h9) rfl dX6_keyAt_1 ?_
  refine lv_aload_n hx hb dX6_keyAt_4 rfl (lv_at hl 0 rfl) ?_
  refine va_get (D := D) (ci := 4) (v := .ref (a 0)) (C := RX6) (T := TX6) (N := 4) hx hb hts inX6 hown hKN.1 hP 4 rfl rfl 0 (by decide) (hts (.fieldLink RX6 14 "TreeFamily$OneMap" "tree" "LTreeFamily$Tree;") (by decide +kernel)) (fun _ h9 => h9) rfl dX6_keyAt_5 ?_
  refine va_getN (D := D) (ci := 6) (v := .int (nI rn)) (C := RX8) (T := TX8) (N := 15) hx hb hts inX8 hown hKN.1 hP 7 rfl rfl 12 (by decide) (va_Nw.use rfl (NW.f hKN.2 (a := RX6) (i := 81) (b := "TreeFamily$Tree") (n := "root") (d := "I") (g := "TreeFamily") (by decide +kernel))) (fun _ h9 => h9) rfl dX6_keyAt_8 ?_
  refine lv_iload_n hx hb dX6_keyAt_11 rfl (lv_at hl 1 rfl) ?_
  refine xc_i (wr := (wKd kq) ++ (wMo a ch) ++ (wRg a (h1, h2, f1, f2)) ++ (wWk a (on, bk, gv, kn, ws9, we9, wp9))) (va_runV (As := [.int (nI rn), .int i]) (rest := []) ⟨hx, hb, hml, hown, hts⟩ (c_X8_nodeAt l D ca kq a _ ky vl lf rt ct ht tt sp pa ro ss dp rn od kd rn i hlf hrt hsp hpa hro hrn hrn) (cwV 2 hts gX6_keyAt_X8_nodeAt rfl rfl rfl (by decide +kernel) ⟨(Nat.le_of_ble_eq_true rfl), (Nat.le_of_ble_eq_true rfl)⟩) (xPreV hKN hP hD [7, 8, 9, 10, 11, 12, 13, 14, 15, 16, 17] (by decide) rfl (q0 := 7) rfl rfl rfl) rfl rfl hl.1 rfl (lv_room (Nat.le_of_ble_eq_true rfl)) dX6_keyAt_12 ⟨(Nat.le_of_ble_eq_true rfl), (Nat.le_of_ble_eq_true rfl)⟩) hP hD hS hA [7, 8, 9, 10, 11, 12, 13, 14, 15, 16, 17] [0, 1, 2, 3, 4, 5, 6] rfl rfl (by decide) (by decide) (fun r12 u12 H locs hu12 hP hD hS => ?_)
  obtain ⟨er12, eu12⟩ := hu12
  subst er12
  subst eu12
  have hP : va_P D vwCl ((wKd kq) ++ (wMo a ch) ++ (wRg a (h1, h2, f1, f2)) ++ (wWk a (on, bk, gv, kn, ws9, we9, wp9)) ++ (wT ca kq a (ky, vl, lf, rt, ct, ht, tt, sp, pa, ro, ss, dp, rn, od, kd))) H := hP
  have hD : va_D A ((wKd kq) ++ (wMo a ch) ++ (wRg a (h1, h2, f1, f2)) ++ (wWk a (on, bk, gv, kn, ws9, we9, wp9)) ++ (wT ca kq a (ky, vl, lf, rt, ct, ht, tt, sp, pa, ro, ss, dp, rn, od, kd))) := hD
  refine lv_istore_n (lv' := [(2, .int (nI (f_nodeAt (ky, vl, lf, rt, ct, ht, tt, sp, pa, ro, ss, dp, rn, od, kd) rn i))), (0, .ref (a 11)), (1, .int i)]) hx hb dX6_keyAt_15 rfl hl (by decide) rfl (fun ls hl => ?_)
  refine lv_iload_n hx hb dX6_keyAt_16 rfl (lv_at hl 0 rfl) ?_
  refine lv_if_ne (tgt := 30) hx hb dX6_keyAt_17 (by decide) (fun c17 => ?_) (fun c17 => ?_)
  · skip
    have c17 : ¬ (f_nodeAt (ky, vl, lf, rt, ct, ht, tt, sp, pa, ro, ss, dp, rn, od, kd) rn i) = 0 := fun h9 => c17 ((xn_eq (a := (f_nodeAt (ky, vl, lf, rt, ct, ht, tt, sp, pa, ro, ss, dp, rn, od, kd) rn i)) (b := 0) (Nat.lt_of_le_of_lt (wf_nodeAt (⟨hlf, hrt, hsp, hpa, hro, hrn, hkd⟩ : WF (ky, vl, lf, rt, ct, ht, tt, sp, pa, ro, ss, dp, rn, od, kd)) hrn _) (by decide)) (by decide)).mpr h9)
    refine lv_aload_n hx hb dX6_keyAt_30 rfl (lv_at hl 1 rfl) ?_
    refine va_get (D := D) (ci := 4) (v := .ref (a 0)) (C := RX6) (T := TX6) (N := 4) hx hb hts inX6 hown hKN.1 hP 4 rfl rfl 0 (by decide) (hts (.fieldLink RX6 14 "TreeFamily$OneMap" "tree" "LTreeFamily$Tree;") (by decide +kernel)) (fun _ h9 => h9) rfl dX6_keyAt_31 ?_
    refine va_getN (D := D) (ci := 6) (v := .ref (a 1)) (C := RX8) (T := TX8) (N := 15) hx hb hts inX8 hown hKN.1 hP 7 rfl rfl 0 (by decide) (va_Nw.use rfl (NW.f hKN.2 (a := RX6) (i := 90) (b := "TreeFamily$Tree") (n := "keys") (d := "[I") (g := "TreeFamily") (by decide +kernel))) (fun _ h9 => h9) rfl dX6_keyAt_34 ?_
    refine lv_iload_n hx hb dX6_keyAt_37 rfl (lv_at hl 0 rfl) ?_
    refine xr_ild hx hb hKN.1 hP 8 0 rfl rfl (j := f_nodeAt (ky, vl, lf, rt, ct, ht, tt, sp, pa, ro, ss, dp, rn, od, kd) rn i) (Nat.lt_of_le_of_lt (wf_nodeAt (⟨hlf, hrt, hsp, hpa, hro, hrn, hkd⟩ : WF (ky, vl, lf, rt, ct, ht, tt, sp, pa, ro, ss, dp, rn, od, kd)) hrn _) (by decide)) (by decide) dX6_keyAt_38 ?_
    refine W.widen (k := 1) (n := 6) (by omega) (by omega) ?_
    exact vx_ret (W.iret (v := (ky (f_nodeAt (ky, vl, lf, rt, ct, ht, tt, sp, pa, ro, ss, dp, rn, od, kd) rn i))) hx hb hr (fun t9 e9 w9 => ⟨⟨_, ((ky, vl, lf, rt, ct, ht, tt, sp, pa, ro, ss, dp, rn, od, kd), (h1, h2, f1, f2), (on, bk, gv, kn, ws9, we9, wp9), ch), rfl, ⟨c17, rfl, rfl⟩, by rw [e9]; exact hP, hD⟩, hS.F e9⟩) hS.2.2 dX6_keyAt_39)
  · skip
    have c17 : (f_nodeAt (ky, vl, lf, rt, ct, ht, tt, sp, pa, ro, ss, dp, rn, od, kd) rn i) = 0 := (xn_eq (a := (f_nodeAt (ky, vl, lf, rt, ct, ht, tt, sp, pa, ro, ss, dp, rn, od, kd) rn i)) (b := 0) (Nat.lt_of_le_of_lt (wf_nodeAt (⟨hlf, hrt, hsp, hpa, hro, hrn, hkd⟩ : WF (ky, vl, lf, rt, ct, ht, tt, sp, pa, ro, ss, dp, rn, od, kd)) hrn _) (by decide)) (by decide)).mp c17
    obtain ⟨sa9, hsa⟩ := NW.s hKN.2 (a := RX6) (i := 88) (b := "no such entry") (by decide +kernel)
    exact vx_throwS (A := A) hx hb hl9 hown (by decide +kernel) hns_X (hts (.classLink RX6 60 eIO) (by decide +kernel)) (hts (.initialized eIO) (by decide +kernel)) hsa (hat_X6_eIO hKN.2 (fun w h => hts w (inT_X6_keyAt_eIO w h))) hgo_X6_eIO_60 hTZ.1 hTZ.2 hS (hl.1.trans hml.symm) dX6_keyAt_20 dX6_keyAt_23 dX6_keyAt_24 dX6_keyAt_26 dX6_keyAt_29 (fun x h => (hno x h).elim) (Nat.le_of_ble_eq_true rfl) (Nat.le_of_ble_eq_true rfl) (Nat.le_of_ble_eq_true rfl) (Nat.le_of_ble_eq_true rfl) hlocks (fun t9 _ hz9 hk9 => xX_of ((ky, vl, lf, rt, ct, ht, tt, sp, pa, ro, ss, dp, rn, od, kd), (h1, h2, f1, f2), (on, bk, gv, kn, ws9, we9, wp9), ch) (⟨rfl, c17, rfl⟩) hP hD hS hz9 hk9) hS.2.2 (by omega) (by omega)

-- OneMap.store
theorem inT_X6_store_eIO : ∀ w ∈ (vx_atS RX6 64 eIO eNs).filter goodWord, w ∈ wsX6_store := by decide +kernel
set_option maxHeartbeats 4000000 in
set_option maxRecDepth 100000 in
theorem c_X6_store (l : Launch) (D : va_G) (ca : Nat → ClassId) (kq a : Nat → Nat) (sz : Nat) (hl9 : l.stackTraces = false) (ky vl : Nat → Int32) (lf rt : Nat → Nat) (ct ht : Nat → Int32) (tt : Nat → Int64) (sp pa ro : Nat → Nat) (ss dp rn : Nat) (od : Int32) (kd : Nat) (h1 h2 : Bool) (f1 f2 : Int32) (on bk gv : Bool) (kn ws9 we9 wp9 : Int32) (ch : Int32) (key v : Int32) (hlf : ∀ k, lf k ≤ 60) (hrt : ∀ k, rt k ≤ 60) (hsp : ∀ k, sp k ≤ 60) (hpa : ∀ k, pa k ≤ 60) (hro : ∀ k, ro k ≤ 60) (hrn : rn ≤ 60) (hkd : kd < 4) (hok : (ct rn < 60 → okA (ky, vl, lf, rt, ct, ht, tt, sp, pa, ro, ss, dp, rn, od, kd) key v) ∧ (¬ ct rn < 60 → okA (f_trace (ky, vl, lf, rt, ct, ht, tt, sp, pa, ro, ss, dp, rn, od, kd) key).2 key v)): vx_Met l yX6_store wsX6_store ({ frames := 66, cells := 1, slots := 6, locals := 1638 } : Room) (xPcT D (TY ca) [.ref (a 11), .int key, .int v] ((wKd kq) ++ (wMo a ch) ++ (wRg a (h1, h2, f1, f2)) ++ (wWk a (on, bk, gv, kn, ws9, we9, wp9)) ++ (wT ca kq a (ky, vl, lf, rt, ct, ht, tt, sp, pa, ro, ss, dp, rn, od, kd))) sz) (va_Qi (fun (r : Int32) (u : MS) => (ct rn < 60 ∨ (f_trace (ky, vl, lf, rt, ct, ht, tt, sp, pa, ro, ss, dp, rn, od, kd) key).1 ≠ 0) ∧ r = bI (f_assign (st_t (ky, vl, lf, rt, ct, ht, tt, sp, pa, ro, ss, dp, rn, od, kd) key) key v).1 ∧ u = ((f_assign (st_t (ky, vl, lf, rt, ct, ht, tt, sp, pa, ro, ss, dp, rn, od, kd) key) key v).2, (h1, h2, f1, f2), (on, bk, gv, kn, ws9, we9, wp9), if (f_assign (st_t (ky, vl, lf, rt, ct, ht, tt, sp, pa, ro, ss, dp, rn, od, kd) key) key v).1 = true then ch + 1 else ch)) (xB D (wM ca kq a) (va_A ((wKd kq) ++ (wMo a ch) ++ (wRg a (h1, h2, f1, f2)) ++ (wWk a (on, bk, gv, kn, ws9, we9, wp9)) ++ (wT ca kq a (ky, vl, lf, rt, ct, ht, tt, sp, pa, ro, ss, dp, rn, od, kd))) sz)) (va_A ((wKd kq) ++ (wMo a ch) ++ (wRg a (h1, h2, f1, f2)) ++ (wWk a (on, bk, gv, kn, ws9, we9, wp9)) ++ (wT ca kq a (ky, vl, lf, rt, ct, ht, tt, sp, pa, ro, ss, dp, rn, od, kd))) sz)) (xX D (wM ca kq a) (va_A ((wKd kq) ++ (wMo a ch) ++ (wRg a (h1, h2, f1, f2)) ++ (wWk a (on, bk, gv, kn, ws9, we9, wp9)) ++ (wT ca kq a (ky, vl, lf, rt, ct, ht, tt, sp, pa, ro, ss, dp, rn, od, kd))) sz) (fun (E : String) (u : MS) => E = eIO ∧ ¬ ct rn < 60 ∧ (f_trace (ky, vl, lf, rt, ct, ht, tt, sp, pa, ro, ss, dp, rn, od, kd) key).1 = 0 ∧ u = ((f_trace (ky, vl, lf, rt, ct, ht, tt, sp, pa, ro, ss, dp, rn, od, kd) key).2, (h1, h2, f1, f2), (on, bk, gv, kn, ws9, we9, wp9), ch))) 1 6 (va_A ((wKd kq) ++ (wMo a ch) ++ (wRg a (h1, h2, f1, f2)) ++ (wWk a (on, bk, gv, kn, ws9, we9, wp9)) ++ (wT ca kq a (ky, vl, lf, rt, ct, ht, tt, sp, pa, ro, ss, dp, rn, od, kd))) sz) := by
  refine vx_ofW (cc := cX6_store) (maxL := 4) (ret := (some .boolean)) (by decide) rfl ?_
  intro p e s m args below meth c s₁ B hml hno hv
  obtain ⟨rfl, hsz, hP, hKN, hD0, hTZ⟩ := hv
  have hx := B.exec
  have hb := B.bytes
  have hr := B.returns
  have hts := atoms_spec (ws := wsX6_store) B.pre
  have hown : s.vm.findClass RX6 = some m.cls := findClass_of_methodNamed B.named
  have hlocks := B.notSynchronized
  have inX6 : ∀ w ∈ wsX60, w ∈ wsX6_store := by decide +kernel
  subst hsz
  have hD := hD0.self (sz := s.heap.size)
  generalize hAe : va_A ((wKd kq) ++ (wMo a ch) ++ (wRg a (h1, h2, f1, f2)) ++ (wWk a (on, bk, gv, kn, ws9, we9, wp9)) ++ (wT ca kq a (ky, vl, lf, rt, ct, ht, tt, sp, pa, ro, ss, dp, rn, od, kd))) s.heap.size = A at hD hTZ ⊢
  have hA : ∀ q : Nat, s.heap.size ≤ q → A q := fun q h => by rw [← hAe]; exact Or.inr h
  have hS : va_S A s.heap s.heap [] := va_S.rf
  have hl := lv_entry ([.ref (a 11), .int key, .int v]) (n := 4) (Nat.le_of_ble_eq_true rfl)
  rw [lg_entry_eq]
  generalize (lg_sl ([.ref (a 11), .int key, .int v]) ++ List.replicate (4 - (lg_sl ([.ref (a 11), .int key, .int v])).length) Slot.unset).toArray = ls at hl ⊢
  have hl : lv_has ls 4 [(0, .ref (a 11)), (1, .int key), (2, .int v)] := hl
  refine lv_aload_n hx hb dX6_store_0 rfl (lv_at hl 0 rfl) ?_
  refine xc_i (wr := []) (va_runV (As := []) (rest := []) ⟨hx, hb, hml, hown, hts⟩ (c_X6_entryCount l D ca kq a _ ky vl lf rt ct ht tt sp pa ro ss dp rn od kd h1 h2 f1 f2 on bk gv kn ws9 we9 wp9 ch hlf hrt hsp hpa hro hrn hkd) (cwV 0 hts gX6_store_X6_entryCount rfl rfl rfl (by decide +kernel) ⟨(Nat.le_of_ble_eq_true rfl), (Nat.le_of_ble_eq_true rfl)⟩) (xPreV hKN hP hD [0, 1, 2, 3, 4, 5, 6, 7, 8, 9, 10, 11, 12, 13, 14, 15, 16, 17] (by decide) rfl (q0 := 4) rfl rfl rfl) rfl rfl hl.1 rfl (lv_room (Nat.le_of_ble_eq_true rfl)) dX6_store_1 ⟨(Nat.le_of_ble_eq_true rfl), (Nat.le_of_ble_eq_true rfl)⟩) hP hD hS hA [0, 1, 2, 3, 4, 5, 6, 7, 8, 9, 10, 11, 12, 13, 14, 15, 16, 17] [] rfl rfl (by decide) (by decide) (fun r1 u1 H locs hu1 hP hD hS => ?_)
  obtain ⟨er1, eu1⟩ := hu1
  subst er1
  subst eu1
  have hP : va_P D vwCl ((wKd kq) ++ (wMo a ch) ++ (wRg a (h1, h2, f1, f2)) ++ (wWk a (on, bk, gv, kn, ws9, we9, wp9)) ++ (wT ca kq a (ky, vl, lf, rt, ct, ht, tt, sp, pa, ro, ss, dp, rn, od, kd))) H := hP
  have hD : va_D A ((wKd kq) ++ (wMo a ch) ++ (wRg a (h1, h2, f1, f2)) ++ (wWk a (on, bk, gv, kn, ws9, we9, wp9)) ++ (wT ca kq a (ky, vl, lf, rt, ct, ht, tt, sp, pa, ro, ss, dp, rn, od, kd))) := hD
  refine lv_bipush (v := 60) hx hb dX6_store_4 (by decide) ?_
  refine lv_icmp_lt (tgt := 30) hx hb dX6_store_6 (by decide) (fun c6 => ?_) (fun c6 => ?_)
  · skip
    have est : st_t (ky, vl, lf, rt, ct, ht, tt, sp, pa, ro, ss, dp, rn, od, kd) key = (ky, vl, lf, rt, ct, ht, tt, sp, pa, ro, ss, dp, rn, od, kd) := st_t1 (t := (ky, vl, lf, rt, ct, ht, tt, sp, pa, ro, ss, dp, rn, od, kd)) (key := key) c6
    refine lv_aload_n hx hb dX6_store_30 rfl (lv_at hl 0 rfl) ?_
    refine va_get (D := D) (ci := 4) (v := .ref (a 0)) (C := RX6) (T := TX6) (N := 4) hx hb hts inX6 hown hKN.1 hP 4 rfl rfl 0 (by decide) (hts (.fieldLink RX6 14 "TreeFamily$OneMap" "tree" "LTreeFamily$Tree;") (by decide +kernel)) (fun _ h9 => h9) rfl dX6_store_31 ?_
    refine lv_iload_n hx hb dX6_store_34 rfl (lv_at hl 1 rfl) ?_
    refine lv_iload_n hx hb dX6_store_35 rfl (lv_at hl 2 rfl) ?_
    have hokA : okA (ky, vl, lf, rt, ct, ht, tt, sp, pa, ro, ss, dp, rn, od, kd) key v := hok.1 c6
    refine xc_i (wr := (wMo a ch) ++ (wRg a (h1, h2, f1, f2)) ++ (wWk a (on, bk, gv, kn, ws9, we9, wp9))) (va_runV (As := [.int key, .int v]) (rest := []) ⟨hx, hb, hml, hown, hts⟩ (c_X8_assign l D ca kq a _ ky vl lf rt ct ht tt sp pa ro ss dp rn od kd key v hlf hrt hsp hpa hro hrn hkd hokA.1 hokA.2.1 hokA.2.2) (cwV 2 hts gX6_store_X8_assign rfl rfl rfl (by decide +kernel) ⟨(Nat.le_of_ble_eq_true rfl), (Nat.le_of_ble_eq_true rfl)⟩) (xPreV hKN hP hD [0, 1, 2, 3, 7, 8, 9, 10, 11, 12, 13, 14, 15, 16, 17] (by decide) rfl (q0 := 7) rfl rfl rfl) rfl rfl hl.1 rfl (lv_room (Nat.le_of_ble_eq_true rfl)) dX6_store_36 ⟨(Nat.le_of_ble_eq_true rfl), (Nat.le_of_ble_eq_true rfl)⟩) hP hD hS hA [0, 1, 2, 3, 7, 8, 9, 10, 11, 12, 13, 14, 15, 16, 17] [4, 5, 6] rfl rfl (by decide) (by decide) (fun r36 u36 H locs hu36 hP hD hS => ?_)
    obtain ⟨er36, eu36⟩ := hu36
    subst er36
    have hP : va_P D vwCl ((wKd kq) ++ (wMo a ch) ++ (wRg a (h1, h2, f1, f2)) ++ (wWk a (on, bk, gv, kn, ws9, we9, wp9)) ++ (wT ca kq a u36)) H := hP.sub (ws' := (wKd kq) ++ (wMo a ch) ++ (wRg a (h1, h2, f1, f2)) ++ (wWk a (on, bk, gv, kn, ws9, we9, wp9)) ++ (wT ca kq a u36)) [3, 4, 5, 6, 0, 1, 2, 7, 8, 9, 10, 11, 12, 13, 14, 15, 16, 17] rfl
    have hD : va_D A ((wKd kq) ++ (wMo a ch) ++ (wRg a (h1, h2, f1, f2)) ++ (wWk a (on, bk, gv, kn, ws9, we9, wp9)) ++ (wT ca kq a u36)) := hD.sub (ws' := (wKd kq) ++ (wMo a ch) ++ (wRg a (h1, h2, f1, f2)) ++ (wWk a (on, bk, gv, kn, ws9, we9, wp9)) ++ (wT ca kq a u36)) [3, 4, 5, 6, 0, 1, 2, 7, 8, 9, 10, 11, 12, 13, 14, 15, 16, 17] (by decide) rfl
    refine lv_istore_n (lv' := [(3, .int (bI (f_assign (ky, vl, lf, rt, ct, ht, tt, sp, pa, ro, ss, dp, rn, od, kd) key v).1)), (0, .ref (a 11)), (1, .int key), (2, .int v)]) hx hb dX6_store_39 rfl hl (by decide) rfl (fun ls hl => ?_)
    refine lv_iload_n hx hb dX6_store_40 rfl (lv_at hl 0 rfl) ?_
    refine lv_if_eq (tgt := 54) hx hb dX6_store_41 (by decide) (fun c41 => ?_) (fun c41 => ?_)
    · skip
      have c41 := bI_0.mp c41
      refine lv_iload_n hx hb dX6_store_54 rfl (lv_at hl 0 rfl) ?_
      refine W.widen (k := 1) (n := 6) (by omega) (by omega) ?_
      exact vx_ret (W.zret (v := (bI (f_assign (ky, vl, lf, rt, ct, ht, tt, sp, pa, ro, ss, dp, rn, od, kd) key v).1)) hx hb hr (bI_nar _) (fun t9 e9 w9 => ⟨⟨_, (u36, (h1, h2, f1, f2), (on, bk, gv, kn, ws9, we9, wp9), ch), rfl, ⟨Or.inl c6, by rw [est], by rw [est, eu36]; first | rw [if_pos c41] | rw [if_neg (by rw [c41]; decide)]⟩, by rw [e9]; exact hP, hD⟩, hS.F e9⟩) hS.2.2 dX6_store_55)
    · skip
      have c41 := bI_ne.mp c41
      refine lv_aload_n hx hb dX6_store_44 rfl (lv_at hl 1 rfl) ?_
      refine lv_dup hx hb dX6_store_45 rfl ?_
      refine va_get (D := D) (ci := 4) (v := .int ch) (C := RX6) (T := TX6) (N := 4) hx hb hts inX6 hown hKN.1 hP 4 rfl rfl 3 (by decide) (hts (.fieldLink RX6 34 "TreeFamily$OneMap" "changes" "I") (by decide +kernel)) (fun _ h9 => h9) rfl dX6_store_46 ?_
      refine lv_iconst (v := 1) hx hb dX6_store_49 (by decide) ?_
      refine lv_iadd hx hb dX6_store_50 ?_
      refine va_put (D := D) (ci := 4) (v := .int (ch + 1)) (ty := .int) (C := RX6) (T := TX6) (N := 4) hx hb hts inX6 tyX6 tyX6_ok nmX6 hown hKN.1 hP hD hS 4 rfl rfl 3 (by decide) (hts (.fieldLink RX6 34 "TreeFamily$OneMap" "changes" "I") (by decide +kernel)) (fun _ h9 => h9) rfl (by decide +kernel) rfl rfl (Nat.le_of_ble_eq_true rfl) dX6_store_51 (fun H locs hP hD hS => ?_)
      have hP : va_P D vwCl ((wKd kq) ++ (wMo a (ch + 1)) ++ (wRg a (h1, h2, f1, f2)) ++ (wWk a (on, bk, gv, kn, ws9, we9, wp9)) ++ (wT ca kq a u36)) H := hP
      have hD : va_D A ((wKd kq) ++ (wMo a (ch + 1)) ++ (wRg a (h1, h2, f1, f2)) ++ (wWk a (on, bk, gv, kn, ws9, we9, wp9)) ++ (wT ca kq a u36)) := hD
      refine lv_iload_n hx hb dX6_store_54 rfl (lv_at hl 0 rfl) ?_
      refine W.widen (k := 1) (n := 6) (by omega) (by omega) ?_
      exact vx_ret (W.zret (v := (bI (f_assign (ky, vl, lf, rt, ct, ht, tt, sp, pa, ro, ss, dp, rn, od, kd) key v).1)) hx hb hr (bI_nar _) (fun t9 e9 w9 => ⟨⟨_, (u36, (h1, h2, f1, f2), (on, bk, gv, kn, ws9, we9, wp9), (ch + 1)), rfl, ⟨Or.inl c6, by rw [est], by rw [est, eu36]; first | rw [if_pos c41] | rw [if_neg (by rw [c41]; decide)]⟩, by rw [e9]; exact hP, hD⟩, hS.F e9⟩) hS.2.2 dX6_store_55)
  · skip
    refine lv_aload_n hx hb dX6_store_9 rfl (lv_at hl 0 rfl) ?_
    refine va_get (D := D) (ci := 4) (v := .ref (a 0)) (C := RX6) (T := TX6) (N := 4) hx hb hts inX6 hown hKN.1 hP 4 rfl rfl 0 (by decide) (hts (.fieldLink RX6 14 "TreeFamily$OneMap" "tree" "LTreeFamily$Tree;") (by decide +kernel)) (fun _ h9 => h9) rfl dX6_store_10 ?_
    refine lv_iload_n hx hb dX6_store_13 rfl (lv_at hl 1 rfl) ?_
    refine xc_i (wr := (wKd kq) ++ (wMo a ch) ++ (wRg a (h1, h2, f1, f2)) ++ (wWk a (on, bk, gv, kn, ws9, we9, wp9))) (va_runV (As := [.int key]) (rest := []) ⟨hx, hb, hml, hown, hts⟩ (c_X8_trace l D ca kq a _ ky vl lf rt ct ht tt sp pa ro ss dp rn od kd key hlf hrt hsp hpa hro hrn) (cwV 1 hts gX6_store_X8_trace rfl rfl rfl (by decide +kernel) ⟨(Nat.le_of_ble_eq_true rfl), (Nat.le_of_ble_eq_true rfl)⟩) (xPreV hKN hP hD [7, 8, 9, 10, 11, 12, 13, 14, 15, 16, 17] (by decide) rfl (q0 := 7) rfl rfl rfl) rfl rfl hl.1 rfl (lv_room (Nat.le_of_ble_eq_true rfl)) dX6_store_14 ⟨(Nat.le_of_ble_eq_true rfl), (Nat.le_of_ble_eq_true rfl)⟩) hP hD hS hA [7, 8, 9, 10, 11, 12, 13, 14, 15, 16, 17] [0, 1, 2, 3, 4, 5, 6] rfl rfl (by decide) (by decide) (fun r14 u14 H locs hu14 hP hD hS => ?_)
    obtain ⟨er14, eu14⟩ := hu14
    obtain ⟨y14, ey14⟩ : ∃ z, z = (f_trace (ky, vl, lf, rt, ct, ht, tt, sp, pa, ro, ss, dp, rn, od, kd) key).1 := ⟨_, rfl⟩
    rw [← ey14] at er14
    subst er14
    have hy14 : y14 ≤ 60 := by rw [ey14]; exact (wf_trace (⟨hlf, hrt, hsp, hpa, hro, hrn, hkd⟩ : WF (ky, vl, lf, rt, ct, ht, tt, sp, pa, ro, ss, dp, rn, od, kd)) key).1
    obtain ⟨ky_14, vl_14, lf_14, rt_14, ct_14, ht_14, tt_14, sp_14, pa_14, ro_14, ss_14, dp_14, rn_14, od_14, kd_14⟩ := u14
    obtain ⟨hlf_14, hrt_14, hsp_14, hpa_14, hro_14, hrn_14, hkd_14⟩ : WF (ky_14, vl_14, lf_14, rt_14, ct_14, ht_14, tt_14, sp_14, pa_14, ro_14, ss_14, dp_14, rn_14, od_14, kd_14) := by rw [eu14]; exact (wf_trace (⟨hlf, hrt, hsp, hpa, hro, hrn, hkd⟩ : WF (ky, vl, lf, rt, ct, ht, tt, sp, pa, ro, ss, dp, rn, od, kd)) key).2
    have hP : va_P D vwCl ((wKd kq) ++ (wMo a ch) ++ (wRg a (h1, h2, f1, f2)) ++ (wWk a (on, bk, gv, kn, ws9, we9, wp9)) ++ (wT ca kq a (ky_14, vl_14, lf_14, rt_14, ct_14, ht_14, tt_14, sp_14, pa_14, ro_14, ss_14, dp_14, rn_14, od_14, kd_14))) H := hP
    have hD : va_D A ((wKd kq) ++ (wMo a ch) ++ (wRg a (h1, h2, f1, f2)) ++ (wWk a (on, bk, gv, kn, ws9, we9, wp9)) ++ (wT ca kq a (ky_14, vl_14, lf_14, rt_14, ct_14, ht_14, tt_14, sp_14, pa_14, ro_14, ss_14, dp_14, rn_14, od_14, kd_14))) := hD
    refine lv_if_ne (tgt := 30) hx hb dX6_store_17 (by decide) (fun c17 => ?_) (fun c17 => ?_)
    · skip
      have c17 : ¬ y14 = 0 := fun h9 => c17 ((xn_eq (a := y14) (b := 0) (Nat.lt_of_le_of_lt hy14 (by decide)) (by decide)).mpr h9)
      have est : st_t (ky, vl, lf, rt, ct, ht, tt, sp, pa, ro, ss, dp, rn, od, kd) key = (ky_14, vl_14, lf_14, rt_14, ct_14, ht_14, tt_14, sp_14, pa_14, ro_14, ss_14, dp_14, rn_14, od_14, kd_14) := (st_t0 (t := (ky, vl, lf, rt, ct, ht, tt, sp, pa, ro, ss, dp, rn, od, kd)) (key := key) c6).trans eu14.symm
      refine lv_aload_n hx hb dX6_store_30 rfl (lv_at hl 0 rfl) ?_
      refine va_get (D := D) (ci := 4) (v := .ref (a 0)) (C := RX6) (T := TX6) (N := 4) hx hb hts inX6 hown hKN.1 hP 4 rfl rfl 0 (by decide) (hts (.fieldLink RX6 14 "TreeFamily$OneMap" "tree" "LTreeFamily$Tree;") (by decide +kernel)) (fun _ h9 => h9) rfl dX6_store_31 ?_
      refine lv_iload_n hx hb dX6_store_34 rfl (lv_at hl 1 rfl) ?_
      refine lv_iload_n hx hb dX6_store_35 rfl (lv_at hl 2 rfl) ?_
      have hokA : okA (ky_14, vl_14, lf_14, rt_14, ct_14, ht_14, tt_14, sp_14, pa_14, ro_14, ss_14, dp_14, rn_14, od_14, kd_14) key v := by rw [eu14]; exact hok.2 c6
      refine xc_i (wr := (wMo a ch) ++ (wRg a (h1, h2, f1, f2)) ++ (wWk a (on, bk, gv, kn, ws9, we9, wp9))) (va_runV (As := [.int key, .int v]) (rest := []) ⟨hx, hb, hml, hown, hts⟩ (c_X8_assign l D ca kq a _ ky_14 vl_14 lf_14 rt_14 ct_14 ht_14 tt_14 sp_14 pa_14 ro_14 ss_14 dp_14 rn_14 od_14 kd_14 key v hlf_14 hrt_14 hsp_14 hpa_14 hro_14 hrn_14 hkd_14 hokA.1 hokA.2.1 hokA.2.2) (cwV 2 hts gX6_store_X8_assign rfl rfl rfl (by decide +kernel) ⟨(Nat.le_of_ble_eq_true rfl), (Nat.le_of_ble_eq_true rfl)⟩) (xPreV hKN hP hD [0, 1, 2, 3, 7, 8, 9, 10, 11, 12, 13, 14, 15, 16, 17] (by decide) rfl (q0 := 7) rfl rfl rfl) rfl rfl hl.1 rfl (lv_room (Nat.le_of_ble_eq_true rfl)) dX6_store_36 ⟨(Nat.le_of_ble_eq_true rfl), (Nat.le_of_ble_eq_true rfl)⟩) hP hD hS hA [0, 1, 2, 3, 7, 8, 9, 10, 11, 12, 13, 14, 15, 16, 17] [4, 5, 6] rfl rfl (by decide) (by decide) (fun r36 u36 H locs hu36 hP hD hS => ?_)
      obtain ⟨er36, eu36⟩ := hu36
      subst er36
      have hP : va_P D vwCl ((wKd kq) ++ (wMo a ch) ++ (wRg a (h1, h2, f1, f2)) ++ (wWk a (on, bk, gv, kn, ws9, we9, wp9)) ++ (wT ca kq a u36)) H := hP.sub (ws' := (wKd kq) ++ (wMo a ch) ++ (wRg a (h1, h2, f1, f2)) ++ (wWk a (on, bk, gv, kn, ws9, we9, wp9)) ++ (wT ca kq a u36)) [3, 4, 5, 6, 0, 1, 2, 7, 8, 9, 10, 11, 12, 13, 14, 15, 16, 17] rfl
      have hD : va_D A ((wKd kq) ++ (wMo a ch) ++ (wRg a (h1, h2, f1, f2)) ++ (wWk a (on, bk, gv, kn, ws9, we9, wp9)) ++ (wT ca kq a u36)) := hD.sub (ws' := (wKd kq) ++ (wMo a ch) ++ (wRg a (h1, h2, f1, f2)) ++ (wWk a (on, bk, gv, kn, ws9, we9, wp9)) ++ (wT ca kq a u36)) [3, 4, 5, 6, 0, 1, 2, 7, 8, 9, 10, 11, 12, 13, 14, 15, 16, 17] (by decide) rfl
      refine lv_istore_n (lv' := [(3, .int (bI (f_assign (ky_14, vl_14, lf_14, rt_14, ct_14, ht_14, tt_14, sp_14, pa_14, ro_14, ss_14, dp_14, rn_14, od_14, kd_14) key v).1)), (0, .ref (a 11)), (1, .int key), (2, .int v)]) hx hb dX6_store_39 rfl hl (by decide) rfl (fun ls hl => ?_)
      refine lv_iload_n hx hb dX6_store_40 rfl (lv_at hl 0 rfl) ?_
      refine lv_if_eq (tgt := 54) hx hb dX6_store_41 (by decide) (fun c41 => ?_) (fun c41 => ?_)
      · skip
        have c41 := bI_0.mp c41
        refine lv_iload_n hx hb dX6_store_54 rfl (lv_at hl 0 rfl) ?_
        refine W.widen (k := 1) (n := 6) (by omega) (by omega) ?_
        exact vx_ret (W.zret (v := (bI (f_assign (ky_14, vl_14, lf_14, rt_14, ct_14, ht_14, tt_14, sp_14, pa_14, ro_14, ss_14, dp_14, rn_14, od_14, kd_14) key v).1)) hx hb hr (bI_nar _) (fun t9 e9 w9 => ⟨⟨_, (u36, (h1, h2, f1, f2), (on, bk, gv, kn, ws9, we9, wp9), ch), rfl, ⟨Or.inr (by rw [← ey14]; exact c17), by rw [est], by rw [est, eu36]; first | rw [if_pos c41] | rw [if_neg (by rw [c41]; decide)]⟩, by rw [e9]; exact hP, hD⟩, hS.F e9⟩) hS.2.2 dX6_store_55)
      · skip
        have c41 := bI_ne.mp c41
        refine lv_aload_n hx hb dX6_store_44 rfl (lv_at hl 1 rfl) ?_
        refine lv_dup hx hb dX6_store_45 rfl ?_
        refine va_get (D := D) (ci := 4) (v := .int ch) (C := RX6) (T := TX6) (N := 4) hx hb hts inX6 hown hKN.1 hP 4 rfl rfl 3 (by decide) (hts (.fieldLink RX6 34 "TreeFamily$OneMap" "changes" "I") (by decide +kernel)) (fun _ h9 => h9) rfl dX6_store_46 ?_
        refine lv_iconst (v := 1) hx hb dX6_store_49 (by decide) ?_
        refine lv_iadd hx hb dX6_store_50 ?_
        refine va_put (D := D) (ci := 4) (v := .int (ch + 1)) (ty := .int) (C := RX6) (T := TX6) (N := 4) hx hb hts inX6 tyX6 tyX6_ok nmX6 hown hKN.1 hP hD hS 4 rfl rfl 3 (by decide) (hts (.fieldLink RX6 34 "TreeFamily$OneMap" "changes" "I") (by decide +kernel)) (fun _ h9 => h9) rfl (by decide +kernel) rfl rfl (Nat.le_of_ble_eq_true rfl) dX6_store_51 (fun H locs hP hD hS => ?_)
        have hP : va_P D vwCl ((wKd kq) ++ (wMo a (ch + 1)) ++ (wRg a (h1, h2, f1, f2)) ++ (wWk a (on, bk, gv, kn, ws9, we9, wp9)) ++ (wT ca kq a u36)) H := hP
        have hD : va_D A ((wKd kq) ++ (wMo a (ch + 1)) ++ (wRg a (h1, h2, f1, f2)) ++ (wWk a (on, bk, gv, kn, ws9, we9, wp9)) ++ (wT ca kq a u36)) := hD
        refine lv_iload_n hx hb dX6_store_54 rfl (lv_at hl 0 rfl) ?_
        refine W.widen (k := 1) (n := 6) (by omega) (by omega) ?_
        exact vx_ret (W.zret (v := (bI (f_assign (ky_14, vl_14, lf_14, rt_14, ct_14, ht_14, tt_14, sp_14, pa_14, ro_14, ss_14, dp_14, rn_14, od_14, kd_14) key v).1)) hx hb hr (bI_nar _) (fun t9 e9 w9 => ⟨⟨_, (u36, (h1, h2, f1, f2), (on, bk, gv, kn, ws9, we9, wp9), (ch + 1)), rfl, ⟨Or.inr (by rw [← ey14]; exact c17), by rw [est], by rw [est, eu36]; first | rw [if_pos c41] | rw [if_neg (by rw [c41]; decide)]⟩, by rw [e9]; exact hP, hD⟩, hS.F e9⟩) hS.2.2 dX6_store_55)
    · skip
      have c17 : y14 = 0 := (xn_eq (a := y14) (b := 0) (Nat.lt_of_le_of_lt hy14 (by decide)) (by decide)).mp c17
      obtain ⟨sa9, hsa⟩ := NW.s hKN.2 (a := RX6) (i := 62) (b := "no room for one more entry") (by decide +kernel)
      exact vx_throwS (A := A) hx hb hl9 hown (by decide +kernel) hns_X (hts (.classLink RX6 60 eIO) (by decide +kernel)) (hts (.initialized eIO) (by decide +kernel)) hsa (hat_X6_eIO hKN.2 (fun w h => hts w (inT_X6_store_eIO w h))) hgo_X6_eIO_60 hTZ.1 hTZ.2 hS (hl.1.trans hml.symm) dX6_store_20 dX6_store_23 dX6_store_24 dX6_store_26 dX6_store_29 (fun x h => (hno x h).elim) (Nat.le_of_ble_eq_true rfl) (Nat.le_of_ble_eq_true rfl) (Nat.le_of_ble_eq_true rfl) (Nat.le_of_ble_eq_true rfl) hlocks (fun t9 _ hz9 hk9 => xX_of ((ky_14, vl_14, lf_14, rt_14, ct_14, ht_14, tt_14, sp_14, pa_14, ro_14, ss_14, dp_14, rn_14, od_14, kd_14), (h1, h2, f1, f2), (on, bk, gv, kn, ws9, we9, wp9), ch) (⟨rfl, c6, by rw [← ey14]; exact c17, by rw [← eu14]⟩) hP hD hS hz9 hk9) hS.2.2 (by omega) (by omega)

-- OneMap.keyAt, an entry there
set_option maxHeartbeats 4000000 in
set_option maxRecDepth 100000 in
theorem c_X6_keyAt_ok (l : Launch) (D : va_G) (ca : Nat → ClassId) (kq a : Nat → Nat) (sz : Nat) (ky vl : Nat → Int32) (lf rt : Nat → Nat) (ct ht : Nat → Int32) (tt : Nat → Int64) (sp pa ro : Nat → Nat) (ss dp rn : Nat) (od : Int32) (kd : Nat) (h1 h2 : Bool) (f1 f2 : Int32) (on bk gv : Bool) (kn ws9 we9 wp9 : Int32) (ch : Int32) (i : Int32) (hlf : ∀ k, lf k ≤ 60) (hrt : ∀ k, rt k ≤ 60) (hsp : ∀ k, sp k ≤ 60) (hpa : ∀ k, pa k ≤ 60) (hro : ∀ k, ro k ≤ 60) (hrn : rn ≤ 60) (hkd : kd < 4) (hne : ¬ (f_nodeAt (ky, vl, lf, rt, ct, ht, tt, sp, pa, ro, ss, dp, rn, od, kd) rn i) = 0): Met l yX6_keyAt wsX6_keyAt ({ frames := 6, cells := 0, slots := 0, locals := 90 } : Room) (xPc D (TY ca) [.ref (a 11), .int i] ((wKd kq) ++ (wMo a ch) ++ (wRg a (h1, h2, f1, f2)) ++ (wWk a (on, bk, gv, kn, ws9, we9, wp9)) ++ (wT ca kq a (ky, vl, lf, rt, ct, ht, tt, sp, pa, ro, ss, dp, rn, od, kd))) sz) (va_Qi (fun (r : Int32) (u : MS) => r = ky (f_nodeAt (ky, vl, lf, rt, ct, ht, tt, sp, pa, ro, ss, dp, rn, od, kd) rn i) ∧ u = ((ky, vl, lf, rt, ct, ht, tt, sp, pa, ro, ss, dp, rn, od, kd), (h1, h2, f1, f2), (on, bk, gv, kn, ws9, we9, wp9), ch)) (xB D (wM ca kq a) (va_A ((wKd kq) ++ (wMo a ch) ++ (wRg a (h1, h2, f1, f2)) ++ (wWk a (on, bk, gv, kn, ws9, we9, wp9)) ++ (wT ca kq a (ky, vl, lf, rt, ct, ht, tt, sp, pa, ro, ss, dp, rn, od, kd))) sz)) (va_A ((wKd kq) ++ (wMo a ch) ++ (wRg a (h1, h2, f1, f2)) ++ (wWk a (on, bk, gv, kn, ws9, we9, wp9)) ++ (wT ca kq a (ky, vl, lf, rt, ct, ht, tt, sp, pa, ro, ss, dp, rn, od, kd))) sz)) 0 0 (va_A ((wKd kq) ++ (wMo a ch) ++ (wRg a (h1, h2, f1, f2)) ++ (wWk a (on, bk, gv, kn, ws9, we9, wp9)) ++ (wT ca kq a (ky, vl, lf, rt, ct, ht, tt, sp, pa, ro, ss, dp, rn, od, kd))) sz) := by
  refine Met.ofW (cc := cX6_keyAt) (maxL := 3) (ret := (some .int)) (by decide) rfl ?_
  intro p e s m args below meth c s₁ B hml hv
  obtain ⟨rfl, hsz, hP, hKN, hD0⟩ := hv
  have hx := B.exec
  have hb := B.bytes
  have hr := B.returns
  have hts := atoms_spec (ws := wsX6_keyAt) B.pre
  have hown : s.vm.findClass RX6 = some m.cls := findClass_of_methodNamed B.named
  have hlocks := B.notSynchronized
  have inX6 : ∀ w ∈ wsX60, w ∈ wsX6_keyAt := by decide +kernel
  have inX8 : ∀ w ∈ wsX80, w ∈ wsX6_keyAt := by decide +kernel
  subst hsz
  have hD := hD0.self (sz := s.heap.size)
  generalize hAe : va_A ((wKd kq) ++ (wMo a ch) ++ (wRg a (h1, h2, f1, f2)) ++ (wWk a (on, bk, gv, kn, ws9, we9, wp9)) ++ (wT ca kq a (ky, vl, lf, rt, ct, ht, tt, sp, pa, ro, ss, dp, rn, od, kd))) s.heap.size = A at hD ⊢
  have hA : ∀ q : Nat, s.heap.size ≤ q → A q := fun q h => by rw [← hAe]; exact Or.inr h
  have hS : va_S A s.heap s.heap [] := va_S.rf
  have hl := lv_entry ([.ref (a 11), .int i]) (n := 3) (Nat.le_of_ble_eq_true rfl)
  rw [lg_entry_eq]
  generalize (lg_sl ([.ref (a 11), .int i]) ++ List.replicate (3 - (lg_sl ([.ref (a 11), .int i])).length) Slot.unset).toArray = ls at hl ⊢
  have hl : lv_has ls 3 [(0, .ref (a 11)), (1, .int i)] := hl
  refine lv_aload_n hx hb dX6_keyAt_0 rfl (lv_at hl 0 rfl) ?_
  refine va_get (D := D) (ci := 4) (v := .ref (a 0)) (C := RX6) (T := TX6) (N := 4) hx hb hts inX6 hown hKN.1 hP 4 rfl rfl 0 (by decide) (hts (.fieldLink RX6 14 "TreeFamily$OneMap" "tree" "LTreeFamily$Tree;") (by decide +kernel)) (fun _ h9 => h9) rfl dX6_keyAt_1 ?_
  refine lv_aload_n hx hb dX6_keyAt_4 rfl (lv_at hl 0 rfl) ?_
  refine va_get (D := D) (ci := 4) (v := .ref (a 0)) (C := RX6) (T := TX6) (N := 4) hx hb hts inX6 hown hKN.1 hP 4 rfl rfl 0 (by decide) (hts (.fieldLink RX6 14 "TreeFamily$OneMap" "tree" "LTreeFamily$Tree;") (by decide +kernel)) (fun _ h9 => h9) rfl dX6_keyAt_5 ?_
  refine va_getN (D := D) (ci := 6) (v := .int (nI rn)) (C := RX8) (T := TX8) (N := 15) hx hb hts inX8 hown hKN.1 hP 7 rfl rfl 12 (by decide) (va_Nw.use rfl (NW.f hKN.2 (a := RX6) (i := 81) (b := "TreeFamily$Tree") (n := "root") (d := "I") (g := "TreeFamily") (by decide +kernel))) (fun _ h9 => h9) rfl dX6_keyAt_8 ?_
  refine lv_iload_n hx hb dX6_keyAt_11 rfl (lv_at hl 1 rfl) ?_
  refine xc_i (wr := (wKd kq) ++ (wMo a ch) ++ (wRg a (h1, h2, f1, f2)) ++ (wWk a (on, bk, gv, kn, ws9, we9, wp9))) (va_runV (As := [.int (nI rn), .int i]) (rest := []) ⟨hx, hb, hml, hown, hts⟩ (c_X8_nodeAt l D ca kq a _ ky vl lf rt ct ht tt sp pa ro ss dp rn od kd rn i hlf hrt hsp hpa hro hrn hrn) (cwV 2 hts gX6_keyAt_X8_nodeAt rfl rfl rfl (by decide +kernel) ⟨(Nat.le_of_ble_eq_true rfl), (Nat.le_of_ble_eq_true rfl)⟩) (xPreV hKN hP hD [7, 8, 9, 10, 11, 12, 13, 14, 15, 16, 17] (by decide) rfl (q0 := 7) rfl rfl rfl) rfl rfl hl.1 rfl (lv_room (Nat.le_of_ble_eq_true rfl)) dX6_keyAt_12 ⟨(Nat.le_of_ble_eq_true rfl), (Nat.le_of_ble_eq_true rfl)⟩) hP hD hS hA [7, 8, 9, 10, 11, 12, 13, 14, 15, 16, 17] [0, 1, 2, 3, 4, 5, 6] rfl rfl (by decide) (by decide) (fun r12 u12 H locs hu12 hP hD hS => ?_)
  obtain ⟨er12, eu12⟩ := hu12
  subst er12
  subst eu12
  have hP : va_P D vwCl ((wKd kq) ++ (wMo a ch) ++ (wRg a (h1, h2, f1, f2)) ++ (wWk a (on, bk, gv, kn, ws9, we9, wp9)) ++ (wT ca kq a (ky, vl, lf, rt, ct, ht, tt, sp, pa, ro, ss, dp, rn, od, kd))) H := hP
  have hD : va_D A ((wKd kq) ++ (wMo a ch) ++ (wRg a (h1, h2, f1, f2)) ++ (wWk a (on, bk, gv, kn, ws9, we9, wp9)) ++ (wT ca kq a (ky, vl, lf, rt, ct, ht, tt, sp, pa, ro, ss, dp, rn, od, kd))) := hD
  refine lv_istore_n (lv' := [(2, .int (nI (f_nodeAt (ky, vl, lf, rt, ct, ht, tt, sp, pa, ro, ss, dp, rn, od, kd) rn i))), (0, .ref (a 11)), (1, .int i)]) hx hb dX6_keyAt_15 rfl hl (by decide) rfl (fun ls hl => ?_)
  refine lv_iload_n hx hb dX6_keyAt_16 rfl (lv_at hl 0 rfl) ?_
  refine lv_if_ne (tgt := 30) hx hb dX6_keyAt_17 (by decide) (fun c17 => ?_) (fun c17 => ?_)
  · skip
    have c17 : ¬ f_nodeAt (ky, vl, lf, rt, ct, ht, tt, sp, pa, ro, ss, dp, rn, od, kd) rn i = 0 := hne
    refine lv_aload_n hx hb dX6_keyAt_30 rfl (lv_at hl 1 rfl) ?_
    refine va_get (D := D) (ci := 4) (v := .ref (a 0)) (C := RX6) (T := TX6) (N := 4) hx hb hts inX6 hown hKN.1 hP 4 rfl rfl 0 (by decide) (hts (.fieldLink RX6 14 "TreeFamily$OneMap" "tree" "LTreeFamily$Tree;") (by decide +kernel)) (fun _ h9 => h9) rfl dX6_keyAt_31 ?_
    refine va_getN (D := D) (ci := 6) (v := .ref (a 1)) (C := RX8) (T := TX8) (N := 15) hx hb hts inX8 hown hKN.1 hP 7 rfl rfl 0 (by decide) (va_Nw.use rfl (NW.f hKN.2 (a := RX6) (i := 90) (b := "TreeFamily$Tree") (n := "keys") (d := "[I") (g := "TreeFamily") (by decide +kernel))) (fun _ h9 => h9) rfl dX6_keyAt_34 ?_
    refine lv_iload_n hx hb dX6_keyAt_37 rfl (lv_at hl 0 rfl) ?_
    refine xr_ild hx hb hKN.1 hP 8 0 rfl rfl (j := f_nodeAt (ky, vl, lf, rt, ct, ht, tt, sp, pa, ro, ss, dp, rn, od, kd) rn i) (Nat.lt_of_le_of_lt (wf_nodeAt (⟨hlf, hrt, hsp, hpa, hro, hrn, hkd⟩ : WF (ky, vl, lf, rt, ct, ht, tt, sp, pa, ro, ss, dp, rn, od, kd)) hrn _) (by decide)) (by decide) dX6_keyAt_38 ?_
    exact W.iret (v := (ky (f_nodeAt (ky, vl, lf, rt, ct, ht, tt, sp, pa, ro, ss, dp, rn, od, kd) rn i))) hx hb hr (fun t9 e9 w9 => ⟨⟨_, ((ky, vl, lf, rt, ct, ht, tt, sp, pa, ro, ss, dp, rn, od, kd), (h1, h2, f1, f2), (on, bk, gv, kn, ws9, we9, wp9), ch), rfl, ⟨rfl, rfl⟩, by rw [e9]; exact hP, hD⟩, hS.F e9⟩) hS.2.2 dX6_keyAt_39
  · skip
    exact absurd ((xn_eq (a := f_nodeAt (ky, vl, lf, rt, ct, ht, tt, sp, pa, ro, ss, dp, rn, od, kd) rn i) (b := 0) (Nat.lt_of_le_of_lt (wf_nodeAt (⟨hlf, hrt, hsp, hpa, hro, hrn, hkd⟩ : WF (ky, vl, lf, rt, ct, ht, tt, sp, pa, ro, ss, dp, rn, od, kd)) hrn _) (by decide)) (by decide)).mp c17) hne

-- OneMap.walkOn
set_option maxHeartbeats 4000000 in
set_option maxRecDepth 100000 in
theorem c_X6_walkOn (l : Launch) (D : va_G) (ca : Nat → ClassId) (kq a : Nat → Nat) (sz : Nat) (hl9 : l.stackTraces = false) (ky vl : Nat → Int32) (lf rt : Nat → Nat) (ct ht : Nat → Int32) (tt : Nat → Int64) (sp pa ro : Nat → Nat) (ss dp rn : Nat) (od : Int32) (kd : Nat) (h1 h2 : Bool) (f1 f2 : Int32) (on bk gv : Bool) (kn ws9 we9 wp9 : Int32) (ch : Int32) (hlf : ∀ k, lf k ≤ 60) (hrt : ∀ k, rt k ≤ 60) (hsp : ∀ k, sp k ≤ 60) (hpa : ∀ k, pa k ≤ 60) (hro : ∀ k, ro k ≤ 60) (hrn : rn ≤ 60) (hkd : kd < 4): vx_Met l yX6_walkOn wsX6_walkOn ({ frames := 7, cells := 1, slots := 6, locals := 112 } : Room) (xPcT D (TY ca) [.ref (a 11)] ((wKd kq) ++ (wMo a ch) ++ (wRg a (h1, h2, f1, f2)) ++ (wWk a (on, bk, gv, kn, ws9, we9, wp9)) ++ (wT ca kq a (ky, vl, lf, rt, ct, ht, tt, sp, pa, ro, ss, dp, rn, od, kd))) sz) (va_Qi (fun (r : Int32) (u : MS) => (f_nodeAt (ky, vl, lf, rt, ct, ht, tt, sp, pa, ro, ss, dp, rn, od, kd) rn (f_ahead (on, bk, gv, kn, ws9, we9, wp9))) ≠ 0 ∧ r = ky (f_nodeAt (ky, vl, lf, rt, ct, ht, tt, sp, pa, ro, ss, dp, rn, od, kd) rn (f_ahead (on, bk, gv, kn, ws9, we9, wp9))) ∧ u = ((ky, vl, lf, rt, ct, ht, tt, sp, pa, ro, ss, dp, rn, od, kd), (h1, h2, f1, f2), f_step (on, bk, gv, kn, ws9, we9, wp9), ch)) (xB D (wM ca kq a) (va_A ((wKd kq) ++ (wMo a ch) ++ (wRg a (h1, h2, f1, f2)) ++ (wWk a (on, bk, gv, kn, ws9, we9, wp9)) ++ (wT ca kq a (ky, vl, lf, rt, ct, ht, tt, sp, pa, ro, ss, dp, rn, od, kd))) sz)) (va_A ((wKd kq) ++ (wMo a ch) ++ (wRg a (h1, h2, f1, f2)) ++ (wWk a (on, bk, gv, kn, ws9, we9, wp9)) ++ (wT ca kq a (ky, vl, lf, rt, ct, ht, tt, sp, pa, ro, ss, dp, rn, od, kd))) sz)) (xX D (wM ca kq a) (va_A ((wKd kq) ++ (wMo a ch) ++ (wRg a (h1, h2, f1, f2)) ++ (wWk a (on, bk, gv, kn, ws9, we9, wp9)) ++ (wT ca kq a (ky, vl, lf, rt, ct, ht, tt, sp, pa, ro, ss, dp, rn, od, kd))) sz) (fun (E : String) (u : MS) => E = eIO ∧ (f_nodeAt (ky, vl, lf, rt, ct, ht, tt, sp, pa, ro, ss, dp, rn, od, kd) rn (f_ahead (on, bk, gv, kn, ws9, we9, wp9))) = 0 ∧ u = ((ky, vl, lf, rt, ct, ht, tt, sp, pa, ro, ss, dp, rn, od, kd), (h1, h2, f1, f2), (on, bk, gv, kn, ws9, we9, wp9), ch))) 1 6 (va_A ((wKd kq) ++ (wMo a ch) ++ (wRg a (h1, h2, f1, f2)) ++ (wWk a (on, bk, gv, kn, ws9, we9, wp9)) ++ (wT ca kq a (ky, vl, lf, rt, ct, ht, tt, sp, pa, ro, ss, dp, rn, od, kd))) sz) := by
  refine vx_ofW (cc := cX6_walkOn) (maxL := 2) (ret := (some .int)) (by decide) rfl ?_
  intro p e s m args below meth c s₁ B hml hno hv
  obtain ⟨rfl, hsz, hP, hKN, hD0, hTZ⟩ := hv
  have hx := B.exec
  have hb := B.bytes
  have hr := B.returns
  have hts := atoms_spec (ws := wsX6_walkOn) B.pre
  have hown : s.vm.findClass RX6 = some m.cls := findClass_of_methodNamed B.named
  have hlocks := B.notSynchronized
  have inX6 : ∀ w ∈ wsX60, w ∈ wsX6_walkOn := by decide +kernel
  subst hsz
  have hD := hD0.self (sz := s.heap.size)
  generalize hAe : va_A ((wKd kq) ++ (wMo a ch) ++ (wRg a (h1, h2, f1, f2)) ++ (wWk a (on, bk, gv, kn, ws9, we9, wp9)) ++ (wT ca kq a (ky, vl, lf, rt, ct, ht, tt, sp, pa, ro, ss, dp, rn, od, kd))) s.heap.size = A at hD hTZ ⊢
  have hA : ∀ q : Nat, s.heap.size ≤ q → A q := fun q h => by rw [← hAe]; exact Or.inr h
  have hS : va_S A s.heap s.heap [] := va_S.rf
  have hl := lv_entry ([.ref (a 11)]) (n := 2) (Nat.le_of_ble_eq_true rfl)
  rw [lg_entry_eq]
  generalize (lg_sl ([.ref (a 11)]) ++ List.replicate (2 - (lg_sl ([.ref (a 11)])).length) Slot.unset).toArray = ls at hl ⊢
  have hl : lv_has ls 2 [(0, .ref (a 11))] := hl
  refine lv_aload_n hx hb dX6_walkOn_0 rfl (lv_at hl 0 rfl) ?_
  refine lv_aload_n hx hb dX6_walkOn_1 rfl (lv_at hl 0 rfl) ?_
  refine va_get (D := D) (ci := 4) (v := .ref (a 13)) (C := RX6) (T := TX6) (N := 4) hx hb hts inX6 hown hKN.1 hP 4 rfl rfl 2 (by decide) (hts (.fieldLink RX6 30 "TreeFamily$OneMap" "walk" "LTreeFamily$Walk;") (by decide +kernel)) (fun _ h9 => h9) rfl dX6_walkOn_2 ?_
  refine xc_i (wr := (wKd kq) ++ (wMo a ch) ++ (wRg a (h1, h2, f1, f2)) ++ (wT ca kq a (ky, vl, lf, rt, ct, ht, tt, sp, pa, ro, ss, dp, rn, od, kd))) (va_runV (As := []) (rest := [.ref (a 11)]) ⟨hx, hb, hml, hown, hts⟩ (c_X9_ahead l D ca kq a _ on bk gv kn ws9 we9 wp9) (cwV 0 hts gX6_walkOn_X9_ahead rfl rfl rfl (by decide +kernel) ⟨(Nat.le_of_ble_eq_true rfl), (Nat.le_of_ble_eq_true rfl)⟩) (xPreV hKN hP hD [6] (by decide) rfl (q0 := 6) rfl rfl rfl) rfl rfl hl.1 rfl (lv_room (Nat.le_of_ble_eq_true rfl)) dX6_walkOn_5 ⟨(Nat.le_of_ble_eq_true rfl), (Nat.le_of_ble_eq_true rfl)⟩) hP hD hS hA [6] [0, 1, 2, 3, 4, 5, 7, 8, 9, 10, 11, 12, 13, 14, 15, 16, 17] rfl rfl (by decide) (by decide) (fun r5 u5 H locs hu5 hP hD hS => ?_)
  obtain ⟨er5, eu5⟩ := hu5
  subst er5
  subst eu5
  have hP : va_P D vwCl ((wKd kq) ++ (wMo a ch) ++ (wRg a (h1, h2, f1, f2)) ++ (wWk a (on, bk, gv, kn, ws9, we9, wp9)) ++ (wT ca kq a (ky, vl, lf, rt, ct, ht, tt, sp, pa, ro, ss, dp, rn, od, kd))) H := hP.sub (ws' := (wKd kq) ++ (wMo a ch) ++ (wRg a (h1, h2, f1, f2)) ++ (wWk a (on, bk, gv, kn, ws9, we9, wp9)) ++ (wT ca kq a (ky, vl, lf, rt, ct, ht, tt, sp, pa, ro, ss, dp, rn, od, kd))) [0, 1, 2, 3, 4, 5, 17, 6, 7, 8, 9, 10, 11, 12, 13, 14, 15, 16] rfl
  have hD : va_D A ((wKd kq) ++ (wMo a ch) ++ (wRg a (h1, h2, f1, f2)) ++ (wWk a (on, bk, gv, kn, ws9, we9, wp9)) ++ (wT ca kq a (ky, vl, lf, rt, ct, ht, tt, sp, pa, ro, ss, dp, rn, od, kd))) := hD.sub (ws' := (wKd kq) ++ (wMo a ch) ++ (wRg a (h1, h2, f1, f2)) ++ (wWk a (on, bk, gv, kn, ws9, we9, wp9)) ++ (wT ca kq a (ky, vl, lf, rt, ct, ht, tt, sp, pa, ro, ss, dp, rn, od, kd))) [0, 1, 2, 3, 4, 5, 17, 6, 7, 8, 9, 10, 11, 12, 13, 14, 15, 16] (by decide) rfl
  refine xcx_i (wr := []) (vx_runV (As := [.int (f_ahead (on, bk, gv, kn, ws9, we9, wp9))]) (rest := []) ⟨hx, hb, hml, hown, hts⟩ (c_X6_keyAt l D ca kq a _ hl9 ky vl lf rt ct ht tt sp pa ro ss dp rn od kd h1 h2 f1 f2 on bk gv kn ws9 we9 wp9 ch (f_ahead (on, bk, gv, kn, ws9, we9, wp9)) hlf hrt hsp hpa hro hrn hkd) (cwV 1 hts gX6_walkOn_X6_keyAt rfl rfl rfl (by decide +kernel) ⟨(Nat.le_of_ble_eq_true rfl), (Nat.le_of_ble_eq_true rfl)⟩) (xPreVT hKN hTZ hP hD hS hA [0, 1, 2, 3, 4, 5, 6, 7, 8, 9, 10, 11, 12, 13, 14, 15, 16, 17] (by decide) rfl (q0 := 4) rfl rfl rfl) rfl rfl hl.1 rfl (lv_room (Nat.le_of_ble_eq_true rfl)) dX6_walkOn_8 ⟨(Nat.le_of_ble_eq_true rfl), (Nat.le_of_ble_eq_true rfl)⟩) hP hD hS hA [0, 1, 2, 3, 4, 5, 6, 7, 8, 9, 10, 11, 12, 13, 14, 15, 16, 17] [] rfl rfl (by decide) (by decide) (fun E9 ce9 q9 u8 H locs hu8 hP hD hS h91 h92 h93 => ?_) (fun r8 u8 H locs hu8 hP hD hS => ?_)
  · skip
    exact vx_out (fun x h => (hno x h).elim) hlocks h91 h92 h93 (fun t9 e9 _ => xX_on u8 hu8 hP hD hS e9) hS.2.2 (by omega) (by omega)
  · skip
    obtain ⟨hne8, er8, eu8⟩ := hu8
    subst er8
    subst eu8
    have hP : va_P D vwCl ((wKd kq) ++ (wMo a ch) ++ (wRg a (h1, h2, f1, f2)) ++ (wWk a (on, bk, gv, kn, ws9, we9, wp9)) ++ (wT ca kq a (ky, vl, lf, rt, ct, ht, tt, sp, pa, ro, ss, dp, rn, od, kd))) H := hP
    have hD : va_D A ((wKd kq) ++ (wMo a ch) ++ (wRg a (h1, h2, f1, f2)) ++ (wWk a (on, bk, gv, kn, ws9, we9, wp9)) ++ (wT ca kq a (ky, vl, lf, rt, ct, ht, tt, sp, pa, ro, ss, dp, rn, od, kd))) := hD
    refine lv_istore_n (lv' := [(1, .int (ky (f_nodeAt (ky, vl, lf, rt, ct, ht, tt, sp, pa, ro, ss, dp, rn, od, kd) rn (f_ahead (on, bk, gv, kn, ws9, we9, wp9))))), (0, .ref (a 11))]) hx hb dX6_walkOn_11 rfl hl (by decide) rfl (fun ls hl => ?_)
    refine lv_aload_n hx hb dX6_walkOn_12 rfl (lv_at hl 1 rfl) ?_
    refine va_get (D := D) (ci := 4) (v := .ref (a 13)) (C := RX6) (T := TX6) (N := 4) hx hb hts inX6 hown hKN.1 hP 4 rfl rfl 2 (by decide) (hts (.fieldLink RX6 30 "TreeFamily$OneMap" "walk" "LTreeFamily$Walk;") (by decide +kernel)) (fun _ h9 => h9) rfl dX6_walkOn_13 ?_
    refine xc_v (wr := (wKd kq) ++ (wMo a ch) ++ (wRg a (h1, h2, f1, f2)) ++ (wT ca kq a (ky, vl, lf, rt, ct, ht, tt, sp, pa, ro, ss, dp, rn, od, kd))) (va_runV (As := []) (rest := []) ⟨hx, hb, hml, hown, hts⟩ (c_X9_step l D ca kq a _ on bk gv kn ws9 we9 wp9) (cwV 0 hts gX6_walkOn_X9_step rfl rfl rfl (by decide +kernel) ⟨(Nat.le_of_ble_eq_true rfl), (Nat.le_of_ble_eq_true rfl)⟩) (xPreV hKN hP hD [6] (by decide) rfl (q0 := 6) rfl rfl rfl) rfl rfl hl.1 rfl (lv_room (Nat.le_of_ble_eq_true rfl)) dX6_walkOn_16 ⟨(Nat.le_of_ble_eq_true rfl), (Nat.le_of_ble_eq_true rfl)⟩) hP hD hS hA [6] [0, 1, 2, 3, 4, 5, 7, 8, 9, 10, 11, 12, 13, 14, 15, 16, 17] rfl rfl (by decide) (by decide) (fun u16 H locs hu16 hP hD hS => ?_)
    have hP : va_P D vwCl ((wKd kq) ++ (wMo a ch) ++ (wRg a (h1, h2, f1, f2)) ++ (wWk a u16) ++ (wT ca kq a (ky, vl, lf, rt, ct, ht, tt, sp, pa, ro, ss, dp, rn, od, kd))) H := hP.sub (ws' := (wKd kq) ++ (wMo a ch) ++ (wRg a (h1, h2, f1, f2)) ++ (wWk a u16) ++ (wT ca kq a (ky, vl, lf, rt, ct, ht, tt, sp, pa, ro, ss, dp, rn, od, kd))) [0, 1, 2, 3, 4, 5, 17, 6, 7, 8, 9, 10, 11, 12, 13, 14, 15, 16] rfl
    have hD : va_D A ((wKd kq) ++ (wMo a ch) ++ (wRg a (h1, h2, f1, f2)) ++ (wWk a u16) ++ (wT ca kq a (ky, vl, lf, rt, ct, ht, tt, sp, pa, ro, ss, dp, rn, od, kd))) := hD.sub (ws' := (wKd kq) ++ (wMo a ch) ++ (wRg a (h1, h2, f1, f2)) ++ (wWk a u16) ++ (wT ca kq a (ky, vl, lf, rt, ct, ht, tt, sp, pa, ro, ss, dp, rn, od, kd))) [0, 1, 2, 3, 4, 5, 17, 6, 7, 8, 9, 10, 11, 12, 13, 14, 15, 16] (by decide) rfl
    refine lv_iload_n hx hb dX6_walkOn_19 rfl (lv_at hl 0 rfl) ?_
    refine W.widen (k := 1) (n := 6) (by omega) (by omega) ?_
    exact vx_ret (W.iret (v := (ky (f_nodeAt (ky, vl, lf, rt, ct, ht, tt, sp, pa, ro, ss, dp, rn, od, kd) rn (f_ahead (on, bk, gv, kn, ws9, we9, wp9))))) hx hb hr (fun t9 e9 w9 => ⟨⟨_, ((ky, vl, lf, rt, ct, ht, tt, sp, pa, ro, ss, dp, rn, od, kd), (h1, h2, f1, f2), u16, ch), rfl, ⟨hne8, rfl, by rw [← hu16]⟩, by rw [e9]; exact hP, hD⟩, hS.F e9⟩) hS.2.2 dX6_walkOn_20)

-- OneMap.dropLatest
set_option maxHeartbeats 4000000 in
set_option maxRecDepth 100000 in
theorem c_X6_dropLatest (l : Launch) (D : va_G) (ca : Nat → ClassId) (kq a : Nat → Nat) (sz : Nat) (ky vl : Nat → Int32) (lf rt : Nat → Nat) (ct ht : Nat → Int32) (tt : Nat → Int64) (sp pa ro : Nat → Nat) (ss dp rn : Nat) (od : Int32) (kd : Nat) (h1 h2 : Bool) (f1 f2 : Int32) (on bk gv : Bool) (kn ws9 we9 wp9 : Int32) (ch : Int32) (hlf : ∀ k, lf k ≤ 60) (hrt : ∀ k, rt k ≤ 60) (hsp : ∀ k, sp k ≤ 60) (hpa : ∀ k, pa k ≤ 60) (hro : ∀ k, ro k ≤ 60) (hrn : rn ≤ 60) (hkd : kd < 4) (hne : ¬ (f_nodeAt (ky, vl, lf, rt, ct, ht, tt, sp, pa, ro, ss, dp, rn, od, kd) rn (f_latest (on, bk, gv, kn, ws9, we9, wp9))) = 0) (hok : okDelete (ky, vl, lf, rt, ct, ht, tt, sp, pa, ro, ss, dp, rn, od, kd) (ky (f_nodeAt (ky, vl, lf, rt, ct, ht, tt, sp, pa, ro, ss, dp, rn, od, kd) rn (f_latest (on, bk, gv, kn, ws9, we9, wp9))))): Met l yX6_dropLatest wsX6_dropLatest ({ frames := 66, cells := 0, slots := 0, locals := 1637 } : Room) (xPc D (TY ca) [.ref (a 11)] ((wKd kq) ++ (wMo a ch) ++ (wRg a (h1, h2, f1, f2)) ++ (wWk a (on, bk, gv, kn, ws9, we9, wp9)) ++ (wT ca kq a (ky, vl, lf, rt, ct, ht, tt, sp, pa, ro, ss, dp, rn, od, kd))) sz) (va_Qv (fun u : MS => u = ((f_delete (ky, vl, lf, rt, ct, ht, tt, sp, pa, ro, ss, dp, rn, od, kd) (ky (f_nodeAt (ky, vl, lf, rt, ct, ht, tt, sp, pa, ro, ss, dp, rn, od, kd) rn (f_latest (on, bk, gv, kn, ws9, we9, wp9))))).2, (h1, h2, f1, f2), setKn (f_forget (on, bk, gv, kn, ws9, we9, wp9)) (ch + 1), ch + 1)) (xB D (wM ca kq a) (va_A ((wKd kq) ++ (wMo a ch) ++ (wRg a (h1, h2, f1, f2)) ++ (wWk a (on, bk, gv, kn, ws9, we9, wp9)) ++ (wT ca kq a (ky, vl, lf, rt, ct, ht, tt, sp, pa, ro, ss, dp, rn, od, kd))) sz)) (va_A ((wKd kq) ++ (wMo a ch) ++ (wRg a (h1, h2, f1, f2)) ++ (wWk a (on, bk, gv, kn, ws9, we9, wp9)) ++ (wT ca kq a (ky, vl, lf, rt, ct, ht, tt, sp, pa, ro, ss, dp, rn, od, kd))) sz)) 0 0 (va_A ((wKd kq) ++ (wMo a ch) ++ (wRg a (h1, h2, f1, f2)) ++ (wWk a (on, bk, gv, kn, ws9, we9, wp9)) ++ (wT ca kq a (ky, vl, lf, rt, ct, ht, tt, sp, pa, ro, ss, dp, rn, od, kd))) sz) := by
  refine Met.ofW (cc := cX6_dropLatest) (maxL := 1) (ret := none) (by decide) rfl ?_
  intro p e s m args below meth c s₁ B hml hv
  obtain ⟨rfl, hsz, hP, hKN, hD0⟩ := hv
  have hx := B.exec
  have hb := B.bytes
  have hr := B.returns
  have hts := atoms_spec (ws := wsX6_dropLatest) B.pre
  have hown : s.vm.findClass RX6 = some m.cls := findClass_of_methodNamed B.named
  have hlocks := B.notSynchronized
  have inX6 : ∀ w ∈ wsX60, w ∈ wsX6_dropLatest := by decide +kernel
  have inX9 : ∀ w ∈ wsX90, w ∈ wsX6_dropLatest := by decide +kernel
  subst hsz
  have hD := hD0.self (sz := s.heap.size)
  generalize hAe : va_A ((wKd kq) ++ (wMo a ch) ++ (wRg a (h1, h2, f1, f2)) ++ (wWk a (on, bk, gv, kn, ws9, we9, wp9)) ++ (wT ca kq a (ky, vl, lf, rt, ct, ht, tt, sp, pa, ro, ss, dp, rn, od, kd))) s.heap.size = A at hD ⊢
  have hA : ∀ q : Nat, s.heap.size ≤ q → A q := fun q h => by rw [← hAe]; exact Or.inr h
  have hS : va_S A s.heap s.heap [] := va_S.rf
  have hl := lv_entry ([.ref (a 11)]) (n := 1) (Nat.le_of_ble_eq_true rfl)
  rw [lg_entry_eq]
  generalize (lg_sl ([.ref (a 11)]) ++ List.replicate (1 - (lg_sl ([.ref (a 11)])).length) Slot.unset).toArray = ls at hl ⊢
  have hl : lv_has ls 1 [(0, .ref (a 11))] := hl
  refine lv_aload_n hx hb dX6_dropLatest_0 rfl (lv_at hl 0 rfl) ?_
  refine va_get (D := D) (ci := 4) (v := .ref (a 0)) (C := RX6) (T := TX6) (N := 4) hx hb hts inX6 hown hKN.1 hP 4 rfl rfl 0 (by decide) (hts (.fieldLink RX6 14 "TreeFamily$OneMap" "tree" "LTreeFamily$Tree;") (by decide +kernel)) (fun _ h9 => h9) rfl dX6_dropLatest_1 ?_
  refine lv_aload_n hx hb dX6_dropLatest_4 rfl (lv_at hl 0 rfl) ?_
  refine lv_aload_n hx hb dX6_dropLatest_5 rfl (lv_at hl 0 rfl) ?_
  refine va_get (D := D) (ci := 4) (v := .ref (a 13)) (C := RX6) (T := TX6) (N := 4) hx hb hts inX6 hown hKN.1 hP 4 rfl rfl 2 (by decide) (hts (.fieldLink RX6 30 "TreeFamily$OneMap" "walk" "LTreeFamily$Walk;") (by decide +kernel)) (fun _ h9 => h9) rfl dX6_dropLatest_6 ?_
  refine xc_i (wr := (wKd kq) ++ (wMo a ch) ++ (wRg a (h1, h2, f1, f2)) ++ (wT ca kq a (ky, vl, lf, rt, ct, ht, tt, sp, pa, ro, ss, dp, rn, od, kd))) (va_runV (As := []) (rest := [.ref (a 11), .ref (a 0)]) ⟨hx, hb, hml, hown, hts⟩ (c_X9_latest l D ca kq a _ on bk gv kn ws9 we9 wp9) (cwV 0 hts gX6_dropLatest_X9_latest rfl rfl rfl (by decide +kernel) ⟨(Nat.le_of_ble_eq_true rfl), (Nat.le_of_ble_eq_true rfl)⟩) (xPreV hKN hP hD [6] (by decide) rfl (q0 := 6) rfl rfl rfl) rfl rfl hl.1 rfl (lv_room (Nat.le_of_ble_eq_true rfl)) dX6_dropLatest_9 ⟨(Nat.le_of_ble_eq_true rfl), (Nat.le_of_ble_eq_true rfl)⟩) hP hD hS hA [6] [0, 1, 2, 3, 4, 5, 7, 8, 9, 10, 11, 12, 13, 14, 15, 16, 17] rfl rfl (by decide) (by decide) (fun r9 u9 H locs hu9 hP hD hS => ?_)
  obtain ⟨er9, eu9⟩ := hu9
  subst er9
  subst eu9
  have hP : va_P D vwCl ((wKd kq) ++ (wMo a ch) ++ (wRg a (h1, h2, f1, f2)) ++ (wWk a (on, bk, gv, kn, ws9, we9, wp9)) ++ (wT ca kq a (ky, vl, lf, rt, ct, ht, tt, sp, pa, ro, ss, dp, rn, od, kd))) H := hP.sub (ws' := (wKd kq) ++ (wMo a ch) ++ (wRg a (h1, h2, f1, f2)) ++ (wWk a (on, bk, gv, kn, ws9, we9, wp9)) ++ (wT ca kq a (ky, vl, lf, rt, ct, ht, tt, sp, pa, ro, ss, dp, rn, od, kd))) [0, 1, 2, 3, 4, 5, 17, 6, 7, 8, 9, 10, 11, 12, 13, 14, 15, 16] rfl
  have hD : va_D A ((wKd kq) ++ (wMo a ch) ++ (wRg a (h1, h2, f1, f2)) ++ (wWk a (on, bk, gv, kn, ws9, we9, wp9)) ++ (wT ca kq a (ky, vl, lf, rt, ct, ht, tt, sp, pa, ro, ss, dp, rn, od, kd))) := hD.sub (ws' := (wKd kq) ++ (wMo a ch) ++ (wRg a (h1, h2, f1, f2)) ++ (wWk a (on, bk, gv, kn, ws9, we9, wp9)) ++ (wT ca kq a (ky, vl, lf, rt, ct, ht, tt, sp, pa, ro, ss, dp, rn, od, kd))) [0, 1, 2, 3, 4, 5, 17, 6, 7, 8, 9, 10, 11, 12, 13, 14, 15, 16] (by decide) rfl
  refine xc_i (wr := []) (va_runV (As := [.int (f_latest (on, bk, gv, kn, ws9, we9, wp9))]) (rest := [.ref (a 0)]) ⟨hx, hb, hml, hown, hts⟩ (c_X6_keyAt_ok l D ca kq a _ ky vl lf rt ct ht tt sp pa ro ss dp rn od kd h1 h2 f1 f2 on bk gv kn ws9 we9 wp9 ch (f_latest (on, bk, gv, kn, ws9, we9, wp9)) hlf hrt hsp hpa hro hrn hkd hne) (cwV 1 hts gX6_dropLatest_X6_keyAt rfl rfl rfl (by decide +kernel) ⟨(Nat.le_of_ble_eq_true rfl), (Nat.le_of_ble_eq_true rfl)⟩) (xPreV hKN hP hD [0, 1, 2, 3, 4, 5, 6, 7, 8, 9, 10, 11, 12, 13, 14, 15, 16, 17] (by decide) rfl (q0 := 4) rfl rfl rfl) rfl rfl hl.1 rfl (lv_room (Nat.le_of_ble_eq_true rfl)) dX6_dropLatest_12 ⟨(Nat.le_of_ble_eq_true rfl), (Nat.le_of_ble_eq_true rfl)⟩) hP hD hS hA [0, 1, 2, 3, 4, 5, 6, 7, 8, 9, 10, 11, 12, 13, 14, 15, 16, 17] [] rfl rfl (by decide) (by decide) (fun r12 u12 H locs hu12 hP hD hS => ?_)
  obtain ⟨er12, eu12⟩ := hu12
  subst er12
  subst eu12
  have hP : va_P D vwCl ((wKd kq) ++ (wMo a ch) ++ (wRg a (h1, h2, f1, f2)) ++ (wWk a (on, bk, gv, kn, ws9, we9, wp9)) ++ (wT ca kq a (ky, vl, lf, rt, ct, ht, tt, sp, pa, ro, ss, dp, rn, od, kd))) H := hP
  have hD : va_D A ((wKd kq) ++ (wMo a ch) ++ (wRg a (h1, h2, f1, f2)) ++ (wWk a (on, bk, gv, kn, ws9, we9, wp9)) ++ (wT ca kq a (ky, vl, lf, rt, ct, ht, tt, sp, pa, ro, ss, dp, rn, od, kd))) := hD
  refine xc_i (wr := (wMo a ch) ++ (wRg a (h1, h2, f1, f2)) ++ (wWk a (on, bk, gv, kn, ws9, we9, wp9))) (va_runV (As := [.int (ky (f_nodeAt (ky, vl, lf, rt, ct, ht, tt, sp, pa, ro, ss, dp, rn, od, kd) rn (f_latest (on, bk, gv, kn, ws9, we9, wp9))))]) (rest := []) ⟨hx, hb, hml, hown, hts⟩ (c_X8_delete l D ca kq a _ ky vl lf rt ct ht tt sp pa ro ss dp rn od kd (ky (f_nodeAt (ky, vl, lf, rt, ct, ht, tt, sp, pa, ro, ss, dp, rn, od, kd) rn (f_latest (on, bk, gv, kn, ws9, we9, wp9)))) hlf hrt hsp hpa hro hrn hkd hok) (cwV 1 hts gX6_dropLatest_X8_delete rfl rfl rfl (by decide +kernel) ⟨(Nat.le_of_ble_eq_true rfl), (Nat.le_of_ble_eq_true rfl)⟩) (xPreV hKN hP hD [0, 1, 2, 3, 7, 8, 9, 10, 11, 12, 13, 14, 15, 16, 17] (by decide) rfl (q0 := 7) rfl rfl rfl) rfl rfl hl.1 rfl (lv_room (Nat.le_of_ble_eq_true rfl)) dX6_dropLatest_15 ⟨(Nat.le_of_ble_eq_true rfl), (Nat.le_of_ble_eq_true rfl)⟩) hP hD hS hA [0, 1, 2, 3, 7, 8, 9, 10, 11, 12, 13, 14, 15, 16, 17] [4, 5, 6] rfl rfl (by decide) (by decide) (fun r15 u15 H locs hu15 hP hD hS => ?_)
  obtain ⟨er15, eu15⟩ := hu15
  subst er15
  have hP : va_P D vwCl ((wKd kq) ++ (wMo a ch) ++ (wRg a (h1, h2, f1, f2)) ++ (wWk a (on, bk, gv, kn, ws9, we9, wp9)) ++ (wT ca kq a u15)) H := hP.sub (ws' := (wKd kq) ++ (wMo a ch) ++ (wRg a (h1, h2, f1, f2)) ++ (wWk a (on, bk, gv, kn, ws9, we9, wp9)) ++ (wT ca kq a u15)) [3, 4, 5, 6, 0, 1, 2, 7, 8, 9, 10, 11, 12, 13, 14, 15, 16, 17] rfl
  have hD : va_D A ((wKd kq) ++ (wMo a ch) ++ (wRg a (h1, h2, f1, f2)) ++ (wWk a (on, bk, gv, kn, ws9, we9, wp9)) ++ (wT ca kq a u15)) := hD.sub (ws' := (wKd kq) ++ (wMo a ch) ++ (wRg a (h1, h2, f1, f2)) ++ (wWk a (on, bk, gv, kn, ws9, we9, wp9)) ++ (wT ca kq a u15)) [3, 4, 5, 6, 0, 1, 2, 7, 8, 9, 10, 11, 12, 13, 14, 15, 16, 17] (by decide) rfl
  refine lv_pop hx hb dX6_dropLatest_18 rfl ?_
  refine lv_aload_n hx hb dX6_dropLatest_19 rfl (lv_at hl 0 rfl) ?_
  refine lv_dup hx hb dX6_dropLatest_20 rfl ?_
  refine va_get (D := D) (ci := 4) (v := .int ch) (C := RX6) (T := TX6) (N := 4) hx hb hts inX6 hown hKN.1 hP 4 rfl rfl 3 (by decide) (hts (.fieldLink RX6 34 "TreeFamily$OneMap" "changes" "I") (by decide +kernel)) (fun _ h9 => h9) rfl dX6_dropLatest_21 ?_
  refine lv_iconst (v := 1) hx hb dX6_dropLatest_24 (by decide) ?_
  refine lv_iadd hx hb dX6_dropLatest_25 ?_
  refine va_put (D := D) (ci := 4) (v := .int (ch + 1)) (ty := .int) (C := RX6) (T := TX6) (N := 4) hx hb hts inX6 tyX6 tyX6_ok nmX6 hown hKN.1 hP hD hS 4 rfl rfl 3 (by decide) (hts (.fieldLink RX6 34 "TreeFamily$OneMap" "changes" "I") (by decide +kernel)) (fun _ h9 => h9) rfl (by decide +kernel) rfl rfl (Nat.le_of_ble_eq_true rfl) dX6_dropLatest_26 (fun H locs hP hD hS => ?_)
  have hP : va_P D vwCl ((wKd kq) ++ (wMo a (ch + 1)) ++ (wRg a (h1, h2, f1, f2)) ++ (wWk a (on, bk, gv, kn, ws9, we9, wp9)) ++ (wT ca kq a u15)) H := hP
  have hD : va_D A ((wKd kq) ++ (wMo a (ch + 1)) ++ (wRg a (h1, h2, f1, f2)) ++ (wWk a (on, bk, gv, kn, ws9, we9, wp9)) ++ (wT ca kq a u15)) := hD
  refine lv_aload_n hx hb dX6_dropLatest_29 rfl (lv_at hl 0 rfl) ?_
  refine va_get (D := D) (ci := 4) (v := .ref (a 13)) (C := RX6) (T := TX6) (N := 4) hx hb hts inX6 hown hKN.1 hP 4 rfl rfl 2 (by decide) (hts (.fieldLink RX6 30 "TreeFamily$OneMap" "walk" "LTreeFamily$Walk;") (by decide +kernel)) (fun _ h9 => h9) rfl dX6_dropLatest_30 ?_
  refine xc_v (wr := (wKd kq) ++ (wMo a (ch + 1)) ++ (wRg a (h1, h2, f1, f2)) ++ (wT ca kq a u15)) (va_runV (As := []) (rest := []) ⟨hx, hb, hml, hown, hts⟩ (c_X9_forgetLatest l D ca kq a _ on bk gv kn ws9 we9 wp9) (cwV 0 hts gX6_dropLatest_X9_forgetLatest rfl rfl rfl (by decide +kernel) ⟨(Nat.le_of_ble_eq_true rfl), (Nat.le_of_ble_eq_true rfl)⟩) (xPreV hKN hP hD [6] (by decide) rfl (q0 := 6) rfl rfl rfl) rfl rfl hl.1 rfl (lv_room (Nat.le_of_ble_eq_true rfl)) dX6_dropLatest_33 ⟨(Nat.le_of_ble_eq_true rfl), (Nat.le_of_ble_eq_true rfl)⟩) hP hD hS hA [6] [0, 1, 2, 3, 4, 5, 7, 8, 9, 10, 11, 12, 13, 14, 15, 16, 17] rfl rfl (by decide) (by decide) (fun u33 H locs hu33 hP hD hS => ?_)
  have eu33 := hu33
  obtain ⟨on_f, bk_f, gv_f, kn_f, ws_f, we_f, wp_f⟩ := u33
  have hP : va_P D vwCl ((wKd kq) ++ (wMo a (ch + 1)) ++ (wRg a (h1, h2, f1, f2)) ++ (wWk a (on_f, bk_f, gv_f, kn_f, ws_f, we_f, wp_f)) ++ (wT ca kq a u15)) H := hP.sub (ws' := (wKd kq) ++ (wMo a (ch + 1)) ++ (wRg a (h1, h2, f1, f2)) ++ (wWk a (on_f, bk_f, gv_f, kn_f, ws_f, we_f, wp_f)) ++ (wT ca kq a u15)) [0, 1, 2, 3, 4, 5, 17, 6, 7, 8, 9, 10, 11, 12, 13, 14, 15, 16] rfl
  have hD : va_D A ((wKd kq) ++ (wMo a (ch + 1)) ++ (wRg a (h1, h2, f1, f2)) ++ (wWk a (on_f, bk_f, gv_f, kn_f, ws_f, we_f, wp_f)) ++ (wT ca kq a u15)) := hD.sub (ws' := (wKd kq) ++ (wMo a (ch + 1)) ++ (wRg a (h1, h2, f1, f2)) ++ (wWk a (on_f, bk_f, gv_f, kn_f, ws_f, we_f, wp_f)) ++ (wT ca kq a u15)) [0, 1, 2, 3, 4, 5, 17, 6, 7, 8, 9, 10, 11, 12, 13, 14, 15, 16] (by decide) rfl
  refine lv_aload_n hx hb dX6_dropLatest_36 rfl (lv_at hl 0 rfl) ?_
  refine va_get (D := D) (ci := 4) (v := .ref (a 13)) (C := RX6) (T := TX6) (N := 4) hx hb hts inX6 hown hKN.1 hP 4 rfl rfl 2 (by decide) (hts (.fieldLink RX6 30 "TreeFamily$OneMap" "walk" "LTreeFamily$Walk;") (by decide +kernel)) (fun _ h9 => h9) rfl dX6_dropLatest_37 ?_
  refine lv_aload_n hx hb dX6_dropLatest_40 rfl (lv_at hl 0 rfl) ?_
  refine va_get (D := D) (ci := 4) (v := .int (ch + 1)) (C := RX6) (T := TX6) (N := 4) hx hb hts inX6 hown hKN.1 hP 4 rfl rfl 3 (by decide) (hts (.fieldLink RX6 34 "TreeFamily$OneMap" "changes" "I") (by decide +kernel)) (fun _ h9 => h9) rfl dX6_dropLatest_41 ?_
  refine va_putN (D := D) (ci := 7) (v := .int (ch + 1)) (ty := .int) (C := RX9) (T := TX9) (N := 7) hx hb hts inX9 tyX9 tyX9_ok nmX9 hown hKN.1 hP hD hS 6 rfl rfl 3 (by decide) (va_Nw.use rfl (NW.f hKN.2 (a := RX6) (i := 130) (b := "TreeFamily$Walk") (n := "known") (d := "I") (g := "TreeFamily") (by decide +kernel))) (fun _ h9 => h9) rfl (by decide +kernel) rfl rfl (Nat.le_of_ble_eq_true rfl) dX6_dropLatest_44 (fun H locs hP hD hS => ?_)
  have hP : va_P D vwCl ((wKd kq) ++ (wMo a (ch + 1)) ++ (wRg a (h1, h2, f1, f2)) ++ (wWk a (on_f, bk_f, gv_f, ((ch + 1)), ws_f, we_f, wp_f)) ++ (wT ca kq a u15)) H := hP
  have hD : va_D A ((wKd kq) ++ (wMo a (ch + 1)) ++ (wRg a (h1, h2, f1, f2)) ++ (wWk a (on_f, bk_f, gv_f, ((ch + 1)), ws_f, we_f, wp_f)) ++ (wT ca kq a u15)) := hD
  exact W.vret hx hb hr (fun t9 e9 w9 => ⟨⟨(u15, (h1, h2, f1, f2), (on_f, bk_f, gv_f, ((ch + 1)), ws_f, we_f, wp_f), (ch + 1)), rfl, by rw [eu15, ← eu33]; rfl, by rw [e9]; exact hP, hD⟩, hS.F e9⟩) hS.2.2 dX6_dropLatest_47
