-- Tree.climb
set_option maxHeartbeats 4000000 in
set_option maxRecDepth 100000 in
theorem c_X8_climb (l : Launch) (D : va_G) (ca : Nat → ClassId) (kq a : Nat → Nat) (sz : Nat) (ky vl : Nat → Int32) (lf rt : Nat → Nat) (ct ht : Nat → Int32) (tt : Nat → Int64) (sp pa ro : Nat → Nat) (ss dp rn : Nat) (od : Int32) (kd : Nat) (hlf : ∀ k, lf k ≤ 60) (hrt : ∀ k, rt k ≤ 60) (hsp : ∀ k, sp k ≤ 60) (hpa : ∀ k, pa k ≤ 60) (hro : ∀ k, ro k ≤ 60) (hrn : rn ≤ 60) (hkd : kd < 4) (hd61 : dp ≤ 61) (hok : okClimb dp (ky, vl, lf, rt, ct, ht, tt, sp, pa, ro, ss, dp, rn, od, kd)): Met l yX8_climb wsX8_climb ({ frames := 64, cells := 0, slots := 0, locals := 1593 } : Room) (xPc D (TY ca) [.ref (a 0)] ((wKd kq) ++ (wT ca kq a (ky, vl, lf, rt, ct, ht, tt, sp, pa, ro, ss, dp, rn, od, kd))) sz) (va_Qv (fun u : TS => u = f_climb dp (ky, vl, lf, rt, ct, ht, tt, sp, pa, ro, ss, dp, rn, od, kd)) (xB D (fun t : TS => (wKd kq) ++ (wT ca kq a t)) (va_A ((wKd kq) ++ (wT ca kq a (ky, vl, lf, rt, ct, ht, tt, sp, pa, ro, ss, dp, rn, od, kd))) sz)) (va_A ((wKd kq) ++ (wT ca kq a (ky, vl, lf, rt, ct, ht, tt, sp, pa, ro, ss, dp, rn, od, kd))) sz)) 0 0 (va_A ((wKd kq) ++ (wT ca kq a (ky, vl, lf, rt, ct, ht, tt, sp, pa, ro, ss, dp, rn, od, kd))) sz) := by
  refine Met.ofW (cc := cX8_climb) (maxL := 2) (ret := none) (by decide) rfl ?_
  intro p e s m args below meth c s₁ B hml hv
  obtain ⟨rfl, hsz, hP, hKN, hD0⟩ := hv
  have hx := B.exec
  have hb := B.bytes
  have hr := B.returns
  have hts := atoms_spec (ws := wsX8_climb) B.pre
  have hown : s.vm.findClass RX8 = some m.cls := findClass_of_methodNamed B.named
  have hlocks := B.notSynchronized
  have inX8 : ∀ w ∈ wsX80, w ∈ wsX8_climb := by decide +kernel
  subst hsz
  have hD := hD0.self (sz := s.heap.size)
  generalize hAe : va_A ((wKd kq) ++ (wT ca kq a (ky, vl, lf, rt, ct, ht, tt, sp, pa, ro, ss, dp, rn, od, kd))) s.heap.size = A at hD ⊢
  have hA : ∀ q : Nat, s.heap.size ≤ q → A q := fun q h => by rw [← hAe]; exact Or.inr h
  have hS : va_S A s.heap s.heap [] := va_S.rf
  have hl := lv_entry ([.ref (a 0)]) (n := 2) (Nat.le_of_ble_eq_true rfl)
  rw [lg_entry_eq]
  generalize (lg_sl ([.ref (a 0)]) ++ List.replicate (2 - (lg_sl ([.ref (a 0)])).length) Slot.unset).toArray = ls at hl ⊢
  have hl : lv_has ls 2 [(0, .ref (a 0))] := hl
  refine lv_aload_n hx hb dX8_climb_0 rfl (lv_at hl 0 rfl) ?_
  refine va_get (D := D) (ci := 6) (v := .int (nI dp)) (C := RX8) (T := TX8) (N := 15) hx hb hts inX8 hown hKN.1 hP 4 rfl rfl 11 (by decide) (hts (.fieldLink RX8 58 "TreeFamily$Tree" "depth" "I") (by decide +kernel)) (fun _ h9 => h9) rfl dX8_climb_1 ?_
  refine lv_iconst (v := 1) hx hb dX8_climb_4 (by decide) ?_
  refine lv_isub hx hb dX8_climb_5 ?_
  refine xr_top (y := nI dp + (-1)) (Int32.sub_eq_add_neg _ _) ?_
  refine lv_istore_n (lv' := [(1, .int (nI dp + (-1))), (0, .ref (a 0))]) hx hb dX8_climb_6 rfl hl (by decide) rfl (fun ls hl => ?_)
  refine xl 7 (σ := TS) (fun n u H locs ls => match u with | (ky9, vl9, lf9, rt9, ct9, ht9, tt9, sp9, pa9, ro9, ss9, dp9, rn9, od9, kd9) => n ≤ 61 ∧ (∀ k, lf9 k ≤ 60) ∧ (∀ k, rt9 k ≤ 60) ∧ (∀ k, sp9 k ≤ 60) ∧ (∀ k, pa9 k ≤ 60) ∧ (∀ k, ro9 k ≤ 60) ∧ rn9 ≤ 60 ∧ kd9 < 4 ∧ okClimb n (ky9, vl9, lf9, rt9, ct9, ht9, tt9, sp9, pa9, ro9, ss9, dp9, rn9, od9, kd9) ∧ f_climb dp (ky, vl, lf, rt, ct, ht, tt, sp, pa, ro, ss, dp, rn, od, kd) = f_climb n (ky9, vl9, lf9, rt9, ct9, ht9, tt9, sp9, pa9, ro9, ss9, dp9, rn9, od9, kd9) ∧ va_P D vwCl ((wKd kq) ++ (wT ca kq a (ky9, vl9, lf9, rt9, ct9, ht9, tt9, sp9, pa9, ro9, ss9, dp9, rn9, od9, kd9))) H ∧ va_D A ((wKd kq) ++ (wT ca kq a (ky9, vl9, lf9, rt9, ct9, ht9, tt9, sp9, pa9, ro9, ss9, dp9, rn9, od9, kd9))) ∧ va_S A s.heap H locs ∧ lv_has ls 2 [(0, .ref (a 0)), (1, .int (nI n + (-1)))]) ?_ dp (ky, vl, lf, rt, ct, ht, tt, sp, pa, ro, ss, dp, rn, od, kd) _ _ _ ⟨hd61, hlf, hrt, hsp, hpa, hro, hrn, hkd, hok, rfl, hP, hD, hS, lv_sub hl [1, 0] rfl⟩
  clear hP hD hS hl
  intro n ih u H locs ls hI
  obtain ⟨ky9, vl9, lf9, rt9, ct9, ht9, tt9, sp9, pa9, ro9, ss9, dp9, rn9, od9, kd9⟩ := u
  obtain ⟨hn9, hlf9, hrt9, hsp9, hpa9, hro9, hrn9, hkd9, hok, hg, hP, hD, hS, hl⟩ := hI
  refine lv_iload_n hx hb dX8_climb_7 rfl (lv_at hl 1 rfl) ?_
  refine lv_if_lt (tgt := 46) hx hb dX8_climb_8 (by decide) (fun c8 => ?_) (fun c8 => ?_)
  · skip
    have hn0 : n = 0 := by
      cases n with
      | zero => rfl
      | succ k => rw [pk_m1] at c8; exact absurd c8 (nI_pos (by omega))
    exact W.vret hx hb hr (fun t9 e9 w9 => ⟨⟨(ky9, vl9, lf9, rt9, ct9, ht9, tt9, sp9, pa9, ro9, ss9, dp9, rn9, od9, kd9), rfl, (hg.trans (by subst hn0; rfl)).symm, by rw [e9]; exact hP, hD⟩, hS.F e9⟩) hS.2.2 dX8_climb_46
  · skip
    obtain ⟨n, rfl⟩ : ∃ k, n = k + 1 := by
      cases n with
      | zero => exact absurd (show nI 0 + (-1) < 0 by decide) c8
      | succ k => exact ⟨k, rfl⟩
    rw [pk_m1] at hl
    obtain ⟨⟨c9, hc60, hc⟩, hok⟩ := hok
    refine lv_aload_n hx hb dX8_climb_11 rfl (lv_at hl 0 rfl) ?_
    refine lv_aload_n hx hb dX8_climb_12 rfl (lv_at hl 0 rfl) ?_
    refine va_get (D := D) (ci := 6) (v := .ref (a 9)) (C := RX8) (T := TX8) (N := 15) hx hb hts inX8 hown hKN.1 hP 4 rfl rfl 8 (by decide) (hts (.fieldLink RX8 37 "TreeFamily$Tree" "path" "[I") (by decide +kernel)) (fun _ h9 => h9) rfl dX8_climb_13 ?_
    refine lv_iload_n hx hb dX8_climb_16 rfl (lv_at hl 1 rfl) ?_
    refine xr_ild hx hb hKN.1 hP 13 0 rfl rfl (j := n) (by omega) (by decide) dX8_climb_17 ?_
    refine xc_v (wr := wKd kq) (va_runV (As := [.int (nI (pa9 n))]) (rest := []) ⟨hx, hb, hml, hown, hts⟩ (c_X8_refresh l D ca kq a _ ky9 vl9 lf9 rt9 ct9 ht9 tt9 sp9 pa9 ro9 ss9 dp9 rn9 od9 kd9 (pa9 n) hlf9 hrt9 hsp9 hpa9 hro9 hrn9 (hpa9 n)) (cwV 1 hts gX8_climb_X8_refresh rfl rfl rfl (by decide +kernel) ⟨(Nat.le_of_ble_eq_true rfl), (Nat.le_of_ble_eq_true rfl)⟩) (xPreV hKN hP hD [4, 5, 6, 7, 8, 9, 10, 11, 12, 13, 14] (by decide) rfl (q0 := 4) rfl rfl rfl) rfl rfl hl.1 rfl (lv_room (Nat.le_of_ble_eq_true rfl)) dX8_climb_18 ⟨(Nat.le_of_ble_eq_true rfl), (Nat.le_of_ble_eq_true rfl)⟩) hP hD hS hA [4, 5, 6, 7, 8, 9, 10, 11, 12, 13, 14] [0, 1, 2, 3] rfl rfl (by decide) (by decide) (fun u18 H locs hu18 hP hD hS => ?_)
    subst hu18
    have hP : va_P D vwCl ((wKd kq) ++ (wT ca kq a (ky9, vl9, lf9, rt9, (upd ct9 (pa9 n) (ct9 (lf9 (pa9 n)) + ct9 (rt9 (pa9 n)) + 1)), (upd ht9 (pa9 n) (mx (ht9 (lf9 (pa9 n))) (ht9 (rt9 (pa9 n))) + 1)), (vp_updL tt9 (pa9 n) (tt9 (lf9 (pa9 n)) + tt9 (rt9 (pa9 n)) + (vl9 (pa9 n)).toInt64)), sp9, pa9, ro9, ss9, dp9, rn9, od9, kd9))) H := hP
    have hD : va_D A ((wKd kq) ++ (wT ca kq a (ky9, vl9, lf9, rt9, (upd ct9 (pa9 n) (ct9 (lf9 (pa9 n)) + ct9 (rt9 (pa9 n)) + 1)), (upd ht9 (pa9 n) (mx (ht9 (lf9 (pa9 n))) (ht9 (rt9 (pa9 n))) + 1)), (vp_updL tt9 (pa9 n) (tt9 (lf9 (pa9 n)) + tt9 (rt9 (pa9 n)) + (vl9 (pa9 n)).toInt64)), sp9, pa9, ro9, ss9, dp9, rn9, od9, kd9))) := hD
    refine lv_aload_n hx hb dX8_climb_21 rfl (lv_at hl 0 rfl) ?_
    refine lv_iload_n hx hb dX8_climb_22 rfl (lv_at hl 1 rfl) ?_
    refine lv_aload_n hx hb dX8_climb_23 rfl (lv_at hl 0 rfl) ?_
    refine va_get (D := D) (ci := 6) (v := .ref (kq kd9)) (C := RX8) (T := TX8) (N := 15) hx hb hts inX8 hown hKN.1 hP 4 rfl rfl 14 (by decide) (hts (.fieldLink RX8 47 "TreeFamily$Tree" "kind" "LTreeFamily$Kind;") (by decide +kernel)) (fun _ h9 => h9) rfl dX8_climb_24 ?_
    refine lv_aload_n hx hb dX8_climb_27 rfl (lv_at hl 0 rfl) ?_
    refine lv_aload_n hx hb dX8_climb_28 rfl (lv_at hl 0 rfl) ?_
    refine va_get (D := D) (ci := 6) (v := .ref (a 9)) (C := RX8) (T := TX8) (N := 15) hx hb hts inX8 hown hKN.1 hP 4 rfl rfl 8 (by decide) (hts (.fieldLink RX8 37 "TreeFamily$Tree" "path" "[I") (by decide +kernel)) (fun _ h9 => h9) rfl dX8_climb_29 ?_
    refine lv_iload_n hx hb dX8_climb_32 rfl (lv_at hl 1 rfl) ?_
    refine xr_ild hx hb hKN.1 hP 13 0 rfl rfl (j := n) (by omega) (by decide) dX8_climb_33 ?_
    rcases (show kd9 = 0 ∨ kd9 = 1 ∨ kd9 = 2 ∨ kd9 = 3 by omega) with rfl | rfl | rfl | rfl
    · skip
      refine xc_i (wr := []) (va_runU (As := [.ref (a 0), .int (nI (pa9 n))]) (rest := [.int (nI n), .ref (a 0)]) ⟨hx, hb, hml, hown, hts⟩ (c_X3_settle_X0 l D ca kq a _ ky9 vl9 lf9 rt9 (upd ct9 (pa9 n) (ct9 (lf9 (pa9 n)) + ct9 (rt9 (pa9 n)) + 1)) (upd ht9 (pa9 n) (mx (ht9 (lf9 (pa9 n))) (ht9 (rt9 (pa9 n))) + 1)) (vp_updL tt9 (pa9 n) (tt9 (lf9 (pa9 n)) + tt9 (rt9 (pa9 n)) + (vl9 (pa9 n)).toInt64)) sp9 pa9 ro9 ss9 dp9 rn9 od9 0 (pa9 n) hlf9 hrt9 hsp9 hpa9 hro9 hrn9 (by decide : 0 < 4) (hpa9 n)) (va_cwA 2 hts gX8_climb_X3_settle_u93X0 rfl rfl rfl (NW.d hKN.2 (by decide +kernel)) (by decide +kernel) ⟨(Nat.le_of_ble_eq_true rfl), (Nat.le_of_ble_eq_true rfl)⟩) (xPreV hKN hP hD [0, 1, 2, 3, 4, 5, 6, 7, 8, 9, 10, 11, 12, 13, 14] (by decide) rfl (q0 := 0) rfl rfl rfl) rfl rfl hl.1 rfl (lv_room (Nat.le_of_ble_eq_true rfl)) dX8_climb_34 ⟨(Nat.le_of_ble_eq_true rfl), (Nat.le_of_ble_eq_true rfl)⟩) hP hD hS hA [0, 1, 2, 3, 4, 5, 6, 7, 8, 9, 10, 11, 12, 13, 14] [] rfl rfl (by decide) (by decide) (fun r34 u34 H locs hu34 hP hD hS => ?_)
      rw [← settle_0 (t := (ky9, vl9, lf9, rt9, (upd ct9 (pa9 n) (ct9 (lf9 (pa9 n)) + ct9 (rt9 (pa9 n)) + 1)), (upd ht9 (pa9 n) (mx (ht9 (lf9 (pa9 n))) (ht9 (rt9 (pa9 n))) + 1)), (vp_updL tt9 (pa9 n) (tt9 (lf9 (pa9 n)) + tt9 (rt9 (pa9 n)) + (vl9 (pa9 n)).toInt64)), sp9, pa9, ro9, ss9, dp9, rn9, od9, 0)) (x := pa9 n) rfl] at hu34
      obtain ⟨er34, eu34⟩ := hu34
      obtain ⟨y34, ey34⟩ : ∃ z, z = (f_settle (ky9, vl9, lf9, rt9, (upd ct9 (pa9 n) (ct9 (lf9 (pa9 n)) + ct9 (rt9 (pa9 n)) + 1)), (upd ht9 (pa9 n) (mx (ht9 (lf9 (pa9 n))) (ht9 (rt9 (pa9 n))) + 1)), (vp_updL tt9 (pa9 n) (tt9 (lf9 (pa9 n)) + tt9 (rt9 (pa9 n)) + (vl9 (pa9 n)).toInt64)), sp9, pa9, ro9, ss9, dp9, rn9, od9, 0) (pa9 n)).1 := ⟨_, rfl⟩
      rw [← ey34] at er34
      subst er34
      have hy34 : y34 ≤ 60 := by rw [ey34]; exact (wf_settle (⟨hlf9, hrt9, hsp9, hpa9, hro9, hrn9, (by decide : 0 < 4)⟩ : WF (ky9, vl9, lf9, rt9, (upd ct9 (pa9 n) (ct9 (lf9 (pa9 n)) + ct9 (rt9 (pa9 n)) + 1)), (upd ht9 (pa9 n) (mx (ht9 (lf9 (pa9 n))) (ht9 (rt9 (pa9 n))) + 1)), (vp_updL tt9 (pa9 n) (tt9 (lf9 (pa9 n)) + tt9 (rt9 (pa9 n)) + (vl9 (pa9 n)).toInt64)), sp9, pa9, ro9, ss9, dp9, rn9, od9, 0)) (hpa9 n)).1
      obtain ⟨ky_34, vl_34, lf_34, rt_34, ct_34, ht_34, tt_34, sp_34, pa_34, ro_34, ss_34, dp_34, rn_34, od_34, kd_34⟩ := u34
      obtain ⟨hlf_34, hrt_34, hsp_34, hpa_34, hro_34, hrn_34, hkd_34⟩ : WF (ky_34, vl_34, lf_34, rt_34, ct_34, ht_34, tt_34, sp_34, pa_34, ro_34, ss_34, dp_34, rn_34, od_34, kd_34) := by rw [eu34]; exact (wf_settle (⟨hlf9, hrt9, hsp9, hpa9, hro9, hrn9, (by decide : 0 < 4)⟩ : WF (ky9, vl9, lf9, rt9, (upd ct9 (pa9 n) (ct9 (lf9 (pa9 n)) + ct9 (rt9 (pa9 n)) + 1)), (upd ht9 (pa9 n) (mx (ht9 (lf9 (pa9 n))) (ht9 (rt9 (pa9 n))) + 1)), (vp_updL tt9 (pa9 n) (tt9 (lf9 (pa9 n)) + tt9 (rt9 (pa9 n)) + (vl9 (pa9 n)).toInt64)), sp9, pa9, ro9, ss9, dp9, rn9, od9, 0)) (hpa9 n)).2
      have hP : va_P D vwCl ((wKd kq) ++ (wT ca kq a (ky_34, vl_34, lf_34, rt_34, ct_34, ht_34, tt_34, sp_34, pa_34, ro_34, ss_34, dp_34, rn_34, od_34, kd_34))) H := hP
      have hD : va_D A ((wKd kq) ++ (wT ca kq a (ky_34, vl_34, lf_34, rt_34, ct_34, ht_34, tt_34, sp_34, pa_34, ro_34, ss_34, dp_34, rn_34, od_34, kd_34))) := hD
      refine xc_v (wr := wKd kq) (va_runV (As := [.int (nI n), .int (nI y34)]) (rest := []) ⟨hx, hb, hml, hown, hts⟩ (c_X8_setAt l D ca kq a _ ky_34 vl_34 lf_34 rt_34 ct_34 ht_34 tt_34 sp_34 pa_34 ro_34 ss_34 dp_34 rn_34 od_34 kd_34 n y34 hlf_34 hrt_34 hsp_34 hpa_34 hro_34 hrn_34 (by omega) hy34) (cwV 2 hts gX8_climb_X8_setAt rfl rfl rfl (by decide +kernel) ⟨(Nat.le_of_ble_eq_true rfl), (Nat.le_of_ble_eq_true rfl)⟩) (xPreV hKN hP hD [4, 5, 6, 7, 8, 9, 10, 11, 12, 13, 14] (by decide) rfl (q0 := 4) rfl rfl rfl) rfl rfl hl.1 rfl (lv_room (Nat.le_of_ble_eq_true rfl)) dX8_climb_37 ⟨(Nat.le_of_ble_eq_true rfl), (Nat.le_of_ble_eq_true rfl)⟩) hP hD hS hA [4, 5, 6, 7, 8, 9, 10, 11, 12, 13, 14] [0, 1, 2, 3] rfl rfl (by decide) (by decide) (fun u37 H locs hu37 hP hD hS => ?_)
      have eu37 := hu37
      obtain ⟨ky_37, vl_37, lf_37, rt_37, ct_37, ht_37, tt_37, sp_37, pa_37, ro_37, ss_37, dp_37, rn_37, od_37, kd_37⟩ := u37
      obtain ⟨hlf_37, hrt_37, hsp_37, hpa_37, hro_37, hrn_37, hkd_37⟩ : WF (ky_37, vl_37, lf_37, rt_37, ct_37, ht_37, tt_37, sp_37, pa_37, ro_37, ss_37, dp_37, rn_37, od_37, kd_37) := by rw [eu37]; exact wf_setAt (⟨hlf_34, hrt_34, hsp_34, hpa_34, hro_34, hrn_34, hkd_34⟩ : WF (ky_34, vl_34, lf_34, rt_34, ct_34, ht_34, tt_34, sp_34, pa_34, ro_34, ss_34, dp_34, rn_34, od_34, kd_34)) hy34
      have hP : va_P D vwCl ((wKd kq) ++ (wT ca kq a (ky_37, vl_37, lf_37, rt_37, ct_37, ht_37, tt_37, sp_37, pa_37, ro_37, ss_37, dp_37, rn_37, od_37, kd_37))) H := hP
      have hD : va_D A ((wKd kq) ++ (wT ca kq a (ky_37, vl_37, lf_37, rt_37, ct_37, ht_37, tt_37, sp_37, pa_37, ro_37, ss_37, dp_37, rn_37, od_37, kd_37))) := hD
      refine lv_iinc (v := (nI n + (-1))) (lv' := [(1, .int (nI n + (-1))), (0, .ref (a 0))]) hx hb dX8_climb_40 hl (k := 1) rfl rfl (by decide) rfl (fun ls hl => ?_)
      refine lv_goto (tgt := 7) hx hb dX8_climb_43 (by decide) ?_
      exact ih n (by omega) (ky_37, vl_37, lf_37, rt_37, ct_37, ht_37, tt_37, sp_37, pa_37, ro_37, ss_37, dp_37, rn_37, od_37, kd_37) _ _ _ ⟨(by omega), hlf_37, hrt_37, hsp_37, hpa_37, hro_37, hrn_37, hkd_37, (by rw [eu37, eu34, ey34]; exact hok), hg.trans ((climb_succ _ _).trans (by rw [eu37, eu34, ey34]; rfl)), hP, hD, hS, lv_sub hl [1, 0] rfl⟩
    · skip
      refine xc_i (wr := []) (va_runU (As := [.ref (a 0), .int (nI (pa9 n))]) (rest := [.int (nI n), .ref (a 0)]) ⟨hx, hb, hml, hown, hts⟩ (c_X3_settle_X4 l D ca kq a _ ky9 vl9 lf9 rt9 (upd ct9 (pa9 n) (ct9 (lf9 (pa9 n)) + ct9 (rt9 (pa9 n)) + 1)) (upd ht9 (pa9 n) (mx (ht9 (lf9 (pa9 n))) (ht9 (rt9 (pa9 n))) + 1)) (vp_updL tt9 (pa9 n) (tt9 (lf9 (pa9 n)) + tt9 (rt9 (pa9 n)) + (vl9 (pa9 n)).toInt64)) sp9 pa9 ro9 ss9 dp9 rn9 od9 1 (pa9 n) hlf9 hrt9 hsp9 hpa9 hro9 hrn9 (by decide : 1 < 4) (hpa9 n)) (va_cwA 2 hts gX8_climb_X3_settle_u93X4 rfl rfl rfl (NW.d hKN.2 (by decide +kernel)) (by decide +kernel) ⟨(Nat.le_of_ble_eq_true rfl), (Nat.le_of_ble_eq_true rfl)⟩) (xPreV hKN hP hD [0, 1, 2, 3, 4, 5, 6, 7, 8, 9, 10, 11, 12, 13, 14] (by decide) rfl (q0 := 1) rfl rfl rfl) rfl rfl hl.1 rfl (lv_room (Nat.le_of_ble_eq_true rfl)) dX8_climb_34 ⟨(Nat.le_of_ble_eq_true rfl), (Nat.le_of_ble_eq_true rfl)⟩) hP hD hS hA [0, 1, 2, 3, 4, 5, 6, 7, 8, 9, 10, 11, 12, 13, 14] [] rfl rfl (by decide) (by decide) (fun r34 u34 H locs hu34 hP hD hS => ?_)
      rw [← settle_1 (t := (ky9, vl9, lf9, rt9, (upd ct9 (pa9 n) (ct9 (lf9 (pa9 n)) + ct9 (rt9 (pa9 n)) + 1)), (upd ht9 (pa9 n) (mx (ht9 (lf9 (pa9 n))) (ht9 (rt9 (pa9 n))) + 1)), (vp_updL tt9 (pa9 n) (tt9 (lf9 (pa9 n)) + tt9 (rt9 (pa9 n)) + (vl9 (pa9 n)).toInt64)), sp9, pa9, ro9, ss9, dp9, rn9, od9, 1)) (x := pa9 n) rfl] at hu34
      obtain ⟨er34, eu34⟩ := hu34
      obtain ⟨y34, ey34⟩ : ∃ z, z = (f_settle (ky9, vl9, lf9, rt9, (upd ct9 (pa9 n) (ct9 (lf9 (pa9 n)) + ct9 (rt9 (pa9 n)) + 1)), (upd ht9 (pa9 n) (mx (ht9 (lf9 (pa9 n))) (ht9 (rt9 (pa9 n))) + 1)), (vp_updL tt9 (pa9 n) (tt9 (lf9 (pa9 n)) + tt9 (rt9 (pa9 n)) + (vl9 (pa9 n)).toInt64)), sp9, pa9, ro9, ss9, dp9, rn9, od9, 1) (pa9 n)).1 := ⟨_, rfl⟩
      rw [← ey34] at er34
      subst er34
      have hy34 : y34 ≤ 60 := by rw [ey34]; exact (wf_settle (⟨hlf9, hrt9, hsp9, hpa9, hro9, hrn9, (by decide : 1 < 4)⟩ : WF (ky9, vl9, lf9, rt9, (upd ct9 (pa9 n) (ct9 (lf9 (pa9 n)) + ct9 (rt9 (pa9 n)) + 1)), (upd ht9 (pa9 n) (mx (ht9 (lf9 (pa9 n))) (ht9 (rt9 (pa9 n))) + 1)), (vp_updL tt9 (pa9 n) (tt9 (lf9 (pa9 n)) + tt9 (rt9 (pa9 n)) + (vl9 (pa9 n)).toInt64)), sp9, pa9, ro9, ss9, dp9, rn9, od9, 1)) (hpa9 n)).1
      obtain ⟨ky_34, vl_34, lf_34, rt_34, ct_34, ht_34, tt_34, sp_34, pa_34, ro_34, ss_34, dp_34, rn_34, od_34, kd_34⟩ := u34
      obtain ⟨hlf_34, hrt_34, hsp_34, hpa_34, hro_34, hrn_34, hkd_34⟩ : WF (ky_34, vl_34, lf_34, rt_34, ct_34, ht_34, tt_34, sp_34, pa_34, ro_34, ss_34, dp_34, rn_34, od_34, kd_34) := by rw [eu34]; exact (wf_settle (⟨hlf9, hrt9, hsp9, hpa9, hro9, hrn9, (by decide : 1 < 4)⟩ : WF (ky9, vl9, lf9, rt9, (upd ct9 (pa9 n) (ct9 (lf9 (pa9 n)) + ct9 (rt9 (pa9 n)) + 1)), (upd ht9 (pa9 n) (mx (ht9 (lf9 (pa9 n))) (ht9 (rt9 (pa9 n))) + 1)), (vp_updL tt9 (pa9 n) (tt9 (lf9 (pa9 n)) + tt9 (rt9 (pa9 n)) + (vl9 (pa9 n)).toInt64)), sp9, pa9, ro9, ss9, dp9, rn9, od9, 1)) (hpa9 n)).2
      have hP : va_P D vwCl ((wKd kq) ++ (wT ca kq a (ky_34, vl_34, lf_34, rt_34, ct_34, ht_34, tt_34, sp_34, pa_34, ro_34, ss_34, dp_34, rn_34, od_34, kd_34))) H := hP
      have hD : va_D A ((wKd kq) ++ (wT ca kq a (ky_34, vl_34, lf_34, rt_34, ct_34, ht_34, tt_34, sp_34, pa_34, ro_34, ss_34, dp_34, rn_34, od_34, kd_34))) := hD
      refine xc_v (wr := wKd kq) (va_runV (As := [.int (nI n), .int (nI y34)]) (rest := []) ⟨hx, hb, hml, hown, hts⟩ (c_X8_setAt l D ca kq a _ ky_34 vl_34 lf_34 rt_34 ct_34 ht_34 tt_34 sp_34 pa_34 ro_34 ss_34 dp_34 rn_34 od_34 kd_34 n y34 hlf_34 hrt_34 hsp_34 hpa_34 hro_34 hrn_34 (by omega) hy34) (cwV 2 hts gX8_climb_X8_setAt rfl rfl rfl (by decide +kernel) ⟨(Nat.le_of_ble_eq_true rfl), (Nat.le_of_ble_eq_true rfl)⟩) (xPreV hKN hP hD [4, 5, 6, 7, 8, 9, 10, 11, 12, 13, 14] (by decide) rfl (q0 := 4) rfl rfl rfl) rfl rfl hl.1 rfl (lv_room (Nat.le_of_ble_eq_true rfl)) dX8_climb_37 ⟨(Nat.le_of_ble_eq_true rfl), (Nat.le_of_ble_eq_true rfl)⟩) hP hD hS hA [4, 5, 6, 7, 8, 9, 10, 11, 12, 13, 14] [0, 1, 2, 3] rfl rfl (by decide) (by decide) (fun u37 H locs hu37 hP hD hS => ?_)
      have eu37 := hu37
      obtain ⟨ky_37, vl_37, lf_37, rt_37, ct_37, ht_37, tt_37, sp_37, pa_37, ro_37, ss_37, dp_37, rn_37, od_37, kd_37⟩ := u37
      obtain ⟨hlf_37, hrt_37, hsp_37, hpa_37, hro_37, hrn_37, hkd_37⟩ : WF (ky_37, vl_37, lf_37, rt_37, ct_37, ht_37, tt_37, sp_37, pa_37, ro_37, ss_37, dp_37, rn_37, od_37, kd_37) := by rw [eu37]; exact wf_setAt (⟨hlf_34, hrt_34, hsp_34, hpa_34, hro_34, hrn_34, hkd_34⟩ : WF (ky_34, vl_34, lf_34, rt_34, ct_34, ht_34, tt_34, sp_34, pa_34, ro_34, ss_34, dp_34, rn_34, od_34, kd_34)) hy34
      have hP : va_P D vwCl ((wKd kq) ++ (wT ca kq a (ky_37, vl_37, lf_37, rt_37, ct_37, ht_37, tt_37, sp_37, pa_37, ro_37, ss_37, dp_37, rn_37, od_37, kd_37))) H := hP
      have hD : va_D A ((wKd kq) ++ (wT ca kq a (ky_37, vl_37, lf_37, rt_37, ct_37, ht_37, tt_37, sp_37, pa_37, ro_37, ss_37, dp_37, rn_37, od_37, kd_37))) := hD
      refine lv_iinc (v := (nI n + (-1))) (lv' := [(1, .int (nI n + (-1))), (0, .ref (a 0))]) hx hb dX8_climb_40 hl (k := 1) rfl rfl (by decide) rfl (fun ls hl => ?_)
      refine lv_goto (tgt := 7) hx hb dX8_climb_43 (by decide) ?_
      exact ih n (by omega) (ky_37, vl_37, lf_37, rt_37, ct_37, ht_37, tt_37, sp_37, pa_37, ro_37, ss_37, dp_37, rn_37, od_37, kd_37) _ _ _ ⟨(by omega), hlf_37, hrt_37, hsp_37, hpa_37, hro_37, hrn_37, hkd_37, (by rw [eu37, eu34, ey34]; exact hok), hg.trans ((climb_succ _ _).trans (by rw [eu37, eu34, ey34]; rfl)), hP, hD, hS, lv_sub hl [1, 0] rfl⟩
    · skip
      refine xc_i (wr := wKd kq) (va_runU (As := [.ref (a 0), .int (nI (pa9 n))]) (rest := [.int (nI n), .ref (a 0)]) ⟨hx, hb, hml, hown, hts⟩ (c_X1_settle l D ca kq a _ ky9 vl9 lf9 rt9 (upd ct9 (pa9 n) (ct9 (lf9 (pa9 n)) + ct9 (rt9 (pa9 n)) + 1)) (upd ht9 (pa9 n) (mx (ht9 (lf9 (pa9 n))) (ht9 (rt9 (pa9 n))) + 1)) (vp_updL tt9 (pa9 n) (tt9 (lf9 (pa9 n)) + tt9 (rt9 (pa9 n)) + (vl9 (pa9 n)).toInt64)) sp9 pa9 ro9 ss9 dp9 rn9 od9 2 (pa9 n) hlf9 hrt9 hsp9 hpa9 hro9 hrn9 (by decide : 2 < 4) (hpa9 n)) (va_cwA 2 hts gX8_climb_X1_settle_u93X1 rfl rfl rfl (NW.d hKN.2 (by decide +kernel)) (by decide +kernel) ⟨(Nat.le_of_ble_eq_true rfl), (Nat.le_of_ble_eq_true rfl)⟩) (xPreV hKN hP hD [4, 5, 6, 7, 8, 9, 10, 11, 12, 13, 14] (by decide) rfl (q0 := 2) rfl rfl rfl) rfl rfl hl.1 rfl (lv_room (Nat.le_of_ble_eq_true rfl)) dX8_climb_34 ⟨(Nat.le_of_ble_eq_true rfl), (Nat.le_of_ble_eq_true rfl)⟩) hP hD hS hA [4, 5, 6, 7, 8, 9, 10, 11, 12, 13, 14] [0, 1, 2, 3] rfl rfl (by decide) (by decide) (fun r34 u34 H locs hu34 hP hD hS => ?_)
      rw [← settle_2 (t := (ky9, vl9, lf9, rt9, (upd ct9 (pa9 n) (ct9 (lf9 (pa9 n)) + ct9 (rt9 (pa9 n)) + 1)), (upd ht9 (pa9 n) (mx (ht9 (lf9 (pa9 n))) (ht9 (rt9 (pa9 n))) + 1)), (vp_updL tt9 (pa9 n) (tt9 (lf9 (pa9 n)) + tt9 (rt9 (pa9 n)) + (vl9 (pa9 n)).toInt64)), sp9, pa9, ro9, ss9, dp9, rn9, od9, 2)) (x := pa9 n) rfl] at hu34
      obtain ⟨er34, eu34⟩ := hu34
      obtain ⟨y34, ey34⟩ : ∃ z, z = (f_settle (ky9, vl9, lf9, rt9, (upd ct9 (pa9 n) (ct9 (lf9 (pa9 n)) + ct9 (rt9 (pa9 n)) + 1)), (upd ht9 (pa9 n) (mx (ht9 (lf9 (pa9 n))) (ht9 (rt9 (pa9 n))) + 1)), (vp_updL tt9 (pa9 n) (tt9 (lf9 (pa9 n)) + tt9 (rt9 (pa9 n)) + (vl9 (pa9 n)).toInt64)), sp9, pa9, ro9, ss9, dp9, rn9, od9, 2) (pa9 n)).1 := ⟨_, rfl⟩
      rw [← ey34] at er34
      subst er34
      have hy34 : y34 ≤ 60 := by rw [ey34]; exact (wf_settle (⟨hlf9, hrt9, hsp9, hpa9, hro9, hrn9, (by decide : 2 < 4)⟩ : WF (ky9, vl9, lf9, rt9, (upd ct9 (pa9 n) (ct9 (lf9 (pa9 n)) + ct9 (rt9 (pa9 n)) + 1)), (upd ht9 (pa9 n) (mx (ht9 (lf9 (pa9 n))) (ht9 (rt9 (pa9 n))) + 1)), (vp_updL tt9 (pa9 n) (tt9 (lf9 (pa9 n)) + tt9 (rt9 (pa9 n)) + (vl9 (pa9 n)).toInt64)), sp9, pa9, ro9, ss9, dp9, rn9, od9, 2)) (hpa9 n)).1
      obtain ⟨ky_34, vl_34, lf_34, rt_34, ct_34, ht_34, tt_34, sp_34, pa_34, ro_34, ss_34, dp_34, rn_34, od_34, kd_34⟩ := u34
      obtain ⟨hlf_34, hrt_34, hsp_34, hpa_34, hro_34, hrn_34, hkd_34⟩ : WF (ky_34, vl_34, lf_34, rt_34, ct_34, ht_34, tt_34, sp_34, pa_34, ro_34, ss_34, dp_34, rn_34, od_34, kd_34) := by rw [eu34]; exact (wf_settle (⟨hlf9, hrt9, hsp9, hpa9, hro9, hrn9, (by decide : 2 < 4)⟩ : WF (ky9, vl9, lf9, rt9, (upd ct9 (pa9 n) (ct9 (lf9 (pa9 n)) + ct9 (rt9 (pa9 n)) + 1)), (upd ht9 (pa9 n) (mx (ht9 (lf9 (pa9 n))) (ht9 (rt9 (pa9 n))) + 1)), (vp_updL tt9 (pa9 n) (tt9 (lf9 (pa9 n)) + tt9 (rt9 (pa9 n)) + (vl9 (pa9 n)).toInt64)), sp9, pa9, ro9, ss9, dp9, rn9, od9, 2)) (hpa9 n)).2
      have hP : va_P D vwCl ((wKd kq) ++ (wT ca kq a (ky_34, vl_34, lf_34, rt_34, ct_34, ht_34, tt_34, sp_34, pa_34, ro_34, ss_34, dp_34, rn_34, od_34, kd_34))) H := hP
      have hD : va_D A ((wKd kq) ++ (wT ca kq a (ky_34, vl_34, lf_34, rt_34, ct_34, ht_34, tt_34, sp_34, pa_34, ro_34, ss_34, dp_34, rn_34, od_34, kd_34))) := hD
      refine xc_v (wr := wKd kq) (va_runV (As := [.int (nI n), .int (nI y34)]) (rest := []) ⟨hx, hb, hml, hown, hts⟩ (c_X8_setAt l D ca kq a _ ky_34 vl_34 lf_34 rt_34 ct_34 ht_34 tt_34 sp_34 pa_34 ro_34 ss_34 dp_34 rn_34 od_34 kd_34 n y34 hlf_34 hrt_34 hsp_34 hpa_34 hro_34 hrn_34 (by omega) hy34) (cwV 2 hts gX8_climb_X8_setAt rfl rfl rfl (by decide +kernel) ⟨(Nat.le_of_ble_eq_true rfl), (Nat.le_of_ble_eq_true rfl)⟩) (xPreV hKN hP hD [4, 5, 6, 7, 8, 9, 10, 11, 12, 13, 14] (by decide) rfl (q0 := 4) rfl rfl rfl) rfl rfl hl.1 rfl (lv_room (Nat.le_of_ble_eq_true rfl)) dX8_climb_37 ⟨(Nat.le_of_ble_eq_true rfl), (Nat.le_of_ble_eq_true rfl)⟩) hP hD hS hA [4, 5, 6, 7, 8, 9, 10, 11, 12, 13, 14] [0, 1, 2, 3] rfl rfl (by decide) (by decide) (fun u37 H locs hu37 hP hD hS => ?_)
      have eu37 := hu37
      obtain ⟨ky_37, vl_37, lf_37, rt_37, ct_37, ht_37, tt_37, sp_37, pa_37, ro_37, ss_37, dp_37, rn_37, od_37, kd_37⟩ := u37
      obtain ⟨hlf_37, hrt_37, hsp_37, hpa_37, hro_37, hrn_37, hkd_37⟩ : WF (ky_37, vl_37, lf_37, rt_37, ct_37, ht_37, tt_37, sp_37, pa_37, ro_37, ss_37, dp_37, rn_37, od_37, kd_37) := by rw [eu37]; exact wf_setAt (⟨hlf_34, hrt_34, hsp_34, hpa_34, hro_34, hrn_34, hkd_34⟩ : WF (ky_34, vl_34, lf_34, rt_34, ct_34, ht_34, tt_34, sp_34, pa_34, ro_34, ss_34, dp_34, rn_34, od_34, kd_34)) hy34
      have hP : va_P D vwCl ((wKd kq) ++ (wT ca kq a (ky_37, vl_37, lf_37, rt_37, ct_37, ht_37, tt_37, sp_37, pa_37, ro_37, ss_37, dp_37, rn_37, od_37, kd_37))) H := hP
      have hD : va_D A ((wKd kq) ++ (wT ca kq a (ky_37, vl_37, lf_37, rt_37, ct_37, ht_37, tt_37, sp_37, pa_37, ro_37, ss_37, dp_37, rn_37, od_37, kd_37))) := hD
      refine lv_iinc (v := (nI n + (-1))) (lv' := [(1, .int (nI n + (-1))), (0, .ref (a 0))]) hx hb dX8_climb_40 hl (k := 1) rfl rfl (by decide) rfl (fun ls hl => ?_)
      refine lv_goto (tgt := 7) hx hb dX8_climb_43 (by decide) ?_
      exact ih n (by omega) (ky_37, vl_37, lf_37, rt_37, ct_37, ht_37, tt_37, sp_37, pa_37, ro_37, ss_37, dp_37, rn_37, od_37, kd_37) _ _ _ ⟨(by omega), hlf_37, hrt_37, hsp_37, hpa_37, hro_37, hrn_37, hkd_37, (by rw [eu37, eu34, ey34]; exact hok), hg.trans ((climb_succ _ _).trans (by rw [eu37, eu34, ey34]; rfl)), hP, hD, hS, lv_sub hl [1, 0] rfl⟩
    · skip
      refine xc_i (wr := []) (va_runU (As := [.ref (a 0), .int (nI (pa9 n))]) (rest := [.int (nI n), .ref (a 0)]) ⟨hx, hb, hml, hown, hts⟩ (c_X2_settle l D ca kq a _ ky9 vl9 lf9 rt9 (upd ct9 (pa9 n) (ct9 (lf9 (pa9 n)) + ct9 (rt9 (pa9 n)) + 1)) (upd ht9 (pa9 n) (mx (ht9 (lf9 (pa9 n))) (ht9 (rt9 (pa9 n))) + 1)) (vp_updL tt9 (pa9 n) (tt9 (lf9 (pa9 n)) + tt9 (rt9 (pa9 n)) + (vl9 (pa9 n)).toInt64)) sp9 pa9 ro9 ss9 dp9 rn9 od9 3 (pa9 n) c9 hlf9 hrt9 hsp9 hpa9 hro9 hrn9 (by decide : 3 < 4) (hpa9 n) hc hc60) (va_cwA 2 hts gX8_climb_X2_settle_u93X2 rfl rfl rfl (NW.d hKN.2 (by decide +kernel)) (by decide +kernel) ⟨(Nat.le_of_ble_eq_true rfl), (Nat.le_of_ble_eq_true rfl)⟩) (xPreV hKN hP hD [0, 1, 2, 3, 4, 5, 6, 7, 8, 9, 10, 11, 12, 13, 14] (by decide) rfl (q0 := 3) rfl rfl rfl) rfl rfl hl.1 rfl (lv_room (Nat.le_of_ble_eq_true rfl)) dX8_climb_34 ⟨(Nat.le_of_ble_eq_true rfl), (Nat.le_of_ble_eq_true rfl)⟩) hP hD hS hA [0, 1, 2, 3, 4, 5, 6, 7, 8, 9, 10, 11, 12, 13, 14] [] rfl rfl (by decide) (by decide) (fun r34 u34 H locs hu34 hP hD hS => ?_)
      rw [← settle_3 (t := (ky9, vl9, lf9, rt9, (upd ct9 (pa9 n) (ct9 (lf9 (pa9 n)) + ct9 (rt9 (pa9 n)) + 1)), (upd ht9 (pa9 n) (mx (ht9 (lf9 (pa9 n))) (ht9 (rt9 (pa9 n))) + 1)), (vp_updL tt9 (pa9 n) (tt9 (lf9 (pa9 n)) + tt9 (rt9 (pa9 n)) + (vl9 (pa9 n)).toInt64)), sp9, pa9, ro9, ss9, dp9, rn9, od9, 3)) (x := pa9 n) rfl hc hc60] at hu34
      obtain ⟨er34, eu34⟩ := hu34
      obtain ⟨y34, ey34⟩ : ∃ z, z = (f_settle (ky9, vl9, lf9, rt9, (upd ct9 (pa9 n) (ct9 (lf9 (pa9 n)) + ct9 (rt9 (pa9 n)) + 1)), (upd ht9 (pa9 n) (mx (ht9 (lf9 (pa9 n))) (ht9 (rt9 (pa9 n))) + 1)), (vp_updL tt9 (pa9 n) (tt9 (lf9 (pa9 n)) + tt9 (rt9 (pa9 n)) + (vl9 (pa9 n)).toInt64)), sp9, pa9, ro9, ss9, dp9, rn9, od9, 3) (pa9 n)).1 := ⟨_, rfl⟩
      rw [← ey34] at er34
      subst er34
      have hy34 : y34 ≤ 60 := by rw [ey34]; exact (wf_settle (⟨hlf9, hrt9, hsp9, hpa9, hro9, hrn9, (by decide : 3 < 4)⟩ : WF (ky9, vl9, lf9, rt9, (upd ct9 (pa9 n) (ct9 (lf9 (pa9 n)) + ct9 (rt9 (pa9 n)) + 1)), (upd ht9 (pa9 n) (mx (ht9 (lf9 (pa9 n))) (ht9 (rt9 (pa9 n))) + 1)), (vp_updL tt9 (pa9 n) (tt9 (lf9 (pa9 n)) + tt9 (rt9 (pa9 n)) + (vl9 (pa9 n)).toInt64)), sp9, pa9, ro9, ss9, dp9, rn9, od9, 3)) (hpa9 n)).1
      obtain ⟨ky_34, vl_34, lf_34, rt_34, ct_34, ht_34, tt_34, sp_34, pa_34, ro_34, ss_34, dp_34, rn_34, od_34, kd_34⟩ := u34
      obtain ⟨hlf_34, hrt_34, hsp_34, hpa_34, hro_34, hrn_34, hkd_34⟩ : WF (ky_34, vl_34, lf_34, rt_34, ct_34, ht_34, tt_34, sp_34, pa_34, ro_34, ss_34, dp_34, rn_34, od_34, kd_34) := by rw [eu34]; exact (wf_settle (⟨hlf9, hrt9, hsp9, hpa9, hro9, hrn9, (by decide : 3 < 4)⟩ : WF (ky9, vl9, lf9, rt9, (upd ct9 (pa9 n) (ct9 (lf9 (pa9 n)) + ct9 (rt9 (pa9 n)) + 1)), (upd ht9 (pa9 n) (mx (ht9 (lf9 (pa9 n))) (ht9 (rt9 (pa9 n))) + 1)), (vp_updL tt9 (pa9 n) (tt9 (lf9 (pa9 n)) + tt9 (rt9 (pa9 n)) + (vl9 (pa9 n)).toInt64)), sp9, pa9, ro9, ss9, dp9, rn9, od9, 3)) (hpa9 n)).2
      have hP : va_P D vwCl ((wKd kq) ++ (wT ca kq a (ky_34, vl_34, lf_34, rt_34, ct_34, ht_34, tt_34, sp_34, pa_34, ro_34, ss_34, dp_34, rn_34, od_34, kd_34))) H := hP
      have hD : va_D A ((wKd kq) ++ (wT ca kq a (ky_34, vl_34, lf_34, rt_34, ct_34, ht_34, tt_34, sp_34, pa_34, ro_34, ss_34, dp_34, rn_34, od_34, kd_34))) := hD
      refine xc_v (wr := wKd kq) (va_runV (As := [.int (nI n), .int (nI y34)]) (rest := []) ⟨hx, hb, hml, hown, hts⟩ (c_X8_setAt l D ca kq a _ ky_34 vl_34 lf_34 rt_34 ct_34 ht_34 tt_34 sp_34 pa_34 ro_34 ss_34 dp_34 rn_34 od_34 kd_34 n y34 hlf_34 hrt_34 hsp_34 hpa_34 hro_34 hrn_34 (by omega) hy34) (cwV 2 hts gX8_climb_X8_setAt rfl rfl rfl (by decide +kernel) ⟨(Nat.le_of_ble_eq_true rfl), (Nat.le_of_ble_eq_true rfl)⟩) (xPreV hKN hP hD [4, 5, 6, 7, 8, 9, 10, 11, 12, 13, 14] (by decide) rfl (q0 := 4) rfl rfl rfl) rfl rfl hl.1 rfl (lv_room (Nat.le_of_ble_eq_true rfl)) dX8_climb_37 ⟨(Nat.le_of_ble_eq_true rfl), (Nat.le_of_ble_eq_true rfl)⟩) hP hD hS hA [4, 5, 6, 7, 8, 9, 10, 11, 12, 13, 14] [0, 1, 2, 3] rfl rfl (by decide) (by decide) (fun u37 H locs hu37 hP hD hS => ?_)
      have eu37 := hu37
      obtain ⟨ky_37, vl_37, lf_37, rt_37, ct_37, ht_37, tt_37, sp_37, pa_37, ro_37, ss_37, dp_37, rn_37, od_37, kd_37⟩ := u37
      obtain ⟨hlf_37, hrt_37, hsp_37, hpa_37, hro_37, hrn_37, hkd_37⟩ : WF (ky_37, vl_37, lf_37, rt_37, ct_37, ht_37, tt_37, sp_37, pa_37, ro_37, ss_37, dp_37, rn_37, od_37, kd_37) := by rw [eu37]; exact wf_setAt (⟨hlf_34, hrt_34, hsp_34, hpa_34, hro_34, hrn_34, hkd_34⟩ : WF (ky_34, vl_34, lf_34, rt_34, ct_34, ht_34, tt_34, sp_34, pa_34, ro_34, ss_34, dp_34, rn_34, od_34, kd_34)) hy34
      have hP : va_P D vwCl ((wKd kq) ++ (wT ca kq a (ky_37, vl_37, lf_37, rt_37, ct_37, ht_37, tt_37, sp_37, pa_37, ro_37, ss_37, dp_37, rn_37, od_37, kd_37))) H := hP
      have hD : va_D A ((wKd kq) ++ (wT ca kq a (ky_37, vl_37, lf_37, rt_37, ct_37, ht_37, tt_37, sp_37, pa_37, ro_37, ss_37, dp_37, rn_37, od_37, kd_37))) := hD
      refine lv_iinc (v := (nI n + (-1))) (lv' := [(1, .int (nI n + (-1))), (0, .ref (a 0))]) hx hb dX8_climb_40 hl (k := 1) rfl rfl (by decide) rfl (fun ls hl => ?_)
      refine lv_goto (tgt := 7) hx hb dX8_climb_43 (by decide) ?_
      exact ih n (by omega) (ky_37, vl_37, lf_37, rt_37, ct_37, ht_37, tt_37, sp_37, pa_37, ro_37, ss_37, dp_37, rn_37, od_37, kd_37) _ _ _ ⟨(by omega), hlf_37, hrt_37, hsp_37, hpa_37, hro_37, hrn_37, hkd_37, (by rw [eu37, eu34, ey34]; exact hok), hg.trans ((climb_succ _ _).trans (by rw [eu37, eu34, ey34]; rfl)), hP, hD, hS, lv_sub hl [1, 0] rfl⟩
