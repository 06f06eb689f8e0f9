-- Tree.assign
set_option maxHeartbeats 4000000 in
set_option maxRecDepth 100000 in
theorem c_X8_assign (l : Launch) (D : va_G) (ca : Nat → ClassId) (kq a : Nat → Nat) (sz : Nat) (ky vl : Nat → Int32) (lf rt : Nat → Nat) (ct ht : Nat → Int32) (tt : Nat → Int64) (sp pa ro : Nat → Nat) (ss dp rn : Nat) (od : Int32) (kd : Nat) (key v : Int32) (hlf : ∀ k, lf k ≤ 60) (hrt : ∀ k, rt k ≤ 60) (hsp : ∀ k, sp k ≤ 60) (hpa : ∀ k, pa k ≤ 60) (hro : ∀ k, ro k ≤ 60) (hrn : rn ≤ 60) (hkd : kd < 4) (hs60 : ss ≤ 60) (hok : okAssign (ky, vl, lf, rt, ct, ht, tt, sp, pa, ro, ss, dp, rn, od, kd) key v) (hz9 : 0 < ss → ¬ sp (ss - 1) = 0): Met l yX8_assign wsX8_assign ({ frames := 65, cells := 0, slots := 0, locals := 1614 } : Room) (xPc D (TY ca) [.ref (a 0), .int key, .int v] ((wKd kq) ++ (wT ca kq a (ky, vl, lf, rt, ct, ht, tt, sp, pa, ro, ss, dp, rn, od, kd))) sz) (va_Qi (fun (r : Int32) (u : TS) => r = bI (f_assign (ky, vl, lf, rt, ct, ht, tt, sp, pa, ro, ss, dp, rn, od, kd) key v).1 ∧ u = (f_assign (ky, vl, lf, rt, ct, ht, tt, sp, pa, ro, ss, dp, rn, od, kd) key v).2) (xB D (fun t : TS => (wKd kq) ++ (wT ca kq a t)) (va_A ((wKd kq) ++ (wT ca kq a (ky, vl, lf, rt, ct, ht, tt, sp, pa, ro, ss, dp, rn, od, kd))) sz)) (va_A ((wKd kq) ++ (wT ca kq a (ky, vl, lf, rt, ct, ht, tt, sp, pa, ro, ss, dp, rn, od, kd))) sz)) 0 0 (va_A ((wKd kq) ++ (wT ca kq a (ky, vl, lf, rt, ct, ht, tt, sp, pa, ro, ss, dp, rn, od, kd))) sz) := by
  refine Met.ofW (cc := cX8_assign) (maxL := 5) (ret := (some .boolean)) (by decide) rfl ?_
  intro p e s m args below meth c s₁ B hml hv
  obtain ⟨rfl, hsz, hP, hKN, hD0⟩ := hv
  have hx := B.exec
  have hb := B.bytes
  have hr := B.returns
  have hts := atoms_spec (ws := wsX8_assign) B.pre
  have hown : s.vm.findClass RX8 = some m.cls := findClass_of_methodNamed B.named
  have hlocks := B.notSynchronized
  have inX8 : ∀ w ∈ wsX80, w ∈ wsX8_assign := by decide +kernel
  subst hsz
  have hD := hD0.self (sz := s.heap.size)
  generalize hAe : va_A ((wKd kq) ++ (wT ca kq a (ky, vl, lf, rt, ct, ht, tt, sp, pa, ro, ss, dp, rn, od, kd))) s.heap.size = A at hD ⊢
  have hA : ∀ q : Nat, s.heap.size ≤ q → A q := fun q h => by rw [← hAe]; exact Or.inr h
  have hS : va_S A s.heap s.heap [] := va_S.rf
  have hl := lv_entry ([.ref (a 0), .int key, .int v]) (n := 5) (Nat.le_of_ble_eq_true rfl)
  rw [lg_entry_eq]
  generalize (lg_sl ([.ref (a 0), .int key, .int v]) ++ List.replicate (5 - (lg_sl ([.ref (a 0), .int key, .int v])).length) Slot.unset).toArray = ls at hl ⊢
  have hl : lv_has ls 5 [(0, .ref (a 0)), (1, .int key), (2, .int v)] := hl
  refine lv_aload_n hx hb dX8_assign_0 rfl (lv_at hl 0 rfl) ?_
  refine lv_iload_n hx hb dX8_assign_1 rfl (lv_at hl 1 rfl) ?_
  refine xc_i (wr := wKd kq) (va_runV (As := [.int key]) (rest := []) ⟨hx, hb, hml, hown, hts⟩ (c_X8_trace l D ca kq a _ ky vl lf rt ct ht tt sp pa ro ss dp rn od kd key hlf hrt hsp hpa hro hrn) (cwV 1 hts gX8_assign_X8_trace rfl rfl rfl (by decide +kernel) ⟨(Nat.le_of_ble_eq_true rfl), (Nat.le_of_ble_eq_true rfl)⟩) (xPreV hKN hP hD [4, 5, 6, 7, 8, 9, 10, 11, 12, 13, 14] (by decide) rfl (q0 := 4) rfl rfl rfl) rfl rfl hl.1 rfl (lv_room (Nat.le_of_ble_eq_true rfl)) dX8_assign_2 ⟨(Nat.le_of_ble_eq_true rfl), (Nat.le_of_ble_eq_true rfl)⟩) hP hD hS hA [4, 5, 6, 7, 8, 9, 10, 11, 12, 13, 14] [0, 1, 2, 3] rfl rfl (by decide) (by decide) (fun r2 u2 H locs hu2 hP hD hS => ?_)
  obtain ⟨er2, eu2⟩ := hu2
  obtain ⟨y2, ey2⟩ : ∃ z, z = (f_trace (ky, vl, lf, rt, ct, ht, tt, sp, pa, ro, ss, dp, rn, od, kd) key).1 := ⟨_, rfl⟩
  rw [← ey2] at er2
  subst er2
  have hy2 : y2 ≤ 60 := by rw [ey2]; exact (wf_trace (⟨hlf, hrt, hsp, hpa, hro, hrn, hkd⟩ : WF (ky, vl, lf, rt, ct, ht, tt, sp, pa, ro, ss, dp, rn, od, kd)) key).1
  obtain ⟨ky_2, vl_2, lf_2, rt_2, ct_2, ht_2, tt_2, sp_2, pa_2, ro_2, ss_2, dp_2, rn_2, od_2, kd_2⟩ := u2
  obtain ⟨hlf_2, hrt_2, hsp_2, hpa_2, hro_2, hrn_2, hkd_2⟩ : WF (ky_2, vl_2, lf_2, rt_2, ct_2, ht_2, tt_2, sp_2, pa_2, ro_2, ss_2, dp_2, rn_2, od_2, kd_2) := by rw [eu2]; exact (wf_trace (⟨hlf, hrt, hsp, hpa, hro, hrn, hkd⟩ : WF (ky, vl, lf, rt, ct, ht, tt, sp, pa, ro, ss, dp, rn, od, kd)) key).2
  have hP : va_P D vwCl ((wKd kq) ++ (wT ca kq a (ky_2, vl_2, lf_2, rt_2, ct_2, ht_2, tt_2, sp_2, pa_2, ro_2, ss_2, dp_2, rn_2, od_2, kd_2))) H := hP
  have hD : va_D A ((wKd kq) ++ (wT ca kq a (ky_2, vl_2, lf_2, rt_2, ct_2, ht_2, tt_2, sp_2, pa_2, ro_2, ss_2, dp_2, rn_2, od_2, kd_2))) := hD
  have hss : ss_2 = ss := congrArg TS.ss eu2
  have hdp : dp_2 ≤ 60 := Nat.le_trans (Nat.le_of_eq (congrArg TS.dp eu2)) (trace_dp (ky, vl, lf, rt, ct, ht, tt, sp, pa, ro, ss, dp, rn, od, kd) key).1
  have hdp1 : y2 ≠ 0 → 0 < dp_2 := fun h9 => Nat.lt_of_lt_of_le ((trace_dp (ky, vl, lf, rt, ct, ht, tt, sp, pa, ro, ss, dp, rn, od, kd) key).2 (by rw [← ey2]; exact h9)) (Nat.le_of_eq (congrArg TS.dp eu2).symm)
  refine lv_istore_n (lv' := [(3, .int (nI y2)), (0, .ref (a 0)), (1, .int key), (2, .int v)]) hx hb dX8_assign_5 rfl hl (by decide) rfl (fun ls hl => ?_)
  refine lv_iload_n hx hb dX8_assign_6 rfl (lv_at hl 0 rfl) ?_
  refine lv_if_ne (tgt := 21) hx hb dX8_assign_7 (by decide) (fun c7 => ?_) (fun c7 => ?_)
  · skip
    have c7 : ¬ y2 = 0 := fun h9 => c7 ((xn_eq (a := y2) (b := 0) (Nat.lt_of_le_of_lt hy2 (by decide)) (by decide)).mpr h9)
    refine lv_iconst (v := 0) hx hb dX8_assign_21 (by decide) ?_
    refine lv_istore (lv' := [(4, .int 0), (3, .int (nI y2)), (0, .ref (a 0)), (1, .int key), (2, .int v)]) hx hb dX8_assign_22 hl (by decide) rfl (fun ls hl => ?_)
    refine lv_iload hx hb dX8_assign_24 (lv_at hl 0 rfl) ?_
    refine lv_if_eq (tgt := 35) hx hb dX8_assign_26 (by decide) (fun c26 => ?_) (fun c26 => ?_)
    · skip
      refine lv_iload_n hx hb dX8_assign_35 rfl (lv_at hl 1 rfl) ?_
      refine lv_if_eq (tgt := 50) hx hb dX8_assign_36 (by decide) (fun c36 => ?_) (fun c36 => ?_)
      · skip
        exact absurd ((xn_eq (a := y2) (b := 0) (Nat.lt_of_le_of_lt hy2 (by decide)) (by decide)).mp c36) c7
      · skip
        refine lv_aload_n hx hb dX8_assign_39 rfl (lv_at hl 2 rfl) ?_
        refine va_get (D := D) (ci := 6) (v := .ref (a 2)) (C := RX8) (T := TX8) (N := 15) hx hb hts inX8 hown hKN.1 hP 4 rfl rfl 1 (by decide) (hts (.fieldLink RX8 15 "TreeFamily$Tree" "values" "[I") (by decide +kernel)) (fun _ h9 => h9) rfl dX8_assign_40 ?_
        refine lv_iload_n hx hb dX8_assign_43 rfl (lv_at hl 1 rfl) ?_
        refine lv_iload_n hx hb dX8_assign_44 rfl (lv_at hl 4 rfl) ?_
        refine xr_ist hx hb hKN.1 hP hD hS 6 0 rfl rfl (j := y2) (Nat.lt_of_le_of_lt hy2 (by decide)) (by decide) dX8_assign_45 (fun H locs hP hD hS => ?_)
        have hP : va_P D vwCl ((wKd kq) ++ (wT ca kq a (ky_2, (upd vl_2 y2 v), lf_2, rt_2, ct_2, ht_2, tt_2, sp_2, pa_2, ro_2, ss_2, dp_2, rn_2, od_2, kd_2))) H := hP
        have hD : va_D A ((wKd kq) ++ (wT ca kq a (ky_2, (upd vl_2 y2 v), lf_2, rt_2, ct_2, ht_2, tt_2, sp_2, pa_2, ro_2, ss_2, dp_2, rn_2, od_2, kd_2))) := hD
        refine lv_aload_n hx hb dX8_assign_46 rfl (lv_at hl 2 rfl) ?_
        refine xc_v (wr := []) (va_runV (As := []) (rest := []) ⟨hx, hb, hml, hown, hts⟩ (c_X8_climb l D ca kq a _ ky_2 (upd vl_2 y2 v) lf_2 rt_2 ct_2 ht_2 tt_2 sp_2 pa_2 ro_2 ss_2 dp_2 rn_2 od_2 kd_2 hlf_2 hrt_2 hsp_2 hpa_2 hro_2 hrn_2 hkd_2 (by omega) (by have h9 := hok.2 (by rw [← ey2]; exact c7); rw [← eu2, ← ey2] at h9; exact h9)) (cwV 0 hts gX8_assign_X8_climb rfl rfl rfl (by decide +kernel) ⟨(Nat.le_of_ble_eq_true rfl), (Nat.le_of_ble_eq_true rfl)⟩) (xPreV hKN hP hD [0, 1, 2, 3, 4, 5, 6, 7, 8, 9, 10, 11, 12, 13, 14] (by decide) rfl (q0 := 4) rfl rfl rfl) rfl rfl hl.1 rfl (lv_room (Nat.le_of_ble_eq_true rfl)) dX8_assign_47 ⟨(Nat.le_of_ble_eq_true rfl), (Nat.le_of_ble_eq_true rfl)⟩) hP hD hS hA [0, 1, 2, 3, 4, 5, 6, 7, 8, 9, 10, 11, 12, 13, 14] [] rfl rfl (by decide) (by decide) (fun u47 H locs hu47 hP hD hS => ?_)
        refine lv_iload hx hb dX8_assign_50 (lv_at hl 0 rfl) ?_
        exact W.zret (v := 0) hx hb hr (by decide) (fun t9 e9 w9 => ⟨⟨_, u47, rfl, by rw [assign_old (by rw [← ey2]; exact c7), ← eu2, ← ey2]; exact ⟨rfl, hu47⟩, by rw [e9]; exact hP, hD⟩, hS.F e9⟩) hS.2.2 dX8_assign_52
    · skip
      exact absurd c26 (by decide)
  · skip
    have c7 : y2 = 0 := (xn_eq (a := y2) (b := 0) (Nat.lt_of_le_of_lt hy2 (by decide)) (by decide)).mp c7
    refine lv_aload_n hx hb dX8_assign_10 rfl (lv_at hl 1 rfl) ?_
    refine va_get (D := D) (ci := 6) (v := .int (nI ss_2)) (C := RX8) (T := TX8) (N := 15) hx hb hts inX8 hown hKN.1 hP 4 rfl rfl 10 (by decide) (hts (.fieldLink RX8 61 "TreeFamily$Tree" "spares" "I") (by decide +kernel)) (fun _ h9 => h9) rfl dX8_assign_11 ?_
    refine lv_if_le (tgt := 21) hx hb dX8_assign_14 (by decide) (fun c14 => ?_) (fun c14 => ?_)
    · skip
      have c14 : ss_2 ≤ 0 := (xn_le (a := ss_2) (b := 0) (by omega) (by decide)).mp c14
      refine lv_iconst (v := 0) hx hb dX8_assign_21 (by decide) ?_
      refine lv_istore (lv' := [(4, .int 0), (3, .int (nI y2)), (0, .ref (a 0)), (1, .int key), (2, .int v)]) hx hb dX8_assign_22 hl (by decide) rfl (fun ls hl => ?_)
      refine lv_iload hx hb dX8_assign_24 (lv_at hl 0 rfl) ?_
      refine lv_if_eq (tgt := 35) hx hb dX8_assign_26 (by decide) (fun c26 => ?_) (fun c26 => ?_)
      · skip
        refine lv_iload_n hx hb dX8_assign_35 rfl (lv_at hl 1 rfl) ?_
        refine lv_if_eq (tgt := 50) hx hb dX8_assign_36 (by decide) (fun c36 => ?_) (fun c36 => ?_)
        · skip
          refine lv_iload hx hb dX8_assign_50 (lv_at hl 0 rfl) ?_
          exact W.zret (v := 0) hx hb hr (by decide) (fun t9 e9 w9 => ⟨⟨_, (ky_2, vl_2, lf_2, rt_2, ct_2, ht_2, tt_2, sp_2, pa_2, ro_2, ss_2, dp_2, rn_2, od_2, kd_2), rfl, by rw [assign_full (by rw [← ey2]; exact c7) (by rw [← eu2]; exact Nat.not_lt.mpr c14), ← eu2]; exact ⟨rfl, rfl⟩, by rw [e9]; exact hP, hD⟩, hS.F e9⟩) hS.2.2 dX8_assign_52
        · skip
          exact absurd c7 (fun h9 => c36 (congrArg nI h9))
      · skip
        exact absurd c26 (by decide)
    · skip
      have c14 : ¬ ss_2 ≤ 0 := fun h9 => c14 ((xn_le (a := ss_2) (b := 0) (by omega) (by decide)).mpr h9)
      refine lv_iconst (v := 1) hx hb dX8_assign_17 (by decide) ?_
      refine lv_goto (tgt := 22) hx hb dX8_assign_18 (by decide) ?_
      refine lv_istore (lv' := [(4, .int 1), (3, .int (nI y2)), (0, .ref (a 0)), (1, .int key), (2, .int v)]) hx hb dX8_assign_22 hl (by decide) rfl (fun ls hl => ?_)
      refine lv_iload hx hb dX8_assign_24 (lv_at hl 0 rfl) ?_
      refine lv_if_eq (tgt := 35) hx hb dX8_assign_26 (by decide) (fun c26 => ?_) (fun c26 => ?_)
      · skip
        exact absurd c26 (by decide)
      · skip
        refine lv_aload_n hx hb dX8_assign_29 rfl (lv_at hl 2 rfl) ?_
        refine lv_iload_n hx hb dX8_assign_30 rfl (lv_at hl 3 rfl) ?_
        refine xc_i (wr := wKd kq) (va_runV (As := [.int key]) (rest := []) ⟨hx, hb, hml, hown, hts⟩ (c_X8_hang l D ca kq a _ ky_2 vl_2 lf_2 rt_2 ct_2 ht_2 tt_2 sp_2 pa_2 ro_2 ss_2 dp_2 rn_2 od_2 kd_2 key hlf_2 hrt_2 hsp_2 hpa_2 hro_2 hrn_2 (by omega) (by omega) hdp) (cwV 1 hts gX8_assign_X8_hang rfl rfl rfl (by decide +kernel) ⟨(Nat.le_of_ble_eq_true rfl), (Nat.le_of_ble_eq_true rfl)⟩) (xPreV hKN hP hD [4, 5, 6, 7, 8, 9, 10, 11, 12, 13, 14] (by decide) rfl (q0 := 4) rfl rfl rfl) rfl rfl hl.1 rfl (lv_room (Nat.le_of_ble_eq_true rfl)) dX8_assign_31 ⟨(Nat.le_of_ble_eq_true rfl), (Nat.le_of_ble_eq_true rfl)⟩) hP hD hS hA [4, 5, 6, 7, 8, 9, 10, 11, 12, 13, 14] [0, 1, 2, 3] rfl rfl (by decide) (by decide) (fun r31 u31 H locs hu31 hP hD hS => ?_)
        obtain ⟨er31, eu31⟩ := hu31
        subst er31
        obtain ⟨ky_31, vl_31, lf_31, rt_31, ct_31, ht_31, tt_31, sp_31, pa_31, ro_31, ss_31, dp_31, rn_31, od_31, kd_31⟩ := u31
        obtain ⟨hlf_31, hrt_31, hsp_31, hpa_31, hro_31, hrn_31, hkd_31⟩ : WF (ky_31, vl_31, lf_31, rt_31, ct_31, ht_31, tt_31, sp_31, pa_31, ro_31, ss_31, dp_31, rn_31, od_31, kd_31) := by rw [eu31]; exact wf_hang (⟨hlf_2, hrt_2, hsp_2, hpa_2, hro_2, hrn_2, hkd_2⟩ : WF (ky_2, vl_2, lf_2, rt_2, ct_2, ht_2, tt_2, sp_2, pa_2, ro_2, ss_2, dp_2, rn_2, od_2, kd_2)) key
        have hP : va_P D vwCl ((wKd kq) ++ (wT ca kq a (ky_31, vl_31, lf_31, rt_31, ct_31, ht_31, tt_31, sp_31, pa_31, ro_31, ss_31, dp_31, rn_31, od_31, kd_31))) H := hP
        have hD : va_D A ((wKd kq) ++ (wT ca kq a (ky_31, vl_31, lf_31, rt_31, ct_31, ht_31, tt_31, sp_31, pa_31, ro_31, ss_31, dp_31, rn_31, od_31, kd_31))) := hD
        have hdp31 : dp_31 ≤ 61 := Nat.le_trans (Nat.le_of_eq ((congrArg TS.dp eu31).trans (hang_dp _ _))) (Nat.succ_le_succ hdp)
        have hz8 : ¬ sp_2 (ss_2 - 1) = 0 := by rw [show sp_2 = sp from congrArg TS.sp eu2, hss]; exact hz9 (by omega)
        refine lv_istore_n (lv' := [(3, .int (nI (sp_2 (ss_2 - 1)))), (4, .int 1), (0, .ref (a 0)), (1, .int key), (2, .int v)]) hx hb dX8_assign_34 rfl hl (by decide) rfl (fun ls hl => ?_)
        refine lv_iload_n hx hb dX8_assign_35 rfl (lv_at hl 0 rfl) ?_
        refine lv_if_eq (tgt := 50) hx hb dX8_assign_36 (by decide) (fun c36 => ?_) (fun c36 => ?_)
        · skip
          exact absurd ((xn_eq (a := sp_2 (ss_2 - 1)) (b := 0) (Nat.lt_of_le_of_lt (hsp_2 _) (by decide)) (by decide)).mp c36) hz8
        · skip
          refine lv_aload_n hx hb dX8_assign_39 rfl (lv_at hl 2 rfl) ?_
          refine va_get (D := D) (ci := 6) (v := .ref (a 2)) (C := RX8) (T := TX8) (N := 15) hx hb hts inX8 hown hKN.1 hP 4 rfl rfl 1 (by decide) (hts (.fieldLink RX8 15 "TreeFamily$Tree" "values" "[I") (by decide +kernel)) (fun _ h9 => h9) rfl dX8_assign_40 ?_
          refine lv_iload_n hx hb dX8_assign_43 rfl (lv_at hl 0 rfl) ?_
          refine lv_iload_n hx hb dX8_assign_44 rfl (lv_at hl 4 rfl) ?_
          refine xr_ist hx hb hKN.1 hP hD hS 6 0 rfl rfl (j := sp_2 (ss_2 - 1)) (Nat.lt_of_le_of_lt (hsp_2 _) (by decide)) (by decide) dX8_assign_45 (fun H locs hP hD hS => ?_)
          have hP : va_P D vwCl ((wKd kq) ++ (wT ca kq a (ky_31, (upd vl_31 (sp_2 (ss_2 - 1)) v), lf_31, rt_31, ct_31, ht_31, tt_31, sp_31, pa_31, ro_31, ss_31, dp_31, rn_31, od_31, kd_31))) H := hP
          have hD : va_D A ((wKd kq) ++ (wT ca kq a (ky_31, (upd vl_31 (sp_2 (ss_2 - 1)) v), lf_31, rt_31, ct_31, ht_31, tt_31, sp_31, pa_31, ro_31, ss_31, dp_31, rn_31, od_31, kd_31))) := hD
          refine lv_aload_n hx hb dX8_assign_46 rfl (lv_at hl 2 rfl) ?_
          refine xc_v (wr := []) (va_runV (As := []) (rest := []) ⟨hx, hb, hml, hown, hts⟩ (c_X8_climb l D ca kq a _ ky_31 (upd vl_31 (sp_2 (ss_2 - 1)) v) lf_31 rt_31 ct_31 ht_31 tt_31 sp_31 pa_31 ro_31 ss_31 dp_31 rn_31 od_31 kd_31 hlf_31 hrt_31 hsp_31 hpa_31 hro_31 hrn_31 hkd_31 hdp31 (by have h9 := hok.1 (by rw [← ey2]; exact c7) (by rw [← eu2]; exact Nat.not_le.mp c14); rw [← eu2, ← eu31] at h9; exact h9)) (cwV 0 hts gX8_assign_X8_climb rfl rfl rfl (by decide +kernel) ⟨(Nat.le_of_ble_eq_true rfl), (Nat.le_of_ble_eq_true rfl)⟩) (xPreV hKN hP hD [0, 1, 2, 3, 4, 5, 6, 7, 8, 9, 10, 11, 12, 13, 14] (by decide) rfl (q0 := 4) rfl rfl rfl) rfl rfl hl.1 rfl (lv_room (Nat.le_of_ble_eq_true rfl)) dX8_assign_47 ⟨(Nat.le_of_ble_eq_true rfl), (Nat.le_of_ble_eq_true rfl)⟩) hP hD hS hA [0, 1, 2, 3, 4, 5, 6, 7, 8, 9, 10, 11, 12, 13, 14] [] rfl rfl (by decide) (by decide) (fun u47 H locs hu47 hP hD hS => ?_)
          refine lv_iload hx hb dX8_assign_50 (lv_at hl 1 rfl) ?_
          exact W.zret (v := 1) hx hb hr (by decide) (fun t9 e9 w9 => ⟨⟨_, u47, rfl, by rw [assign_new (by rw [← ey2]; exact c7) (by rw [← eu2]; exact Nat.not_le.mp c14), ← eu2, ← eu31]; exact ⟨rfl, hu47⟩, by rw [e9]; exact hP, hD⟩, hS.F e9⟩) hS.2.2 dX8_assign_52

-- Tree.delete
set_option maxHeartbeats 4000000 in
set_option maxRecDepth 100000 in
theorem c_X8_delete (l : Launch) (D : va_G) (ca : Nat → ClassId) (kq a : Nat → Nat) (sz : Nat) (ky vl : Nat → Int32) (lf rt : Nat → Nat) (ct ht : Nat → Int32) (tt : Nat → Int64) (sp pa ro : Nat → Nat) (ss dp rn : Nat) (od : Int32) (kd : Nat) (key : Int32) (hlf : ∀ k, lf k ≤ 60) (hrt : ∀ k, rt k ≤ 60) (hsp : ∀ k, sp k ≤ 60) (hpa : ∀ k, pa k ≤ 60) (hro : ∀ k, ro k ≤ 60) (hrn : rn ≤ 60) (hkd : kd < 4) (hok : okDelete (ky, vl, lf, rt, ct, ht, tt, sp, pa, ro, ss, dp, rn, od, kd) key): Met l yX8_delete wsX8_delete ({ frames := 65, cells := 0, slots := 0, locals := 1614 } : Room) (xPc D (TY ca) [.ref (a 0), .int key] ((wKd kq) ++ (wT ca kq a (ky, vl, lf, rt, ct, ht, tt, sp, pa, ro, ss, dp, rn, od, kd))) sz) (va_Qi (fun (r : Int32) (u : TS) => r = bI (f_delete (ky, vl, lf, rt, ct, ht, tt, sp, pa, ro, ss, dp, rn, od, kd) key).1 ∧ u = (f_delete (ky, vl, lf, rt, ct, ht, tt, sp, pa, ro, ss, dp, rn, od, kd) key).2) (xB D (fun t : TS => (wKd kq) ++ (wT ca kq a t)) (va_A ((wKd kq) ++ (wT ca kq a (ky, vl, lf, rt, ct, ht, tt, sp, pa, ro, ss, dp, rn, od, kd))) sz)) (va_A ((wKd kq) ++ (wT ca kq a (ky, vl, lf, rt, ct, ht, tt, sp, pa, ro, ss, dp, rn, od, kd))) sz)) 0 0 (va_A ((wKd kq) ++ (wT ca kq a (ky, vl, lf, rt, ct, ht, tt, sp, pa, ro, ss, dp, rn, od, kd))) sz) := by
  refine Met.ofW (cc := cX8_delete) (maxL := 4) (ret := (some .boolean)) (by decide) rfl ?_
  intro p e s m args below meth c s₁ B hml hv
  obtain ⟨rfl, hsz, hP, hKN, hD0⟩ := hv
  have hx := B.exec
  have hb := B.bytes
  have hr := B.returns
  have hts := atoms_spec (ws := wsX8_delete) B.pre
  have hown : s.vm.findClass RX8 = some m.cls := findClass_of_methodNamed B.named
  have hlocks := B.notSynchronized
  have inX8 : ∀ w ∈ wsX80, w ∈ wsX8_delete := by decide +kernel
  subst hsz
  have hD := hD0.self (sz := s.heap.size)
  generalize hAe : va_A ((wKd kq) ++ (wT ca kq a (ky, vl, lf, rt, ct, ht, tt, sp, pa, ro, ss, dp, rn, od, kd))) s.heap.size = A at hD ⊢
  have hA : ∀ q : Nat, s.heap.size ≤ q → A q := fun q h => by rw [← hAe]; exact Or.inr h
  have hS : va_S A s.heap s.heap [] := va_S.rf
  have hl := lv_entry ([.ref (a 0), .int key]) (n := 4) (Nat.le_of_ble_eq_true rfl)
  rw [lg_entry_eq]
  generalize (lg_sl ([.ref (a 0), .int key]) ++ List.replicate (4 - (lg_sl ([.ref (a 0), .int key])).length) Slot.unset).toArray = ls at hl ⊢
  have hl : lv_has ls 4 [(0, .ref (a 0)), (1, .int key)] := hl
  refine lv_aload_n hx hb dX8_delete_0 rfl (lv_at hl 0 rfl) ?_
  refine lv_iload_n hx hb dX8_delete_1 rfl (lv_at hl 1 rfl) ?_
  refine xc_i (wr := wKd kq) (va_runV (As := [.int key]) (rest := []) ⟨hx, hb, hml, hown, hts⟩ (c_X8_trace l D ca kq a _ ky vl lf rt ct ht tt sp pa ro ss dp rn od kd key hlf hrt hsp hpa hro hrn) (cwV 1 hts gX8_delete_X8_trace rfl rfl rfl (by decide +kernel) ⟨(Nat.le_of_ble_eq_true rfl), (Nat.le_of_ble_eq_true rfl)⟩) (xPreV hKN hP hD [4, 5, 6, 7, 8, 9, 10, 11, 12, 13, 14] (by decide) rfl (q0 := 4) rfl rfl rfl) rfl rfl hl.1 rfl (lv_room (Nat.le_of_ble_eq_true rfl)) dX8_delete_2 ⟨(Nat.le_of_ble_eq_true rfl), (Nat.le_of_ble_eq_true rfl)⟩) hP hD hS hA [4, 5, 6, 7, 8, 9, 10, 11, 12, 13, 14] [0, 1, 2, 3] rfl rfl (by decide) (by decide) (fun r2 u2 H locs hu2 hP hD hS => ?_)
  obtain ⟨er2, eu2⟩ := hu2
  obtain ⟨y2, ey2⟩ : ∃ z, z = (f_trace (ky, vl, lf, rt, ct, ht, tt, sp, pa, ro, ss, dp, rn, od, kd) key).1 := ⟨_, rfl⟩
  rw [← ey2] at er2
  subst er2
  have hy2 : y2 ≤ 60 := by rw [ey2]; exact (wf_trace (⟨hlf, hrt, hsp, hpa, hro, hrn, hkd⟩ : WF (ky, vl, lf, rt, ct, ht, tt, sp, pa, ro, ss, dp, rn, od, kd)) key).1
  obtain ⟨ky_2, vl_2, lf_2, rt_2, ct_2, ht_2, tt_2, sp_2, pa_2, ro_2, ss_2, dp_2, rn_2, od_2, kd_2⟩ := u2
  obtain ⟨hlf_2, hrt_2, hsp_2, hpa_2, hro_2, hrn_2, hkd_2⟩ : WF (ky_2, vl_2, lf_2, rt_2, ct_2, ht_2, tt_2, sp_2, pa_2, ro_2, ss_2, dp_2, rn_2, od_2, kd_2) := by rw [eu2]; exact (wf_trace (⟨hlf, hrt, hsp, hpa, hro, hrn, hkd⟩ : WF (ky, vl, lf, rt, ct, ht, tt, sp, pa, ro, ss, dp, rn, od, kd)) key).2
  have hP : va_P D vwCl ((wKd kq) ++ (wT ca kq a (ky_2, vl_2, lf_2, rt_2, ct_2, ht_2, tt_2, sp_2, pa_2, ro_2, ss_2, dp_2, rn_2, od_2, kd_2))) H := hP
  have hD : va_D A ((wKd kq) ++ (wT ca kq a (ky_2, vl_2, lf_2, rt_2, ct_2, ht_2, tt_2, sp_2, pa_2, ro_2, ss_2, dp_2, rn_2, od_2, kd_2))) := hD
  have hss : ss_2 = ss := congrArg TS.ss eu2
  have hdp : dp_2 ≤ 60 := Nat.le_trans (Nat.le_of_eq (congrArg TS.dp eu2)) (trace_dp (ky, vl, lf, rt, ct, ht, tt, sp, pa, ro, ss, dp, rn, od, kd) key).1
  have hdp1 : y2 ≠ 0 → 0 < dp_2 := fun h9 => Nat.lt_of_lt_of_le ((trace_dp (ky, vl, lf, rt, ct, ht, tt, sp, pa, ro, ss, dp, rn, od, kd) key).2 (by rw [← ey2]; exact h9)) (Nat.le_of_eq (congrArg TS.dp eu2).symm)
  refine lv_istore_n (lv' := [(2, .int (nI y2)), (0, .ref (a 0)), (1, .int key)]) hx hb dX8_delete_5 rfl hl (by decide) rfl (fun ls hl => ?_)
  refine lv_iload_n hx hb dX8_delete_6 rfl (lv_at hl 0 rfl) ?_
  refine lv_if_ne (tgt := 12) hx hb dX8_delete_7 (by decide) (fun c7 => ?_) (fun c7 => ?_)
  · skip
    have c7 : ¬ y2 = 0 := fun h9 => c7 ((xn_eq (a := y2) (b := 0) (Nat.lt_of_le_of_lt hy2 (by decide)) (by decide)).mpr h9)
    refine lv_aload_n hx hb dX8_delete_12 rfl (lv_at hl 1 rfl) ?_
    refine va_get (D := D) (ci := 6) (v := .ref (a 3)) (C := RX8) (T := TX8) (N := 15) hx hb hts inX8 hown hKN.1 hP 4 rfl rfl 2 (by decide) (hts (.fieldLink RX8 18 "TreeFamily$Tree" "left" "[I") (by decide +kernel)) (fun _ h9 => h9) rfl dX8_delete_13 ?_
    refine lv_iload_n hx hb dX8_delete_16 rfl (lv_at hl 0 rfl) ?_
    refine xr_ild hx hb hKN.1 hP 7 0 rfl rfl (j := y2) (Nat.lt_of_le_of_lt hy2 (by decide)) (by decide) dX8_delete_17 ?_
    refine lv_if_eq (tgt := 35) hx hb dX8_delete_18 (by decide) (fun c18 => ?_) (fun c18 => ?_)
    · skip
      have c18 : (lf_2 y2) = 0 := (xn_eq (a := (lf_2 y2)) (b := 0) (Nat.lt_of_le_of_lt (hlf_2 y2) (by decide)) (by decide)).mp c18
      have hdp2 := hdp1 c7
      have hdpA : 0 < dp_2 ∧ dp_2 ≤ 60 := ⟨hdp2, hdp⟩
      have ed1 : del_t1 (ky, vl, lf, rt, ct, ht, tt, sp, pa, ro, ss, dp, rn, od, kd) key = (ky_2, vl_2, lf_2, rt_2, ct_2, ht_2, tt_2, sp_2, pa_2, ro_2, ss_2, dp_2, rn_2, od_2, kd_2) := by unfold del_t1; rw [← ey2, ← eu2, if_neg (fun h9 => by first | exact h9.1 c18 | exact h9.2 c27)]
      refine lv_aload_n hx hb dX8_delete_35 rfl (lv_at hl 1 rfl) ?_
      refine lv_dup hx hb dX8_delete_36 rfl ?_
      refine va_get (D := D) (ci := 6) (v := .int (nI dp_2)) (C := RX8) (T := TX8) (N := 15) hx hb hts inX8 hown hKN.1 hP 4 rfl rfl 11 (by decide) (hts (.fieldLink RX8 58 "TreeFamily$Tree" "depth" "I") (by decide +kernel)) (fun _ h9 => h9) rfl dX8_delete_37 ?_
      refine lv_iconst (v := 1) hx hb dX8_delete_40 (by decide) ?_
      refine lv_isub hx hb dX8_delete_41 ?_
      refine xr_top (y := nI (dp_2 - 1)) (pk_sub (a := dp_2) (b := 1) (by omega)) ?_
      refine va_put (D := D) (ci := 6) (v := .int (nI (dp_2 - 1))) (ty := .int) (C := RX8) (T := TX8) (N := 15) hx hb hts inX8 tyX8 tyX8_ok nmX8 hown hKN.1 hP hD hS 4 rfl rfl 11 (by decide) (hts (.fieldLink RX8 58 "TreeFamily$Tree" "depth" "I") (by decide +kernel)) (fun _ h9 => h9) rfl (by decide +kernel) rfl rfl (Nat.le_of_ble_eq_true rfl) dX8_delete_42 (fun H locs hP hD hS => ?_)
      have hP : va_P D vwCl ((wKd kq) ++ (wT ca kq a (ky_2, vl_2, lf_2, rt_2, ct_2, ht_2, tt_2, sp_2, pa_2, ro_2, ss_2, (dp_2 - 1), rn_2, od_2, kd_2))) H := hP
      have hD : va_D A ((wKd kq) ++ (wT ca kq a (ky_2, vl_2, lf_2, rt_2, ct_2, ht_2, tt_2, sp_2, pa_2, ro_2, ss_2, (dp_2 - 1), rn_2, od_2, kd_2))) := hD
      refine lv_aload_n hx hb dX8_delete_45 rfl (lv_at hl 1 rfl) ?_
      refine va_get (D := D) (ci := 6) (v := .ref (a 9)) (C := RX8) (T := TX8) (N := 15) hx hb hts inX8 hown hKN.1 hP 4 rfl rfl 8 (by decide) (hts (.fieldLink RX8 37 "TreeFamily$Tree" "path" "[I") (by decide +kernel)) (fun _ h9 => h9) rfl dX8_delete_46 ?_
      refine lv_aload_n hx hb dX8_delete_49 rfl (lv_at hl 1 rfl) ?_
      refine va_get (D := D) (ci := 6) (v := .int (nI (dp_2 - 1))) (C := RX8) (T := TX8) (N := 15) hx hb hts inX8 hown hKN.1 hP 4 rfl rfl 11 (by decide) (hts (.fieldLink RX8 58 "TreeFamily$Tree" "depth" "I") (by decide +kernel)) (fun _ h9 => h9) rfl dX8_delete_50 ?_
      refine xr_ild hx hb hKN.1 hP 13 0 rfl rfl (j := (dp_2 - 1)) (by omega) (by decide) dX8_delete_53 ?_
      refine lv_istore_n (lv' := [(3, .int (nI (pa_2 (dp_2 - 1)))), (2, .int (nI y2)), (0, .ref (a 0)), (1, .int key)]) hx hb dX8_delete_54 rfl hl (by decide) rfl (fun ls hl => ?_)
      refine lv_aload_n hx hb dX8_delete_55 rfl (lv_at hl 2 rfl) ?_
      refine lv_aload_n hx hb dX8_delete_56 rfl (lv_at hl 2 rfl) ?_
      refine va_get (D := D) (ci := 6) (v := .int (nI (dp_2 - 1))) (C := RX8) (T := TX8) (N := 15) hx hb hts inX8 hown hKN.1 hP 4 rfl rfl 11 (by decide) (hts (.fieldLink RX8 58 "TreeFamily$Tree" "depth" "I") (by decide +kernel)) (fun _ h9 => h9) rfl dX8_delete_57 ?_
      refine lv_aload_n hx hb dX8_delete_60 rfl (lv_at hl 2 rfl) ?_
      refine va_get (D := D) (ci := 6) (v := .ref (a 3)) (C := RX8) (T := TX8) (N := 15) hx hb hts inX8 hown hKN.1 hP 4 rfl rfl 2 (by decide) (hts (.fieldLink RX8 18 "TreeFamily$Tree" "left" "[I") (by decide +kernel)) (fun _ h9 => h9) rfl dX8_delete_61 ?_
      refine lv_iload_n hx hb dX8_delete_64 rfl (lv_at hl 0 rfl) ?_
      refine xr_ild hx hb hKN.1 hP 7 0 rfl rfl (j := pa_2 (dp_2 - 1)) (Nat.lt_of_le_of_lt (hpa_2 (dp_2 - 1)) (by decide)) (by decide) dX8_delete_65 ?_
      refine lv_if_eq (tgt := 78) hx hb dX8_delete_66 (by decide) (fun c66 => ?_) (fun c66 => ?_)
      · skip
        have c66 : (lf_2 (pa_2 (dp_2 - 1))) = 0 := (xn_eq (a := (lf_2 (pa_2 (dp_2 - 1)))) (b := 0) (Nat.lt_of_le_of_lt (hlf_2 (pa_2 (dp_2 - 1))) (by decide)) (by decide)).mp c66
        refine lv_aload_n hx hb dX8_delete_78 rfl (lv_at hl 2 rfl) ?_
        refine va_get (D := D) (ci := 6) (v := .ref (a 4)) (C := RX8) (T := TX8) (N := 15) hx hb hts inX8 hown hKN.1 hP 4 rfl rfl 3 (by decide) (hts (.fieldLink RX8 21 "TreeFamily$Tree" "right" "[I") (by decide +kernel)) (fun _ h9 => h9) rfl dX8_delete_79 ?_
        refine lv_iload_n hx hb dX8_delete_82 rfl (lv_at hl 0 rfl) ?_
        refine xr_ild hx hb hKN.1 hP 8 0 rfl rfl (j := pa_2 (dp_2 - 1)) (Nat.lt_of_le_of_lt (hpa_2 (dp_2 - 1)) (by decide)) (by decide) dX8_delete_83 ?_
        refine xr_top (y := nI (if lf_2 (pa_2 (dp_2 - 1)) ≠ 0 then lf_2 (pa_2 (dp_2 - 1)) else rt_2 (pa_2 (dp_2 - 1)))) (congrArg nI (by first | exact (if_neg (fun h9 => h9 c66)).symm | exact (if_pos c66).symm)) ?_
        have hif : (if lf_2 (pa_2 (dp_2 - 1)) ≠ 0 then lf_2 (pa_2 (dp_2 - 1)) else rt_2 (pa_2 (dp_2 - 1))) ≤ 60 := by split <;> first | exact hlf_2 _ | exact hrt_2 _
        refine xc_v (wr := wKd kq) (va_runV (As := [.int (nI (dp_2 - 1)), .int (nI (if lf_2 (pa_2 (dp_2 - 1)) ≠ 0 then lf_2 (pa_2 (dp_2 - 1)) else rt_2 (pa_2 (dp_2 - 1))))]) (rest := []) ⟨hx, hb, hml, hown, hts⟩ (c_X8_setAt l D ca kq a _ ky_2 vl_2 lf_2 rt_2 ct_2 ht_2 tt_2 sp_2 pa_2 ro_2 ss_2 (dp_2 - 1) rn_2 od_2 kd_2 (dp_2 - 1) (if lf_2 (pa_2 (dp_2 - 1)) ≠ 0 then lf_2 (pa_2 (dp_2 - 1)) else rt_2 (pa_2 (dp_2 - 1))) hlf_2 hrt_2 hsp_2 hpa_2 hro_2 hrn_2 (by omega) hif) (cwV 2 hts gX8_delete_X8_setAt rfl rfl rfl (by decide +kernel) ⟨(Nat.le_of_ble_eq_true rfl), (Nat.le_of_ble_eq_true rfl)⟩) (xPreV hKN hP hD [4, 5, 6, 7, 8, 9, 10, 11, 12, 13, 14] (by decide) rfl (q0 := 4) rfl rfl rfl) rfl rfl hl.1 rfl (lv_room (Nat.le_of_ble_eq_true rfl)) dX8_delete_84 ⟨(Nat.le_of_ble_eq_true rfl), (Nat.le_of_ble_eq_true rfl)⟩) hP hD hS hA [4, 5, 6, 7, 8, 9, 10, 11, 12, 13, 14] [0, 1, 2, 3] rfl rfl (by decide) (by decide) (fun u84 H locs hu84 hP hD hS => ?_)
        have eu84 := hu84
        obtain ⟨ky_84, vl_84, lf_84, rt_84, ct_84, ht_84, tt_84, sp_84, pa_84, ro_84, ss_84, dp_84, rn_84, od_84, kd_84⟩ := u84
        obtain ⟨hlf_84, hrt_84, hsp_84, hpa_84, hro_84, hrn_84, hkd_84⟩ : WF (ky_84, vl_84, lf_84, rt_84, ct_84, ht_84, tt_84, sp_84, pa_84, ro_84, ss_84, dp_84, rn_84, od_84, kd_84) := by rw [eu84]; exact wf_setAt (⟨hlf_2, hrt_2, hsp_2, hpa_2, hro_2, hrn_2, hkd_2⟩ : WF (ky_2, vl_2, lf_2, rt_2, ct_2, ht_2, tt_2, sp_2, pa_2, ro_2, ss_2, (dp_2 - 1), rn_2, od_2, kd_2)) hif
        have hP : va_P D vwCl ((wKd kq) ++ (wT ca kq a (ky_84, vl_84, lf_84, rt_84, ct_84, ht_84, tt_84, sp_84, pa_84, ro_84, ss_84, dp_84, rn_84, od_84, kd_84))) H := hP
        have hD : va_D A ((wKd kq) ++ (wT ca kq a (ky_84, vl_84, lf_84, rt_84, ct_84, ht_84, tt_84, sp_84, pa_84, ro_84, ss_84, dp_84, rn_84, od_84, kd_84))) := hD
        have hssC : ss_84 = ss := ((congrArg TS.ss eu84).trans (setAt_ss _ _ _)).trans hss
        have hdpC : dp_84 = (dp_2 - 1) := (congrArg TS.dp eu84).trans (setAt_dp _ _ _)
        have hs9 : ss < 60 := (hok (by rw [← ey2]; exact c7)).1
        refine lv_aload_n hx hb dX8_delete_87 rfl (lv_at hl 2 rfl) ?_
        refine va_get (D := D) (ci := 6) (v := .ref (a 8)) (C := RX8) (T := TX8) (N := 15) hx hb hts inX8 hown hKN.1 hP 4 rfl rfl 7 (by decide) (hts (.fieldLink RX8 34 "TreeFamily$Tree" "spare" "[I") (by decide +kernel)) (fun _ h9 => h9) rfl dX8_delete_88 ?_
        refine lv_aload_n hx hb dX8_delete_91 rfl (lv_at hl 2 rfl) ?_
        refine va_get (D := D) (ci := 6) (v := .int (nI ss_84)) (C := RX8) (T := TX8) (N := 15) hx hb hts inX8 hown hKN.1 hP 4 rfl rfl 10 (by decide) (hts (.fieldLink RX8 61 "TreeFamily$Tree" "spares" "I") (by decide +kernel)) (fun _ h9 => h9) rfl dX8_delete_92 ?_
        refine lv_iload_n hx hb dX8_delete_95 rfl (lv_at hl 0 rfl) ?_
        refine xr_nst hx hb hKN.1 hP hD hS 12 0 (g := sp_84) rfl rfl (j := ss_84) (v := pa_2 (dp_2 - 1)) (by omega) (by decide) dX8_delete_96 (fun H locs hP hD hS => ?_)
        have hP : va_P D vwCl ((wKd kq) ++ (wT ca kq a (ky_84, vl_84, lf_84, rt_84, ct_84, ht_84, tt_84, (va_up sp_84 ss_84 (pa_2 (dp_2 - 1))), pa_84, ro_84, ss_84, dp_84, rn_84, od_84, kd_84))) H := hP
        have hD : va_D A ((wKd kq) ++ (wT ca kq a (ky_84, vl_84, lf_84, rt_84, ct_84, ht_84, tt_84, (va_up sp_84 ss_84 (pa_2 (dp_2 - 1))), pa_84, ro_84, ss_84, dp_84, rn_84, od_84, kd_84))) := hD
        refine lv_aload_n hx hb dX8_delete_97 rfl (lv_at hl 2 rfl) ?_
        refine lv_dup hx hb dX8_delete_98 rfl ?_
        refine va_get (D := D) (ci := 6) (v := .int (nI ss_84)) (C := RX8) (T := TX8) (N := 15) hx hb hts inX8 hown hKN.1 hP 4 rfl rfl 10 (by decide) (hts (.fieldLink RX8 61 "TreeFamily$Tree" "spares" "I") (by decide +kernel)) (fun _ h9 => h9) rfl dX8_delete_99 ?_
        refine lv_iconst (v := 1) hx hb dX8_delete_102 (by decide) ?_
        refine lv_iadd hx hb dX8_delete_103 ?_
        refine xr_top (y := nI (ss_84 + 1)) (nI_add ss_84 1) ?_
        refine va_put (D := D) (ci := 6) (v := .int (nI (ss_84 + 1))) (ty := .int) (C := RX8) (T := TX8) (N := 15) hx hb hts inX8 tyX8 tyX8_ok nmX8 hown hKN.1 hP hD hS 4 rfl rfl 10 (by decide) (hts (.fieldLink RX8 61 "TreeFamily$Tree" "spares" "I") (by decide +kernel)) (fun _ h9 => h9) rfl (by decide +kernel) rfl rfl (Nat.le_of_ble_eq_true rfl) dX8_delete_104 (fun H locs hP hD hS => ?_)
        have hP : va_P D vwCl ((wKd kq) ++ (wT ca kq a (ky_84, vl_84, lf_84, rt_84, ct_84, ht_84, tt_84, (va_up sp_84 ss_84 (pa_2 (dp_2 - 1))), pa_84, ro_84, (ss_84 + 1), dp_84, rn_84, od_84, kd_84))) H := hP
        have hD : va_D A ((wKd kq) ++ (wT ca kq a (ky_84, vl_84, lf_84, rt_84, ct_84, ht_84, tt_84, (va_up sp_84 ss_84 (pa_2 (dp_2 - 1))), pa_84, ro_84, (ss_84 + 1), dp_84, rn_84, od_84, kd_84))) := hD
        have ecut : f_cut (del_t1 (ky, vl, lf, rt, ct, ht, tt, sp, pa, ro, ss, dp, rn, od, kd) key) = (ky_84, vl_84, lf_84, rt_84, ct_84, ht_84, tt_84, (va_up sp_84 ss_84 (pa_2 (dp_2 - 1))), pa_84, ro_84, (ss_84 + 1), dp_84, rn_84, od_84, kd_84) := by rw [ed1]; show (TS.ky (f_setAt _ _ _), _) = _; rw [show f_setAt (setPa (ky_2, vl_2, lf_2, rt_2, ct_2, ht_2, tt_2, sp_2, pa_2, ro_2, ss_2, dp_2, rn_2, od_2, kd_2) pa_2 (dp_2 - 1)) (dp_2 - 1) (if lf_2 (pa_2 (dp_2 - 1)) ≠ 0 then lf_2 (pa_2 (dp_2 - 1)) else rt_2 (pa_2 (dp_2 - 1))) = (ky_84, vl_84, lf_84, rt_84, ct_84, ht_84, tt_84, sp_84, pa_84, ro_84, ss_84, dp_84, rn_84, od_84, kd_84) from eu84.symm]
        have hokf : okClimb dp_84 (ky_84, vl_84, lf_84, rt_84, ct_84, ht_84, tt_84, (va_up sp_84 ss_84 (pa_2 (dp_2 - 1))), pa_84, ro_84, (ss_84 + 1), dp_84, rn_84, od_84, kd_84) := by have h9 := (hok (by rw [← ey2]; exact c7)).2; rw [ecut] at h9; exact h9
        have hdpf : dp_84 ≤ 61 := by omega
        refine lv_aload_n hx hb dX8_delete_107 rfl (lv_at hl 2 rfl) ?_
        refine xc_v (wr := []) (va_runV (As := []) (rest := []) ⟨hx, hb, hml, hown, hts⟩ (c_X8_climb l D ca kq a _ ky_84 vl_84 lf_84 rt_84 ct_84 ht_84 tt_84 (va_up sp_84 ss_84 (pa_2 (dp_2 - 1))) pa_84 ro_84 (ss_84 + 1) dp_84 rn_84 od_84 kd_84 hlf_84 hrt_84 (vu_le hsp_84 (hpa_2 (dp_2 - 1))) hpa_84 hro_84 hrn_84 hkd_84 hdpf hokf) (cwV 0 hts gX8_delete_X8_climb rfl rfl rfl (by decide +kernel) ⟨(Nat.le_of_ble_eq_true rfl), (Nat.le_of_ble_eq_true rfl)⟩) (xPreV hKN hP hD [0, 1, 2, 3, 4, 5, 6, 7, 8, 9, 10, 11, 12, 13, 14] (by decide) rfl (q0 := 4) rfl rfl rfl) rfl rfl hl.1 rfl (lv_room (Nat.le_of_ble_eq_true rfl)) dX8_delete_108 ⟨(Nat.le_of_ble_eq_true rfl), (Nat.le_of_ble_eq_true rfl)⟩) hP hD hS hA [0, 1, 2, 3, 4, 5, 6, 7, 8, 9, 10, 11, 12, 13, 14] [] rfl rfl (by decide) (by decide) (fun u108 H locs hu108 hP hD hS => ?_)
        refine lv_iconst (v := 1) hx hb dX8_delete_111 (by decide) ?_
        exact W.zret (v := 1) hx hb hr (by decide) (fun t9 e9 w9 => ⟨⟨_, u108, rfl, by rw [delete_some (by rw [← ey2]; exact c7), ecut]; exact ⟨rfl, hu108⟩, by rw [e9]; exact hP, hD⟩, hS.F e9⟩) hS.2.2 dX8_delete_112
      · skip
        have c66 : ¬ (lf_2 (pa_2 (dp_2 - 1))) = 0 := fun h9 => c66 ((xn_eq (a := (lf_2 (pa_2 (dp_2 - 1)))) (b := 0) (Nat.lt_of_le_of_lt (hlf_2 (pa_2 (dp_2 - 1))) (by decide)) (by decide)).mpr h9)
        refine lv_aload_n hx hb dX8_delete_69 rfl (lv_at hl 2 rfl) ?_
        refine va_get (D := D) (ci := 6) (v := .ref (a 3)) (C := RX8) (T := TX8) (N := 15) hx hb hts inX8 hown hKN.1 hP 4 rfl rfl 2 (by decide) (hts (.fieldLink RX8 18 "TreeFamily$Tree" "left" "[I") (by decide +kernel)) (fun _ h9 => h9) rfl dX8_delete_70 ?_
        refine lv_iload_n hx hb dX8_delete_73 rfl (lv_at hl 0 rfl) ?_
        refine xr_ild hx hb hKN.1 hP 7 0 rfl rfl (j := pa_2 (dp_2 - 1)) (Nat.lt_of_le_of_lt (hpa_2 (dp_2 - 1)) (by decide)) (by decide) dX8_delete_74 ?_
        refine lv_goto (tgt := 84) hx hb dX8_delete_75 (by decide) ?_
        refine xr_top (y := nI (if lf_2 (pa_2 (dp_2 - 1)) ≠ 0 then lf_2 (pa_2 (dp_2 - 1)) else rt_2 (pa_2 (dp_2 - 1)))) (congrArg nI (by first | exact (if_neg (fun h9 => h9 c66)).symm | exact (if_pos c66).symm)) ?_
        have hif : (if lf_2 (pa_2 (dp_2 - 1)) ≠ 0 then lf_2 (pa_2 (dp_2 - 1)) else rt_2 (pa_2 (dp_2 - 1))) ≤ 60 := by split <;> first | exact hlf_2 _ | exact hrt_2 _
        refine xc_v (wr := wKd kq) (va_runV (As := [.int (nI (dp_2 - 1)), .int (nI (if lf_2 (pa_2 (dp_2 - 1)) ≠ 0 then lf_2 (pa_2 (dp_2 - 1)) else rt_2 (pa_2 (dp_2 - 1))))]) (rest := []) ⟨hx, hb, hml, hown, hts⟩ (c_X8_setAt l D ca kq a _ ky_2 vl_2 lf_2 rt_2 ct_2 ht_2 tt_2 sp_2 pa_2 ro_2 ss_2 (dp_2 - 1) rn_2 od_2 kd_2 (dp_2 - 1) (if lf_2 (pa_2 (dp_2 - 1)) ≠ 0 then lf_2 (pa_2 (dp_2 - 1)) else rt_2 (pa_2 (dp_2 - 1))) hlf_2 hrt_2 hsp_2 hpa_2 hro_2 hrn_2 (by omega) hif) (cwV 2 hts gX8_delete_X8_setAt rfl rfl rfl (by decide +kernel) ⟨(Nat.le_of_ble_eq_true rfl), (Nat.le_of_ble_eq_true rfl)⟩) (xPreV hKN hP hD [4, 5, 6, 7, 8, 9, 10, 11, 12, 13, 14] (by decide) rfl (q0 := 4) rfl rfl rfl) rfl rfl hl.1 rfl (lv_room (Nat.le_of_ble_eq_true rfl)) dX8_delete_84 ⟨(Nat.le_of_ble_eq_true rfl), (Nat.le_of_ble_eq_true rfl)⟩) hP hD hS hA [4, 5, 6, 7, 8, 9, 10, 11, 12, 13, 14] [0, 1, 2, 3] rfl rfl (by decide) (by decide) (fun u84 H locs hu84 hP hD hS => ?_)
        have eu84 := hu84
        obtain ⟨ky_84, vl_84, lf_84, rt_84, ct_84, ht_84, tt_84, sp_84, pa_84, ro_84, ss_84, dp_84, rn_84, od_84, kd_84⟩ := u84
        obtain ⟨hlf_84, hrt_84, hsp_84, hpa_84, hro_84, hrn_84, hkd_84⟩ : WF (ky_84, vl_84, lf_84, rt_84, ct_84, ht_84, tt_84, sp_84, pa_84, ro_84, ss_84, dp_84, rn_84, od_84, kd_84) := by rw [eu84]; exact wf_setAt (⟨hlf_2, hrt_2, hsp_2, hpa_2, hro_2, hrn_2, hkd_2⟩ : WF (ky_2, vl_2, lf_2, rt_2, ct_2, ht_2, tt_2, sp_2, pa_2, ro_2, ss_2, (dp_2 - 1), rn_2, od_2, kd_2)) hif
        have hP : va_P D vwCl ((wKd kq) ++ (wT ca kq a (ky_84, vl_84, lf_84, rt_84, ct_84, ht_84, tt_84, sp_84, pa_84, ro_84, ss_84, dp_84, rn_84, od_84, kd_84))) H := hP
        have hD : va_D A ((wKd kq) ++ (wT ca kq a (ky_84, vl_84, lf_84, rt_84, ct_84, ht_84, tt_84, sp_84, pa_84, ro_84, ss_84, dp_84, rn_84, od_84, kd_84))) := hD
        have hssC : ss_84 = ss := ((congrArg TS.ss eu84).trans (setAt_ss _ _ _)).trans hss
        have hdpC : dp_84 = (dp_2 - 1) := (congrArg TS.dp eu84).trans (setAt_dp _ _ _)
        have hs9 : ss < 60 := (hok (by rw [← ey2]; exact c7)).1
        refine lv_aload_n hx hb dX8_delete_87 rfl (lv_at hl 2 rfl) ?_
        refine va_get (D := D) (ci := 6) (v := .ref (a 8)) (C := RX8) (T := TX8) (N := 15) hx hb hts inX8 hown hKN.1 hP 4 rfl rfl 7 (by decide) (hts (.fieldLink RX8 34 "TreeFamily$Tree" "spare" "[I") (by decide +kernel)) (fun _ h9 => h9) rfl dX8_delete_88 ?_
        refine lv_aload_n hx hb dX8_delete_91 rfl (lv_at hl 2 rfl) ?_
        refine va_get (D := D) (ci := 6) (v := .int (nI ss_84)) (C := RX8) (T := TX8) (N := 15) hx hb hts inX8 hown hKN.1 hP 4 rfl rfl 10 (by decide) (hts (.fieldLink RX8 61 "TreeFamily$Tree" "spares" "I") (by decide +kernel)) (fun _ h9 => h9) rfl dX8_delete_92 ?_
        refine lv_iload_n hx hb dX8_delete_95 rfl (lv_at hl 0 rfl) ?_
        refine xr_nst hx hb hKN.1 hP hD hS 12 0 (g := sp_84) rfl rfl (j := ss_84) (v := pa_2 (dp_2 - 1)) (by omega) (by decide) dX8_delete_96 (fun H locs hP hD hS => ?_)
        have hP : va_P D vwCl ((wKd kq) ++ (wT ca kq a (ky_84, vl_84, lf_84, rt_84, ct_84, ht_84, tt_84, (va_up sp_84 ss_84 (pa_2 (dp_2 - 1))), pa_84, ro_84, ss_84, dp_84, rn_84, od_84, kd_84))) H := hP
        have hD : va_D A ((wKd kq) ++ (wT ca kq a (ky_84, vl_84, lf_84, rt_84, ct_84, ht_84, tt_84, (va_up sp_84 ss_84 (pa_2 (dp_2 - 1))), pa_84, ro_84, ss_84, dp_84, rn_84, od_84, kd_84))) := hD
        refine lv_aload_n hx hb dX8_delete_97 rfl (lv_at hl 2 rfl) ?_
        refine lv_dup hx hb dX8_delete_98 rfl ?_
        refine va_get (D := D) (ci := 6) (v := .int (nI ss_84)) (C := RX8) (T := TX8) (N := 15) hx hb hts inX8 hown hKN.1 hP 4 rfl rfl 10 (by decide) (hts (.fieldLink RX8 61 "TreeFamily$Tree" "spares" "I") (by decide +kernel)) (fun _ h9 => h9) rfl dX8_delete_99 ?_
        refine lv_iconst (v := 1) hx hb dX8_delete_102 (by decide) ?_
        refine lv_iadd hx hb dX8_delete_103 ?_
        refine xr_top (y := nI (ss_84 + 1)) (nI_add ss_84 1) ?_
        refine va_put (D := D) (ci := 6) (v := .int (nI (ss_84 + 1))) (ty := .int) (C := RX8) (T := TX8) (N := 15) hx hb hts inX8 tyX8 tyX8_ok nmX8 hown hKN.1 hP hD hS 4 rfl rfl 10 (by decide) (hts (.fieldLink RX8 61 "TreeFamily$Tree" "spares" "I") (by decide +kernel)) (fun _ h9 => h9) rfl (by decide +kernel) rfl rfl (Nat.le_of_ble_eq_true rfl) dX8_delete_104 (fun H locs hP hD hS => ?_)
        have hP : va_P D vwCl ((wKd kq) ++ (wT ca kq a (ky_84, vl_84, lf_84, rt_84, ct_84, ht_84, tt_84, (va_up sp_84 ss_84 (pa_2 (dp_2 - 1))), pa_84, ro_84, (ss_84 + 1), dp_84, rn_84, od_84, kd_84))) H := hP
        have hD : va_D A ((wKd kq) ++ (wT ca kq a (ky_84, vl_84, lf_84, rt_84, ct_84, ht_84, tt_84, (va_up sp_84 ss_84 (pa_2 (dp_2 - 1))), pa_84, ro_84, (ss_84 + 1), dp_84, rn_84, od_84, kd_84))) := hD
        have ecut : f_cut (del_t1 (ky, vl, lf, rt, ct, ht, tt, sp, pa, ro, ss, dp, rn, od, kd) key) = (ky_84, vl_84, lf_84, rt_84, ct_84, ht_84, tt_84, (va_up sp_84 ss_84 (pa_2 (dp_2 - 1))), pa_84, ro_84, (ss_84 + 1), dp_84, rn_84, od_84, kd_84) := by rw [ed1]; show (TS.ky (f_setAt _ _ _), _) = _; rw [show f_setAt (setPa (ky_2, vl_2, lf_2, rt_2, ct_2, ht_2, tt_2, sp_2, pa_2, ro_2, ss_2, dp_2, rn_2, od_2, kd_2) pa_2 (dp_2 - 1)) (dp_2 - 1) (if lf_2 (pa_2 (dp_2 - 1)) ≠ 0 then lf_2 (pa_2 (dp_2 - 1)) else rt_2 (pa_2 (dp_2 - 1))) = (ky_84, vl_84, lf_84, rt_84, ct_84, ht_84, tt_84, sp_84, pa_84, ro_84, ss_84, dp_84, rn_84, od_84, kd_84) from eu84.symm]
        have hokf : okClimb dp_84 (ky_84, vl_84, lf_84, rt_84, ct_84, ht_84, tt_84, (va_up sp_84 ss_84 (pa_2 (dp_2 - 1))), pa_84, ro_84, (ss_84 + 1), dp_84, rn_84, od_84, kd_84) := by have h9 := (hok (by rw [← ey2]; exact c7)).2; rw [ecut] at h9; exact h9
        have hdpf : dp_84 ≤ 61 := by omega
        refine lv_aload_n hx hb dX8_delete_107 rfl (lv_at hl 2 rfl) ?_
        refine xc_v (wr := []) (va_runV (As := []) (rest := []) ⟨hx, hb, hml, hown, hts⟩ (c_X8_climb l D ca kq a _ ky_84 vl_84 lf_84 rt_84 ct_84 ht_84 tt_84 (va_up sp_84 ss_84 (pa_2 (dp_2 - 1))) pa_84 ro_84 (ss_84 + 1) dp_84 rn_84 od_84 kd_84 hlf_84 hrt_84 (vu_le hsp_84 (hpa_2 (dp_2 - 1))) hpa_84 hro_84 hrn_84 hkd_84 hdpf hokf) (cwV 0 hts gX8_delete_X8_climb rfl rfl rfl (by decide +kernel) ⟨(Nat.le_of_ble_eq_true rfl), (Nat.le_of_ble_eq_true rfl)⟩) (xPreV hKN hP hD [0, 1, 2, 3, 4, 5, 6, 7, 8, 9, 10, 11, 12, 13, 14] (by decide) rfl (q0 := 4) rfl rfl rfl) rfl rfl hl.1 rfl (lv_room (Nat.le_of_ble_eq_true rfl)) dX8_delete_108 ⟨(Nat.le_of_ble_eq_true rfl), (Nat.le_of_ble_eq_true rfl)⟩) hP hD hS hA [0, 1, 2, 3, 4, 5, 6, 7, 8, 9, 10, 11, 12, 13, 14] [] rfl rfl (by decide) (by decide) (fun u108 H locs hu108 hP hD hS => ?_)
        refine lv_iconst (v := 1) hx hb dX8_delete_111 (by decide) ?_
        exact W.zret (v := 1) hx hb hr (by decide) (fun t9 e9 w9 => ⟨⟨_, u108, rfl, by rw [delete_some (by rw [← ey2]; exact c7), ecut]; exact ⟨rfl, hu108⟩, by rw [e9]; exact hP, hD⟩, hS.F e9⟩) hS.2.2 dX8_delete_112
    · skip
      have c18 : ¬ (lf_2 y2) = 0 := fun h9 => c18 ((xn_eq (a := (lf_2 y2)) (b := 0) (Nat.lt_of_le_of_lt (hlf_2 y2) (by decide)) (by decide)).mpr h9)
      refine lv_aload_n hx hb dX8_delete_21 rfl (lv_at hl 1 rfl) ?_
      refine va_get (D := D) (ci := 6) (v := .ref (a 4)) (C := RX8) (T := TX8) (N := 15) hx hb hts inX8 hown hKN.1 hP 4 rfl rfl 3 (by decide) (hts (.fieldLink RX8 21 "TreeFamily$Tree" "right" "[I") (by decide +kernel)) (fun _ h9 => h9) rfl dX8_delete_22 ?_
      refine lv_iload_n hx hb dX8_delete_25 rfl (lv_at hl 0 rfl) ?_
      refine xr_ild hx hb hKN.1 hP 8 0 rfl rfl (j := y2) (Nat.lt_of_le_of_lt hy2 (by decide)) (by decide) dX8_delete_26 ?_
      refine lv_if_eq (tgt := 35) hx hb dX8_delete_27 (by decide) (fun c27 => ?_) (fun c27 => ?_)
      · skip
        have c27 : (rt_2 y2) = 0 := (xn_eq (a := (rt_2 y2)) (b := 0) (Nat.lt_of_le_of_lt (hrt_2 y2) (by decide)) (by decide)).mp c27
        have hdp2 := hdp1 c7
        have hdpA : 0 < dp_2 ∧ dp_2 ≤ 60 := ⟨hdp2, hdp⟩
        have ed1 : del_t1 (ky, vl, lf, rt, ct, ht, tt, sp, pa, ro, ss, dp, rn, od, kd) key = (ky_2, vl_2, lf_2, rt_2, ct_2, ht_2, tt_2, sp_2, pa_2, ro_2, ss_2, dp_2, rn_2, od_2, kd_2) := by unfold del_t1; rw [← ey2, ← eu2, if_neg (fun h9 => by first | exact h9.1 c18 | exact h9.2 c27)]
        refine lv_aload_n hx hb dX8_delete_35 rfl (lv_at hl 1 rfl) ?_
        refine lv_dup hx hb dX8_delete_36 rfl ?_
        refine va_get (D := D) (ci := 6) (v := .int (nI dp_2)) (C := RX8) (T := TX8) (N := 15) hx hb hts inX8 hown hKN.1 hP 4 rfl rfl 11 (by decide) (hts (.fieldLink RX8 58 "TreeFamily$Tree" "depth" "I") (by decide +kernel)) (fun _ h9 => h9) rfl dX8_delete_37 ?_
        refine lv_iconst (v := 1) hx hb dX8_delete_40 (by decide) ?_
        refine lv_isub hx hb dX8_delete_41 ?_
        refine xr_top (y := nI (dp_2 - 1)) (pk_sub (a := dp_2) (b := 1) (by omega)) ?_
        refine va_put (D := D) (ci := 6) (v := .int (nI (dp_2 - 1))) (ty := .int) (C := RX8) (T := TX8) (N := 15) hx hb hts inX8 tyX8 tyX8_ok nmX8 hown hKN.1 hP hD hS 4 rfl rfl 11 (by decide) (hts (.fieldLink RX8 58 "TreeFamily$Tree" "depth" "I") (by decide +kernel)) (fun _ h9 => h9) rfl (by decide +kernel) rfl rfl (Nat.le_of_ble_eq_true rfl) dX8_delete_42 (fun H locs hP hD hS => ?_)
        have hP : va_P D vwCl ((wKd kq) ++ (wT ca kq a (ky_2, vl_2, lf_2, rt_2, ct_2, ht_2, tt_2, sp_2, pa_2, ro_2, ss_2, (dp_2 - 1), rn_2, od_2, kd_2))) H := hP
        have hD : va_D A ((wKd kq) ++ (wT ca kq a (ky_2, vl_2, lf_2, rt_2, ct_2, ht_2, tt_2, sp_2, pa_2, ro_2, ss_2, (dp_2 - 1), rn_2, od_2, kd_2))) := hD
        refine lv_aload_n hx hb dX8_delete_45 rfl (lv_at hl 1 rfl) ?_
        refine va_get (D := D) (ci := 6) (v := .ref (a 9)) (C := RX8) (T := TX8) (N := 15) hx hb hts inX8 hown hKN.1 hP 4 rfl rfl 8 (by decide) (hts (.fieldLink RX8 37 "TreeFamily$Tree" "path" "[I") (by decide +kernel)) (fun _ h9 => h9) rfl dX8_delete_46 ?_
        refine lv_aload_n hx hb dX8_delete_49 rfl (lv_at hl 1 rfl) ?_
        refine va_get (D := D) (ci := 6) (v := .int (nI (dp_2 - 1))) (C := RX8) (T := TX8) (N := 15) hx hb hts inX8 hown hKN.1 hP 4 rfl rfl 11 (by decide) (hts (.fieldLink RX8 58 "TreeFamily$Tree" "depth" "I") (by decide +kernel)) (fun _ h9 => h9) rfl dX8_delete_50 ?_
        refine xr_ild hx hb hKN.1 hP 13 0 rfl rfl (j := (dp_2 - 1)) (by omega) (by decide) dX8_delete_53 ?_
        refine lv_istore_n (lv' := [(3, .int (nI (pa_2 (dp_2 - 1)))), (2, .int (nI y2)), (0, .ref (a 0)), (1, .int key)]) hx hb dX8_delete_54 rfl hl (by decide) rfl (fun ls hl => ?_)
        refine lv_aload_n hx hb dX8_delete_55 rfl (lv_at hl 2 rfl) ?_
        refine lv_aload_n hx hb dX8_delete_56 rfl (lv_at hl 2 rfl) ?_
        refine va_get (D := D) (ci := 6) (v := .int (nI (dp_2 - 1))) (C := RX8) (T := TX8) (N := 15) hx hb hts inX8 hown hKN.1 hP 4 rfl rfl 11 (by decide) (hts (.fieldLink RX8 58 "TreeFamily$Tree" "depth" "I") (by decide +kernel)) (fun _ h9 => h9) rfl dX8_delete_57 ?_
        refine lv_aload_n hx hb dX8_delete_60 rfl (lv_at hl 2 rfl) ?_
        refine va_get (D := D) (ci := 6) (v := .ref (a 3)) (C := RX8) (T := TX8) (N := 15) hx hb hts inX8 hown hKN.1 hP 4 rfl rfl 2 (by decide) (hts (.fieldLink RX8 18 "TreeFamily$Tree" "left" "[I") (by decide +kernel)) (fun _ h9 => h9) rfl dX8_delete_61 ?_
        refine lv_iload_n hx hb dX8_delete_64 rfl (lv_at hl 0 rfl) ?_
        refine xr_ild hx hb hKN.1 hP 7 0 rfl rfl (j := pa_2 (dp_2 - 1)) (Nat.lt_of_le_of_lt (hpa_2 (dp_2 - 1)) (by decide)) (by decide) dX8_delete_65 ?_
        refine lv_if_eq (tgt := 78) hx hb dX8_delete_66 (by decide) (fun c66 => ?_) (fun c66 => ?_)
        · skip
          have c66 : (lf_2 (pa_2 (dp_2 - 1))) = 0 := (xn_eq (a := (lf_2 (pa_2 (dp_2 - 1)))) (b := 0) (Nat.lt_of_le_of_lt (hlf_2 (pa_2 (dp_2 - 1))) (by decide)) (by decide)).mp c66
          refine lv_aload_n hx hb dX8_delete_78 rfl (lv_at hl 2 rfl) ?_
          refine va_get (D := D) (ci := 6) (v := .ref (a 4)) (C := RX8) (T := TX8) (N := 15) hx hb hts inX8 hown hKN.1 hP 4 rfl rfl 3 (by decide) (hts (.fieldLink RX8 21 "TreeFamily$Tree" "right" "[I") (by decide +kernel)) (fun _ h9 => h9) rfl dX8_delete_79 ?_
          refine lv_iload_n hx hb dX8_delete_82 rfl (lv_at hl 0 rfl) ?_
          refine xr_ild hx hb hKN.1 hP 8 0 rfl rfl (j := pa_2 (dp_2 - 1)) (Nat.lt_of_le_of_lt (hpa_2 (dp_2 - 1)) (by decide)) (by decide) dX8_delete_83 ?_
          refine xr_top (y := nI (if lf_2 (pa_2 (dp_2 - 1)) ≠ 0 then lf_2 (pa_2 (dp_2 - 1)) else rt_2 (pa_2 (dp_2 - 1)))) (congrArg nI (by first | exact (if_neg (fun h9 => h9 c66)).symm | exact (if_pos c66).symm)) ?_
          have hif : (if lf_2 (pa_2 (dp_2 - 1)) ≠ 0 then lf_2 (pa_2 (dp_2 - 1)) else rt_2 (pa_2 (dp_2 - 1))) ≤ 60 := by split <;> first | exact hlf_2 _ | exact hrt_2 _
          refine xc_v (wr := wKd kq) (va_runV (As := [.int (nI (dp_2 - 1)), .int (nI (if lf_2 (pa_2 (dp_2 - 1)) ≠ 0 then lf_2 (pa_2 (dp_2 - 1)) else rt_2 (pa_2 (dp_2 - 1))))]) (rest := []) ⟨hx, hb, hml, hown, hts⟩ (c_X8_setAt l D ca kq a _ ky_2 vl_2 lf_2 rt_2 ct_2 ht_2 tt_2 sp_2 pa_2 ro_2 ss_2 (dp_2 - 1) rn_2 od_2 kd_2 (dp_2 - 1) (if lf_2 (pa_2 (dp_2 - 1)) ≠ 0 then lf_2 (pa_2 (dp_2 - 1)) else rt_2 (pa_2 (dp_2 - 1))) hlf_2 hrt_2 hsp_2 hpa_2 hro_2 hrn_2 (by omega) hif) (cwV 2 hts gX8_delete_X8_setAt rfl rfl rfl (by decide +kernel) ⟨(Nat.le_of_ble_eq_true rfl), (Nat.le_of_ble_eq_true rfl)⟩) (xPreV hKN hP hD [4, 5, 6, 7, 8, 9, 10, 11, 12, 13, 14] (by decide) rfl (q0 := 4) rfl rfl rfl) rfl rfl hl.1 rfl (lv_room (Nat.le_of_ble_eq_true rfl)) dX8_delete_84 ⟨(Nat.le_of_ble_eq_true rfl), (Nat.le_of_ble_eq_true rfl)⟩) hP hD hS hA [4, 5, 6, 7, 8, 9, 10, 11, 12, 13, 14] [0, 1, 2, 3] rfl rfl (by decide) (by decide) (fun u84 H locs hu84 hP hD hS => ?_)
          have eu84 := hu84
          obtain ⟨ky_84, vl_84, lf_84, rt_84, ct_84, ht_84, tt_84, sp_84, pa_84, ro_84, ss_84, dp_84, rn_84, od_84, kd_84⟩ := u84
          obtain ⟨hlf_84, hrt_84, hsp_84, hpa_84, hro_84, hrn_84, hkd_84⟩ : WF (ky_84, vl_84, lf_84, rt_84, ct_84, ht_84, tt_84, sp_84, pa_84, ro_84, ss_84, dp_84, rn_84, od_84, kd_84) := by rw [eu84]; exact wf_setAt (⟨hlf_2, hrt_2, hsp_2, hpa_2, hro_2, hrn_2, hkd_2⟩ : WF (ky_2, vl_2, lf_2, rt_2, ct_2, ht_2, tt_2, sp_2, pa_2, ro_2, ss_2, (dp_2 - 1), rn_2, od_2, kd_2)) hif
          have hP : va_P D vwCl ((wKd kq) ++ (wT ca kq a (ky_84, vl_84, lf_84, rt_84, ct_84, ht_84, tt_84, sp_84, pa_84, ro_84, ss_84, dp_84, rn_84, od_84, kd_84))) H := hP
          have hD : va_D A ((wKd kq) ++ (wT ca kq a (ky_84, vl_84, lf_84, rt_84, ct_84, ht_84, tt_84, sp_84, pa_84, ro_84, ss_84, dp_84, rn_84, od_84, kd_84))) := hD
          have hssC : ss_84 = ss := ((congrArg TS.ss eu84).trans (setAt_ss _ _ _)).trans hss
          have hdpC : dp_84 = (dp_2 - 1) := (congrArg TS.dp eu84).trans (setAt_dp _ _ _)
          have hs9 : ss < 60 := (hok (by rw [← ey2]; exact c7)).1
          refine lv_aload_n hx hb dX8_delete_87 rfl (lv_at hl 2 rfl) ?_
          refine va_get (D := D) (ci := 6) (v := .ref (a 8)) (C := RX8) (T := TX8) (N := 15) hx hb hts inX8 hown hKN.1 hP 4 rfl rfl 7 (by decide) (hts (.fieldLink RX8 34 "TreeFamily$Tree" "spare" "[I") (by decide +kernel)) (fun _ h9 => h9) rfl dX8_delete_88 ?_
          refine lv_aload_n hx hb dX8_delete_91 rfl (lv_at hl 2 rfl) ?_
          refine va_get (D := D) (ci := 6) (v := .int (nI ss_84)) (C := RX8) (T := TX8) (N := 15) hx hb hts inX8 hown hKN.1 hP 4 rfl rfl 10 (by decide) (hts (.fieldLink RX8 61 "TreeFamily$Tree" "spares" "I") (by decide +kernel)) (fun _ h9 => h9) rfl dX8_delete_92 ?_
          refine lv_iload_n hx hb dX8_delete_95 rfl (lv_at hl 0 rfl) ?_
          refine xr_nst hx hb hKN.1 hP hD hS 12 0 (g := sp_84) rfl rfl (j := ss_84) (v := pa_2 (dp_2 - 1)) (by omega) (by decide) dX8_delete_96 (fun H locs hP hD hS => ?_)
          have hP : va_P D vwCl ((wKd kq) ++ (wT ca kq a (ky_84, vl_84, lf_84, rt_84, ct_84, ht_84, tt_84, (va_up sp_84 ss_84 (pa_2 (dp_2 - 1))), pa_84, ro_84, ss_84, dp_84, rn_84, od_84, kd_84))) H := hP
          have hD : va_D A ((wKd kq) ++ (wT ca kq a (ky_84, vl_84, lf_84, rt_84, ct_84, ht_84, tt_84, (va_up sp_84 ss_84 (pa_2 (dp_2 - 1))), pa_84, ro_84, ss_84, dp_84, rn_84, od_84, kd_84))) := hD
          refine lv_aload_n hx hb dX8_delete_97 rfl (lv_at hl 2 rfl) ?_
          refine lv_dup hx hb dX8_delete_98 rfl ?_
          refine va_get (D := D) (ci := 6) (v := .int (nI ss_84)) (C := RX8) (T := TX8) (N := 15) hx hb hts inX8 hown hKN.1 hP 4 rfl rfl 10 (by decide) (hts (.fieldLink RX8 61 "TreeFamily$Tree" "spares" "I") (by decide +kernel)) (fun _ h9 => h9) rfl dX8_delete_99 ?_
          refine lv_iconst (v := 1) hx hb dX8_delete_102 (by decide) ?_
          refine lv_iadd hx hb dX8_delete_103 ?_
          refine xr_top (y := nI (ss_84 + 1)) (nI_add ss_84 1) ?_
          refine va_put (D := D) (ci := 6) (v := .int (nI (ss_84 + 1))) (ty := .int) (C := RX8) (T := TX8) (N := 15) hx hb hts inX8 tyX8 tyX8_ok nmX8 hown hKN.1 hP hD hS 4 rfl rfl 10 (by decide) (hts (.fieldLink RX8 61 "TreeFamily$Tree" "spares" "I") (by decide +kernel)) (fun _ h9 => h9) rfl (by decide +kernel) rfl rfl (Nat.le_of_ble_eq_true rfl) dX8_delete_104 (fun H locs hP hD hS => ?_)
          have hP : va_P D vwCl ((wKd kq) ++ (wT ca kq a (ky_84, vl_84, lf_84, rt_84, ct_84, ht_84, tt_84, (va_up sp_84 ss_84 (pa_2 (dp_2 - 1))), pa_84, ro_84, (ss_84 + 1), dp_84, rn_84, od_84, kd_84))) H := hP
          have hD : va_D A ((wKd kq) ++ (wT ca kq a (ky_84, vl_84, lf_84, rt_84, ct_84, ht_84, tt_84, (va_up sp_84 ss_84 (pa_2 (dp_2 - 1))), pa_84, ro_84, (ss_84 + 1), dp_84, rn_84, od_84, kd_84))) := hD
          have ecut : f_cut (del_t1 (ky, vl, lf, rt, ct, ht, tt, sp, pa, ro, ss, dp, rn, od, kd) key) = (ky_84, vl_84, lf_84, rt_84, ct_84, ht_84, tt_84, (va_up sp_84 ss_84 (pa_2 (dp_2 - 1))), pa_84, ro_84, (ss_84 + 1), dp_84, rn_84, od_84, kd_84) := by rw [ed1]; show (TS.ky (f_setAt _ _ _), _) = _; rw [show f_setAt (setPa (ky_2, vl_2, lf_2, rt_2, ct_2, ht_2, tt_2, sp_2, pa_2, ro_2, ss_2, dp_2, rn_2, od_2, kd_2) pa_2 (dp_2 - 1)) (dp_2 - 1) (if lf_2 (pa_2 (dp_2 - 1)) ≠ 0 then lf_2 (pa_2 (dp_2 - 1)) else rt_2 (pa_2 (dp_2 - 1))) = (ky_84, vl_84, lf_84, rt_84, ct_84, ht_84, tt_84, sp_84, pa_84, ro_84, ss_84, dp_84, rn_84, od_84, kd_84) from eu84.symm]
          have hokf : okClimb dp_84 (ky_84, vl_84, lf_84, rt_84, ct_84, ht_84, tt_84, (va_up sp_84 ss_84 (pa_2 (dp_2 - 1))), pa_84, ro_84, (ss_84 + 1), dp_84, rn_84, od_84, kd_84) := by have h9 := (hok (by rw [← ey2]; exact c7)).2; rw [ecut] at h9; exact h9
          have hdpf : dp_84 ≤ 61 := by omega
          refine lv_aload_n hx hb dX8_delete_107 rfl (lv_at hl 2 rfl) ?_
          refine xc_v (wr := []) (va_runV (As := []) (rest := []) ⟨hx, hb, hml, hown, hts⟩ (c_X8_climb l D ca kq a _ ky_84 vl_84 lf_84 rt_84 ct_84 ht_84 tt_84 (va_up sp_84 ss_84 (pa_2 (dp_2 - 1))) pa_84 ro_84 (ss_84 + 1) dp_84 rn_84 od_84 kd_84 hlf_84 hrt_84 (vu_le hsp_84 (hpa_2 (dp_2 - 1))) hpa_84 hro_84 hrn_84 hkd_84 hdpf hokf) (cwV 0 hts gX8_delete_X8_climb rfl rfl rfl (by decide +kernel) ⟨(Nat.le_of_ble_eq_true rfl), (Nat.le_of_ble_eq_true rfl)⟩) (xPreV hKN hP hD [0, 1, 2, 3, 4, 5, 6, 7, 8, 9, 10, 11, 12, 13, 14] (by decide) rfl (q0 := 4) rfl rfl rfl) rfl rfl hl.1 rfl (lv_room (Nat.le_of_ble_eq_true rfl)) dX8_delete_108 ⟨(Nat.le_of_ble_eq_true rfl), (Nat.le_of_ble_eq_true rfl)⟩) hP hD hS hA [0, 1, 2, 3, 4, 5, 6, 7, 8, 9, 10, 11, 12, 13, 14] [] rfl rfl (by decide) (by decide) (fun u108 H locs hu108 hP hD hS => ?_)
          refine lv_iconst (v := 1) hx hb dX8_delete_111 (by decide) ?_
          exact W.zret (v := 1) hx hb hr (by decide) (fun t9 e9 w9 => ⟨⟨_, u108, rfl, by rw [delete_some (by rw [← ey2]; exact c7), ecut]; exact ⟨rfl, hu108⟩, by rw [e9]; exact hP, hD⟩, hS.F e9⟩) hS.2.2 dX8_delete_112
        · skip
          have c66 : ¬ (lf_2 (pa_2 (dp_2 - 1))) = 0 := fun h9 => c66 ((xn_eq (a := (lf_2 (pa_2 (dp_2 - 1)))) (b := 0) (Nat.lt_of_le_of_lt (hlf_2 (pa_2 (dp_2 - 1))) (by decide)) (by decide)).mpr h9)
          refine lv_aload_n hx hb dX8_delete_69 rfl (lv_at hl 2 rfl) ?_
          refine va_get (D := D) (ci := 6) (v := .ref (a 3)) (C := RX8) (T := TX8) (N := 15) hx hb hts inX8 hown hKN.1 hP 4 rfl rfl 2 (by decide) (hts (.fieldLink RX8 18 "TreeFamily$Tree" "left" "[I") (by decide +kernel)) (fun _ h9 => h9) rfl dX8_delete_70 ?_
          refine lv_iload_n hx hb dX8_delete_73 rfl (lv_at hl 0 rfl) ?_
          refine xr_ild hx hb hKN.1 hP 7 0 rfl rfl (j := pa_2 (dp_2 - 1)) (Nat.lt_of_le_of_lt (hpa_2 (dp_2 - 1)) (by decide)) (by decide) dX8_delete_74 ?_
          refine lv_goto (tgt := 84) hx hb dX8_delete_75 (by decide) ?_
          refine xr_top (y := nI (if lf_2 (pa_2 (dp_2 - 1)) ≠ 0 then lf_2 (pa_2 (dp_2 - 1)) else rt_2 (pa_2 (dp_2 - 1)))) (congrArg nI (by first | exact (if_neg (fun h9 => h9 c66)).symm | exact (if_pos c66).symm)) ?_
          have hif : (if lf_2 (pa_2 (dp_2 - 1)) ≠ 0 then lf_2 (pa_2 (dp_2 - 1)) else rt_2 (pa_2 (dp_2 - 1))) ≤ 60 := by split <;> first | exact hlf_2 _ | exact hrt_2 _
          refine xc_v (wr := wKd kq) (va_runV (As := [.int (nI (dp_2 - 1)), .int (nI (if lf_2 (pa_2 (dp_2 - 1)) ≠ 0 then lf_2 (pa_2 (dp_2 - 1)) else rt_2 (pa_2 (dp_2 - 1))))]) (rest := []) ⟨hx, hb, hml, hown, hts⟩ (c_X8_setAt l D ca kq a _ ky_2 vl_2 lf_2 rt_2 ct_2 ht_2 tt_2 sp_2 pa_2 ro_2 ss_2 (dp_2 - 1) rn_2 od_2 kd_2 (dp_2 - 1) (if lf_2 (pa_2 (dp_2 - 1)) ≠ 0 then lf_2 (pa_2 (dp_2 - 1)) else rt_2 (pa_2 (dp_2 - 1))) hlf_2 hrt_2 hsp_2 hpa_2 hro_2 hrn_2 (by omega) hif) (cwV 2 hts gX8_delete_X8_setAt rfl rfl rfl (by decide +kernel) ⟨(Nat.le_of_ble_eq_true rfl), (Nat.le_of_ble_eq_true rfl)⟩) (xPreV hKN hP hD [4, 5, 6, 7, 8, 9, 10, 11, 12, 13, 14] (by decide) rfl (q0 := 4) rfl rfl rfl) rfl rfl hl.1 rfl (lv_room (Nat.le_of_ble_eq_true rfl)) dX8_delete_84 ⟨(Nat.le_of_ble_eq_true rfl), (Nat.le_of_ble_eq_true rfl)⟩) hP hD hS hA [4, 5, 6, 7, 8, 9, 10, 11, 12, 13, 14] [0, 1, 2, 3] rfl rfl (by decide) (by decide) (fun u84 H locs hu84 hP hD hS => ?_)
          have eu84 := hu84
          obtain ⟨ky_84, vl_84, lf_84, rt_84, ct_84, ht_84, tt_84, sp_84, pa_84, ro_84, ss_84, dp_84, rn_84, od_84, kd_84⟩ := u84
          obtain ⟨hlf_84, hrt_84, hsp_84, hpa_84, hro_84, hrn_84, hkd_84⟩ : WF (ky_84, vl_84, lf_84, rt_84, ct_84, ht_84, tt_84, sp_84, pa_84, ro_84, ss_84, dp_84, rn_84, od_84, kd_84) := by rw [eu84]; exact wf_setAt (⟨hlf_2, hrt_2, hsp_2, hpa_2, hro_2, hrn_2, hkd_2⟩ : WF (ky_2, vl_2, lf_2, rt_2, ct_2, ht_2, tt_2, sp_2, pa_2, ro_2, ss_2, (dp_2 - 1), rn_2, od_2, kd_2)) hif
          have hP : va_P D vwCl ((wKd kq) ++ (wT ca kq a (ky_84, vl_84, lf_84, rt_84, ct_84, ht_84, tt_84, sp_84, pa_84, ro_84, ss_84, dp_84, rn_84, od_84, kd_84))) H := hP
          have hD : va_D A ((wKd kq) ++ (wT ca kq a (ky_84, vl_84, lf_84, rt_84, ct_84, ht_84, tt_84, sp_84, pa_84, ro_84, ss_84, dp_84, rn_84, od_84, kd_84))) := hD
          have hssC : ss_84 = ss := ((congrArg TS.ss eu84).trans (setAt_ss _ _ _)).trans hss
          have hdpC : dp_84 = (dp_2 - 1) := (congrArg TS.dp eu84).trans (setAt_dp _ _ _)
          have hs9 : ss < 60 := (hok (by rw [← ey2]; exact c7)).1
          refine lv_aload_n hx hb dX8_delete_87 rfl (lv_at hl 2 rfl) ?_
          refine va_get (D := D) (ci := 6) (v := .ref (a 8)) (C := RX8) (T := TX8) (N := 15) hx hb hts inX8 hown hKN.1 hP 4 rfl rfl 7 (by decide) (hts (.fieldLink RX8 34 "TreeFamily$Tree" "spare" "[I") (by decide +kernel)) (fun _ h9 => h9) rfl dX8_delete_88 ?_
          refine lv_aload_n hx hb dX8_delete_91 rfl (lv_at hl 2 rfl) ?_
          refine va_get (D := D) (ci := 6) (v := .int (nI ss_84)) (C := RX8) (T := TX8) (N := 15) hx hb hts inX8 hown hKN.1 hP 4 rfl rfl 10 (by decide) (hts (.fieldLink RX8 61 "TreeFamily$Tree" "spares" "I") (by decide +kernel)) (fun _ h9 => h9) rfl dX8_delete_92 ?_
          refine lv_iload_n hx hb dX8_delete_95 rfl (lv_at hl 0 rfl) ?_
          refine xr_nst hx hb hKN.1 hP hD hS 12 0 (g := sp_84) rfl rfl (j := ss_84) (v := pa_2 (dp_2 - 1)) (by omega) (by decide) dX8_delete_96 (fun H locs hP hD hS => ?_)
          have hP : va_P D vwCl ((wKd kq) ++ (wT ca kq a (ky_84, vl_84, lf_84, rt_84, ct_84, ht_84, tt_84, (va_up sp_84 ss_84 (pa_2 (dp_2 - 1))), pa_84, ro_84, ss_84, dp_84, rn_84, od_84, kd_84))) H := hP
          have hD : va_D A ((wKd kq) ++ (wT ca kq a (ky_84, vl_84, lf_84, rt_84, ct_84, ht_84, tt_84, (va_up sp_84 ss_84 (pa_2 (dp_2 - 1))), pa_84, ro_84, ss_84, dp_84, rn_84, od_84, kd_84))) := hD
          refine lv_aload_n hx hb dX8_delete_97 rfl (lv_at hl 2 rfl) ?_
          refine lv_dup hx hb dX8_delete_98 rfl ?_
          refine va_get (D := D) (ci := 6) (v := .int (nI ss_84)) (C := RX8) (T := TX8) (N := 15) hx hb hts inX8 hown hKN.1 hP 4 rfl rfl 10 (by decide) (hts (.fieldLink RX8 61 "TreeFamily$Tree" "spares" "I") (by decide +kernel)) (fun _ h9 => h9) rfl dX8_delete_99 ?_
          refine lv_iconst (v := 1) hx hb dX8_delete_102 (by decide) ?_
          refine lv_iadd hx hb dX8_delete_103 ?_
          refine xr_top (y := nI (ss_84 + 1)) (nI_add ss_84 1) ?_
          refine va_put (D := D) (ci := 6) (v := .int (nI (ss_84 + 1))) (ty := .int) (C := RX8) (T := TX8) (N := 15) hx hb hts inX8 tyX8 tyX8_ok nmX8 hown hKN.1 hP hD hS 4 rfl rfl 10 (by decide) (hts (.fieldLink RX8 61 "TreeFamily$Tree" "spares" "I") (by decide +kernel)) (fun _ h9 => h9) rfl (by decide +kernel) rfl rfl (Nat.le_of_ble_eq_true rfl) dX8_delete_104 (fun H locs hP hD hS => ?_)
          have hP : va_P D vwCl ((wKd kq) ++ (wT ca kq a (ky_84, vl_84, lf_84, rt_84, ct_84, ht_84, tt_84, (va_up sp_84 ss_84 (pa_2 (dp_2 - 1))), pa_84, ro_84, (ss_84 + 1), dp_84, rn_84, od_84, kd_84))) H := hP
          have hD : va_D A ((wKd kq) ++ (wT ca kq a (ky_84, vl_84, lf_84, rt_84, ct_84, ht_84, tt_84, (va_up sp_84 ss_84 (pa_2 (dp_2 - 1))), pa_84, ro_84, (ss_84 + 1), dp_84, rn_84, od_84, kd_84))) := hD
          have ecut : f_cut (del_t1 (ky, vl, lf, rt, ct, ht, tt, sp, pa, ro, ss, dp, rn, od, kd) key) = (ky_84, vl_84, lf_84, rt_84, ct_84, ht_84, tt_84, (va_up sp_84 ss_84 (pa_2 (dp_2 - 1))), pa_84, ro_84, (ss_84 + 1), dp_84, rn_84, od_84, kd_84) := by rw [ed1]; show (TS.ky (f_setAt _ _ _), _) = _; rw [show f_setAt (setPa (ky_2, vl_2, lf_2, rt_2, ct_2, ht_2, tt_2, sp_2, pa_2, ro_2, ss_2, dp_2, rn_2, od_2, kd_2) pa_2 (dp_2 - 1)) (dp_2 - 1) (if lf_2 (pa_2 (dp_2 - 1)) ≠ 0 then lf_2 (pa_2 (dp_2 - 1)) else rt_2 (pa_2 (dp_2 - 1))) = (ky_84, vl_84, lf_84, rt_84, ct_84, ht_84, tt_84, sp_84, pa_84, ro_84, ss_84, dp_84, rn_84, od_84, kd_84) from eu84.symm]
          have hokf : okClimb dp_84 (ky_84, vl_84, lf_84, rt_84, ct_84, ht_84, tt_84, (va_up sp_84 ss_84 (pa_2 (dp_2 - 1))), pa_84, ro_84, (ss_84 + 1), dp_84, rn_84, od_84, kd_84) := by have h9 := (hok (by rw [← ey2]; exact c7)).2; rw [ecut] at h9; exact h9
          have hdpf : dp_84 ≤ 61 := by omega
          refine lv_aload_n hx hb dX8_delete_107 rfl (lv_at hl 2 rfl) ?_
          refine xc_v (wr := []) (va_runV (As := []) (rest := []) ⟨hx, hb, hml, hown, hts⟩ (c_X8_climb l D ca kq a _ ky_84 vl_84 lf_84 rt_84 ct_84 ht_84 tt_84 (va_up sp_84 ss_84 (pa_2 (dp_2 - 1))) pa_84 ro_84 (ss_84 + 1) dp_84 rn_84 od_84 kd_84 hlf_84 hrt_84 (vu_le hsp_84 (hpa_2 (dp_2 - 1))) hpa_84 hro_84 hrn_84 hkd_84 hdpf hokf) (cwV 0 hts gX8_delete_X8_climb rfl rfl rfl (by decide +kernel) ⟨(Nat.le_of_ble_eq_true rfl), (Nat.le_of_ble_eq_true rfl)⟩) (xPreV hKN hP hD [0, 1, 2, 3, 4, 5, 6, 7, 8, 9, 10, 11, 12, 13, 14] (by decide) rfl (q0 := 4) rfl rfl rfl) rfl rfl hl.1 rfl (lv_room (Nat.le_of_ble_eq_true rfl)) dX8_delete_108 ⟨(Nat.le_of_ble_eq_true rfl), (Nat.le_of_ble_eq_true rfl)⟩) hP hD hS hA [0, 1, 2, 3, 4, 5, 6, 7, 8, 9, 10, 11, 12, 13, 14] [] rfl rfl (by decide) (by decide) (fun u108 H locs hu108 hP hD hS => ?_)
          refine lv_iconst (v := 1) hx hb dX8_delete_111 (by decide) ?_
          exact W.zret (v := 1) hx hb hr (by decide) (fun t9 e9 w9 => ⟨⟨_, u108, rfl, by rw [delete_some (by rw [← ey2]; exact c7), ecut]; exact ⟨rfl, hu108⟩, by rw [e9]; exact hP, hD⟩, hS.F e9⟩) hS.2.2 dX8_delete_112
      · skip
        have c27 : ¬ (rt_2 y2) = 0 := fun h9 => c27 ((xn_eq (a := (rt_2 y2)) (b := 0) (Nat.lt_of_le_of_lt (hrt_2 y2) (by decide)) (by decide)).mpr h9)
        refine lv_aload_n hx hb dX8_delete_30 rfl (lv_at hl 1 rfl) ?_
        refine lv_iload_n hx hb dX8_delete_31 rfl (lv_at hl 0 rfl) ?_
        refine xc_v (wr := wKd kq) (va_runV (As := [.int (nI y2)]) (rest := []) ⟨hx, hb, hml, hown, hts⟩ (c_X8_takeFollower l D ca kq a _ ky_2 vl_2 lf_2 rt_2 ct_2 ht_2 tt_2 sp_2 pa_2 ro_2 ss_2 dp_2 rn_2 od_2 kd_2 y2 hlf_2 hrt_2 hsp_2 hpa_2 hro_2 hrn_2 hy2 (hdp1 c7) hdp) (cwV 1 hts gX8_delete_X8_takeFollower rfl rfl rfl (by decide +kernel) ⟨(Nat.le_of_ble_eq_true rfl), (Nat.le_of_ble_eq_true rfl)⟩) (xPreV hKN hP hD [4, 5, 6, 7, 8, 9, 10, 11, 12, 13, 14] (by decide) rfl (q0 := 4) rfl rfl rfl) rfl rfl hl.1 rfl (lv_room (Nat.le_of_ble_eq_true rfl)) dX8_delete_32 ⟨(Nat.le_of_ble_eq_true rfl), (Nat.le_of_ble_eq_true rfl)⟩) hP hD hS hA [4, 5, 6, 7, 8, 9, 10, 11, 12, 13, 14] [0, 1, 2, 3] rfl rfl (by decide) (by decide) (fun u32 H locs hu32 hP hD hS => ?_)
        have eu32 := hu32
        obtain ⟨ky_32, vl_32, lf_32, rt_32, ct_32, ht_32, tt_32, sp_32, pa_32, ro_32, ss_32, dp_32, rn_32, od_32, kd_32⟩ := u32
        obtain ⟨hlf_32, hrt_32, hsp_32, hpa_32, hro_32, hrn_32, hkd_32⟩ : WF (ky_32, vl_32, lf_32, rt_32, ct_32, ht_32, tt_32, sp_32, pa_32, ro_32, ss_32, dp_32, rn_32, od_32, kd_32) := by rw [eu32]; exact wf_takeFollower (⟨hlf_2, hrt_2, hsp_2, hpa_2, hro_2, hrn_2, hkd_2⟩ : WF (ky_2, vl_2, lf_2, rt_2, ct_2, ht_2, tt_2, sp_2, pa_2, ro_2, ss_2, dp_2, rn_2, od_2, kd_2))
        have hP : va_P D vwCl ((wKd kq) ++ (wT ca kq a (ky_32, vl_32, lf_32, rt_32, ct_32, ht_32, tt_32, sp_32, pa_32, ro_32, ss_32, dp_32, rn_32, od_32, kd_32))) H := hP
        have hD : va_D A ((wKd kq) ++ (wT ca kq a (ky_32, vl_32, lf_32, rt_32, ct_32, ht_32, tt_32, sp_32, pa_32, ro_32, ss_32, dp_32, rn_32, od_32, kd_32))) := hD
        have hss : ss_32 = ss := (congrArg TS.ss eu32).trans hss
        have tfb := tfgo_b lf_2 hlf_2 (60 - dp_2) (rt_2 y2) dp_2 pa_2 (hrt_2 _) hpa_2
        have etf : dp_32 = (tf_go lf_2 (60 - dp_2) (rt_2 y2) dp_2 pa_2).1 := congrArg TS.dp eu32
        have hdp2 := hdp1 c7
        have hdpA : 0 < dp_32 ∧ dp_32 ≤ 60 := ⟨by omega, by omega⟩
        have ed1 : del_t1 (ky, vl, lf, rt, ct, ht, tt, sp, pa, ro, ss, dp, rn, od, kd) key = (ky_32, vl_32, lf_32, rt_32, ct_32, ht_32, tt_32, sp_32, pa_32, ro_32, ss_32, dp_32, rn_32, od_32, kd_32) := by unfold del_t1; rw [← ey2, ← eu2, if_pos ⟨c18, c27⟩, ← eu32]
        refine lv_aload_n hx hb dX8_delete_35 rfl (lv_at hl 1 rfl) ?_
        refine lv_dup hx hb dX8_delete_36 rfl ?_
        refine va_get (D := D) (ci := 6) (v := .int (nI dp_32)) (C := RX8) (T := TX8) (N := 15) hx hb hts inX8 hown hKN.1 hP 4 rfl rfl 11 (by decide) (hts (.fieldLink RX8 58 "TreeFamily$Tree" "depth" "I") (by decide +kernel)) (fun _ h9 => h9) rfl dX8_delete_37 ?_
        refine lv_iconst (v := 1) hx hb dX8_delete_40 (by decide) ?_
        refine lv_isub hx hb dX8_delete_41 ?_
        refine xr_top (y := nI (dp_32 - 1)) (pk_sub (a := dp_32) (b := 1) (by omega)) ?_
        refine va_put (D := D) (ci := 6) (v := .int (nI (dp_32 - 1))) (ty := .int) (C := RX8) (T := TX8) (N := 15) hx hb hts inX8 tyX8 tyX8_ok nmX8 hown hKN.1 hP hD hS 4 rfl rfl 11 (by decide) (hts (.fieldLink RX8 58 "TreeFamily$Tree" "depth" "I") (by decide +kernel)) (fun _ h9 => h9) rfl (by decide +kernel) rfl rfl (Nat.le_of_ble_eq_true rfl) dX8_delete_42 (fun H locs hP hD hS => ?_)
        have hP : va_P D vwCl ((wKd kq) ++ (wT ca kq a (ky_32, vl_32, lf_32, rt_32, ct_32, ht_32, tt_32, sp_32, pa_32, ro_32, ss_32, (dp_32 - 1), rn_32, od_32, kd_32))) H := hP
        have hD : va_D A ((wKd kq) ++ (wT ca kq a (ky_32, vl_32, lf_32, rt_32, ct_32, ht_32, tt_32, sp_32, pa_32, ro_32, ss_32, (dp_32 - 1), rn_32, od_32, kd_32))) := hD
        refine lv_aload_n hx hb dX8_delete_45 rfl (lv_at hl 1 rfl) ?_
        refine va_get (D := D) (ci := 6) (v := .ref (a 9)) (C := RX8) (T := TX8) (N := 15) hx hb hts inX8 hown hKN.1 hP 4 rfl rfl 8 (by decide) (hts (.fieldLink RX8 37 "TreeFamily$Tree" "path" "[I") (by decide +kernel)) (fun _ h9 => h9) rfl dX8_delete_46 ?_
        refine lv_aload_n hx hb dX8_delete_49 rfl (lv_at hl 1 rfl) ?_
        refine va_get (D := D) (ci := 6) (v := .int (nI (dp_32 - 1))) (C := RX8) (T := TX8) (N := 15) hx hb hts inX8 hown hKN.1 hP 4 rfl rfl 11 (by decide) (hts (.fieldLink RX8 58 "TreeFamily$Tree" "depth" "I") (by decide +kernel)) (fun _ h9 => h9) rfl dX8_delete_50 ?_
        refine xr_ild hx hb hKN.1 hP 13 0 rfl rfl (j := (dp_32 - 1)) (by omega) (by decide) dX8_delete_53 ?_
        refine lv_istore_n (lv' := [(3, .int (nI (pa_32 (dp_32 - 1)))), (2, .int (nI y2)), (0, .ref (a 0)), (1, .int key)]) hx hb dX8_delete_54 rfl hl (by decide) rfl (fun ls hl => ?_)
        refine lv_aload_n hx hb dX8_delete_55 rfl (lv_at hl 2 rfl) ?_
        refine lv_aload_n hx hb dX8_delete_56 rfl (lv_at hl 2 rfl) ?_
        refine va_get (D := D) (ci := 6) (v := .int (nI (dp_32 - 1))) (C := RX8) (T := TX8) (N := 15) hx hb hts inX8 hown hKN.1 hP 4 rfl rfl 11 (by decide) (hts (.fieldLink RX8 58 "TreeFamily$Tree" "depth" "I") (by decide +kernel)) (fun _ h9 => h9) rfl dX8_delete_57 ?_
        refine lv_aload_n hx hb dX8_delete_60 rfl (lv_at hl 2 rfl) ?_
        refine va_get (D := D) (ci := 6) (v := .ref (a 3)) (C := RX8) (T := TX8) (N := 15) hx hb hts inX8 hown hKN.1 hP 4 rfl rfl 2 (by decide) (hts (.fieldLink RX8 18 "TreeFamily$Tree" "left" "[I") (by decide +kernel)) (fun _ h9 => h9) rfl dX8_delete_61 ?_
        refine lv_iload_n hx hb dX8_delete_64 rfl (lv_at hl 0 rfl) ?_
        refine xr_ild hx hb hKN.1 hP 7 0 rfl rfl (j := pa_32 (dp_32 - 1)) (Nat.lt_of_le_of_lt (hpa_32 (dp_32 - 1)) (by decide)) (by decide) dX8_delete_65 ?_
        refine lv_if_eq (tgt := 78) hx hb dX8_delete_66 (by decide) (fun c66 => ?_) (fun c66 => ?_)
        · skip
          have c66 : (lf_32 (pa_32 (dp_32 - 1))) = 0 := (xn_eq (a := (lf_32 (pa_32 (dp_32 - 1)))) (b := 0) (Nat.lt_of_le_of_lt (hlf_32 (pa_32 (dp_32 - 1))) (by decide)) (by decide)).mp c66
          refine lv_aload_n hx hb dX8_delete_78 rfl (lv_at hl 2 rfl) ?_
          refine va_get (D := D) (ci := 6) (v := .ref (a 4)) (C := RX8) (T := TX8) (N := 15) hx hb hts inX8 hown hKN.1 hP 4 rfl rfl 3 (by decide) (hts (.fieldLink RX8 21 "TreeFamily$Tree" "right" "[I") (by decide +kernel)) (fun _ h9 => h9) rfl dX8_delete_79 ?_
          refine lv_iload_n hx hb dX8_delete_82 rfl (lv_at hl 0 rfl) ?_
          refine xr_ild hx hb hKN.1 hP 8 0 rfl rfl (j := pa_32 (dp_32 - 1)) (Nat.lt_of_le_of_lt (hpa_32 (dp_32 - 1)) (by decide)) (by decide) dX8_delete_83 ?_
          refine xr_top (y := nI (if lf_32 (pa_32 (dp_32 - 1)) ≠ 0 then lf_32 (pa_32 (dp_32 - 1)) else rt_32 (pa_32 (dp_32 - 1)))) (congrArg nI (by first | exact (if_neg (fun h9 => h9 c66)).symm | exact (if_pos c66).symm)) ?_
          have hif : (if lf_32 (pa_32 (dp_32 - 1)) ≠ 0 then lf_32 (pa_32 (dp_32 - 1)) else rt_32 (pa_32 (dp_32 - 1))) ≤ 60 := by split <;> first | exact hlf_32 _ | exact hrt_32 _
          refine xc_v (wr := wKd kq) (va_runV (As := [.int (nI (dp_32 - 1)), .int (nI (if lf_32 (pa_32 (dp_32 - 1)) ≠ 0 then lf_32 (pa_32 (dp_32 - 1)) else rt_32 (pa_32 (dp_32 - 1))))]) (rest := []) ⟨hx, hb, hml, hown, hts⟩ (c_X8_setAt l D ca kq a _ ky_32 vl_32 lf_32 rt_32 ct_32 ht_32 tt_32 sp_32 pa_32 ro_32 ss_32 (dp_32 - 1) rn_32 od_32 kd_32 (dp_32 - 1) (if lf_32 (pa_32 (dp_32 - 1)) ≠ 0 then lf_32 (pa_32 (dp_32 - 1)) else rt_32 (pa_32 (dp_32 - 1))) hlf_32 hrt_32 hsp_32 hpa_32 hro_32 hrn_32 (by omega) hif) (cwV 2 hts gX8_delete_X8_setAt rfl rfl rfl (by decide +kernel) ⟨(Nat.le_of_ble_eq_true rfl), (Nat.le_of_ble_eq_true rfl)⟩) (xPreV hKN hP hD [4, 5, 6, 7, 8, 9, 10, 11, 12, 13, 14] (by decide) rfl (q0 := 4) rfl rfl rfl) rfl rfl hl.1 rfl (lv_room (Nat.le_of_ble_eq_true rfl)) dX8_delete_84 ⟨(Nat.le_of_ble_eq_true rfl), (Nat.le_of_ble_eq_true rfl)⟩) hP hD hS hA [4, 5, 6, 7, 8, 9, 10, 11, 12, 13, 14] [0, 1, 2, 3] rfl rfl (by decide) (by decide) (fun u84 H locs hu84 hP hD hS => ?_)
          have eu84 := hu84
          obtain ⟨ky_84, vl_84, lf_84, rt_84, ct_84, ht_84, tt_84, sp_84, pa_84, ro_84, ss_84, dp_84, rn_84, od_84, kd_84⟩ := u84
          obtain ⟨hlf_84, hrt_84, hsp_84, hpa_84, hro_84, hrn_84, hkd_84⟩ : WF (ky_84, vl_84, lf_84, rt_84, ct_84, ht_84, tt_84, sp_84, pa_84, ro_84, ss_84, dp_84, rn_84, od_84, kd_84) := by rw [eu84]; exact wf_setAt (⟨hlf_32, hrt_32, hsp_32, hpa_32, hro_32, hrn_32, hkd_32⟩ : WF (ky_32, vl_32, lf_32, rt_32, ct_32, ht_32, tt_32, sp_32, pa_32, ro_32, ss_32, (dp_32 - 1), rn_32, od_32, kd_32)) hif
          have hP : va_P D vwCl ((wKd kq) ++ (wT ca kq a (ky_84, vl_84, lf_84, rt_84, ct_84, ht_84, tt_84, sp_84, pa_84, ro_84, ss_84, dp_84, rn_84, od_84, kd_84))) H := hP
          have hD : va_D A ((wKd kq) ++ (wT ca kq a (ky_84, vl_84, lf_84, rt_84, ct_84, ht_84, tt_84, sp_84, pa_84, ro_84, ss_84, dp_84, rn_84, od_84, kd_84))) := hD
          have hssC : ss_84 = ss := ((congrArg TS.ss eu84).trans (setAt_ss _ _ _)).trans hss
          have hdpC : dp_84 = (dp_32 - 1) := (congrArg TS.dp eu84).trans (setAt_dp _ _ _)
          have hs9 : ss < 60 := (hok (by rw [← ey2]; exact c7)).1
          refine lv_aload_n hx hb dX8_delete_87 rfl (lv_at hl 2 rfl) ?_
          refine va_get (D := D) (ci := 6) (v := .ref (a 8)) (C := RX8) (T := TX8) (N := 15) hx hb hts inX8 hown hKN.1 hP 4 rfl rfl 7 (by decide) (hts (.fieldLink RX8 34 "TreeFamily$Tree" "spare" "[I") (by decide +kernel)) (fun _ h9 => h9) rfl dX8_delete_88 ?_
          refine lv_aload_n hx hb dX8_delete_91 rfl (lv_at hl 2 rfl) ?_
          refine va_get (D := D) (ci := 6) (v := .int (nI ss_84)) (C := RX8) (T := TX8) (N := 15) hx hb hts inX8 hown hKN.1 hP 4 rfl rfl 10 (by decide) (hts (.fieldLink RX8 61 "TreeFamily$Tree" "spares" "I") (by decide +kernel)) (fun _ h9 => h9) rfl dX8_delete_92 ?_
          refine lv_iload_n hx hb dX8_delete_95 rfl (lv_at hl 0 rfl) ?_
          refine xr_nst hx hb hKN.1 hP hD hS 12 0 (g := sp_84) rfl rfl (j := ss_84) (v := pa_32 (dp_32 - 1)) (by omega) (by decide) dX8_delete_96 (fun H locs hP hD hS => ?_)
          have hP : va_P D vwCl ((wKd kq) ++ (wT ca kq a (ky_84, vl_84, lf_84, rt_84, ct_84, ht_84, tt_84, (va_up sp_84 ss_84 (pa_32 (dp_32 - 1))), pa_84, ro_84, ss_84, dp_84, rn_84, od_84, kd_84))) H := hP
          have hD : va_D A ((wKd kq) ++ (wT ca kq a (ky_84, vl_84, lf_84, rt_84, ct_84, ht_84, tt_84, (va_up sp_84 ss_84 (pa_32 (dp_32 - 1))), pa_84, ro_84, ss_84, dp_84, rn_84, od_84, kd_84))) := hD
          refine lv_aload_n hx hb dX8_delete_97 rfl (lv_at hl 2 rfl) ?_
          refine lv_dup hx hb dX8_delete_98 rfl ?_
          refine va_get (D := D) (ci := 6) (v := .int (nI ss_84)) (C := RX8) (T := TX8) (N := 15) hx hb hts inX8 hown hKN.1 hP 4 rfl rfl 10 (by decide) (hts (.fieldLink RX8 61 "TreeFamily$Tree" "spares" "I") (by decide +kernel)) (fun _ h9 => h9) rfl dX8_delete_99 ?_
          refine lv_iconst (v := 1) hx hb dX8_delete_102 (by decide) ?_
          refine lv_iadd hx hb dX8_delete_103 ?_
          refine xr_top (y := nI (ss_84 + 1)) (nI_add ss_84 1) ?_
          refine va_put (D := D) (ci := 6) (v := .int (nI (ss_84 + 1))) (ty := .int) (C := RX8) (T := TX8) (N := 15) hx hb hts inX8 tyX8 tyX8_ok nmX8 hown hKN.1 hP hD hS 4 rfl rfl 10 (by decide) (hts (.fieldLink RX8 61 "TreeFamily$Tree" "spares" "I") (by decide +kernel)) (fun _ h9 => h9) rfl (by decide +kernel) rfl rfl (Nat.le_of_ble_eq_true rfl) dX8_delete_104 (fun H locs hP hD hS => ?_)
          have hP : va_P D vwCl ((wKd kq) ++ (wT ca kq a (ky_84, vl_84, lf_84, rt_84, ct_84, ht_84, tt_84, (va_up sp_84 ss_84 (pa_32 (dp_32 - 1))), pa_84, ro_84, (ss_84 + 1), dp_84, rn_84, od_84, kd_84))) H := hP
          have hD : va_D A ((wKd kq) ++ (wT ca kq a (ky_84, vl_84, lf_84, rt_84, ct_84, ht_84, tt_84, (va_up sp_84 ss_84 (pa_32 (dp_32 - 1))), pa_84, ro_84, (ss_84 + 1), dp_84, rn_84, od_84, kd_84))) := hD
          have ecut : f_cut (del_t1 (ky, vl, lf, rt, ct, ht, tt, sp, pa, ro, ss, dp, rn, od, kd) key) = (ky_84, vl_84, lf_84, rt_84, ct_84, ht_84, tt_84, (va_up sp_84 ss_84 (pa_32 (dp_32 - 1))), pa_84, ro_84, (ss_84 + 1), dp_84, rn_84, od_84, kd_84) := by rw [ed1]; show (TS.ky (f_setAt _ _ _), _) = _; rw [show f_setAt (setPa (ky_32, vl_32, lf_32, rt_32, ct_32, ht_32, tt_32, sp_32, pa_32, ro_32, ss_32, dp_32, rn_32, od_32, kd_32) pa_32 (dp_32 - 1)) (dp_32 - 1) (if lf_32 (pa_32 (dp_32 - 1)) ≠ 0 then lf_32 (pa_32 (dp_32 - 1)) else rt_32 (pa_32 (dp_32 - 1))) = (ky_84, vl_84, lf_84, rt_84, ct_84, ht_84, tt_84, sp_84, pa_84, ro_84, ss_84, dp_84, rn_84, od_84, kd_84) from eu84.symm]
          have hokf : okClimb dp_84 (ky_84, vl_84, lf_84, rt_84, ct_84, ht_84, tt_84, (va_up sp_84 ss_84 (pa_32 (dp_32 - 1))), pa_84, ro_84, (ss_84 + 1), dp_84, rn_84, od_84, kd_84) := by have h9 := (hok (by rw [← ey2]; exact c7)).2; rw [ecut] at h9; exact h9
          have hdpf : dp_84 ≤ 61 := by omega
          refine lv_aload_n hx hb dX8_delete_107 rfl (lv_at hl 2 rfl) ?_
          refine xc_v (wr := []) (va_runV (As := []) (rest := []) ⟨hx, hb, hml, hown, hts⟩ (c_X8_climb l D ca kq a _ ky_84 vl_84 lf_84 rt_84 ct_84 ht_84 tt_84 (va_up sp_84 ss_84 (pa_32 (dp_32 - 1))) pa_84 ro_84 (ss_84 + 1) dp_84 rn_84 od_84 kd_84 hlf_84 hrt_84 (vu_le hsp_84 (hpa_32 (dp_32 - 1))) hpa_84 hro_84 hrn_84 hkd_84 hdpf hokf) (cwV 0 hts gX8_delete_X8_climb rfl rfl rfl (by decide +kernel) ⟨(Nat.le_of_ble_eq_true rfl), (Nat.le_of_ble_eq_true rfl)⟩) (xPreV hKN hP hD [0, 1, 2, 3, 4, 5, 6, 7, 8, 9, 10, 11, 12, 13, 14] (by decide) rfl (q0 := 4) rfl rfl rfl) rfl rfl hl.1 rfl (lv_room (Nat.le_of_ble_eq_true rfl)) dX8_delete_108 ⟨(Nat.le_of_ble_eq_true rfl), (Nat.le_of_ble_eq_true rfl)⟩) hP hD hS hA [0, 1, 2, 3, 4, 5, 6, 7, 8, 9, 10, 11, 12, 13, 14] [] rfl rfl (by decide) (by decide) (fun u108 H locs hu108 hP hD hS => ?_)
          refine lv_iconst (v := 1) hx hb dX8_delete_111 (by decide) ?_
          exact W.zret (v := 1) hx hb hr (by decide) (fun t9 e9 w9 => ⟨⟨_, u108, rfl, by rw [delete_some (by rw [← ey2]; exact c7), ecut]; exact ⟨rfl, hu108⟩, by rw [e9]; exact hP, hD⟩, hS.F e9⟩) hS.2.2 dX8_delete_112
        · skip
          have c66 : ¬ (lf_32 (pa_32 (dp_32 - 1))) = 0 := fun h9 => c66 ((xn_eq (a := (lf_32 (pa_32 (dp_32 - 1)))) (b := 0) (Nat.lt_of_le_of_lt (hlf_32 (pa_32 (dp_32 - 1))) (by decide)) (by decide)).mpr h9)
          refine lv_aload_n hx hb dX8_delete_69 rfl (lv_at hl 2 rfl) ?_
          refine va_get (D := D) (ci := 6) (v := .ref (a 3)) (C := RX8) (T := TX8) (N := 15) hx hb hts inX8 hown hKN.1 hP 4 rfl rfl 2 (by decide) (hts (.fieldLink RX8 18 "TreeFamily$Tree" "left" "[I") (by decide +kernel)) (fun _ h9 => h9) rfl dX8_delete_70 ?_
          refine lv_iload_n hx hb dX8_delete_73 rfl (lv_at hl 0 rfl) ?_
          refine xr_ild hx hb hKN.1 hP 7 0 rfl rfl (j := pa_32 (dp_32 - 1)) (Nat.lt_of_le_of_lt (hpa_32 (dp_32 - 1)) (by decide)) (by decide) dX8_delete_74 ?_
          refine lv_goto (tgt := 84) hx hb dX8_delete_75 (by decide) ?_
          refine xr_top (y := nI (if lf_32 (pa_32 (dp_32 - 1)) ≠ 0 then lf_32 (pa_32 (dp_32 - 1)) else rt_32 (pa_32 (dp_32 - 1)))) (congrArg nI (by first | exact (if_neg (fun h9 => h9 c66)).symm | exact (if_pos c66).symm)) ?_
          have hif : (if lf_32 (pa_32 (dp_32 - 1)) ≠ 0 then lf_32 (pa_32 (dp_32 - 1)) else rt_32 (pa_32 (dp_32 - 1))) ≤ 60 := by split <;> first | exact hlf_32 _ | exact hrt_32 _
          refine xc_v (wr := wKd kq) (va_runV (As := [.int (nI (dp_32 - 1)), .int (nI (if lf_32 (pa_32 (dp_32 - 1)) ≠ 0 then lf_32 (pa_32 (dp_32 - 1)) else rt_32 (pa_32 (dp_32 - 1))))]) (rest := []) ⟨hx, hb, hml, hown, hts⟩ (c_X8_setAt l D ca kq a _ ky_32 vl_32 lf_32 rt_32 ct_32 ht_32 tt_32 sp_32 pa_32 ro_32 ss_32 (dp_32 - 1) rn_32 od_32 kd_32 (dp_32 - 1) (if lf_32 (pa_32 (dp_32 - 1)) ≠ 0 then lf_32 (pa_32 (dp_32 - 1)) else rt_32 (pa_32 (dp_32 - 1))) hlf_32 hrt_32 hsp_32 hpa_32 hro_32 hrn_32 (by omega) hif) (cwV 2 hts gX8_delete_X8_setAt rfl rfl rfl (by decide +kernel) ⟨(Nat.le_of_ble_eq_true rfl), (Nat.le_of_ble_eq_true rfl)⟩) (xPreV hKN hP hD [4, 5, 6, 7, 8, 9, 10, 11, 12, 13, 14] (by decide) rfl (q0 := 4) rfl rfl rfl) rfl rfl hl.1 rfl (lv_room (Nat.le_of_ble_eq_true rfl)) dX8_delete_84 ⟨(Nat.le_of_ble_eq_true rfl), (Nat.le_of_ble_eq_true rfl)⟩) hP hD hS hA [4, 5, 6, 7, 8, 9, 10, 11, 12, 13, 14] [0, 1, 2, 3] rfl rfl (by decide) (by decide) (fun u84 H locs hu84 hP hD hS => ?_)
          have eu84 := hu84
          obtain ⟨ky_84, vl_84, lf_84, rt_84, ct_84, ht_84, tt_84, sp_84, pa_84, ro_84, ss_84, dp_84, rn_84, od_84, kd_84⟩ := u84
          obtain ⟨hlf_84, hrt_84, hsp_84, hpa_84, hro_84, hrn_84, hkd_84⟩ : WF (ky_84, vl_84, lf_84, rt_84, ct_84, ht_84, tt_84, sp_84, pa_84, ro_84, ss_84, dp_84, rn_84, od_84, kd_84) := by rw [eu84]; exact wf_setAt (⟨hlf_32, hrt_32, hsp_32, hpa_32, hro_32, hrn_32, hkd_32⟩ : WF (ky_32, vl_32, lf_32, rt_32, ct_32, ht_32, tt_32, sp_32, pa_32, ro_32, ss_32, (dp_32 - 1), rn_32, od_32, kd_32)) hif
          have hP : va_P D vwCl ((wKd kq) ++ (wT ca kq a (ky_84, vl_84, lf_84, rt_84, ct_84, ht_84, tt_84, sp_84, pa_84, ro_84, ss_84, dp_84, rn_84, od_84, kd_84))) H := hP
          have hD : va_D A ((wKd kq) ++ (wT ca kq a (ky_84, vl_84, lf_84, rt_84, ct_84, ht_84, tt_84, sp_84, pa_84, ro_84, ss_84, dp_84, rn_84, od_84, kd_84))) := hD
          have hssC : ss_84 = ss := ((congrArg TS.ss eu84).trans (setAt_ss _ _ _)).trans hss
          have hdpC : dp_84 = (dp_32 - 1) := (congrArg TS.dp eu84).trans (setAt_dp _ _ _)
          have hs9 : ss < 60 := (hok (by rw [← ey2]; exact c7)).1
          refine lv_aload_n hx hb dX8_delete_87 rfl (lv_at hl 2 rfl) ?_
          refine va_get (D := D) (ci := 6) (v := .ref (a 8)) (C := RX8) (T := TX8) (N := 15) hx hb hts inX8 hown hKN.1 hP 4 rfl rfl 7 (by decide) (hts (.fieldLink RX8 34 "TreeFamily$Tree" "spare" "[I") (by decide +kernel)) (fun _ h9 => h9) rfl dX8_delete_88 ?_
          refine lv_aload_n hx hb dX8_delete_91 rfl (lv_at hl 2 rfl) ?_
          refine va_get (D := D) (ci := 6) (v := .int (nI ss_84)) (C := RX8) (T := TX8) (N := 15) hx hb hts inX8 hown hKN.1 hP 4 rfl rfl 10 (by decide) (hts (.fieldLink RX8 61 "TreeFamily$Tree" "spares" "I") (by decide +kernel)) (fun _ h9 => h9) rfl dX8_delete_92 ?_
          refine lv_iload_n hx hb dX8_delete_95 rfl (lv_at hl 0 rfl) ?_
          refine xr_nst hx hb hKN.1 hP hD hS 12 0 (g := sp_84) rfl rfl (j := ss_84) (v := pa_32 (dp_32 - 1)) (by omega) (by decide) dX8_delete_96 (fun H locs hP hD hS => ?_)
          have hP : va_P D vwCl ((wKd kq) ++ (wT ca kq a (ky_84, vl_84, lf_84, rt_84, ct_84, ht_84, tt_84, (va_up sp_84 ss_84 (pa_32 (dp_32 - 1))), pa_84, ro_84, ss_84, dp_84, rn_84, od_84, kd_84))) H := hP
          have hD : va_D A ((wKd kq) ++ (wT ca kq a (ky_84, vl_84, lf_84, rt_84, ct_84, ht_84, tt_84, (va_up sp_84 ss_84 (pa_32 (dp_32 - 1))), pa_84, ro_84, ss_84, dp_84, rn_84, od_84, kd_84))) := hD
          refine lv_aload_n hx hb dX8_delete_97 rfl (lv_at hl 2 rfl) ?_
          refine lv_dup hx hb dX8_delete_98 rfl ?_
          refine va_get (D := D) (ci := 6) (v := .int (nI ss_84)) (C := RX8) (T := TX8) (N := 15) hx hb hts inX8 hown hKN.1 hP 4 rfl rfl 10 (by decide) (hts (.fieldLink RX8 61 "TreeFamily$Tree" "spares" "I") (by decide +kernel)) (fun _ h9 => h9) rfl dX8_delete_99 ?_
          refine lv_iconst (v := 1) hx hb dX8_delete_102 (by decide) ?_
          refine lv_iadd hx hb dX8_delete_103 ?_
          refine xr_top (y := nI (ss_84 + 1)) (nI_add ss_84 1) ?_
          refine va_put (D := D) (ci := 6) (v := .int (nI (ss_84 + 1))) (ty := .int) (C := RX8) (T := TX8) (N := 15) hx hb hts inX8 tyX8 tyX8_ok nmX8 hown hKN.1 hP hD hS 4 rfl rfl 10 (by decide) (hts (.fieldLink RX8 61 "TreeFamily$Tree" "spares" "I") (by decide +kernel)) (fun _ h9 => h9) rfl (by decide +kernel) rfl rfl (Nat.le_of_ble_eq_true rfl) dX8_delete_104 (fun H locs hP hD hS => ?_)
          have hP : va_P D vwCl ((wKd kq) ++ (wT ca kq a (ky_84, vl_84, lf_84, rt_84, ct_84, ht_84, tt_84, (va_up sp_84 ss_84 (pa_32 (dp_32 - 1))), pa_84, ro_84, (ss_84 + 1), dp_84, rn_84, od_84, kd_84))) H := hP
          have hD : va_D A ((wKd kq) ++ (wT ca kq a (ky_84, vl_84, lf_84, rt_84, ct_84, ht_84, tt_84, (va_up sp_84 ss_84 (pa_32 (dp_32 - 1))), pa_84, ro_84, (ss_84 + 1), dp_84, rn_84, od_84, kd_84))) := hD
          have ecut : f_cut (del_t1 (ky, vl, lf, rt, ct, ht, tt, sp, pa, ro, ss, dp, rn, od, kd) key) = (ky_84, vl_84, lf_84, rt_84, ct_84, ht_84, tt_84, (va_up sp_84 ss_84 (pa_32 (dp_32 - 1))), pa_84, ro_84, (ss_84 + 1), dp_84, rn_84, od_84, kd_84) := by rw [ed1]; show (TS.ky (f_setAt _ _ _), _) = _; rw [show f_setAt (setPa (ky_32, vl_32, lf_32, rt_32, ct_32, ht_32, tt_32, sp_32, pa_32, ro_32, ss_32, dp_32, rn_32, od_32, kd_32) pa_32 (dp_32 - 1)) (dp_32 - 1) (if lf_32 (pa_32 (dp_32 - 1)) ≠ 0 then lf_32 (pa_32 (dp_32 - 1)) else rt_32 (pa_32 (dp_32 - 1))) = (ky_84, vl_84, lf_84, rt_84, ct_84, ht_84, tt_84, sp_84, pa_84, ro_84, ss_84, dp_84, rn_84, od_84, kd_84) from eu84.symm]
          have hokf : okClimb dp_84 (ky_84, vl_84, lf_84, rt_84, ct_84, ht_84, tt_84, (va_up sp_84 ss_84 (pa_32 (dp_32 - 1))), pa_84, ro_84, (ss_84 + 1), dp_84, rn_84, od_84, kd_84) := by have h9 := (hok (by rw [← ey2]; exact c7)).2; rw [ecut] at h9; exact h9
          have hdpf : dp_84 ≤ 61 := by omega
          refine lv_aload_n hx hb dX8_delete_107 rfl (lv_at hl 2 rfl) ?_
          refine xc_v (wr := []) (va_runV (As := []) (rest := []) ⟨hx, hb, hml, hown, hts⟩ (c_X8_climb l D ca kq a _ ky_84 vl_84 lf_84 rt_84 ct_84 ht_84 tt_84 (va_up sp_84 ss_84 (pa_32 (dp_32 - 1))) pa_84 ro_84 (ss_84 + 1) dp_84 rn_84 od_84 kd_84 hlf_84 hrt_84 (vu_le hsp_84 (hpa_32 (dp_32 - 1))) hpa_84 hro_84 hrn_84 hkd_84 hdpf hokf) (cwV 0 hts gX8_delete_X8_climb rfl rfl rfl (by decide +kernel) ⟨(Nat.le_of_ble_eq_true rfl), (Nat.le_of_ble_eq_true rfl)⟩) (xPreV hKN hP hD [0, 1, 2, 3, 4, 5, 6, 7, 8, 9, 10, 11, 12, 13, 14] (by decide) rfl (q0 := 4) rfl rfl rfl) rfl rfl hl.1 rfl (lv_room (Nat.le_of_ble_eq_true rfl)) dX8_delete_108 ⟨(Nat.le_of_ble_eq_true rfl), (Nat.le_of_ble_eq_true rfl)⟩) hP hD hS hA [0, 1, 2, 3, 4, 5, 6, 7, 8, 9, 10, 11, 12, 13, 14] [] rfl rfl (by decide) (by decide) (fun u108 H locs hu108 hP hD hS => ?_)
          refine lv_iconst (v := 1) hx hb dX8_delete_111 (by decide) ?_
          exact W.zret (v := 1) hx hb hr (by decide) (fun t9 e9 w9 => ⟨⟨_, u108, rfl, by rw [delete_some (by rw [← ey2]; exact c7), ecut]; exact ⟨rfl, hu108⟩, by rw [e9]; exact hP, hD⟩, hS.F e9⟩) hS.2.2 dX8_delete_112
  · skip
    have c7 : y2 = 0 := (xn_eq (a := y2) (b := 0) (Nat.lt_of_le_of_lt hy2 (by decide)) (by decide)).mp c7
    refine lv_iconst (v := 0) hx hb dX8_delete_10 (by decide) ?_
    exact W.zret (v := 0) hx hb hr (by decide) (fun t9 e9 w9 => ⟨⟨_, (ky_2, vl_2, lf_2, rt_2, ct_2, ht_2, tt_2, sp_2, pa_2, ro_2, ss_2, dp_2, rn_2, od_2, kd_2), rfl, by rw [delete_none (by rw [← ey2]; exact c7), ← eu2]; exact ⟨rfl, rfl⟩, by rw [e9]; exact hP, hD⟩, hS.F e9⟩) hS.2.2 dX8_delete_11
