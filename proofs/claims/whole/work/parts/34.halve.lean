-- Tree.halve
set_option maxHeartbeats 4000000 in
set_option maxRecDepth 100000 in
theorem c_X8_halve (l : Launch) (D : va_G) (ca : Nat → ClassId) (kq a : Nat → Nat) : ∀ (n : Nat) (sz : Nat) (ky vl : Nat → Int32) (lf rt : Nat → Nat) (ct ht : Nat → Int32) (tt : Nat → Int64) (sp pa ro : Nat → Nat) (ss dp rn : Nat) (od : Int32) (kd : Nat) (fr to9 : Nat) (hlf : ∀ k, lf k ≤ 60) (hrt : ∀ k, rt k ≤ 60) (hsp : ∀ k, sp k ≤ 60) (hpa : ∀ k, pa k ≤ 60) (hro : ∀ k, ro k ≤ 60) (hrn : rn ≤ 60) (hkd : kd < 4) (hfr : fr ≤ 60) (hto : to9 ≤ 60) (hn60 : n ≤ 60), Met l yX8_halve wsX8_halve ({ frames := n + 1, cells := 0, slots := 0, locals := 25 * n + 23 } : Room) (xPc D (TY ca) [.ref (a 0), .int (nI fr), .int (nI to9), .int (nI n)] (wT ca kq a (ky, vl, lf, rt, ct, ht, tt, sp, pa, ro, ss, dp, rn, od, kd)) sz) (va_Qi (fun (r : Int32) (u : TS) => r = nI (f_halve n (ky, vl, lf, rt, ct, ht, tt, sp, pa, ro, ss, dp, rn, od, kd) fr to9).1 ∧ u = (f_halve n (ky, vl, lf, rt, ct, ht, tt, sp, pa, ro, ss, dp, rn, od, kd) fr to9).2) (xB D (wT ca kq a) (va_A (wT ca kq a (ky, vl, lf, rt, ct, ht, tt, sp, pa, ro, ss, dp, rn, od, kd)) sz)) (va_A (wT ca kq a (ky, vl, lf, rt, ct, ht, tt, sp, pa, ro, ss, dp, rn, od, kd)) sz)) 0 0 (va_A (wT ca kq a (ky, vl, lf, rt, ct, ht, tt, sp, pa, ro, ss, dp, rn, od, kd)) sz) := by
  intro n
  induction n with
  | zero =>
    intro sz ky vl lf rt ct ht tt sp pa ro ss dp rn od kd fr to9 hlf hrt hsp hpa hro hrn hkd hfr hto hn60
    refine Met.ofW (cc := cX8_halve) (maxL := 6) (ret := (some .int)) (by decide) rfl ?_
    intro p e s m args below meth c s₁ B hml hv
    obtain ⟨rfl, hsz, hP, hKN, hD0⟩ := hv
    have hx := B.exec
    have hb := B.bytes
    have hr := B.returns
    have hts := atoms_spec (ws := wsX8_halve) B.pre
    have hown : s.vm.findClass RX8 = some m.cls := findClass_of_methodNamed B.named
    have hlocks := B.notSynchronized
    subst hsz
    have hD := hD0.self (sz := s.heap.size)
    generalize hAe : va_A (wT ca kq a (ky, vl, lf, rt, ct, ht, tt, sp, pa, ro, ss, dp, rn, od, kd)) s.heap.size = A at hD ⊢
    have hA : ∀ q : Nat, s.heap.size ≤ q → A q := fun q h => by rw [← hAe]; exact Or.inr h
    have hS : va_S A s.heap s.heap [] := va_S.rf
    have hl := lv_entry ([.ref (a 0), .int (nI fr), .int (nI to9), .int (nI 0)]) (n := 6) (Nat.le_of_ble_eq_true rfl)
    rw [lg_entry_eq]
    generalize (lg_sl ([.ref (a 0), .int (nI fr), .int (nI to9), .int (nI 0)]) ++ List.replicate (6 - (lg_sl ([.ref (a 0), .int (nI fr), .int (nI to9), .int (nI 0)])).length) Slot.unset).toArray = ls at hl ⊢
    have hl : lv_has ls 6 [(0, .ref (a 0)), (1, .int (nI fr)), (2, .int (nI to9)), (3, .int (nI 0))] := hl
    refine lv_iload_n hx hb dX8_halve_0 rfl (lv_at hl 1 rfl) ?_
    refine lv_iload_n hx hb dX8_halve_1 rfl (lv_at hl 2 rfl) ?_
    refine lv_icmp_ge (tgt := 9) hx hb dX8_halve_2 (by decide) (fun c2 => ?_) (fun c2 => ?_)
    · skip
      have c2 : to9 ≤ fr := (xn_le (a := to9) (b := fr) (Nat.lt_of_le_of_lt hto (by decide)) (Nat.lt_of_le_of_lt hfr (by decide))).mp c2
      refine lv_iconst (v := 0) hx hb dX8_halve_9 (by decide) ?_
      exact W.iret (v := 0) hx hb hr (fun t9 e9 w9 => ⟨⟨_, (ky, vl, lf, rt, ct, ht, tt, sp, pa, ro, ss, dp, rn, od, kd), rfl, ⟨rfl, rfl⟩, by rw [e9]; exact hP, hD⟩, hS.F e9⟩) hS.2.2 dX8_halve_10
    · skip
      have c2 : ¬ to9 ≤ fr := fun h9 => c2 ((xn_le (a := to9) (b := fr) (Nat.lt_of_le_of_lt hto (by decide)) (Nat.lt_of_le_of_lt hfr (by decide))).mpr h9)
      refine lv_iload_n hx hb dX8_halve_5 rfl (lv_at hl 3 rfl) ?_
      refine lv_if_ne (tgt := 11) hx hb dX8_halve_6 (by decide) (fun c6 => ?_) (fun c6 => ?_)
      · skip
        exact absurd rfl c6
      · skip
        refine lv_iconst (v := 0) hx hb dX8_halve_9 (by decide) ?_
        exact W.iret (v := 0) hx hb hr (fun t9 e9 w9 => ⟨⟨_, (ky, vl, lf, rt, ct, ht, tt, sp, pa, ro, ss, dp, rn, od, kd), rfl, ⟨rfl, rfl⟩, by rw [e9]; exact hP, hD⟩, hS.F e9⟩) hS.2.2 dX8_halve_10
  | succ n ih =>
    intro sz ky vl lf rt ct ht tt sp pa ro ss dp rn od kd fr to9 hlf hrt hsp hpa hro hrn hkd hfr hto hn60
    refine Met.ofW (cc := cX8_halve) (maxL := 6) (ret := (some .int)) (by decide) rfl ?_
    intro p e s m args below meth c s₁ B hml hv
    obtain ⟨rfl, hsz, hP, hKN, hD0⟩ := hv
    have hx := B.exec
    have hb := B.bytes
    have hr := B.returns
    have hts := atoms_spec (ws := wsX8_halve) B.pre
    have hown : s.vm.findClass RX8 = some m.cls := findClass_of_methodNamed B.named
    have hlocks := B.notSynchronized
    have inX8 : ∀ w ∈ wsX80, w ∈ wsX8_halve := by decide +kernel
    subst hsz
    have hD := hD0.self (sz := s.heap.size)
    generalize hAe : va_A (wT ca kq a (ky, vl, lf, rt, ct, ht, tt, sp, pa, ro, ss, dp, rn, od, kd)) s.heap.size = A at hD ⊢
    have hA : ∀ q : Nat, s.heap.size ≤ q → A q := fun q h => by rw [← hAe]; exact Or.inr h
    have hS : va_S A s.heap s.heap [] := va_S.rf
    have hl := lv_entry ([.ref (a 0), .int (nI fr), .int (nI to9), .int (nI (n + 1))]) (n := 6) (Nat.le_of_ble_eq_true rfl)
    rw [lg_entry_eq]
    generalize (lg_sl ([.ref (a 0), .int (nI fr), .int (nI to9), .int (nI (n + 1))]) ++ List.replicate (6 - (lg_sl ([.ref (a 0), .int (nI fr), .int (nI to9), .int (nI (n + 1))])).length) Slot.unset).toArray = ls at hl ⊢
    have hl : lv_has ls 6 [(0, .ref (a 0)), (1, .int (nI fr)), (2, .int (nI to9)), (3, .int (nI (n + 1)))] := hl
    refine lv_iload_n hx hb dX8_halve_0 rfl (lv_at hl 1 rfl) ?_
    refine lv_iload_n hx hb dX8_halve_1 rfl (lv_at hl 2 rfl) ?_
    refine lv_icmp_ge (tgt := 9) hx hb dX8_halve_2 (by decide) (fun c2 => ?_) (fun c2 => ?_)
    · skip
      have c2 : to9 ≤ fr := (xn_le (a := to9) (b := fr) (Nat.lt_of_le_of_lt hto (by decide)) (Nat.lt_of_le_of_lt hfr (by decide))).mp c2
      refine lv_iconst (v := 0) hx hb dX8_halve_9 (by decide) ?_
      exact W.iret (v := 0) hx hb hr (fun t9 e9 w9 => ⟨⟨_, (ky, vl, lf, rt, ct, ht, tt, sp, pa, ro, ss, dp, rn, od, kd), rfl, ⟨by rw [f_halve, if_pos c2]; rfl, by rw [f_halve, if_pos c2]⟩, by rw [e9]; exact hP, hD⟩, hS.F e9⟩) hS.2.2 dX8_halve_10
    · skip
      have c2 : ¬ to9 ≤ fr := fun h9 => c2 ((xn_le (a := to9) (b := fr) (Nat.lt_of_le_of_lt hto (by decide)) (Nat.lt_of_le_of_lt hfr (by decide))).mpr h9)
      refine lv_iload_n hx hb dX8_halve_5 rfl (lv_at hl 3 rfl) ?_
      refine lv_if_ne (tgt := 11) hx hb dX8_halve_6 (by decide) (fun c6 => ?_) (fun c6 => ?_)
      · skip
        refine lv_iload_n hx hb dX8_halve_11 rfl (lv_at hl 1 rfl) ?_
        refine lv_iload_n hx hb dX8_halve_12 rfl (lv_at hl 2 rfl) ?_
        refine lv_iload_n hx hb dX8_halve_13 rfl (lv_at hl 1 rfl) ?_
        refine lv_isub hx hb dX8_halve_14 ?_
        refine xr_top (y := nI (to9 - fr)) (pk_sub (a := to9) (b := fr) (by omega)) ?_
        refine lv_iconst (v := 2) hx hb dX8_halve_15 (by decide) ?_
        refine lv_idiv hx hb dX8_halve_16 (by decide) ?_
        refine xr_top (y := nI ((to9 - fr) / 2)) (pk_div (a := to9 - fr) (d := 2) (by omega) (by decide) (by decide)) ?_
        refine lv_iadd hx hb dX8_halve_17 ?_
        refine xr_top (y := nI (fr + ((to9 - fr) / 2))) (nI_add fr ((to9 - fr) / 2)) ?_
        refine lv_istore (lv' := [(4, .int (nI (fr + ((to9 - fr) / 2)))), (0, .ref (a 0)), (1, .int (nI fr)), (2, .int (nI to9)), (3, .int (nI (n + 1)))]) hx hb dX8_halve_18 hl (by decide) rfl (fun ls hl => ?_)
        refine lv_aload_n hx hb dX8_halve_20 rfl (lv_at hl 1 rfl) ?_
        refine va_get (D := D) (ci := 6) (v := .ref (a 10)) (C := RX8) (T := TX8) (N := 15) hx hb hts inX8 hown hKN.1 hP 0 rfl rfl 9 (by decide) (hts (.fieldLink RX8 40 "TreeFamily$Tree" "row" "[I") (by decide +kernel)) (fun _ h9 => h9) rfl dX8_halve_21 ?_
        refine lv_iload hx hb dX8_halve_24 (lv_at hl 0 rfl) ?_
        refine xr_ild hx hb hKN.1 hP 10 0 rfl rfl (j := fr + ((to9 - fr) / 2)) (by omega) (by decide) dX8_halve_26 ?_
        refine lv_istore (lv' := [(5, .int (nI (ro (fr + ((to9 - fr) / 2))))), (4, .int (nI (fr + ((to9 - fr) / 2)))), (0, .ref (a 0)), (1, .int (nI fr)), (2, .int (nI to9)), (3, .int (nI (n + 1)))]) hx hb dX8_halve_27 hl (by decide) rfl (fun ls hl => ?_)
        refine lv_aload_n hx hb dX8_halve_29 rfl (lv_at hl 2 rfl) ?_
        refine va_get (D := D) (ci := 6) (v := .ref (a 3)) (C := RX8) (T := TX8) (N := 15) hx hb hts inX8 hown hKN.1 hP 0 rfl rfl 2 (by decide) (hts (.fieldLink RX8 18 "TreeFamily$Tree" "left" "[I") (by decide +kernel)) (fun _ h9 => h9) rfl dX8_halve_30 ?_
        refine lv_iload hx hb dX8_halve_33 (lv_at hl 0 rfl) ?_
        refine lv_aload_n hx hb dX8_halve_35 rfl (lv_at hl 2 rfl) ?_
        refine lv_iload_n hx hb dX8_halve_36 rfl (lv_at hl 3 rfl) ?_
        refine lv_iload hx hb dX8_halve_37 (lv_at hl 1 rfl) ?_
        refine lv_iload_n hx hb dX8_halve_39 rfl (lv_at hl 5 rfl) ?_
        refine lv_iconst (v := 1) hx hb dX8_halve_40 (by decide) ?_
        refine lv_isub hx hb dX8_halve_41 ?_
        refine xr_top (y := nI n) (pk_sub (a := n + 1) (b := 1) (by omega)) ?_
        refine xc_i (wr := []) (va_runV (As := [.int (nI fr), .int (nI (fr + ((to9 - fr) / 2))), .int (nI n)]) (rest := [.int (nI (ro (fr + ((to9 - fr) / 2)))), .ref (a 3)]) ⟨hx, hb, hml, hown, hts⟩ (ih _ ky vl lf rt ct ht tt sp pa ro ss dp rn od kd fr (fr + ((to9 - fr) / 2)) hlf hrt hsp hpa hro hrn hkd (by omega) (by omega) (by omega)) (cwV 3 hts gX8_halve_X8_halve rfl rfl rfl (by decide +kernel) ⟨(Nat.le_refl _), (by show 8 + (6 + 11) + (25 * n + 23) ≤ 25 * (n + 1) + 23; omega)⟩) (xPreV hKN hP hD [0, 1, 2, 3, 4, 5, 6, 7, 8, 9, 10] (by decide) rfl (q0 := 0) rfl rfl rfl) rfl rfl hl.1 rfl (lv_room (Nat.le_of_ble_eq_true rfl)) dX8_halve_42 ⟨Nat.zero_le _, Nat.zero_le _⟩) hP hD hS hA [0, 1, 2, 3, 4, 5, 6, 7, 8, 9, 10] [] rfl rfl (by decide) (by decide) (fun r42 u42 H locs hu42 hP hD hS => ?_)
        obtain ⟨er42, eu42⟩ := hu42
        obtain ⟨y42, ey42⟩ : ∃ z, z = (f_halve n (ky, vl, lf, rt, ct, ht, tt, sp, pa, ro, ss, dp, rn, od, kd) fr (fr + ((to9 - fr) / 2))).1 := ⟨_, rfl⟩
        rw [← ey42] at er42
        subst er42
        have hy42 : y42 ≤ 60 := by rw [ey42]; exact (wf_halve n (⟨hlf, hrt, hsp, hpa, hro, hrn, hkd⟩ : WF (ky, vl, lf, rt, ct, ht, tt, sp, pa, ro, ss, dp, rn, od, kd)) _ _).1
        obtain ⟨ky_42, vl_42, lf_42, rt_42, ct_42, ht_42, tt_42, sp_42, pa_42, ro_42, ss_42, dp_42, rn_42, od_42, kd_42⟩ := u42
        obtain ⟨hlf_42, hrt_42, hsp_42, hpa_42, hro_42, hrn_42, hkd_42⟩ : WF (ky_42, vl_42, lf_42, rt_42, ct_42, ht_42, tt_42, sp_42, pa_42, ro_42, ss_42, dp_42, rn_42, od_42, kd_42) := by rw [eu42]; exact (wf_halve n (⟨hlf, hrt, hsp, hpa, hro, hrn, hkd⟩ : WF (ky, vl, lf, rt, ct, ht, tt, sp, pa, ro, ss, dp, rn, od, kd)) _ _).2
        have hP : va_P D vwCl (wT ca kq a (ky_42, vl_42, lf_42, rt_42, ct_42, ht_42, tt_42, sp_42, pa_42, ro_42, ss_42, dp_42, rn_42, od_42, kd_42)) H := hP
        have hD : va_D A (wT ca kq a (ky_42, vl_42, lf_42, rt_42, ct_42, ht_42, tt_42, sp_42, pa_42, ro_42, ss_42, dp_42, rn_42, od_42, kd_42)) := hD
        have e42 : f_halve n (ky, vl, lf, rt, ct, ht, tt, sp, pa, ro, ss, dp, rn, od, kd) fr (fr + ((to9 - fr) / 2)) = (y42, (ky_42, vl_42, lf_42, rt_42, ct_42, ht_42, tt_42, sp_42, pa_42, ro_42, ss_42, dp_42, rn_42, od_42, kd_42)) := Prod.ext ey42.symm eu42.symm
        refine xr_nst hx hb hKN.1 hP hD hS 3 0 (g := lf_42) rfl rfl (j := ro (fr + ((to9 - fr) / 2))) (v := y42) (Nat.lt_of_le_of_lt (hro (fr + ((to9 - fr) / 2))) (by decide)) (by decide) dX8_halve_45 (fun H locs hP hD hS => ?_)
        have hP : va_P D vwCl (wT ca kq a (ky_42, vl_42, (va_up lf_42 (ro (fr + ((to9 - fr) / 2))) y42), rt_42, ct_42, ht_42, tt_42, sp_42, pa_42, ro_42, ss_42, dp_42, rn_42, od_42, kd_42)) H := hP
        have hD : va_D A (wT ca kq a (ky_42, vl_42, (va_up lf_42 (ro (fr + ((to9 - fr) / 2))) y42), rt_42, ct_42, ht_42, tt_42, sp_42, pa_42, ro_42, ss_42, dp_42, rn_42, od_42, kd_42)) := hD
        refine lv_aload_n hx hb dX8_halve_46 rfl (lv_at hl 2 rfl) ?_
        refine va_get (D := D) (ci := 6) (v := .ref (a 4)) (C := RX8) (T := TX8) (N := 15) hx hb hts inX8 hown hKN.1 hP 0 rfl rfl 3 (by decide) (hts (.fieldLink RX8 21 "TreeFamily$Tree" "right" "[I") (by decide +kernel)) (fun _ h9 => h9) rfl dX8_halve_47 ?_
        refine lv_iload hx hb dX8_halve_50 (lv_at hl 0 rfl) ?_
        refine lv_aload_n hx hb dX8_halve_52 rfl (lv_at hl 2 rfl) ?_
        refine lv_iload hx hb dX8_halve_53 (lv_at hl 1 rfl) ?_
        refine lv_iconst (v := 1) hx hb dX8_halve_55 (by decide) ?_
        refine lv_iadd hx hb dX8_halve_56 ?_
        refine xr_top (y := nI ((fr + ((to9 - fr) / 2)) + 1)) (nI_add (fr + ((to9 - fr) / 2)) 1) ?_
        refine lv_iload_n hx hb dX8_halve_57 rfl (lv_at hl 4 rfl) ?_
        refine lv_iload_n hx hb dX8_halve_58 rfl (lv_at hl 5 rfl) ?_
        refine lv_iconst (v := 1) hx hb dX8_halve_59 (by decide) ?_
        refine lv_isub hx hb dX8_halve_60 ?_
        refine xr_top (y := nI n) (pk_sub (a := n + 1) (b := 1) (by omega)) ?_
        refine xc_i (wr := []) (va_runV (As := [.int (nI ((fr + ((to9 - fr) / 2)) + 1)), .int (nI to9), .int (nI n)]) (rest := [.int (nI (ro (fr + ((to9 - fr) / 2)))), .ref (a 4)]) ⟨hx, hb, hml, hown, hts⟩ (ih _ ky_42 vl_42 (va_up lf_42 (ro (fr + ((to9 - fr) / 2))) y42) rt_42 ct_42 ht_42 tt_42 sp_42 pa_42 ro_42 ss_42 dp_42 rn_42 od_42 kd_42 ((fr + ((to9 - fr) / 2)) + 1) to9 (vu_le hlf_42 hy42) hrt_42 hsp_42 hpa_42 hro_42 hrn_42 hkd_42 (by omega) (by omega) (by omega)) (cwV 3 hts gX8_halve_X8_halve rfl rfl rfl (by decide +kernel) ⟨(Nat.le_refl _), (by show 8 + (6 + 11) + (25 * n + 23) ≤ 25 * (n + 1) + 23; omega)⟩) (xPreV hKN hP hD [0, 1, 2, 3, 4, 5, 6, 7, 8, 9, 10] (by decide) rfl (q0 := 0) rfl rfl rfl) rfl rfl hl.1 rfl (lv_room (Nat.le_of_ble_eq_true rfl)) dX8_halve_61 ⟨Nat.zero_le _, Nat.zero_le _⟩) hP hD hS hA [0, 1, 2, 3, 4, 5, 6, 7, 8, 9, 10] [] rfl rfl (by decide) (by decide) (fun r61 u61 H locs hu61 hP hD hS => ?_)
        obtain ⟨er61, eu61⟩ := hu61
        obtain ⟨y61, ey61⟩ : ∃ z, z = (f_halve n (ky_42, vl_42, (va_up lf_42 (ro (fr + ((to9 - fr) / 2))) y42), rt_42, ct_42, ht_42, tt_42, sp_42, pa_42, ro_42, ss_42, dp_42, rn_42, od_42, kd_42) ((fr + ((to9 - fr) / 2)) + 1) to9).1 := ⟨_, rfl⟩
        rw [← ey61] at er61
        subst er61
        have hy61 : y61 ≤ 60 := by rw [ey61]; exact (wf_halve n (⟨(vu_le hlf_42 hy42), hrt_42, hsp_42, hpa_42, hro_42, hrn_42, hkd_42⟩ : WF (ky_42, vl_42, (va_up lf_42 (ro (fr + ((to9 - fr) / 2))) y42), rt_42, ct_42, ht_42, tt_42, sp_42, pa_42, ro_42, ss_42, dp_42, rn_42, od_42, kd_42)) _ _).1
        obtain ⟨ky_61, vl_61, lf_61, rt_61, ct_61, ht_61, tt_61, sp_61, pa_61, ro_61, ss_61, dp_61, rn_61, od_61, kd_61⟩ := u61
        obtain ⟨hlf_61, hrt_61, hsp_61, hpa_61, hro_61, hrn_61, hkd_61⟩ : WF (ky_61, vl_61, lf_61, rt_61, ct_61, ht_61, tt_61, sp_61, pa_61, ro_61, ss_61, dp_61, rn_61, od_61, kd_61) := by rw [eu61]; exact (wf_halve n (⟨(vu_le hlf_42 hy42), hrt_42, hsp_42, hpa_42, hro_42, hrn_42, hkd_42⟩ : WF (ky_42, vl_42, (va_up lf_42 (ro (fr + ((to9 - fr) / 2))) y42), rt_42, ct_42, ht_42, tt_42, sp_42, pa_42, ro_42, ss_42, dp_42, rn_42, od_42, kd_42)) _ _).2
        have hP : va_P D vwCl (wT ca kq a (ky_61, vl_61, lf_61, rt_61, ct_61, ht_61, tt_61, sp_61, pa_61, ro_61, ss_61, dp_61, rn_61, od_61, kd_61)) H := hP
        have hD : va_D A (wT ca kq a (ky_61, vl_61, lf_61, rt_61, ct_61, ht_61, tt_61, sp_61, pa_61, ro_61, ss_61, dp_61, rn_61, od_61, kd_61)) := hD
        have e61 : f_halve n (ky_42, vl_42, (va_up lf_42 (ro (fr + ((to9 - fr) / 2))) y42), rt_42, ct_42, ht_42, tt_42, sp_42, pa_42, ro_42, ss_42, dp_42, rn_42, od_42, kd_42) ((fr + ((to9 - fr) / 2)) + 1) to9 = (y61, (ky_61, vl_61, lf_61, rt_61, ct_61, ht_61, tt_61, sp_61, pa_61, ro_61, ss_61, dp_61, rn_61, od_61, kd_61)) := Prod.ext ey61.symm eu61.symm
        refine xr_nst hx hb hKN.1 hP hD hS 4 0 (g := rt_61) rfl rfl (j := ro (fr + ((to9 - fr) / 2))) (v := y61) (Nat.lt_of_le_of_lt (hro (fr + ((to9 - fr) / 2))) (by decide)) (by decide) dX8_halve_64 (fun H locs hP hD hS => ?_)
        have hP : va_P D vwCl (wT ca kq a (ky_61, vl_61, lf_61, (va_up rt_61 (ro (fr + ((to9 - fr) / 2))) y61), ct_61, ht_61, tt_61, sp_61, pa_61, ro_61, ss_61, dp_61, rn_61, od_61, kd_61)) H := hP
        have hD : va_D A (wT ca kq a (ky_61, vl_61, lf_61, (va_up rt_61 (ro (fr + ((to9 - fr) / 2))) y61), ct_61, ht_61, tt_61, sp_61, pa_61, ro_61, ss_61, dp_61, rn_61, od_61, kd_61)) := hD
        refine lv_aload_n hx hb dX8_halve_65 rfl (lv_at hl 2 rfl) ?_
        refine lv_iload hx hb dX8_halve_66 (lv_at hl 0 rfl) ?_
        refine xc_v (wr := []) (va_runV (As := [.int (nI (ro (fr + ((to9 - fr) / 2))))]) (rest := []) ⟨hx, hb, hml, hown, hts⟩ (c_X8_refresh l D ca kq a _ ky_61 vl_61 lf_61 (va_up rt_61 (ro (fr + ((to9 - fr) / 2))) y61) ct_61 ht_61 tt_61 sp_61 pa_61 ro_61 ss_61 dp_61 rn_61 od_61 kd_61 (ro (fr + ((to9 - fr) / 2))) hlf_61 (vu_le hrt_61 hy61) hsp_61 hpa_61 hro_61 hrn_61 (hro (fr + ((to9 - fr) / 2)))) (cwV 1 hts gX8_halve_X8_refresh rfl rfl rfl (by decide +kernel) ⟨(by show 0 + 1 ≤ n + 1 + 1; omega), (by show 8 + (4 + 11) + 0 ≤ 25 * (n + 1) + 23; omega)⟩) (xPreV hKN hP hD [0, 1, 2, 3, 4, 5, 6, 7, 8, 9, 10] (by decide) rfl (q0 := 0) rfl rfl rfl) rfl rfl hl.1 rfl (lv_room (Nat.le_of_ble_eq_true rfl)) dX8_halve_68 ⟨Nat.zero_le _, Nat.zero_le _⟩) hP hD hS hA [0, 1, 2, 3, 4, 5, 6, 7, 8, 9, 10] [] rfl rfl (by decide) (by decide) (fun u68 H locs hu68 hP hD hS => ?_)
        subst hu68
        have hP : va_P D vwCl (wT ca kq a (ky_61, vl_61, lf_61, (va_up rt_61 (ro (fr + ((to9 - fr) / 2))) y61), (upd ct_61 (ro (fr + ((to9 - fr) / 2))) (ct_61 (lf_61 (ro (fr + ((to9 - fr) / 2)))) + ct_61 ((va_up rt_61 (ro (fr + ((to9 - fr) / 2))) y61) (ro (fr + ((to9 - fr) / 2)))) + 1)), (upd ht_61 (ro (fr + ((to9 - fr) / 2))) (mx (ht_61 (lf_61 (ro (fr + ((to9 - fr) / 2))))) (ht_61 ((va_up rt_61 (ro (fr + ((to9 - fr) / 2))) y61) (ro (fr + ((to9 - fr) / 2))))) + 1)), (vp_updL tt_61 (ro (fr + ((to9 - fr) / 2))) (tt_61 (lf_61 (ro (fr + ((to9 - fr) / 2)))) + tt_61 ((va_up rt_61 (ro (fr + ((to9 - fr) / 2))) y61) (ro (fr + ((to9 - fr) / 2)))) + (vl_61 (ro (fr + ((to9 - fr) / 2)))).toInt64)), sp_61, pa_61, ro_61, ss_61, dp_61, rn_61, od_61, kd_61)) H := hP
        have hD : va_D A (wT ca kq a (ky_61, vl_61, lf_61, (va_up rt_61 (ro (fr + ((to9 - fr) / 2))) y61), (upd ct_61 (ro (fr + ((to9 - fr) / 2))) (ct_61 (lf_61 (ro (fr + ((to9 - fr) / 2)))) + ct_61 ((va_up rt_61 (ro (fr + ((to9 - fr) / 2))) y61) (ro (fr + ((to9 - fr) / 2)))) + 1)), (upd ht_61 (ro (fr + ((to9 - fr) / 2))) (mx (ht_61 (lf_61 (ro (fr + ((to9 - fr) / 2))))) (ht_61 ((va_up rt_61 (ro (fr + ((to9 - fr) / 2))) y61) (ro (fr + ((to9 - fr) / 2))))) + 1)), (vp_updL tt_61 (ro (fr + ((to9 - fr) / 2))) (tt_61 (lf_61 (ro (fr + ((to9 - fr) / 2)))) + tt_61 ((va_up rt_61 (ro (fr + ((to9 - fr) / 2))) y61) (ro (fr + ((to9 - fr) / 2)))) + (vl_61 (ro (fr + ((to9 - fr) / 2)))).toInt64)), sp_61, pa_61, ro_61, ss_61, dp_61, rn_61, od_61, kd_61)) := hD
        refine lv_iload hx hb dX8_halve_71 (lv_at hl 0 rfl) ?_
        exact W.iret (v := (nI (ro (fr + ((to9 - fr) / 2))))) hx hb hr (fun t9 e9 w9 => ⟨⟨_, (ky_61, vl_61, lf_61, (va_up rt_61 (ro (fr + ((to9 - fr) / 2))) y61), (upd ct_61 (ro (fr + ((to9 - fr) / 2))) (ct_61 (lf_61 (ro (fr + ((to9 - fr) / 2)))) + ct_61 ((va_up rt_61 (ro (fr + ((to9 - fr) / 2))) y61) (ro (fr + ((to9 - fr) / 2)))) + 1)), (upd ht_61 (ro (fr + ((to9 - fr) / 2))) (mx (ht_61 (lf_61 (ro (fr + ((to9 - fr) / 2))))) (ht_61 ((va_up rt_61 (ro (fr + ((to9 - fr) / 2))) y61) (ro (fr + ((to9 - fr) / 2))))) + 1)), (vp_updL tt_61 (ro (fr + ((to9 - fr) / 2))) (tt_61 (lf_61 (ro (fr + ((to9 - fr) / 2)))) + tt_61 ((va_up rt_61 (ro (fr + ((to9 - fr) / 2))) y61) (ro (fr + ((to9 - fr) / 2)))) + (vl_61 (ro (fr + ((to9 - fr) / 2)))).toInt64)), sp_61, pa_61, ro_61, ss_61, dp_61, rn_61, od_61, kd_61), rfl, by rw [f_halve, if_neg c2]; show nI (ro (fr + (to9 - fr) / 2)) = nI (ro (fr + (to9 - fr) / 2)) ∧ (ky_61, vl_61, lf_61, (va_up rt_61 (ro (fr + ((to9 - fr) / 2))) y61), (upd ct_61 (ro (fr + ((to9 - fr) / 2))) (ct_61 (lf_61 (ro (fr + ((to9 - fr) / 2)))) + ct_61 ((va_up rt_61 (ro (fr + ((to9 - fr) / 2))) y61) (ro (fr + ((to9 - fr) / 2)))) + 1)), (upd ht_61 (ro (fr + ((to9 - fr) / 2))) (mx (ht_61 (lf_61 (ro (fr + ((to9 - fr) / 2))))) (ht_61 ((va_up rt_61 (ro (fr + ((to9 - fr) / 2))) y61) (ro (fr + ((to9 - fr) / 2))))) + 1)), (vp_updL tt_61 (ro (fr + ((to9 - fr) / 2))) (tt_61 (lf_61 (ro (fr + ((to9 - fr) / 2)))) + tt_61 ((va_up rt_61 (ro (fr + ((to9 - fr) / 2))) y61) (ro (fr + ((to9 - fr) / 2)))) + (vl_61 (ro (fr + ((to9 - fr) / 2)))).toInt64)), sp_61, pa_61, ro_61, ss_61, dp_61, rn_61, od_61, kd_61) = f_refresh (setRt (f_halve n (setLf (f_halve n (ky, vl, lf, rt, ct, ht, tt, sp, pa, ro, ss, dp, rn, od, kd) fr (fr + ((to9 - fr) / 2))).2 (ro (fr + (to9 - fr) / 2)) (f_halve n (ky, vl, lf, rt, ct, ht, tt, sp, pa, ro, ss, dp, rn, od, kd) fr (fr + ((to9 - fr) / 2))).1) (fr + (to9 - fr) / 2 + 1) to9).2 (ro (fr + (to9 - fr) / 2)) (f_halve n (setLf (f_halve n (ky, vl, lf, rt, ct, ht, tt, sp, pa, ro, ss, dp, rn, od, kd) fr (fr + ((to9 - fr) / 2))).2 (ro (fr + (to9 - fr) / 2)) (f_halve n (ky, vl, lf, rt, ct, ht, tt, sp, pa, ro, ss, dp, rn, od, kd) fr (fr + ((to9 - fr) / 2))).1) (fr + (to9 - fr) / 2 + 1) to9).1) (ro (fr + (to9 - fr) / 2)); rw [e42]; rw [show f_halve n (setLf (y42, (ky_42, vl_42, lf_42, rt_42, ct_42, ht_42, tt_42, sp_42, pa_42, ro_42, ss_42, dp_42, rn_42, od_42, kd_42)).2 (ro (fr + (to9 - fr) / 2)) (y42, (ky_42, vl_42, lf_42, rt_42, ct_42, ht_42, tt_42, sp_42, pa_42, ro_42, ss_42, dp_42, rn_42, od_42, kd_42)).1) (fr + (to9 - fr) / 2 + 1) to9 = (y61, (ky_61, vl_61, lf_61, rt_61, ct_61, ht_61, tt_61, sp_61, pa_61, ro_61, ss_61, dp_61, rn_61, od_61, kd_61)) from e61]; exact ⟨rfl, rfl⟩, by rw [e9]; exact hP, hD⟩, hS.F e9⟩) hS.2.2 dX8_halve_73
      · skip
        exact absurd ((xn_eq (a := n + 1) (b := 0) (by omega) (by decide)).mp c6) (by omega)
