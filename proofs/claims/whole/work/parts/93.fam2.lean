theorem sim_nar {N : Nat} {m : MS} {r : RW} {how g1 g2 : Int32} (h : Rel1 N m r) (h4 : isB how 4 = true) (hn : ¬ (how = 3 ∧ gB r.od g2 g1 = true)) : Rel1 N (m.1, f_narrow how g1 g2, m.2.2.1, m.2.2.2) (r.od, r.en, r.cg, iN how, g1, g2, r.wk, r.kw, r.cp, r.gv, r.ho) := by
  obtain ⟨a1, a2⟩ := isB_nN (n := 4) (by decide) h4
  have h3 : iN how = 3 → gB r.od g2 g1 = false := fun e => by
    cases q : gB r.od g2 g1 with
    | false => rfl
    | true => exact absurd ⟨a2.trans (by rw [e]; rfl), q⟩ hn
  have := sim_narrow h a1 g1 g2 h3
  rw [← a2] at this
  exact this
theorem win_1 {x i what : Int32} {r : RW} {k : Nat} (hw : what = 1) (hb : begR r ≤ endR r ∧ endR r ≤ r.en.length ∧ r.en.length ≤ 60) (hi : i = if begR r = endR r then -1 else nI (if false = true then endR r - 1 else begR r)) (h1 : k < r.en.length) (h2 : i = nI k) (h3 : x = (r.en.getD k (0, 0)).1) : F_within what r = (x, 0, r) := by
  obtain ⟨c, e⟩ := eor_r (x := x) hb hi h1 h2
  rw [if_neg (by decide)] at e
  subst e
  exact F_within_3 (by rw [hw]; decide) (by rw [hw]; decide) (fun q => c q.symm) hw h3.symm
theorem win_2 {x i what : Int32} {r : RW} {k : Nat} (hw : what = 2) (hb : begR r ≤ endR r ∧ endR r ≤ r.en.length ∧ r.en.length ≤ 60) (hi : i = if begR r = endR r then -1 else nI (if true = true then endR r - 1 else begR r)) (h1 : k < r.en.length) (h2 : i = nI k) (h3 : x = (r.en.getD k (0, 0)).1) : F_within what r = (x, 0, r) := by
  obtain ⟨c, e⟩ := eor_r (x := x) hb hi h1 h2
  rw [if_pos rfl] at e
  subst e
  exact F_within_4 (by rw [hw]; decide) (by rw [hw]; decide) (fun q => c q.symm) (by rw [hw]; decide) h3.symm
theorem win_t {b : Bool} {i what : Int32} {r : RW} (hw : what = 1 ∨ what = 2) (hb : begR r ≤ endR r ∧ endR r ≤ r.en.length ∧ r.en.length ≤ 60) (hi : i = if begR r = endR r then -1 else nI (if b = true then endR r - 1 else begR r)) (h1 : ∀ k, k < r.en.length → i ≠ nI k) : F_within what r = (0, 2, r) := by
  have e := eor_t hb hi h1
  rcases hw with hw | hw
  · exact F_within_2 (by rw [hw]; decide) (by rw [hw]; decide) e.symm
  · exact F_within_2 (by rw [hw]; decide) (by rw [hw]; decide) e.symm
theorem poll_r {N : Nat} {m : MS} {b : Bool} {x i : Int32} {r : RW} {k : Nat} (hR : Rel1 N m r) (hi : i = if begR r = endR r then -1 else nI (if b = true then endR r - 1 else begR r)) (h1 : k < r.en.length) (h2 : i = nI k) (h3 : x = (r.en.getD k (0, 0)).1) : F_poll b r = (x, 0, (F_remove x r).2.2) := by
  obtain ⟨c, e⟩ := eor_r (x := x) (rel_be hR) hi h1 h2
  have hu := holds_up hR.1
  rw [hR.2.1] at hu
  have hge : r.en[k]? = some (r.en.getD k (0, 0)) := by rw [List.getD_eq_getElem?_getD, List.getElem?_eq_getElem h1]; rfl
  obtain ⟨p1, p2⟩ := up_pl hu hge
  rw [← h3] at p1 p2
  rw [F_remove_1 p2, p1]
  cases b
  · rw [if_neg (by decide)] at e
    subst e
    exact F_poll_2 c rfl h3.symm
  · rw [if_pos rfl] at e
    subst e
    exact F_poll_1 c rfl h3.symm
theorem nw_of {r : RW} (h : decide (r.wk = true ∧ r.kw = r.cg) = false) : r.wk = false ∨ r.kw ≠ r.cg := by
  have := of_decide_eq_false h
  cases e : r.wk with
  | false => exact Or.inl rfl
  | true => exact Or.inr (fun q => this ⟨e, q⟩)
theorem nd_of {r : RW} (h : decide (r.wk = true ∧ r.kw = r.cg ∧ r.ho = true) = false) : r.wk = false ∨ r.kw ≠ r.cg ∨ r.ho = false := by
  have := of_decide_eq_false h
  cases e : r.wk with
  | false => exact Or.inl rfl
  | true =>
    cases e2 : r.ho with
    | false => exact Or.inr (Or.inr rfl)
    | true => exact Or.inr (Or.inl (fun q => this ⟨e, q, e2⟩))
-- TreeFamily.make
theorem inT_X10_make_eIA : ∀ w ∈ (vx_atS RX10 48 eIA eNs).filter goodWord, w ∈ wsX10_make := by decide +kernel
set_option maxHeartbeats 4000000 in
set_option maxRecDepth 100000 in
theorem c_X10_make (l : Launch) (D : va_G) (ca : Nat → ClassId) (f kq : Nat → Nat) (ad : Nat → Nat → Nat) (sz : Nat) (hl9 : l.stackTraces = false) (i0 : Nat) (m : MS) (r : RW) (N : Nat) (mm : Int32) (kind o2 : Int32) (hR : Rel1 N m r) (hN : N ≤ 1000000) (hm : isB mm 3 = true → mm = nI i0 ∧ i0 < 3) : vx_Met l yX10_make wsX10_make ({ frames := 7, cells := 2, slots := 12, locals := 111 } : Room) (xPcT D (TY ca) [.ref (f 0), .int mm, .int kind, .int o2] ((wX ca f kq ad) ++ (wKd kq) ++ (wMp ca kq (ad i0) m)) sz) (va_Qv (fun u : MS => PR () (F_make kind o2) mm r N () u) (xB D (wF1 ca f kq ad i0) (va_A ((wX ca f kq ad) ++ (wKd kq) ++ (wMp ca kq (ad i0) m)) sz)) (va_A ((wX ca f kq ad) ++ (wKd kq) ++ (wMp ca kq (ad i0) m)) sz)) (xX D (wF1 ca f kq ad i0) (va_A ((wX ca f kq ad) ++ (wKd kq) ++ (wMp ca kq (ad i0) m)) sz) (fun (E : String) (u : MS) => PT xA () (F_make kind o2) mm r N E u)) 2 12 (va_A ((wX ca f kq ad) ++ (wKd kq) ++ (wMp ca kq (ad i0) m)) sz) := by
  refine vx_ofW (cc := cX10_make) (maxL := 5) (ret := none) (by decide) rfl ?_
  intro p e s m9 args below meth c s₁ B hml hno hv
  obtain ⟨rfl, hsz, hP, hKN, hD0, hTZ⟩ := hv
  have hx := B.exec
  have hb := B.bytes
  have hr := B.returns
  have hts := atoms_spec (ws := wsX10_make) B.pre
  have hown : s.vm.findClass RX10 = some m9.cls := findClass_of_methodNamed B.named
  have hlocks := B.notSynchronized
  have inX10 : ∀ w ∈ wsX100, w ∈ wsX10_make := by decide +kernel
  subst hsz
  have hD := hD0.self (sz := s.heap.size)
  generalize hAe : va_A ((wX ca f kq ad) ++ (wKd kq) ++ (wMp ca kq (ad i0) m)) s.heap.size = A at hD hTZ ⊢
  have hA : ∀ q : Nat, s.heap.size ≤ q → A q := fun q h => by rw [← hAe]; exact Or.inr h
  have hS : va_S A s.heap s.heap [] := va_S.rf
  have hl := lv_entry ([.ref (f 0), .int mm, .int kind, .int o2]) (n := 5) (Nat.le_of_ble_eq_true rfl)
  rw [lg_entry_eq]
  generalize (lg_sl ([.ref (f 0), .int mm, .int kind, .int o2]) ++ List.replicate (5 - (lg_sl ([.ref (f 0), .int mm, .int kind, .int o2])).length) Slot.unset).toArray = ls at hl ⊢
  have hl : lv_has ls 5 [(0, .ref (f 0)), (1, .int mm), (2, .int kind), (3, .int o2)] := hl
  refine lv_aload_n hx hb dX10_make_0 rfl (lv_at hl 0 rfl) ?_
  refine lv_iload_n hx hb dX10_make_1 rfl (lv_at hl 1 rfl) ?_
  refine xcx_r (wr := (wKd kq) ++ (wMp ca kq (ad i0) m)) (vx_runV (As := [.int mm]) (rest := []) ⟨hx, hb, hml, hown, hts⟩ (c_X10_mapAt l D ca f kq ad _ hl9 mm i0 hm) (cwV 1 hts gX10_make_X10_mapAt rfl rfl rfl (by decide +kernel) ⟨(Nat.le_of_ble_eq_true rfl), (Nat.le_of_ble_eq_true rfl)⟩) (xPreVT hKN hTZ hP hD hS hA [0, 1, 2] (by decide +kernel) rfl (q0 := 0) rfl rfl rfl) rfl rfl hl.1 rfl (lv_room (Nat.le_of_ble_eq_true rfl)) dX10_make_2 ⟨(Nat.le_of_ble_eq_true rfl), (Nat.le_of_ble_eq_true rfl)⟩) hP hD hS hA [0, 1, 2] [3, 4, 5, 6, 7, 8, 9, 10, 11, 12, 13, 14, 15, 16, 17, 18, 19, 20] rfl rfl (by decide +kernel) (by decide +kernel) (fun E9 ce9 q9 u2 H locs hu2 hP hD hS h91 h92 h93 => ?_) (fun ra u2 H locs hu2 hra2 hP hD hS => ?_)
  · skip
    obtain ⟨eE, hB2⟩ := hu2
    have hP : va_P D vwCl ((wX ca f kq ad) ++ (wKd kq) ++ (wMp ca kq (ad i0) m)) H := hP.sub (ws' := (wX ca f kq ad) ++ (wKd kq) ++ (wMp ca kq (ad i0) m)) [18, 19, 20, 0, 1, 2, 3, 4, 5, 6, 7, 8, 9, 10, 11, 12, 13, 14, 15, 16, 17] rfl
    have hD : va_D A ((wX ca f kq ad) ++ (wKd kq) ++ (wMp ca kq (ad i0) m)) := hD.sub (ws' := (wX ca f kq ad) ++ (wKd kq) ++ (wMp ca kq (ad i0) m)) [18, 19, 20, 0, 1, 2, 3, 4, 5, 6, 7, 8, 9, 10, 11, 12, 13, 14, 15, 16, 17] (by decide +kernel) rfl
    exact vx_out (fun x h => (hno x h).elim) hlocks h91 h92 h93 (fun t9 e9 _ => xX_on m (gbad hB2 eE (rel_mono hR (by omega))) hP hD hS e9) hS.2.2 (by omega) (by omega)
  · skip
    have hP : va_P D vwCl ((wX ca f kq ad) ++ (wKd kq) ++ (wMp ca kq (ad i0) m)) H := hP.sub (ws' := (wX ca f kq ad) ++ (wKd kq) ++ (wMp ca kq (ad i0) m)) [18, 19, 20, 0, 1, 2, 3, 4, 5, 6, 7, 8, 9, 10, 11, 12, 13, 14, 15, 16, 17] rfl
    have hD : va_D A ((wX ca f kq ad) ++ (wKd kq) ++ (wMp ca kq (ad i0) m)) := hD.sub (ws' := (wX ca f kq ad) ++ (wKd kq) ++ (wMp ca kq (ad i0) m)) [18, 19, 20, 0, 1, 2, 3, 4, 5, 6, 7, 8, 9, 10, 11, 12, 13, 14, 15, 16, 17] (by decide +kernel) rfl
    obtain ⟨hm2, hB2⟩ := hu2
    subst hra2
    have hi3 := (hm hB2).2
    subst hm2
    refine lv_astore (lv' := [(4, .ref (ad i0 11)), (0, .ref (f 0)), (1, .int (nI i0)), (2, .int kind), (3, .int o2)]) hx hb dX10_make_5 hl (by decide) rfl (fun ls hl => ?_)
    refine lv_iload_n hx hb dX10_make_7 rfl (lv_at hl 3 rfl) ?_
    refine lv_iconst (v := 4) hx hb dX10_make_8 (by decide) ?_
    refine xs_i (va_runS (As := [.int kind, .int 4]) (rest := []) ⟨hx, hb, hml, hown, hts⟩ (c_X10_isBelow l _ _) (va_cwS 2 hts gX10_make_X10_isBelow rfl rfl rfl (by decide +kernel) ⟨(Nat.le_of_ble_eq_true rfl), (Nat.le_of_ble_eq_true rfl)⟩) xPreT rfl rfl hl.1 rfl (lv_room (Nat.le_of_ble_eq_true rfl)) dX10_make_9 ⟨(Nat.le_of_ble_eq_true rfl), (Nat.le_of_ble_eq_true rfl)⟩) (fun r9 er9 => ?_)
    subst er9
    refine lv_if_eq (tgt := 23) hx hb dX10_make_12 (by decide) (fun c12 => ?_) (fun c12 => ?_)
    · skip
      have c12 := bI_0.mp c12
      obtain ⟨sa9, hsa⟩ := NW.s hKN.2 (a := RX10) (i := 46) (b := "no such kind or order") (by decide +kernel)
      exact vx_throwS (A := A) hx hb hl9 hown (by decide +kernel) hns_X (hts (.classLink RX10 44 eIA) (by decide +kernel)) (hts (.initialized eIA) (by decide +kernel)) hsa (hat_X10_eIA hKN.2 (fun w h => hts w (inT_X10_make_eIA w h))) hgo_X10_eIA_44 hTZ.1 hTZ.2 hS (hl.1.trans hml.symm) dX10_make_23 dX10_make_26 dX10_make_27 dX10_make_29 dX10_make_32 (fun x h => (hno x h).elim) (Nat.le_of_ble_eq_true rfl) (Nat.le_of_ble_eq_true rfl) (Nat.le_of_ble_eq_true rfl) (Nat.le_of_ble_eq_true rfl) hlocks (fun t9 _ hz9 hk9 => xX_of m (by first | exact gthr hB2 (F_make_a c12) (by decide) rfl (rel_mono hR (by omega)) | exact gthr hB2 (F_make_b c20) (by decide) rfl (rel_mono hR (by omega))) hP hD hS hz9 hk9) hS.2.2 (by omega) (by omega)
    · skip
      have c12 := bI_ne.mp c12
      refine lv_iload_n hx hb dX10_make_15 rfl (lv_at hl 4 rfl) ?_
      refine lv_iconst (v := 3) hx hb dX10_make_16 (by decide) ?_
      refine xs_i (va_runS (As := [.int o2, .int 3]) (rest := []) ⟨hx, hb, hml, hown, hts⟩ (c_X10_isBelow l _ _) (va_cwS 2 hts gX10_make_X10_isBelow rfl rfl rfl (by decide +kernel) ⟨(Nat.le_of_ble_eq_true rfl), (Nat.le_of_ble_eq_true rfl)⟩) xPreT rfl rfl hl.1 rfl (lv_room (Nat.le_of_ble_eq_true rfl)) dX10_make_17 ⟨(Nat.le_of_ble_eq_true rfl), (Nat.le_of_ble_eq_true rfl)⟩) (fun r17 er17 => ?_)
      subst er17
      refine lv_if_ne (tgt := 33) hx hb dX10_make_20 (by decide) (fun c20 => ?_) (fun c20 => ?_)
      · skip
        have c20 := bI_ne.mp c20
        refine lv_aload hx hb dX10_make_33 (lv_at hl 0 rfl) ?_
        refine lv_aload_n hx hb dX10_make_35 rfl (lv_at hl 1 rfl) ?_
        refine va_get (D := D) (ci := 8) (v := .ref (f 1)) (C := RX10) (T := TX10) (N := 2) hx hb hts inX10 hown hKN.1 hP 0 rfl rfl 0 (by decide) (hts (.fieldLink RX10 21 "TreeFamily" "kinds" "[LTreeFamily$Kind;") (by decide +kernel)) (fun _ h9 => h9) rfl dX10_make_36 ?_
        refine lv_iload_n hx hb dX10_make_39 rfl (lv_at hl 3 rfl) ?_
        obtain ⟨hk1, hk2⟩ := isB_nN (n := 4) (by decide) c12
        refine xr_top (y := nI (iN kind)) hk2 ?_
        refine va_aldq hx hb hKN.1 hP 1 3 rfl rfl (i := nI (iN kind)) (vp_in_nI (by omega) (by decide)) dX10_make_40 ?_
        refine xr_topr (y := .ref (kq (iN kind))) (by rw [nI_clamp (by omega)]; rfl) ?_
        refine lv_iload_n hx hb dX10_make_41 rfl (lv_at hl 4 rfl) ?_
        refine xc_v (wr := wX ca f kq ad) (va_runV (As := [.ref (kq (iN kind)), .int o2]) (rest := []) ⟨hx, hb, hml, hown, hts⟩ (r_X6_beginAnew l D ca kq (ad i0) _ m r N hR hN (iN kind) o2 hk1) (cwV 2 hts gX10_make_X6_beginAnew rfl rfl rfl (by decide +kernel) ⟨(Nat.le_of_ble_eq_true rfl), (Nat.le_of_ble_eq_true rfl)⟩) (xPreV hKN hP hD [3, 4, 5, 6, 7, 8, 9, 10, 11, 12, 13, 14, 15, 16, 17, 18, 19, 20] (by decide +kernel) rfl (q0 := 7) rfl rfl rfl) rfl rfl hl.1 rfl (lv_room (Nat.le_of_ble_eq_true rfl)) dX10_make_42 ⟨(Nat.le_of_ble_eq_true rfl), (Nat.le_of_ble_eq_true rfl)⟩) hP hD hS hA [3, 4, 5, 6, 7, 8, 9, 10, 11, 12, 13, 14, 15, 16, 17, 18, 19, 20] [0, 1, 2] rfl rfl (by decide +kernel) (by decide +kernel) (fun u42 H locs hu42 hP hD hS => ?_)
        have hP : va_P D vwCl ((wX ca f kq ad) ++ (wKd kq) ++ (wMp ca kq (ad i0) u42)) H := hP
        have hD : va_D A ((wX ca f kq ad) ++ (wKd kq) ++ (wMp ca kq (ad i0) u42)) := hD
        refine W.widen (k := 2) (n := 12) (by omega) (by omega) ?_
        exact vx_ret (W.vret hx hb hr (fun t9 e9 w9 => ⟨⟨u42, rfl, gretF hB2 (F_make_c c12 c20) hu42, by rw [e9]; exact hP, hD⟩, hS.F e9⟩) hS.2.2 dX10_make_45)
      · skip
        have c20 := bI_0.mp c20
        obtain ⟨sa9, hsa⟩ := NW.s hKN.2 (a := RX10) (i := 46) (b := "no such kind or order") (by decide +kernel)
        exact vx_throwS (A := A) hx hb hl9 hown (by decide +kernel) hns_X (hts (.classLink RX10 44 eIA) (by decide +kernel)) (hts (.initialized eIA) (by decide +kernel)) hsa (hat_X10_eIA hKN.2 (fun w h => hts w (inT_X10_make_eIA w h))) hgo_X10_eIA_44 hTZ.1 hTZ.2 hS (hl.1.trans hml.symm) dX10_make_23 dX10_make_26 dX10_make_27 dX10_make_29 dX10_make_32 (fun x h => (hno x h).elim) (Nat.le_of_ble_eq_true rfl) (Nat.le_of_ble_eq_true rfl) (Nat.le_of_ble_eq_true rfl) (Nat.le_of_ble_eq_true rfl) hlocks (fun t9 _ hz9 hk9 => xX_of m (by first | exact gthr hB2 (F_make_a c12) (by decide) rfl (rel_mono hR (by omega)) | exact gthr hB2 (F_make_b c20) (by decide) rfl (rel_mono hR (by omega))) hP hD hS hz9 hk9) hS.2.2 (by omega) (by omega)

-- TreeFamily.range
theorem inT_X10_range_eIA : ∀ w ∈ (vx_atS RX10 48 eIA eNs).filter goodWord, w ∈ wsX10_range := by decide +kernel
set_option maxHeartbeats 4000000 in
set_option maxRecDepth 100000 in
theorem c_X10_range (l : Launch) (D : va_G) (ca : Nat → ClassId) (f kq : Nat → Nat) (ad : Nat → Nat → Nat) (sz : Nat) (hl9 : l.stackTraces = false) (i0 : Nat) (m : MS) (r : RW) (N : Nat) (mm : Int32) (how g1 g2 : Int32) (hR : Rel1 N m r) (hN : N ≤ 1000000) (hm : isB mm 3 = true → mm = nI i0 ∧ i0 < 3) : vx_Met l yX10_range wsX10_range ({ frames := 7, cells := 2, slots := 12, locals := 111 } : Room) (xPcT D (TY ca) [.ref (f 0), .int mm, .int how, .int g1, .int g2] ((wX ca f kq ad) ++ (wKd kq) ++ (wMp ca kq (ad i0) m)) sz) (va_Qv (fun u : MS => PR () (F_range how g1 g2) mm r N () u) (xB D (wF1 ca f kq ad i0) (va_A ((wX ca f kq ad) ++ (wKd kq) ++ (wMp ca kq (ad i0) m)) sz)) (va_A ((wX ca f kq ad) ++ (wKd kq) ++ (wMp ca kq (ad i0) m)) sz)) (xX D (wF1 ca f kq ad i0) (va_A ((wX ca f kq ad) ++ (wKd kq) ++ (wMp ca kq (ad i0) m)) sz) (fun (E : String) (u : MS) => PT xA () (F_range how g1 g2) mm r N E u)) 2 12 (va_A ((wX ca f kq ad) ++ (wKd kq) ++ (wMp ca kq (ad i0) m)) sz) := by
  refine vx_ofW (cc := cX10_range) (maxL := 6) (ret := none) (by decide) rfl ?_
  intro p e s m9 args below meth c s₁ B hml hno hv
  obtain ⟨rfl, hsz, hP, hKN, hD0, hTZ⟩ := hv
  have hx := B.exec
  have hb := B.bytes
  have hr := B.returns
  have hts := atoms_spec (ws := wsX10_range) B.pre
  have hown : s.vm.findClass RX10 = some m9.cls := findClass_of_methodNamed B.named
  have hlocks := B.notSynchronized
  subst hsz
  have hD := hD0.self (sz := s.heap.size)
  generalize hAe : va_A ((wX ca f kq ad) ++ (wKd kq) ++ (wMp ca kq (ad i0) m)) s.heap.size = A at hD hTZ ⊢
  have hA : ∀ q : Nat, s.heap.size ≤ q → A q := fun q h => by rw [← hAe]; exact Or.inr h
  have hS : va_S A s.heap s.heap [] := va_S.rf
  have hl := lv_entry ([.ref (f 0), .int mm, .int how, .int g1, .int g2]) (n := 6) (Nat.le_of_ble_eq_true rfl)
  rw [lg_entry_eq]
  generalize (lg_sl ([.ref (f 0), .int mm, .int how, .int g1, .int g2]) ++ List.replicate (6 - (lg_sl ([.ref (f 0), .int mm, .int how, .int g1, .int g2])).length) Slot.unset).toArray = ls at hl ⊢
  have hl : lv_has ls 6 [(0, .ref (f 0)), (1, .int mm), (2, .int how), (3, .int g1), (4, .int g2)] := hl
  refine lv_aload_n hx hb dX10_range_0 rfl (lv_at hl 0 rfl) ?_
  refine lv_iload_n hx hb dX10_range_1 rfl (lv_at hl 1 rfl) ?_
  refine xcx_r (wr := (wKd kq) ++ (wMp ca kq (ad i0) m)) (vx_runV (As := [.int mm]) (rest := []) ⟨hx, hb, hml, hown, hts⟩ (c_X10_mapAt l D ca f kq ad _ hl9 mm i0 hm) (cwV 1 hts gX10_range_X10_mapAt rfl rfl rfl (by decide +kernel) ⟨(Nat.le_of_ble_eq_true rfl), (Nat.le_of_ble_eq_true rfl)⟩) (xPreVT hKN hTZ hP hD hS hA [0, 1, 2] (by decide +kernel) rfl (q0 := 0) rfl rfl rfl) rfl rfl hl.1 rfl (lv_room (Nat.le_of_ble_eq_true rfl)) dX10_range_2 ⟨(Nat.le_of_ble_eq_true rfl), (Nat.le_of_ble_eq_true rfl)⟩) hP hD hS hA [0, 1, 2] [3, 4, 5, 6, 7, 8, 9, 10, 11, 12, 13, 14, 15, 16, 17, 18, 19, 20] rfl rfl (by decide +kernel) (by decide +kernel) (fun E9 ce9 q9 u2 H locs hu2 hP hD hS h91 h92 h93 => ?_) (fun ra u2 H locs hu2 hra2 hP hD hS => ?_)
  · skip
    obtain ⟨eE, hB2⟩ := hu2
    have hP : va_P D vwCl ((wX ca f kq ad) ++ (wKd kq) ++ (wMp ca kq (ad i0) m)) H := hP.sub (ws' := (wX ca f kq ad) ++ (wKd kq) ++ (wMp ca kq (ad i0) m)) [18, 19, 20, 0, 1, 2, 3, 4, 5, 6, 7, 8, 9, 10, 11, 12, 13, 14, 15, 16, 17] rfl
    have hD : va_D A ((wX ca f kq ad) ++ (wKd kq) ++ (wMp ca kq (ad i0) m)) := hD.sub (ws' := (wX ca f kq ad) ++ (wKd kq) ++ (wMp ca kq (ad i0) m)) [18, 19, 20, 0, 1, 2, 3, 4, 5, 6, 7, 8, 9, 10, 11, 12, 13, 14, 15, 16, 17] (by decide +kernel) rfl
    exact vx_out (fun x h => (hno x h).elim) hlocks h91 h92 h93 (fun t9 e9 _ => xX_on m (gbad hB2 eE (rel_mono hR (by omega))) hP hD hS e9) hS.2.2 (by omega) (by omega)
  · skip
    have hP : va_P D vwCl ((wX ca f kq ad) ++ (wKd kq) ++ (wMp ca kq (ad i0) m)) H := hP.sub (ws' := (wX ca f kq ad) ++ (wKd kq) ++ (wMp ca kq (ad i0) m)) [18, 19, 20, 0, 1, 2, 3, 4, 5, 6, 7, 8, 9, 10, 11, 12, 13, 14, 15, 16, 17] rfl
    have hD : va_D A ((wX ca f kq ad) ++ (wKd kq) ++ (wMp ca kq (ad i0) m)) := hD.sub (ws' := (wX ca f kq ad) ++ (wKd kq) ++ (wMp ca kq (ad i0) m)) [18, 19, 20, 0, 1, 2, 3, 4, 5, 6, 7, 8, 9, 10, 11, 12, 13, 14, 15, 16, 17] (by decide +kernel) rfl
    obtain ⟨hm2, hB2⟩ := hu2
    subst hra2
    have hi3 := (hm hB2).2
    subst hm2
    refine lv_astore (lv' := [(5, .ref (ad i0 11)), (0, .ref (f 0)), (1, .int (nI i0)), (2, .int how), (3, .int g1), (4, .int g2)]) hx hb dX10_range_5 hl (by decide) rfl (fun ls hl => ?_)
    refine lv_iload_n hx hb dX10_range_7 rfl (lv_at hl 3 rfl) ?_
    refine lv_iconst (v := 4) hx hb dX10_range_8 (by decide) ?_
    refine xs_i (va_runS (As := [.int how, .int 4]) (rest := []) ⟨hx, hb, hml, hown, hts⟩ (c_X10_isBelow l _ _) (va_cwS 2 hts gX10_range_X10_isBelow rfl rfl rfl (by decide +kernel) ⟨(Nat.le_of_ble_eq_true rfl), (Nat.le_of_ble_eq_true rfl)⟩) xPreT rfl rfl hl.1 rfl (lv_room (Nat.le_of_ble_eq_true rfl)) dX10_range_9 ⟨(Nat.le_of_ble_eq_true rfl), (Nat.le_of_ble_eq_true rfl)⟩) (fun r9 er9 => ?_)
    subst er9
    refine lv_if_eq (tgt := 31) hx hb dX10_range_12 (by decide) (fun c12 => ?_) (fun c12 => ?_)
    · skip
      have c12 := bI_0.mp c12
      obtain ⟨sa9, hsa⟩ := NW.s hKN.2 (a := RX10) (i := 88) (b := "no such range") (by decide +kernel)
      exact vx_throwS (A := A) hx hb hl9 hown (by decide +kernel) hns_X (hts (.classLink RX10 44 eIA) (by decide +kernel)) (hts (.initialized eIA) (by decide +kernel)) hsa (hat_X10_eIA hKN.2 (fun w h => hts w (inT_X10_range_eIA w h))) hgo_X10_eIA_44 hTZ.1 hTZ.2 hS (hl.1.trans hml.symm) dX10_range_31 dX10_range_34 dX10_range_35 dX10_range_37 dX10_range_40 (fun x h => (hno x h).elim) (Nat.le_of_ble_eq_true rfl) (Nat.le_of_ble_eq_true rfl) (Nat.le_of_ble_eq_true rfl) (Nat.le_of_ble_eq_true rfl) hlocks (fun t9 _ hz9 hk9 => xX_of m (by first | exact gthr hB2 (F_range_0 c12) (by decide) rfl (rel_mono hR (by omega)) | exact gthr hB2 (F_range_3 c17 c28) (by decide) rfl (rel_mono hR (by omega))) hP hD hS hz9 hk9) hS.2.2 (by omega) (by omega)
    · skip
      have c12 := bI_ne.mp c12
      refine lv_iload_n hx hb dX10_range_15 rfl (lv_at hl 3 rfl) ?_
      refine lv_iconst (v := 3) hx hb dX10_range_16 (by decide) ?_
      refine lv_icmp_ne (tgt := 41) hx hb dX10_range_17 (by decide) (fun c17 => ?_) (fun c17 => ?_)
      · skip
        refine lv_aload hx hb dX10_range_41 (lv_at hl 0 rfl) ?_
        refine lv_iload_n hx hb dX10_range_43 rfl (lv_at hl 3 rfl) ?_
        refine lv_iload_n hx hb dX10_range_44 rfl (lv_at hl 4 rfl) ?_
        refine lv_iload hx hb dX10_range_45 (lv_at hl 5 rfl) ?_
        refine xc_v (wr := wX ca f kq ad) (va_runV (As := [.int how, .int g1, .int g2]) (rest := []) ⟨hx, hb, hml, hown, hts⟩ (r_X6_narrow l D ca kq (ad i0) _ m r N hR hN how g1 g2) (cwV 3 hts gX10_range_X6_narrow rfl rfl rfl (by decide +kernel) ⟨(Nat.le_of_ble_eq_true rfl), (Nat.le_of_ble_eq_true rfl)⟩) (xPreV hKN hP hD [3, 4, 5, 6, 7, 8, 9, 10, 11, 12, 13, 14, 15, 16, 17, 18, 19, 20] (by decide +kernel) rfl (q0 := 7) rfl rfl rfl) rfl rfl hl.1 rfl (lv_room (Nat.le_of_ble_eq_true rfl)) dX10_range_47 ⟨(Nat.le_of_ble_eq_true rfl), (Nat.le_of_ble_eq_true rfl)⟩) hP hD hS hA [3, 4, 5, 6, 7, 8, 9, 10, 11, 12, 13, 14, 15, 16, 17, 18, 19, 20] [0, 1, 2] rfl rfl (by decide +kernel) (by decide +kernel) (fun u47 H locs hu47 hP hD hS => ?_)
        have hP : va_P D vwCl ((wX ca f kq ad) ++ (wKd kq) ++ (wMp ca kq (ad i0) u47)) H := hP
        have hD : va_D A ((wX ca f kq ad) ++ (wKd kq) ++ (wMp ca kq (ad i0) u47)) := hD
        subst hu47
        have hP : va_P D vwCl ((wX ca f kq ad) ++ (wKd kq) ++ (wMp ca kq (ad i0) (m.1, f_narrow how g1 g2, m.2.2.1, m.2.2.2))) H := hP
        have hD : va_D A ((wX ca f kq ad) ++ (wKd kq) ++ (wMp ca kq (ad i0) (m.1, f_narrow how g1 g2, m.2.2.1, m.2.2.2))) := hD
        refine W.widen (k := 2) (n := 12) (by omega) (by omega) ?_
        exact vx_ret (W.vret hx hb hr (fun t9 e9 w9 => ⟨⟨(m.1, f_narrow how g1 g2, m.2.2.1, m.2.2.2), rfl, gretF hB2 (F_range_1 c12 (by first | exact fun h9 => c17 h9.1 | exact fun h9 => absurd (c28.symm.trans h9.2) (by decide))) (rel_mono (sim_nar hR c12 (by first | exact fun h9 => c17 h9.1 | exact fun h9 => absurd (c28.symm.trans h9.2) (by decide))) (by omega)), by rw [e9]; exact hP, hD⟩, hS.F e9⟩) hS.2.2 dX10_range_50)
      · skip
        refine lv_aload hx hb dX10_range_20 (lv_at hl 0 rfl) ?_
        refine lv_iload hx hb dX10_range_22 (lv_at hl 5 rfl) ?_
        refine lv_iload_n hx hb dX10_range_24 rfl (lv_at hl 4 rfl) ?_
        refine xc_i (wr := wX ca f kq ad) (va_runV (As := [.int g2, .int g1]) (rest := []) ⟨hx, hb, hml, hown, hts⟩ (r_X6_putsBefore l D ca kq (ad i0) _ m r N hR hN g2 g1) (cwV 2 hts gX10_range_X6_putsBefore rfl rfl rfl (by decide +kernel) ⟨(Nat.le_of_ble_eq_true rfl), (Nat.le_of_ble_eq_true rfl)⟩) (xPreV hKN hP hD [3, 4, 5, 6, 7, 8, 9, 10, 11, 12, 13, 14, 15, 16, 17, 18, 19, 20] (by decide +kernel) rfl (q0 := 7) rfl rfl rfl) rfl rfl hl.1 rfl (lv_room (Nat.le_of_ble_eq_true rfl)) dX10_range_25 ⟨(Nat.le_of_ble_eq_true rfl), (Nat.le_of_ble_eq_true rfl)⟩) hP hD hS hA [3, 4, 5, 6, 7, 8, 9, 10, 11, 12, 13, 14, 15, 16, 17, 18, 19, 20] [0, 1, 2] rfl rfl (by decide +kernel) (by decide +kernel) (fun r25 u25 H locs hu25 hP hD hS => ?_)
        have hP : va_P D vwCl ((wX ca f kq ad) ++ (wKd kq) ++ (wMp ca kq (ad i0) u25)) H := hP
        have hD : va_D A ((wX ca f kq ad) ++ (wKd kq) ++ (wMp ca kq (ad i0) u25)) := hD
        obtain ⟨er25, eu25⟩ := hu25
        have eu25 := eu25.symm
        subst eu25
        subst er25
        have hP : va_P D vwCl ((wX ca f kq ad) ++ (wKd kq) ++ (wMp ca kq (ad i0) m)) H := hP
        have hD : va_D A ((wX ca f kq ad) ++ (wKd kq) ++ (wMp ca kq (ad i0) m)) := hD
        refine lv_if_eq (tgt := 41) hx hb dX10_range_28 (by decide) (fun c28 => ?_) (fun c28 => ?_)
        · skip
          have c28 := bI_0.mp c28
          refine lv_aload hx hb dX10_range_41 (lv_at hl 0 rfl) ?_
          refine lv_iload_n hx hb dX10_range_43 rfl (lv_at hl 3 rfl) ?_
          refine lv_iload_n hx hb dX10_range_44 rfl (lv_at hl 4 rfl) ?_
          refine lv_iload hx hb dX10_range_45 (lv_at hl 5 rfl) ?_
          refine xc_v (wr := wX ca f kq ad) (va_runV (As := [.int how, .int g1, .int g2]) (rest := []) ⟨hx, hb, hml, hown, hts⟩ (r_X6_narrow l D ca kq (ad i0) _ m r N hR hN how g1 g2) (cwV 3 hts gX10_range_X6_narrow rfl rfl rfl (by decide +kernel) ⟨(Nat.le_of_ble_eq_true rfl), (Nat.le_of_ble_eq_true rfl)⟩) (xPreV hKN hP hD [3, 4, 5, 6, 7, 8, 9, 10, 11, 12, 13, 14, 15, 16, 17, 18, 19, 20] (by decide +kernel) rfl (q0 := 7) rfl rfl rfl) rfl rfl hl.1 rfl (lv_room (Nat.le_of_ble_eq_true rfl)) dX10_range_47 ⟨(Nat.le_of_ble_eq_true rfl), (Nat.le_of_ble_eq_true rfl)⟩) hP hD hS hA [3, 4, 5, 6, 7, 8, 9, 10, 11, 12, 13, 14, 15, 16, 17, 18, 19, 20] [0, 1, 2] rfl rfl (by decide +kernel) (by decide +kernel) (fun u47 H locs hu47 hP hD hS => ?_)
          have hP : va_P D vwCl ((wX ca f kq ad) ++ (wKd kq) ++ (wMp ca kq (ad i0) u47)) H := hP
          have hD : va_D A ((wX ca f kq ad) ++ (wKd kq) ++ (wMp ca kq (ad i0) u47)) := hD
          subst hu47
          have hP : va_P D vwCl ((wX ca f kq ad) ++ (wKd kq) ++ (wMp ca kq (ad i0) (m.1, f_narrow how g1 g2, m.2.2.1, m.2.2.2))) H := hP
          have hD : va_D A ((wX ca f kq ad) ++ (wKd kq) ++ (wMp ca kq (ad i0) (m.1, f_narrow how g1 g2, m.2.2.1, m.2.2.2))) := hD
          refine W.widen (k := 2) (n := 12) (by omega) (by omega) ?_
          exact vx_ret (W.vret hx hb hr (fun t9 e9 w9 => ⟨⟨(m.1, f_narrow how g1 g2, m.2.2.1, m.2.2.2), rfl, gretF hB2 (F_range_1 c12 (by first | exact fun h9 => c17 h9.1 | exact fun h9 => absurd (c28.symm.trans h9.2) (by decide))) (rel_mono (sim_nar hR c12 (by first | exact fun h9 => c17 h9.1 | exact fun h9 => absurd (c28.symm.trans h9.2) (by decide))) (by omega)), by rw [e9]; exact hP, hD⟩, hS.F e9⟩) hS.2.2 dX10_range_50)
        · skip
          have c28 := bI_ne.mp c28
          obtain ⟨sa9, hsa⟩ := NW.s hKN.2 (a := RX10) (i := 88) (b := "no such range") (by decide +kernel)
          exact vx_throwS (A := A) hx hb hl9 hown (by decide +kernel) hns_X (hts (.classLink RX10 44 eIA) (by decide +kernel)) (hts (.initialized eIA) (by decide +kernel)) hsa (hat_X10_eIA hKN.2 (fun w h => hts w (inT_X10_range_eIA w h))) hgo_X10_eIA_44 hTZ.1 hTZ.2 hS (hl.1.trans hml.symm) dX10_range_31 dX10_range_34 dX10_range_35 dX10_range_37 dX10_range_40 (fun x h => (hno x h).elim) (Nat.le_of_ble_eq_true rfl) (Nat.le_of_ble_eq_true rfl) (Nat.le_of_ble_eq_true rfl) (Nat.le_of_ble_eq_true rfl) hlocks (fun t9 _ hz9 hk9 => xX_of m (by first | exact gthr hB2 (F_range_0 c12) (by decide) rfl (rel_mono hR (by omega)) | exact gthr hB2 (F_range_3 c17 c28) (by decide) rfl (rel_mono hR (by omega))) hP hD hS hz9 hk9) hS.2.2 (by omega) (by omega)

-- TreeFamily.within
theorem inT_X10_within_eIA : ∀ w ∈ (vx_atS RX10 48 eIA eNs).filter goodWord, w ∈ wsX10_within := by decide +kernel
set_option maxHeartbeats 4000000 in
set_option maxRecDepth 100000 in
theorem c_X10_within (l : Launch) (D : va_G) (ca : Nat → ClassId) (f kq : Nat → Nat) (ad : Nat → Nat → Nat) (sz : Nat) (hl9 : l.stackTraces = false) (i0 : Nat) (m : MS) (r : RW) (N : Nat) (mm : Int32) (what : Int32) (hR : Rel1 N m r) (hN : N ≤ 1000000) (hm : isB mm 3 = true → mm = nI i0 ∧ i0 < 3) : vx_Met l yX10_within wsX10_within ({ frames := 7, cells := 2, slots := 12, locals := 112 } : Room) (xPcT D (TY ca) [.ref (f 0), .int mm, .int what] ((wX ca f kq ad) ++ (wKd kq) ++ (wMp ca kq (ad i0) m)) sz) (va_Qi (fun (x : Int32) (u : MS) => PR 0 (F_within what) mm r N x u) (xB D (wF1 ca f kq ad i0) (va_A ((wX ca f kq ad) ++ (wKd kq) ++ (wMp ca kq (ad i0) m)) sz)) (va_A ((wX ca f kq ad) ++ (wKd kq) ++ (wMp ca kq (ad i0) m)) sz)) (xX D (wF1 ca f kq ad i0) (va_A ((wX ca f kq ad) ++ (wKd kq) ++ (wMp ca kq (ad i0) m)) sz) (fun (E : String) (u : MS) => PT xA (0 : Int32) (F_within what) mm r N E u)) 2 12 (va_A ((wX ca f kq ad) ++ (wKd kq) ++ (wMp ca kq (ad i0) m)) sz) := by
  refine vx_ofW (cc := cX10_within) (maxL := 4) (ret := (some .int)) (by decide) rfl ?_
  intro p e s m9 args below meth c s₁ B hml hno hv
  obtain ⟨rfl, hsz, hP, hKN, hD0, hTZ⟩ := hv
  have hx := B.exec
  have hb := B.bytes
  have hr := B.returns
  have hts := atoms_spec (ws := wsX10_within) B.pre
  have hown : s.vm.findClass RX10 = some m9.cls := findClass_of_methodNamed B.named
  have hlocks := B.notSynchronized
  subst hsz
  have hD := hD0.self (sz := s.heap.size)
  generalize hAe : va_A ((wX ca f kq ad) ++ (wKd kq) ++ (wMp ca kq (ad i0) m)) s.heap.size = A at hD hTZ ⊢
  have hA : ∀ q : Nat, s.heap.size ≤ q → A q := fun q h => by rw [← hAe]; exact Or.inr h
  have hS : va_S A s.heap s.heap [] := va_S.rf
  have hl := lv_entry ([.ref (f 0), .int mm, .int what]) (n := 4) (Nat.le_of_ble_eq_true rfl)
  rw [lg_entry_eq]
  generalize (lg_sl ([.ref (f 0), .int mm, .int what]) ++ List.replicate (4 - (lg_sl ([.ref (f 0), .int mm, .int what])).length) Slot.unset).toArray = ls at hl ⊢
  have hl : lv_has ls 4 [(0, .ref (f 0)), (1, .int mm), (2, .int what)] := hl
  refine lv_aload_n hx hb dX10_within_0 rfl (lv_at hl 0 rfl) ?_
  refine lv_iload_n hx hb dX10_within_1 rfl (lv_at hl 1 rfl) ?_
  refine xcx_r (wr := (wKd kq) ++ (wMp ca kq (ad i0) m)) (vx_runV (As := [.int mm]) (rest := []) ⟨hx, hb, hml, hown, hts⟩ (c_X10_mapAt l D ca f kq ad _ hl9 mm i0 hm) (cwV 1 hts gX10_within_X10_mapAt rfl rfl rfl (by decide +kernel) ⟨(Nat.le_of_ble_eq_true rfl), (Nat.le_of_ble_eq_true rfl)⟩) (xPreVT hKN hTZ hP hD hS hA [0, 1, 2] (by decide +kernel) rfl (q0 := 0) rfl rfl rfl) rfl rfl hl.1 rfl (lv_room (Nat.le_of_ble_eq_true rfl)) dX10_within_2 ⟨(Nat.le_of_ble_eq_true rfl), (Nat.le_of_ble_eq_true rfl)⟩) hP hD hS hA [0, 1, 2] [3, 4, 5, 6, 7, 8, 9, 10, 11, 12, 13, 14, 15, 16, 17, 18, 19, 20] rfl rfl (by decide +kernel) (by decide +kernel) (fun E9 ce9 q9 u2 H locs hu2 hP hD hS h91 h92 h93 => ?_) (fun ra u2 H locs hu2 hra2 hP hD hS => ?_)
  · skip
    obtain ⟨eE, hB2⟩ := hu2
    have hP : va_P D vwCl ((wX ca f kq ad) ++ (wKd kq) ++ (wMp ca kq (ad i0) m)) H := hP.sub (ws' := (wX ca f kq ad) ++ (wKd kq) ++ (wMp ca kq (ad i0) m)) [18, 19, 20, 0, 1, 2, 3, 4, 5, 6, 7, 8, 9, 10, 11, 12, 13, 14, 15, 16, 17] rfl
    have hD : va_D A ((wX ca f kq ad) ++ (wKd kq) ++ (wMp ca kq (ad i0) m)) := hD.sub (ws' := (wX ca f kq ad) ++ (wKd kq) ++ (wMp ca kq (ad i0) m)) [18, 19, 20, 0, 1, 2, 3, 4, 5, 6, 7, 8, 9, 10, 11, 12, 13, 14, 15, 16, 17] (by decide +kernel) rfl
    exact vx_out (fun x h => (hno x h).elim) hlocks h91 h92 h93 (fun t9 e9 _ => xX_on m (gbad hB2 eE (rel_mono hR (by omega))) hP hD hS e9) hS.2.2 (by omega) (by omega)
  · skip
    have hP : va_P D vwCl ((wX ca f kq ad) ++ (wKd kq) ++ (wMp ca kq (ad i0) m)) H := hP.sub (ws' := (wX ca f kq ad) ++ (wKd kq) ++ (wMp ca kq (ad i0) m)) [18, 19, 20, 0, 1, 2, 3, 4, 5, 6, 7, 8, 9, 10, 11, 12, 13, 14, 15, 16, 17] rfl
    have hD : va_D A ((wX ca f kq ad) ++ (wKd kq) ++ (wMp ca kq (ad i0) m)) := hD.sub (ws' := (wX ca f kq ad) ++ (wKd kq) ++ (wMp ca kq (ad i0) m)) [18, 19, 20, 0, 1, 2, 3, 4, 5, 6, 7, 8, 9, 10, 11, 12, 13, 14, 15, 16, 17] (by decide +kernel) rfl
    obtain ⟨hm2, hB2⟩ := hu2
    subst hra2
    have hi3 := (hm hB2).2
    subst hm2
    refine lv_astore_n (lv' := [(3, .ref (ad i0 11)), (0, .ref (f 0)), (1, .int (nI i0)), (2, .int what)]) hx hb dX10_within_5 rfl hl (by decide) rfl (fun ls hl => ?_)
    refine lv_iload_n hx hb dX10_within_6 rfl (lv_at hl 3 rfl) ?_
    by_cases k7_0 : what = 0
    · refine lv_tableIn (tgt := 32) (off := 25) hx hb dX10_within_7 (by rw [k7_0]; decide) (by rw [k7_0]; decide) (by rw [k7_0]; rfl) (by decide) ?_
      refine lv_aload_n hx hb dX10_within_32 rfl (lv_at hl 0 rfl) ?_
      refine xc_i (wr := wX ca f kq ad) (va_runV (As := []) (rest := []) ⟨hx, hb, hml, hown, hts⟩ (r_X6_countInRange l D ca kq (ad i0) _ m r N hR hN ) (cwV 0 hts gX10_within_X6_countInRange rfl rfl rfl (by decide +kernel) ⟨(Nat.le_of_ble_eq_true rfl), (Nat.le_of_ble_eq_true rfl)⟩) (xPreV hKN hP hD [3, 4, 5, 6, 7, 8, 9, 10, 11, 12, 13, 14, 15, 16, 17, 18, 19, 20] (by decide +kernel) rfl (q0 := 7) rfl rfl rfl) rfl rfl hl.1 rfl (lv_room (Nat.le_of_ble_eq_true rfl)) dX10_within_33 ⟨(Nat.le_of_ble_eq_true rfl), (Nat.le_of_ble_eq_true rfl)⟩) hP hD hS hA [3, 4, 5, 6, 7, 8, 9, 10, 11, 12, 13, 14, 15, 16, 17, 18, 19, 20] [0, 1, 2] rfl rfl (by decide +kernel) (by decide +kernel) (fun r33 u33 H locs hu33 hP hD hS => ?_)
      have hP : va_P D vwCl ((wX ca f kq ad) ++ (wKd kq) ++ (wMp ca kq (ad i0) u33)) H := hP
      have hD : va_D A ((wX ca f kq ad) ++ (wKd kq) ++ (wMp ca kq (ad i0) u33)) := hD
      obtain ⟨er33, eu33⟩ := hu33
      have eu33 := eu33.symm
      subst eu33
      subst er33
      have hP : va_P D vwCl ((wX ca f kq ad) ++ (wKd kq) ++ (wMp ca kq (ad i0) m)) H := hP
      have hD : va_D A ((wX ca f kq ad) ++ (wKd kq) ++ (wMp ca kq (ad i0) m)) := hD
      refine W.widen (k := 2) (n := 12) (by omega) (by omega) ?_
      exact vx_ret (W.iret (v := (nI (endR r - begR r))) hx hb hr (fun t9 e9 w9 => ⟨⟨_, m, rfl, gretF hB2 (F_within_1 (by rw [k7_0]; decide) k7_0) (rel_mono hR (by omega)), by rw [e9]; exact hP, hD⟩, hS.F e9⟩) hS.2.2 dX10_within_36)
    by_cases k7_1 : what = 1
    · refine lv_tableIn (tgt := 37) (off := 30) hx hb dX10_within_7 (by rw [k7_1]; decide) (by rw [k7_1]; decide) (by rw [k7_1]; rfl) (by decide) ?_
      refine lv_aload_n hx hb dX10_within_37 rfl (lv_at hl 0 rfl) ?_
      refine lv_aload_n hx hb dX10_within_38 rfl (lv_at hl 0 rfl) ?_
      refine lv_iconst (v := 0) hx hb dX10_within_39 (by decide) ?_
      refine xc_i (wr := wX ca f kq ad) (va_runV (As := [.int 0]) (rest := [.ref (ad i0 11)]) ⟨hx, hb, hml, hown, hts⟩ (r_X6_endOfRange l D ca kq (ad i0) _ m r N hR hN false) (cwV 1 hts gX10_within_X6_endOfRange rfl rfl rfl (by decide +kernel) ⟨(Nat.le_of_ble_eq_true rfl), (Nat.le_of_ble_eq_true rfl)⟩) (xPreV hKN hP hD [3, 4, 5, 6, 7, 8, 9, 10, 11, 12, 13, 14, 15, 16, 17, 18, 19, 20] (by decide +kernel) rfl (q0 := 7) rfl rfl rfl) rfl rfl hl.1 rfl (lv_room (Nat.le_of_ble_eq_true rfl)) dX10_within_40 ⟨(Nat.le_of_ble_eq_true rfl), (Nat.le_of_ble_eq_true rfl)⟩) hP hD hS hA [3, 4, 5, 6, 7, 8, 9, 10, 11, 12, 13, 14, 15, 16, 17, 18, 19, 20] [0, 1, 2] rfl rfl (by decide +kernel) (by decide +kernel) (fun r40 u40 H locs hu40 hP hD hS => ?_)
      have hP : va_P D vwCl ((wX ca f kq ad) ++ (wKd kq) ++ (wMp ca kq (ad i0) u40)) H := hP
      have hD : va_D A ((wX ca f kq ad) ++ (wKd kq) ++ (wMp ca kq (ad i0) u40)) := hD
      obtain ⟨er40, eu40⟩ := hu40
      have eu40 := eu40.symm
      subst eu40
      subst er40
      have hP : va_P D vwCl ((wX ca f kq ad) ++ (wKd kq) ++ (wMp ca kq (ad i0) m)) H := hP
      have hD : va_D A ((wX ca f kq ad) ++ (wKd kq) ++ (wMp ca kq (ad i0) m)) := hD
      refine xcx_i (wr := wX ca f kq ad) (vx_runV (As := [.int (if begR r = endR r then -1 else nI (if false = true then endR r - 1 else begR r))]) (rest := []) ⟨hx, hb, hml, hown, hts⟩ (r_X6_keyAt l D ca kq (ad i0) _ hl9 m r N hR hN (if begR r = endR r then -1 else nI (if false = true then endR r - 1 else begR r))) (cwV 1 hts gX10_within_X6_keyAt rfl rfl rfl (by decide +kernel) ⟨(Nat.le_of_ble_eq_true rfl), (Nat.le_of_ble_eq_true rfl)⟩) (xPreVT hKN hTZ hP hD hS hA [3, 4, 5, 6, 7, 8, 9, 10, 11, 12, 13, 14, 15, 16, 17, 18, 19, 20] (by decide +kernel) rfl (q0 := 7) rfl rfl rfl) rfl rfl hl.1 rfl (lv_room (Nat.le_of_ble_eq_true rfl)) dX10_within_43 ⟨(Nat.le_of_ble_eq_true rfl), (Nat.le_of_ble_eq_true rfl)⟩) hP hD hS hA [3, 4, 5, 6, 7, 8, 9, 10, 11, 12, 13, 14, 15, 16, 17, 18, 19, 20] [0, 1, 2] rfl rfl (by decide +kernel) (by decide +kernel) (fun E9 ce9 q9 u43 H locs hu43 hP hD hS h91 h92 h93 => ?_) (fun r43 u43 H locs hu43 hP hD hS => ?_)
      · skip
        have hP : va_P D vwCl ((wX ca f kq ad) ++ (wKd kq) ++ (wMp ca kq (ad i0) u43)) H := hP
        have hD : va_D A ((wX ca f kq ad) ++ (wKd kq) ++ (wMp ca kq (ad i0) u43)) := hD
        obtain ⟨eE, x1, eu43⟩ := hu43
        have eu43 := eu43.symm
        subst eu43
        exact vx_out (fun x h => (hno x h).elim) hlocks h91 h92 h93 (fun t9 e9 _ => xX_on m (gthr hB2 (win_t (b := false) (Or.inl k7_1) (rel_be hR) rfl x1) (by decide) eE (rel_mono hR (by omega))) hP hD hS e9) hS.2.2 (by omega) (by omega)
      · skip
        have hP : va_P D vwCl ((wX ca f kq ad) ++ (wKd kq) ++ (wMp ca kq (ad i0) u43)) H := hP
        have hD : va_D A ((wX ca f kq ad) ++ (wKd kq) ++ (wMp ca kq (ad i0) u43)) := hD
        obtain ⟨⟨k43, ka43, kb43, kc43⟩, eu43⟩ := hu43
        have eu43 := eu43.symm
        subst eu43
        have hP : va_P D vwCl ((wX ca f kq ad) ++ (wKd kq) ++ (wMp ca kq (ad i0) m)) H := hP
        have hD : va_D A ((wX ca f kq ad) ++ (wKd kq) ++ (wMp ca kq (ad i0) m)) := hD
        refine W.widen (k := 2) (n := 12) (by omega) (by omega) ?_
        exact vx_ret (W.iret (v := r43) hx hb hr (fun t9 e9 w9 => ⟨⟨_, m, rfl, gretF hB2 (win_1 k7_1 (rel_be hR) rfl ka43 kb43 kc43) (rel_mono hR (by omega)), by rw [e9]; exact hP, hD⟩, hS.F e9⟩) hS.2.2 dX10_within_46)
    by_cases k7_2 : what = 2
    · refine lv_tableIn (tgt := 47) (off := 40) hx hb dX10_within_7 (by rw [k7_2]; decide) (by rw [k7_2]; decide) (by rw [k7_2]; rfl) (by decide) ?_
      refine lv_aload_n hx hb dX10_within_47 rfl (lv_at hl 0 rfl) ?_
      refine lv_aload_n hx hb dX10_within_48 rfl (lv_at hl 0 rfl) ?_
      refine lv_iconst (v := 1) hx hb dX10_within_49 (by decide) ?_
      refine xc_i (wr := wX ca f kq ad) (va_runV (As := [.int 1]) (rest := [.ref (ad i0 11)]) ⟨hx, hb, hml, hown, hts⟩ (r_X6_endOfRange l D ca kq (ad i0) _ m r N hR hN true) (cwV 1 hts gX10_within_X6_endOfRange rfl rfl rfl (by decide +kernel) ⟨(Nat.le_of_ble_eq_true rfl), (Nat.le_of_ble_eq_true rfl)⟩) (xPreV hKN hP hD [3, 4, 5, 6, 7, 8, 9, 10, 11, 12, 13, 14, 15, 16, 17, 18, 19, 20] (by decide +kernel) rfl (q0 := 7) rfl rfl rfl) rfl rfl hl.1 rfl (lv_room (Nat.le_of_ble_eq_true rfl)) dX10_within_50 ⟨(Nat.le_of_ble_eq_true rfl), (Nat.le_of_ble_eq_true rfl)⟩) hP hD hS hA [3, 4, 5, 6, 7, 8, 9, 10, 11, 12, 13, 14, 15, 16, 17, 18, 19, 20] [0, 1, 2] rfl rfl (by decide +kernel) (by decide +kernel) (fun r50 u50 H locs hu50 hP hD hS => ?_)
      have hP : va_P D vwCl ((wX ca f kq ad) ++ (wKd kq) ++ (wMp ca kq (ad i0) u50)) H := hP
      have hD : va_D A ((wX ca f kq ad) ++ (wKd kq) ++ (wMp ca kq (ad i0) u50)) := hD
      obtain ⟨er50, eu50⟩ := hu50
      have eu50 := eu50.symm
      subst eu50
      subst er50
      have hP : va_P D vwCl ((wX ca f kq ad) ++ (wKd kq) ++ (wMp ca kq (ad i0) m)) H := hP
      have hD : va_D A ((wX ca f kq ad) ++ (wKd kq) ++ (wMp ca kq (ad i0) m)) := hD
      refine xcx_i (wr := wX ca f kq ad) (vx_runV (As := [.int (if begR r = endR r then -1 else nI (if true = true then endR r - 1 else begR r))]) (rest := []) ⟨hx, hb, hml, hown, hts⟩ (r_X6_keyAt l D ca kq (ad i0) _ hl9 m r N hR hN (if begR r = endR r then -1 else nI (if true = true then endR r - 1 else begR r))) (cwV 1 hts gX10_within_X6_keyAt rfl rfl rfl (by decide +kernel) ⟨(Nat.le_of_ble_eq_true rfl), (Nat.le_of_ble_eq_true rfl)⟩) (xPreVT hKN hTZ hP hD hS hA [3, 4, 5, 6, 7, 8, 9, 10, 11, 12, 13, 14, 15, 16, 17, 18, 19, 20] (by decide +kernel) rfl (q0 := 7) rfl rfl rfl) rfl rfl hl.1 rfl (lv_room (Nat.le_of_ble_eq_true rfl)) dX10_within_53 ⟨(Nat.le_of_ble_eq_true rfl), (Nat.le_of_ble_eq_true rfl)⟩) hP hD hS hA [3, 4, 5, 6, 7, 8, 9, 10, 11, 12, 13, 14, 15, 16, 17, 18, 19, 20] [0, 1, 2] rfl rfl (by decide +kernel) (by decide +kernel) (fun E9 ce9 q9 u53 H locs hu53 hP hD hS h91 h92 h93 => ?_) (fun r53 u53 H locs hu53 hP hD hS => ?_)
      · skip
        have hP : va_P D vwCl ((wX ca f kq ad) ++ (wKd kq) ++ (wMp ca kq (ad i0) u53)) H := hP
        have hD : va_D A ((wX ca f kq ad) ++ (wKd kq) ++ (wMp ca kq (ad i0) u53)) := hD
        obtain ⟨eE, x1, eu53⟩ := hu53
        have eu53 := eu53.symm
        subst eu53
        exact vx_out (fun x h => (hno x h).elim) hlocks h91 h92 h93 (fun t9 e9 _ => xX_on m (gthr hB2 (win_t (b := true) (Or.inr k7_2) (rel_be hR) rfl x1) (by decide) eE (rel_mono hR (by omega))) hP hD hS e9) hS.2.2 (by omega) (by omega)
      · skip
        have hP : va_P D vwCl ((wX ca f kq ad) ++ (wKd kq) ++ (wMp ca kq (ad i0) u53)) H := hP
        have hD : va_D A ((wX ca f kq ad) ++ (wKd kq) ++ (wMp ca kq (ad i0) u53)) := hD
        obtain ⟨⟨k53, ka53, kb53, kc53⟩, eu53⟩ := hu53
        have eu53 := eu53.symm
        subst eu53
        have hP : va_P D vwCl ((wX ca f kq ad) ++ (wKd kq) ++ (wMp ca kq (ad i0) m)) H := hP
        have hD : va_D A ((wX ca f kq ad) ++ (wKd kq) ++ (wMp ca kq (ad i0) m)) := hD
        refine W.widen (k := 2) (n := 12) (by omega) (by omega) ?_
        exact vx_ret (W.iret (v := r53) hx hb hr (fun t9 e9 w9 => ⟨⟨_, m, rfl, gretF hB2 (win_2 k7_2 (rel_be hR) rfl ka53 kb53 kc53) (rel_mono hR (by omega)), by rw [e9]; exact hP, hD⟩, hS.F e9⟩) hS.2.2 dX10_within_56)
    refine lv_tableOut (tgt := 57) hx hb dX10_within_7 (tab3 k7_0 k7_1 k7_2) (by decide) ?_
    obtain ⟨sa9, hsa⟩ := NW.s hKN.2 (a := RX10) (i := 101) (b := "no such question") (by decide +kernel)
    exact vx_throwS (A := A) hx hb hl9 hown (by decide +kernel) hns_X (hts (.classLink RX10 44 eIA) (by decide +kernel)) (hts (.initialized eIA) (by decide +kernel)) hsa (hat_X10_eIA hKN.2 (fun w h => hts w (inT_X10_within_eIA w h))) hgo_X10_eIA_44 hTZ.1 hTZ.2 hS (hl.1.trans hml.symm) dX10_within_57 dX10_within_60 dX10_within_61 dX10_within_63 dX10_within_66 (fun x h => (hno x h).elim) (Nat.le_of_ble_eq_true rfl) (Nat.le_of_ble_eq_true rfl) (Nat.le_of_ble_eq_true rfl) (Nat.le_of_ble_eq_true rfl) hlocks (fun t9 _ hz9 hk9 => xX_of m (gthr hB2 (F_within_0 (isB_t3 (tab3 k7_0 k7_1 k7_2))) (by decide) rfl (rel_mono hR (by omega))) hP hD hS hz9 hk9) hS.2.2 (by omega) (by omega)

-- TreeFamily.putWithin
theorem inT_X10_putWithin_eIA : ∀ w ∈ (vx_atS RX10 48 eIA eNs).filter goodWord, w ∈ wsX10_putWithin := by decide +kernel
set_option maxHeartbeats 4000000 in
set_option maxRecDepth 100000 in
theorem c_X10_putWithin (l : Launch) (D : va_G) (ca : Nat → ClassId) (f kq : Nat → Nat) (ad : Nat → Nat → Nat) (sz : Nat) (hl9 : l.stackTraces = false) (i0 : Nat) (m : MS) (r : RW) (N : Nat) (mm : Int32) (key v : Int32) (hR : Rel1 N m r) (hN : N ≤ 1000000) (hm : isB mm 3 = true → mm = nI i0 ∧ i0 < 3) : vx_Met l yX10_putWithin wsX10_putWithin ({ frames := 67, cells := 2, slots := 12, locals := 1661 } : Room) (xPcT D (TY ca) [.ref (f 0), .int mm, .int key, .int v] ((wX ca f kq ad) ++ (wKd kq) ++ (wMp ca kq (ad i0) m)) sz) (va_Qi (fun (x : Int32) (u : MS) => PR 0 (F_putWithin key v) mm r N x u) (xB D (wF1 ca f kq ad i0) (va_A ((wX ca f kq ad) ++ (wKd kq) ++ (wMp ca kq (ad i0) m)) sz)) (va_A ((wX ca f kq ad) ++ (wKd kq) ++ (wMp ca kq (ad i0) m)) sz)) (xX D (wF1 ca f kq ad i0) (va_A ((wX ca f kq ad) ++ (wKd kq) ++ (wMp ca kq (ad i0) m)) sz) (fun (E : String) (u : MS) => PT xA (0 : Int32) (F_putWithin key v) mm r N E u)) 2 12 (va_A ((wX ca f kq ad) ++ (wKd kq) ++ (wMp ca kq (ad i0) m)) sz) := by
  refine vx_ofW (cc := cX10_putWithin) (maxL := 5) (ret := (some .boolean)) (by decide) rfl ?_
  intro p e s m9 args below meth c s₁ B hml hno hv
  obtain ⟨rfl, hsz, hP, hKN, hD0, hTZ⟩ := hv
  have hx := B.exec
  have hb := B.bytes
  have hr := B.returns
  have hts := atoms_spec (ws := wsX10_putWithin) B.pre
  have hown : s.vm.findClass RX10 = some m9.cls := findClass_of_methodNamed B.named
  have hlocks := B.notSynchronized
  subst hsz
  have hD := hD0.self (sz := s.heap.size)
  generalize hAe : va_A ((wX ca f kq ad) ++ (wKd kq) ++ (wMp ca kq (ad i0) m)) s.heap.size = A at hD hTZ ⊢
  have hA : ∀ q : Nat, s.heap.size ≤ q → A q := fun q h => by rw [← hAe]; exact Or.inr h
  have hS : va_S A s.heap s.heap [] := va_S.rf
  have hl := lv_entry ([.ref (f 0), .int mm, .int key, .int v]) (n := 5) (Nat.le_of_ble_eq_true rfl)
  rw [lg_entry_eq]
  generalize (lg_sl ([.ref (f 0), .int mm, .int key, .int v]) ++ List.replicate (5 - (lg_sl ([.ref (f 0), .int mm, .int key, .int v])).length) Slot.unset).toArray = ls at hl ⊢
  have hl : lv_has ls 5 [(0, .ref (f 0)), (1, .int mm), (2, .int key), (3, .int v)] := hl
  refine lv_aload_n hx hb dX10_putWithin_0 rfl (lv_at hl 0 rfl) ?_
  refine lv_iload_n hx hb dX10_putWithin_1 rfl (lv_at hl 1 rfl) ?_
  refine xcx_r (wr := (wKd kq) ++ (wMp ca kq (ad i0) m)) (vx_runV (As := [.int mm]) (rest := []) ⟨hx, hb, hml, hown, hts⟩ (c_X10_mapAt l D ca f kq ad _ hl9 mm i0 hm) (cwV 1 hts gX10_putWithin_X10_mapAt rfl rfl rfl (by decide +kernel) ⟨(Nat.le_of_ble_eq_true rfl), (Nat.le_of_ble_eq_true rfl)⟩) (xPreVT hKN hTZ hP hD hS hA [0, 1, 2] (by decide +kernel) rfl (q0 := 0) rfl rfl rfl) rfl rfl hl.1 rfl (lv_room (Nat.le_of_ble_eq_true rfl)) dX10_putWithin_2 ⟨(Nat.le_of_ble_eq_true rfl), (Nat.le_of_ble_eq_true rfl)⟩) hP hD hS hA [0, 1, 2] [3, 4, 5, 6, 7, 8, 9, 10, 11, 12, 13, 14, 15, 16, 17, 18, 19, 20] rfl rfl (by decide +kernel) (by decide +kernel) (fun E9 ce9 q9 u2 H locs hu2 hP hD hS h91 h92 h93 => ?_) (fun ra u2 H locs hu2 hra2 hP hD hS => ?_)
  · skip
    obtain ⟨eE, hB2⟩ := hu2
    have hP : va_P D vwCl ((wX ca f kq ad) ++ (wKd kq) ++ (wMp ca kq (ad i0) m)) H := hP.sub (ws' := (wX ca f kq ad) ++ (wKd kq) ++ (wMp ca kq (ad i0) m)) [18, 19, 20, 0, 1, 2, 3, 4, 5, 6, 7, 8, 9, 10, 11, 12, 13, 14, 15, 16, 17] rfl
    have hD : va_D A ((wX ca f kq ad) ++ (wKd kq) ++ (wMp ca kq (ad i0) m)) := hD.sub (ws' := (wX ca f kq ad) ++ (wKd kq) ++ (wMp ca kq (ad i0) m)) [18, 19, 20, 0, 1, 2, 3, 4, 5, 6, 7, 8, 9, 10, 11, 12, 13, 14, 15, 16, 17] (by decide +kernel) rfl
    exact vx_out (fun x h => (hno x h).elim) hlocks h91 h92 h93 (fun t9 e9 _ => xX_on m (gbad hB2 eE (rel_mono hR (by omega))) hP hD hS e9) hS.2.2 (by omega) (by omega)
  · skip
    have hP : va_P D vwCl ((wX ca f kq ad) ++ (wKd kq) ++ (wMp ca kq (ad i0) m)) H := hP.sub (ws' := (wX ca f kq ad) ++ (wKd kq) ++ (wMp ca kq (ad i0) m)) [18, 19, 20, 0, 1, 2, 3, 4, 5, 6, 7, 8, 9, 10, 11, 12, 13, 14, 15, 16, 17] rfl
    have hD : va_D A ((wX ca f kq ad) ++ (wKd kq) ++ (wMp ca kq (ad i0) m)) := hD.sub (ws' := (wX ca f kq ad) ++ (wKd kq) ++ (wMp ca kq (ad i0) m)) [18, 19, 20, 0, 1, 2, 3, 4, 5, 6, 7, 8, 9, 10, 11, 12, 13, 14, 15, 16, 17] (by decide +kernel) rfl
    obtain ⟨hm2, hB2⟩ := hu2
    subst hra2
    have hi3 := (hm hB2).2
    subst hm2
    refine lv_astore (lv' := [(4, .ref (ad i0 11)), (0, .ref (f 0)), (1, .int (nI i0)), (2, .int key), (3, .int v)]) hx hb dX10_putWithin_5 hl (by decide) rfl (fun ls hl => ?_)
    refine lv_aload hx hb dX10_putWithin_7 (lv_at hl 0 rfl) ?_
    refine lv_iload_n hx hb dX10_putWithin_9 rfl (lv_at hl 3 rfl) ?_
    refine xc_i (wr := wX ca f kq ad) (va_runV (As := [.int key]) (rest := []) ⟨hx, hb, hml, hown, hts⟩ (r_X6_isInRange l D ca kq (ad i0) _ m r N hR hN key) (cwV 1 hts gX10_putWithin_X6_isInRange rfl rfl rfl (by decide +kernel) ⟨(Nat.le_of_ble_eq_true rfl), (Nat.le_of_ble_eq_true rfl)⟩) (xPreV hKN hP hD [3, 4, 5, 6, 7, 8, 9, 10, 11, 12, 13, 14, 15, 16, 17, 18, 19, 20] (by decide +kernel) rfl (q0 := 7) rfl rfl rfl) rfl rfl hl.1 rfl (lv_room (Nat.le_of_ble_eq_true rfl)) dX10_putWithin_10 ⟨(Nat.le_of_ble_eq_true rfl), (Nat.le_of_ble_eq_true rfl)⟩) hP hD hS hA [3, 4, 5, 6, 7, 8, 9, 10, 11, 12, 13, 14, 15, 16, 17, 18, 19, 20] [0, 1, 2] rfl rfl (by decide +kernel) (by decide +kernel) (fun r10 u10 H locs hu10 hP hD hS => ?_)
    have hP : va_P D vwCl ((wX ca f kq ad) ++ (wKd kq) ++ (wMp ca kq (ad i0) u10)) H := hP
    have hD : va_D A ((wX ca f kq ad) ++ (wKd kq) ++ (wMp ca kq (ad i0) u10)) := hD
    obtain ⟨er10, eu10⟩ := hu10
    have eu10 := eu10.symm
    subst eu10
    subst er10
    have hP : va_P D vwCl ((wX ca f kq ad) ++ (wKd kq) ++ (wMp ca kq (ad i0) m)) H := hP
    have hD : va_D A ((wX ca f kq ad) ++ (wKd kq) ++ (wMp ca kq (ad i0) m)) := hD
    refine lv_if_ne (tgt := 26) hx hb dX10_putWithin_13 (by decide) (fun c13 => ?_) (fun c13 => ?_)
    · skip
      have c13 := bI_ne.mp c13
      refine lv_aload hx hb dX10_putWithin_26 (lv_at hl 0 rfl) ?_
      refine lv_iload_n hx hb dX10_putWithin_28 rfl (lv_at hl 3 rfl) ?_
      refine lv_iload_n hx hb dX10_putWithin_29 rfl (lv_at hl 4 rfl) ?_
      refine xcx_i (wr := wX ca f kq ad) (vx_runV (As := [.int key, .int v]) (rest := []) ⟨hx, hb, hml, hown, hts⟩ (r_X6_store l D ca kq (ad i0) _ hl9 m r N hR hN key v) (cwV 2 hts gX10_putWithin_X6_store rfl rfl rfl (by decide +kernel) ⟨(Nat.le_of_ble_eq_true rfl), (Nat.le_of_ble_eq_true rfl)⟩) (xPreVT hKN hTZ hP hD hS hA [3, 4, 5, 6, 7, 8, 9, 10, 11, 12, 13, 14, 15, 16, 17, 18, 19, 20] (by decide +kernel) rfl (q0 := 7) rfl rfl rfl) rfl rfl hl.1 rfl (lv_room (Nat.le_of_ble_eq_true rfl)) dX10_putWithin_30 ⟨(Nat.le_of_ble_eq_true rfl), (Nat.le_of_ble_eq_true rfl)⟩) hP hD hS hA [3, 4, 5, 6, 7, 8, 9, 10, 11, 12, 13, 14, 15, 16, 17, 18, 19, 20] [0, 1, 2] rfl rfl (by decide +kernel) (by decide +kernel) (fun E9 ce9 q9 u30 H locs hu30 hP hD hS h91 h92 h93 => ?_) (fun r30 u30 H locs hu30 hP hD hS => ?_)
      · skip
        have hP : va_P D vwCl ((wX ca f kq ad) ++ (wKd kq) ++ (wMp ca kq (ad i0) u30)) H := hP
        have hD : va_D A ((wX ca f kq ad) ++ (wKd kq) ++ (wMp ca kq (ad i0) u30)) := hD
        obtain ⟨eE, x1, x2⟩ := hu30
        exact vx_out (fun x h => (hno x h).elim) hlocks h91 h92 h93 (fun t9 e9 _ => xX_on u30 (gthr hB2 ((F_pw_1 (key := key) (v := v) (of_decide_eq_true c13)).trans x1) (by decide) eE x2) hP hD hS e9) hS.2.2 (by omega) (by omega)
      · skip
        have hP : va_P D vwCl ((wX ca f kq ad) ++ (wKd kq) ++ (wMp ca kq (ad i0) u30)) H := hP
        have hD : va_D A ((wX ca f kq ad) ++ (wKd kq) ++ (wMp ca kq (ad i0) u30)) := hD
        obtain ⟨er30, ec30, hR30⟩ := hu30
        subst er30
        refine W.widen (k := 2) (n := 12) (by omega) (by omega) ?_
        exact vx_ret (W.zret (v := ((F_enter key v r).1)) hx hb hr (F_enter_nar key v r) (fun t9 e9 w9 => ⟨⟨_, u30, rfl, gret hB2 (by rw [(F_pw_1 (key := key) (v := v) (of_decide_eq_true c13))]) (by rw [(F_pw_1 (key := key) (v := v) (of_decide_eq_true c13))]; exact ec30) (by rw [(F_pw_1 (key := key) (v := v) (of_decide_eq_true c13))]; exact hR30), by rw [e9]; exact hP, hD⟩, hS.F e9⟩) hS.2.2 dX10_putWithin_33)
    · skip
      have c13 := bI_0.mp c13
      obtain ⟨sa9, hsa⟩ := NW.s hKN.2 (a := RX10) (i := 106) (b := "the key is not in range") (by decide +kernel)
      exact vx_throwS (A := A) hx hb hl9 hown (by decide +kernel) hns_X (hts (.classLink RX10 44 eIA) (by decide +kernel)) (hts (.initialized eIA) (by decide +kernel)) hsa (hat_X10_eIA hKN.2 (fun w h => hts w (inT_X10_putWithin_eIA w h))) hgo_X10_eIA_44 hTZ.1 hTZ.2 hS (hl.1.trans hml.symm) dX10_putWithin_16 dX10_putWithin_19 dX10_putWithin_20 dX10_putWithin_22 dX10_putWithin_25 (fun x h => (hno x h).elim) (Nat.le_of_ble_eq_true rfl) (Nat.le_of_ble_eq_true rfl) (Nat.le_of_ble_eq_true rfl) (Nat.le_of_ble_eq_true rfl) hlocks (fun t9 _ hz9 hk9 => xX_of m (gthr hB2 (F_pw_0 (Classical.not_not.mp (of_decide_eq_false c13))) (by decide) rfl (rel_mono hR (by omega))) hP hD hS hz9 hk9) hS.2.2 (by omega) (by omega)

-- TreeFamily.poll
set_option maxHeartbeats 4000000 in
set_option maxRecDepth 100000 in
theorem c_X10_poll (l : Launch) (D : va_G) (ca : Nat → ClassId) (f kq : Nat → Nat) (ad : Nat → Nat → Nat) (sz : Nat) (hl9 : l.stackTraces = false) (i0 : Nat) (m : MS) (r : RW) (N : Nat) (mm : Int32) (b0 : Bool) (hR : Rel1 N m r) (hN : N ≤ 1000000) (hm : isB mm 3 = true → mm = nI i0 ∧ i0 < 3) : vx_Met l yX10_poll wsX10_poll ({ frames := 67, cells := 2, slots := 12, locals := 1659 } : Room) (xPcT D (TY ca) [.ref (f 0), .int mm, .int (bI b0)] ((wX ca f kq ad) ++ (wKd kq) ++ (wMp ca kq (ad i0) m)) sz) (va_Qi (fun (x : Int32) (u : MS) => PR 0 (F_poll b0) mm r N x u) (xB D (wF1 ca f kq ad i0) (va_A ((wX ca f kq ad) ++ (wKd kq) ++ (wMp ca kq (ad i0) m)) sz)) (va_A ((wX ca f kq ad) ++ (wKd kq) ++ (wMp ca kq (ad i0) m)) sz)) (xX D (wF1 ca f kq ad i0) (va_A ((wX ca f kq ad) ++ (wKd kq) ++ (wMp ca kq (ad i0) m)) sz) (fun (E : String) (u : MS) => PT xA (0 : Int32) (F_poll b0) mm r N E u)) 2 12 (va_A ((wX ca f kq ad) ++ (wKd kq) ++ (wMp ca kq (ad i0) m)) sz) := by
  refine vx_ofW (cc := cX10_poll) (maxL := 5) (ret := (some .int)) (by decide) rfl ?_
  intro p e s m9 args below meth c s₁ B hml hno hv
  obtain ⟨rfl, hsz, hP, hKN, hD0, hTZ⟩ := hv
  have hx := B.exec
  have hb := B.bytes
  have hr := B.returns
  have hts := atoms_spec (ws := wsX10_poll) B.pre
  have hown : s.vm.findClass RX10 = some m9.cls := findClass_of_methodNamed B.named
  have hlocks := B.notSynchronized
  subst hsz
  have hD := hD0.self (sz := s.heap.size)
  generalize hAe : va_A ((wX ca f kq ad) ++ (wKd kq) ++ (wMp ca kq (ad i0) m)) s.heap.size = A at hD hTZ ⊢
  have hA : ∀ q : Nat, s.heap.size ≤ q → A q := fun q h => by rw [← hAe]; exact Or.inr h
  have hS : va_S A s.heap s.heap [] := va_S.rf
  have hl := lv_entry ([.ref (f 0), .int mm, .int (bI b0)]) (n := 5) (Nat.le_of_ble_eq_true rfl)
  rw [lg_entry_eq]
  generalize (lg_sl ([.ref (f 0), .int mm, .int (bI b0)]) ++ List.replicate (5 - (lg_sl ([.ref (f 0), .int mm, .int (bI b0)])).length) Slot.unset).toArray = ls at hl ⊢
  have hl : lv_has ls 5 [(0, .ref (f 0)), (1, .int mm), (2, .int (bI b0))] := hl
  refine lv_aload_n hx hb dX10_poll_0 rfl (lv_at hl 0 rfl) ?_
  refine lv_iload_n hx hb dX10_poll_1 rfl (lv_at hl 1 rfl) ?_
  refine xcx_r (wr := (wKd kq) ++ (wMp ca kq (ad i0) m)) (vx_runV (As := [.int mm]) (rest := []) ⟨hx, hb, hml, hown, hts⟩ (c_X10_mapAt l D ca f kq ad _ hl9 mm i0 hm) (cwV 1 hts gX10_poll_X10_mapAt rfl rfl rfl (by decide +kernel) ⟨(Nat.le_of_ble_eq_true rfl), (Nat.le_of_ble_eq_true rfl)⟩) (xPreVT hKN hTZ hP hD hS hA [0, 1, 2] (by decide +kernel) rfl (q0 := 0) rfl rfl rfl) rfl rfl hl.1 rfl (lv_room (Nat.le_of_ble_eq_true rfl)) dX10_poll_2 ⟨(Nat.le_of_ble_eq_true rfl), (Nat.le_of_ble_eq_true rfl)⟩) hP hD hS hA [0, 1, 2] [3, 4, 5, 6, 7, 8, 9, 10, 11, 12, 13, 14, 15, 16, 17, 18, 19, 20] rfl rfl (by decide +kernel) (by decide +kernel) (fun E9 ce9 q9 u2 H locs hu2 hP hD hS h91 h92 h93 => ?_) (fun ra u2 H locs hu2 hra2 hP hD hS => ?_)
  · skip
    obtain ⟨eE, hB2⟩ := hu2
    have hP : va_P D vwCl ((wX ca f kq ad) ++ (wKd kq) ++ (wMp ca kq (ad i0) m)) H := hP.sub (ws' := (wX ca f kq ad) ++ (wKd kq) ++ (wMp ca kq (ad i0) m)) [18, 19, 20, 0, 1, 2, 3, 4, 5, 6, 7, 8, 9, 10, 11, 12, 13, 14, 15, 16, 17] rfl
    have hD : va_D A ((wX ca f kq ad) ++ (wKd kq) ++ (wMp ca kq (ad i0) m)) := hD.sub (ws' := (wX ca f kq ad) ++ (wKd kq) ++ (wMp ca kq (ad i0) m)) [18, 19, 20, 0, 1, 2, 3, 4, 5, 6, 7, 8, 9, 10, 11, 12, 13, 14, 15, 16, 17] (by decide +kernel) rfl
    exact vx_out (fun x h => (hno x h).elim) hlocks h91 h92 h93 (fun t9 e9 _ => xX_on m (gbad hB2 eE (rel_mono hR (by omega))) hP hD hS e9) hS.2.2 (by omega) (by omega)
  · skip
    have hP : va_P D vwCl ((wX ca f kq ad) ++ (wKd kq) ++ (wMp ca kq (ad i0) m)) H := hP.sub (ws' := (wX ca f kq ad) ++ (wKd kq) ++ (wMp ca kq (ad i0) m)) [18, 19, 20, 0, 1, 2, 3, 4, 5, 6, 7, 8, 9, 10, 11, 12, 13, 14, 15, 16, 17] rfl
    have hD : va_D A ((wX ca f kq ad) ++ (wKd kq) ++ (wMp ca kq (ad i0) m)) := hD.sub (ws' := (wX ca f kq ad) ++ (wKd kq) ++ (wMp ca kq (ad i0) m)) [18, 19, 20, 0, 1, 2, 3, 4, 5, 6, 7, 8, 9, 10, 11, 12, 13, 14, 15, 16, 17] (by decide +kernel) rfl
    obtain ⟨hm2, hB2⟩ := hu2
    subst hra2
    have hi3 := (hm hB2).2
    subst hm2
    refine lv_astore_n (lv' := [(3, .ref (ad i0 11)), (0, .ref (f 0)), (1, .int (nI i0)), (2, .int (bI b0))]) hx hb dX10_poll_5 rfl hl (by decide) rfl (fun ls hl => ?_)
    refine lv_aload_n hx hb dX10_poll_6 rfl (lv_at hl 0 rfl) ?_
    refine lv_aload_n hx hb dX10_poll_7 rfl (lv_at hl 0 rfl) ?_
    refine lv_iload_n hx hb dX10_poll_8 rfl (lv_at hl 3 rfl) ?_
    refine xc_i (wr := wX ca f kq ad) (va_runV (As := [.int (bI b0)]) (rest := [.ref (ad i0 11)]) ⟨hx, hb, hml, hown, hts⟩ (r_X6_endOfRange l D ca kq (ad i0) _ m r N hR hN b0) (cwV 1 hts gX10_poll_X6_endOfRange rfl rfl rfl (by decide +kernel) ⟨(Nat.le_of_ble_eq_true rfl), (Nat.le_of_ble_eq_true rfl)⟩) (xPreV hKN hP hD [3, 4, 5, 6, 7, 8, 9, 10, 11, 12, 13, 14, 15, 16, 17, 18, 19, 20] (by decide +kernel) rfl (q0 := 7) rfl rfl rfl) rfl rfl hl.1 rfl (lv_room (Nat.le_of_ble_eq_true rfl)) dX10_poll_9 ⟨(Nat.le_of_ble_eq_true rfl), (Nat.le_of_ble_eq_true rfl)⟩) hP hD hS hA [3, 4, 5, 6, 7, 8, 9, 10, 11, 12, 13, 14, 15, 16, 17, 18, 19, 20] [0, 1, 2] rfl rfl (by decide +kernel) (by decide +kernel) (fun r9 u9 H locs hu9 hP hD hS => ?_)
    have hP : va_P D vwCl ((wX ca f kq ad) ++ (wKd kq) ++ (wMp ca kq (ad i0) u9)) H := hP
    have hD : va_D A ((wX ca f kq ad) ++ (wKd kq) ++ (wMp ca kq (ad i0) u9)) := hD
    obtain ⟨er9, eu9⟩ := hu9
    have eu9 := eu9.symm
    subst eu9
    subst er9
    have hP : va_P D vwCl ((wX ca f kq ad) ++ (wKd kq) ++ (wMp ca kq (ad i0) m)) H := hP
    have hD : va_D A ((wX ca f kq ad) ++ (wKd kq) ++ (wMp ca kq (ad i0) m)) := hD
    refine xcx_i (wr := wX ca f kq ad) (vx_runV (As := [.int (if begR r = endR r then -1 else nI (if b0 = true then endR r - 1 else begR r))]) (rest := []) ⟨hx, hb, hml, hown, hts⟩ (r_X6_keyAt l D ca kq (ad i0) _ hl9 m r N hR hN (if begR r = endR r then -1 else nI (if b0 = true then endR r - 1 else begR r))) (cwV 1 hts gX10_poll_X6_keyAt rfl rfl rfl (by decide +kernel) ⟨(Nat.le_of_ble_eq_true rfl), (Nat.le_of_ble_eq_true rfl)⟩) (xPreVT hKN hTZ hP hD hS hA [3, 4, 5, 6, 7, 8, 9, 10, 11, 12, 13, 14, 15, 16, 17, 18, 19, 20] (by decide +kernel) rfl (q0 := 7) rfl rfl rfl) rfl rfl hl.1 rfl (lv_room (Nat.le_of_ble_eq_true rfl)) dX10_poll_12 ⟨(Nat.le_of_ble_eq_true rfl), (Nat.le_of_ble_eq_true rfl)⟩) hP hD hS hA [3, 4, 5, 6, 7, 8, 9, 10, 11, 12, 13, 14, 15, 16, 17, 18, 19, 20] [0, 1, 2] rfl rfl (by decide +kernel) (by decide +kernel) (fun E9 ce9 q9 u12 H locs hu12 hP hD hS h91 h92 h93 => ?_) (fun r12 u12 H locs hu12 hP hD hS => ?_)
    · skip
      have hP : va_P D vwCl ((wX ca f kq ad) ++ (wKd kq) ++ (wMp ca kq (ad i0) u12)) H := hP
      have hD : va_D A ((wX ca f kq ad) ++ (wKd kq) ++ (wMp ca kq (ad i0) u12)) := hD
      obtain ⟨eE, x1, eu12⟩ := hu12
      have eu12 := eu12.symm
      subst eu12
      exact vx_out (fun x h => (hno x h).elim) hlocks h91 h92 h93 (fun t9 e9 _ => xX_on m (gthr hB2 (F_poll_0 (eor_t (rel_be hR) rfl x1)) (by decide) eE (rel_mono hR (by omega))) hP hD hS e9) hS.2.2 (by omega) (by omega)
    · skip
      have hP : va_P D vwCl ((wX ca f kq ad) ++ (wKd kq) ++ (wMp ca kq (ad i0) u12)) H := hP
      have hD : va_D A ((wX ca f kq ad) ++ (wKd kq) ++ (wMp ca kq (ad i0) u12)) := hD
      obtain ⟨⟨k12, ka12, kb12, kc12⟩, eu12⟩ := hu12
      have eu12 := eu12.symm
      subst eu12
      have hP : va_P D vwCl ((wX ca f kq ad) ++ (wKd kq) ++ (wMp ca kq (ad i0) m)) H := hP
      have hD : va_D A ((wX ca f kq ad) ++ (wKd kq) ++ (wMp ca kq (ad i0) m)) := hD
      refine lv_istore (lv' := [(4, .int r12), (3, .ref (ad i0 11)), (0, .ref (f 0)), (1, .int (nI i0)), (2, .int (bI b0))]) hx hb dX10_poll_15 hl (by decide) rfl (fun ls hl => ?_)
      refine lv_aload_n hx hb dX10_poll_17 rfl (lv_at hl 1 rfl) ?_
      refine lv_iload hx hb dX10_poll_18 (lv_at hl 0 rfl) ?_
      refine xc_i (wr := wX ca f kq ad) (va_runV (As := [.int r12]) (rest := []) ⟨hx, hb, hml, hown, hts⟩ (r_X6_takeOut l D ca kq (ad i0) _ m r N hR hN r12) (cwV 1 hts gX10_poll_X6_takeOut rfl rfl rfl (by decide +kernel) ⟨(Nat.le_of_ble_eq_true rfl), (Nat.le_of_ble_eq_true rfl)⟩) (xPreV hKN hP hD [3, 4, 5, 6, 7, 8, 9, 10, 11, 12, 13, 14, 15, 16, 17, 18, 19, 20] (by decide +kernel) rfl (q0 := 7) rfl rfl rfl) rfl rfl hl.1 rfl (lv_room (Nat.le_of_ble_eq_true rfl)) dX10_poll_20 ⟨(Nat.le_of_ble_eq_true rfl), (Nat.le_of_ble_eq_true rfl)⟩) hP hD hS hA [3, 4, 5, 6, 7, 8, 9, 10, 11, 12, 13, 14, 15, 16, 17, 18, 19, 20] [0, 1, 2] rfl rfl (by decide +kernel) (by decide +kernel) (fun r20 u20 H locs hu20 hP hD hS => ?_)
      have hP : va_P D vwCl ((wX ca f kq ad) ++ (wKd kq) ++ (wMp ca kq (ad i0) u20)) H := hP
      have hD : va_D A ((wX ca f kq ad) ++ (wKd kq) ++ (wMp ca kq (ad i0) u20)) := hD
      obtain ⟨er20, ec20, hR20⟩ := hu20
      subst er20
      refine lv_pop hx hb dX10_poll_23 rfl ?_
      refine lv_iload hx hb dX10_poll_24 (lv_at hl 0 rfl) ?_
      refine W.widen (k := 2) (n := 12) (by omega) (by omega) ?_
      exact vx_ret (W.iret (v := r12) hx hb hr (fun t9 e9 w9 => ⟨⟨_, u20, rfl, gretF hB2 (poll_r hR rfl ka12 kb12 kc12) hR20, by rw [e9]; exact hP, hD⟩, hS.F e9⟩) hS.2.2 dX10_poll_26)

-- TreeFamily.iterate
set_option maxHeartbeats 4000000 in
set_option maxRecDepth 100000 in
theorem c_X10_iterate (l : Launch) (D : va_G) (ca : Nat → ClassId) (f kq : Nat → Nat) (ad : Nat → Nat → Nat) (sz : Nat) (hl9 : l.stackTraces = false) (i0 : Nat) (m : MS) (r : RW) (N : Nat) (mm : Int32) (b0 : Bool) (hR : Rel1 N m r) (hN : N ≤ 1000000) (hm : isB mm 3 = true → mm = nI i0 ∧ i0 < 3) : vx_Met l yX10_iterate wsX10_iterate ({ frames := 7, cells := 2, slots := 12, locals := 111 } : Room) (xPcT D (TY ca) [.ref (f 0), .int mm, .int (bI b0)] ((wX ca f kq ad) ++ (wKd kq) ++ (wMp ca kq (ad i0) m)) sz) (va_Qv (fun u : MS => PR () (F_iterate b0) mm r N () u) (xB D (wF1 ca f kq ad i0) (va_A ((wX ca f kq ad) ++ (wKd kq) ++ (wMp ca kq (ad i0) m)) sz)) (va_A ((wX ca f kq ad) ++ (wKd kq) ++ (wMp ca kq (ad i0) m)) sz)) (xX D (wF1 ca f kq ad i0) (va_A ((wX ca f kq ad) ++ (wKd kq) ++ (wMp ca kq (ad i0) m)) sz) (fun (E : String) (u : MS) => PT xA () (F_iterate b0) mm r N E u)) 2 12 (va_A ((wX ca f kq ad) ++ (wKd kq) ++ (wMp ca kq (ad i0) m)) sz) := by
  refine vx_ofW (cc := cX10_iterate) (maxL := 3) (ret := none) (by decide) rfl ?_
  intro p e s m9 args below meth c s₁ B hml hno hv
  obtain ⟨rfl, hsz, hP, hKN, hD0, hTZ⟩ := hv
  have hx := B.exec
  have hb := B.bytes
  have hr := B.returns
  have hts := atoms_spec (ws := wsX10_iterate) B.pre
  have hown : s.vm.findClass RX10 = some m9.cls := findClass_of_methodNamed B.named
  have hlocks := B.notSynchronized
  subst hsz
  have hD := hD0.self (sz := s.heap.size)
  generalize hAe : va_A ((wX ca f kq ad) ++ (wKd kq) ++ (wMp ca kq (ad i0) m)) s.heap.size = A at hD hTZ ⊢
  have hA : ∀ q : Nat, s.heap.size ≤ q → A q := fun q h => by rw [← hAe]; exact Or.inr h
  have hS : va_S A s.heap s.heap [] := va_S.rf
  have hl := lv_entry ([.ref (f 0), .int mm, .int (bI b0)]) (n := 3) (Nat.le_of_ble_eq_true rfl)
  rw [lg_entry_eq]
  generalize (lg_sl ([.ref (f 0), .int mm, .int (bI b0)]) ++ List.replicate (3 - (lg_sl ([.ref (f 0), .int mm, .int (bI b0)])).length) Slot.unset).toArray = ls at hl ⊢
  have hl : lv_has ls 3 [(0, .ref (f 0)), (1, .int mm), (2, .int (bI b0))] := hl
  refine lv_aload_n hx hb dX10_iterate_0 rfl (lv_at hl 0 rfl) ?_
  refine lv_iload_n hx hb dX10_iterate_1 rfl (lv_at hl 1 rfl) ?_
  refine xcx_r (wr := (wKd kq) ++ (wMp ca kq (ad i0) m)) (vx_runV (As := [.int mm]) (rest := []) ⟨hx, hb, hml, hown, hts⟩ (c_X10_mapAt l D ca f kq ad _ hl9 mm i0 hm) (cwV 1 hts gX10_iterate_X10_mapAt rfl rfl rfl (by decide +kernel) ⟨(Nat.le_of_ble_eq_true rfl), (Nat.le_of_ble_eq_true rfl)⟩) (xPreVT hKN hTZ hP hD hS hA [0, 1, 2] (by decide +kernel) rfl (q0 := 0) rfl rfl rfl) rfl rfl hl.1 rfl (lv_room (Nat.le_of_ble_eq_true rfl)) dX10_iterate_2 ⟨(Nat.le_of_ble_eq_true rfl), (Nat.le_of_ble_eq_true rfl)⟩) hP hD hS hA [0, 1, 2] [3, 4, 5, 6, 7, 8, 9, 10, 11, 12, 13, 14, 15, 16, 17, 18, 19, 20] rfl rfl (by decide +kernel) (by decide +kernel) (fun E9 ce9 q9 u2 H locs hu2 hP hD hS h91 h92 h93 => ?_) (fun ra u2 H locs hu2 hra2 hP hD hS => ?_)
  · skip
    obtain ⟨eE, hB2⟩ := hu2
    have hP : va_P D vwCl ((wX ca f kq ad) ++ (wKd kq) ++ (wMp ca kq (ad i0) m)) H := hP.sub (ws' := (wX ca f kq ad) ++ (wKd kq) ++ (wMp ca kq (ad i0) m)) [18, 19, 20, 0, 1, 2, 3, 4, 5, 6, 7, 8, 9, 10, 11, 12, 13, 14, 15, 16, 17] rfl
    have hD : va_D A ((wX ca f kq ad) ++ (wKd kq) ++ (wMp ca kq (ad i0) m)) := hD.sub (ws' := (wX ca f kq ad) ++ (wKd kq) ++ (wMp ca kq (ad i0) m)) [18, 19, 20, 0, 1, 2, 3, 4, 5, 6, 7, 8, 9, 10, 11, 12, 13, 14, 15, 16, 17] (by decide +kernel) rfl
    exact vx_out (fun x h => (hno x h).elim) hlocks h91 h92 h93 (fun t9 e9 _ => xX_on m (gbad hB2 eE (rel_mono hR (by omega))) hP hD hS e9) hS.2.2 (by omega) (by omega)
  · skip
    have hP : va_P D vwCl ((wX ca f kq ad) ++ (wKd kq) ++ (wMp ca kq (ad i0) m)) H := hP.sub (ws' := (wX ca f kq ad) ++ (wKd kq) ++ (wMp ca kq (ad i0) m)) [18, 19, 20, 0, 1, 2, 3, 4, 5, 6, 7, 8, 9, 10, 11, 12, 13, 14, 15, 16, 17] rfl
    have hD : va_D A ((wX ca f kq ad) ++ (wKd kq) ++ (wMp ca kq (ad i0) m)) := hD.sub (ws' := (wX ca f kq ad) ++ (wKd kq) ++ (wMp ca kq (ad i0) m)) [18, 19, 20, 0, 1, 2, 3, 4, 5, 6, 7, 8, 9, 10, 11, 12, 13, 14, 15, 16, 17] (by decide +kernel) rfl
    obtain ⟨hm2, hB2⟩ := hu2
    subst hra2
    have hi3 := (hm hB2).2
    subst hm2
    refine lv_iload_n hx hb dX10_iterate_5 rfl (lv_at hl 2 rfl) ?_
    refine xc_v (wr := wX ca f kq ad) (va_runV (As := [.int (bI b0)]) (rest := []) ⟨hx, hb, hml, hown, hts⟩ (r_X6_startWalk l D ca kq (ad i0) _ m r N hR hN b0) (cwV 1 hts gX10_iterate_X6_startWalk rfl rfl rfl (by decide +kernel) ⟨(Nat.le_of_ble_eq_true rfl), (Nat.le_of_ble_eq_true rfl)⟩) (xPreV hKN hP hD [3, 4, 5, 6, 7, 8, 9, 10, 11, 12, 13, 14, 15, 16, 17, 18, 19, 20] (by decide +kernel) rfl (q0 := 7) rfl rfl rfl) rfl rfl hl.1 rfl (lv_room (Nat.le_of_ble_eq_true rfl)) dX10_iterate_6 ⟨(Nat.le_of_ble_eq_true rfl), (Nat.le_of_ble_eq_true rfl)⟩) hP hD hS hA [3, 4, 5, 6, 7, 8, 9, 10, 11, 12, 13, 14, 15, 16, 17, 18, 19, 20] [0, 1, 2] rfl rfl (by decide +kernel) (by decide +kernel) (fun u6 H locs hu6 hP hD hS => ?_)
    have hP : va_P D vwCl ((wX ca f kq ad) ++ (wKd kq) ++ (wMp ca kq (ad i0) u6)) H := hP
    have hD : va_D A ((wX ca f kq ad) ++ (wKd kq) ++ (wMp ca kq (ad i0) u6)) := hD
    refine W.widen (k := 2) (n := 12) (by omega) (by omega) ?_
    exact vx_ret (W.vret hx hb hr (fun t9 e9 w9 => ⟨⟨u6, rfl, gret hB2 rfl rfl (rel_mono hu6 (by omega)), by rw [e9]; exact hP, hD⟩, hS.F e9⟩) hS.2.2 dX10_iterate_9)

-- TreeFamily.next
theorem inT_X10_next_eIS : ∀ w ∈ (vx_atS RX10 120 eIS eNs).filter goodWord, w ∈ wsX10_next := by decide +kernel
set_option maxHeartbeats 4000000 in
set_option maxRecDepth 100000 in
theorem c_X10_next (l : Launch) (D : va_G) (ca : Nat → ClassId) (f kq : Nat → Nat) (ad : Nat → Nat → Nat) (sz : Nat) (hl9 : l.stackTraces = false) (i0 : Nat) (m : MS) (r : RW) (N : Nat) (mm : Int32) (hR : Rel1 N m r) (hN : N ≤ 1000000) (hm : isB mm 3 = true → mm = nI i0 ∧ i0 < 3) : vx_Met l yX10_next wsX10_next ({ frames := 8, cells := 2, slots := 12, locals := 133 } : Room) (xPcT D (TY ca) [.ref (f 0), .int mm] ((wX ca f kq ad) ++ (wKd kq) ++ (wMp ca kq (ad i0) m)) sz) (va_Qi (fun (x : Int32) (u : MS) => PR 0 (F_next) mm r N x u) (xB D (wF1 ca f kq ad i0) (va_A ((wX ca f kq ad) ++ (wKd kq) ++ (wMp ca kq (ad i0) m)) sz)) (va_A ((wX ca f kq ad) ++ (wKd kq) ++ (wMp ca kq (ad i0) m)) sz)) (xX D (wF1 ca f kq ad i0) (va_A ((wX ca f kq ad) ++ (wKd kq) ++ (wMp ca kq (ad i0) m)) sz) (fun (E : String) (u : MS) => PT xN (0 : Int32) (F_next) mm r N E u)) 2 12 (va_A ((wX ca f kq ad) ++ (wKd kq) ++ (wMp ca kq (ad i0) m)) sz) := by
  refine vx_ofW (cc := cX10_next) (maxL := 3) (ret := (some .int)) (by decide) rfl ?_
  intro p e s m9 args below meth c s₁ B hml hno hv
  obtain ⟨rfl, hsz, hP, hKN, hD0, hTZ⟩ := hv
  have hx := B.exec
  have hb := B.bytes
  have hr := B.returns
  have hts := atoms_spec (ws := wsX10_next) B.pre
  have hown : s.vm.findClass RX10 = some m9.cls := findClass_of_methodNamed B.named
  have hlocks := B.notSynchronized
  subst hsz
  have hD := hD0.self (sz := s.heap.size)
  generalize hAe : va_A ((wX ca f kq ad) ++ (wKd kq) ++ (wMp ca kq (ad i0) m)) s.heap.size = A at hD hTZ ⊢
  have hA : ∀ q : Nat, s.heap.size ≤ q → A q := fun q h => by rw [← hAe]; exact Or.inr h
  have hS : va_S A s.heap s.heap [] := va_S.rf
  have hl := lv_entry ([.ref (f 0), .int mm]) (n := 3) (Nat.le_of_ble_eq_true rfl)
  rw [lg_entry_eq]
  generalize (lg_sl ([.ref (f 0), .int mm]) ++ List.replicate (3 - (lg_sl ([.ref (f 0), .int mm])).length) Slot.unset).toArray = ls at hl ⊢
  have hl : lv_has ls 3 [(0, .ref (f 0)), (1, .int mm)] := hl
  refine lv_aload_n hx hb dX10_next_0 rfl (lv_at hl 0 rfl) ?_
  refine lv_iload_n hx hb dX10_next_1 rfl (lv_at hl 1 rfl) ?_
  refine xcx_r (wr := (wKd kq) ++ (wMp ca kq (ad i0) m)) (vx_runV (As := [.int mm]) (rest := []) ⟨hx, hb, hml, hown, hts⟩ (c_X10_mapAt l D ca f kq ad _ hl9 mm i0 hm) (cwV 1 hts gX10_next_X10_mapAt rfl rfl rfl (by decide +kernel) ⟨(Nat.le_of_ble_eq_true rfl), (Nat.le_of_ble_eq_true rfl)⟩) (xPreVT hKN hTZ hP hD hS hA [0, 1, 2] (by decide +kernel) rfl (q0 := 0) rfl rfl rfl) rfl rfl hl.1 rfl (lv_room (Nat.le_of_ble_eq_true rfl)) dX10_next_2 ⟨(Nat.le_of_ble_eq_true rfl), (Nat.le_of_ble_eq_true rfl)⟩) hP hD hS hA [0, 1, 2] [3, 4, 5, 6, 7, 8, 9, 10, 11, 12, 13, 14, 15, 16, 17, 18, 19, 20] rfl rfl (by decide +kernel) (by decide +kernel) (fun E9 ce9 q9 u2 H locs hu2 hP hD hS h91 h92 h93 => ?_) (fun ra u2 H locs hu2 hra2 hP hD hS => ?_)
  · skip
    obtain ⟨eE, hB2⟩ := hu2
    have hP : va_P D vwCl ((wX ca f kq ad) ++ (wKd kq) ++ (wMp ca kq (ad i0) m)) H := hP.sub (ws' := (wX ca f kq ad) ++ (wKd kq) ++ (wMp ca kq (ad i0) m)) [18, 19, 20, 0, 1, 2, 3, 4, 5, 6, 7, 8, 9, 10, 11, 12, 13, 14, 15, 16, 17] rfl
    have hD : va_D A ((wX ca f kq ad) ++ (wKd kq) ++ (wMp ca kq (ad i0) m)) := hD.sub (ws' := (wX ca f kq ad) ++ (wKd kq) ++ (wMp ca kq (ad i0) m)) [18, 19, 20, 0, 1, 2, 3, 4, 5, 6, 7, 8, 9, 10, 11, 12, 13, 14, 15, 16, 17] (by decide +kernel) rfl
    exact vx_out (fun x h => (hno x h).elim) hlocks h91 h92 h93 (fun t9 e9 _ => xX_on m (gbad hB2 eE (rel_mono hR (by omega))) hP hD hS e9) hS.2.2 (by omega) (by omega)
  · skip
    have hP : va_P D vwCl ((wX ca f kq ad) ++ (wKd kq) ++ (wMp ca kq (ad i0) m)) H := hP.sub (ws' := (wX ca f kq ad) ++ (wKd kq) ++ (wMp ca kq (ad i0) m)) [18, 19, 20, 0, 1, 2, 3, 4, 5, 6, 7, 8, 9, 10, 11, 12, 13, 14, 15, 16, 17] rfl
    have hD : va_D A ((wX ca f kq ad) ++ (wKd kq) ++ (wMp ca kq (ad i0) m)) := hD.sub (ws' := (wX ca f kq ad) ++ (wKd kq) ++ (wMp ca kq (ad i0) m)) [18, 19, 20, 0, 1, 2, 3, 4, 5, 6, 7, 8, 9, 10, 11, 12, 13, 14, 15, 16, 17] (by decide +kernel) rfl
    obtain ⟨hm2, hB2⟩ := hu2
    subst hra2
    have hi3 := (hm hB2).2
    subst hm2
    refine lv_astore_n (lv' := [(2, .ref (ad i0 11)), (0, .ref (f 0)), (1, .int (nI i0))]) hx hb dX10_next_5 rfl hl (by decide) rfl (fun ls hl => ?_)
    refine lv_aload_n hx hb dX10_next_6 rfl (lv_at hl 0 rfl) ?_
    refine xc_i (wr := wX ca f kq ad) (va_runV (As := []) (rest := []) ⟨hx, hb, hml, hown, hts⟩ (r_X6_canWalk l D ca kq (ad i0) _ m r N hR hN ) (cwV 0 hts gX10_next_X6_canWalk rfl rfl rfl (by decide +kernel) ⟨(Nat.le_of_ble_eq_true rfl), (Nat.le_of_ble_eq_true rfl)⟩) (xPreV hKN hP hD [3, 4, 5, 6, 7, 8, 9, 10, 11, 12, 13, 14, 15, 16, 17, 18, 19, 20] (by decide +kernel) rfl (q0 := 7) rfl rfl rfl) rfl rfl hl.1 rfl (lv_room (Nat.le_of_ble_eq_true rfl)) dX10_next_7 ⟨(Nat.le_of_ble_eq_true rfl), (Nat.le_of_ble_eq_true rfl)⟩) hP hD hS hA [3, 4, 5, 6, 7, 8, 9, 10, 11, 12, 13, 14, 15, 16, 17, 18, 19, 20] [0, 1, 2] rfl rfl (by decide +kernel) (by decide +kernel) (fun r7 u7 H locs hu7 hP hD hS => ?_)
    have hP : va_P D vwCl ((wX ca f kq ad) ++ (wKd kq) ++ (wMp ca kq (ad i0) u7)) H := hP
    have hD : va_D A ((wX ca f kq ad) ++ (wKd kq) ++ (wMp ca kq (ad i0) u7)) := hD
    obtain ⟨er7, eu7⟩ := hu7
    have eu7 := eu7.symm
    subst eu7
    subst er7
    have hP : va_P D vwCl ((wX ca f kq ad) ++ (wKd kq) ++ (wMp ca kq (ad i0) m)) H := hP
    have hD : va_D A ((wX ca f kq ad) ++ (wKd kq) ++ (wMp ca kq (ad i0) m)) := hD
    refine lv_if_ne (tgt := 23) hx hb dX10_next_10 (by decide) (fun c10 => ?_) (fun c10 => ?_)
    · skip
      have c10 := bI_ne.mp c10
      refine lv_aload_n hx hb dX10_next_23 rfl (lv_at hl 0 rfl) ?_
      refine xcx_i (wr := wX ca f kq ad) (vx_runV (As := []) (rest := []) ⟨hx, hb, hml, hown, hts⟩ (r_X6_walkOn l D ca kq (ad i0) _ hl9 m r N hR hN (of_decide_eq_true c10).1 (of_decide_eq_true c10).2) (cwV 0 hts gX10_next_X6_walkOn rfl rfl rfl (by decide +kernel) ⟨(Nat.le_of_ble_eq_true rfl), (Nat.le_of_ble_eq_true rfl)⟩) (xPreVT hKN hTZ hP hD hS hA [3, 4, 5, 6, 7, 8, 9, 10, 11, 12, 13, 14, 15, 16, 17, 18, 19, 20] (by decide +kernel) rfl (q0 := 7) rfl rfl rfl) rfl rfl hl.1 rfl (lv_room (Nat.le_of_ble_eq_true rfl)) dX10_next_24 ⟨(Nat.le_of_ble_eq_true rfl), (Nat.le_of_ble_eq_true rfl)⟩) hP hD hS hA [3, 4, 5, 6, 7, 8, 9, 10, 11, 12, 13, 14, 15, 16, 17, 18, 19, 20] [0, 1, 2] rfl rfl (by decide +kernel) (by decide +kernel) (fun E9 ce9 q9 u24 H locs hu24 hP hD hS h91 h92 h93 => ?_) (fun r24 u24 H locs hu24 hP hD hS => ?_)
      · skip
        have hP : va_P D vwCl ((wX ca f kq ad) ++ (wKd kq) ++ (wMp ca kq (ad i0) u24)) H := hP
        have hD : va_D A ((wX ca f kq ad) ++ (wKd kq) ++ (wMp ca kq (ad i0) u24)) := hD
        obtain ⟨eE, x1, eu24⟩ := hu24
        have eu24 := eu24.symm
        subst eu24
        exact vx_out (fun x h => (hno x h).elim) hlocks h91 h92 h93 (fun t9 e9 _ => xX_on m (gthr hB2 x1 (by decide) eE (rel_mono hR (by omega))) hP hD hS e9) hS.2.2 (by omega) (by omega)
      · skip
        have hP : va_P D vwCl ((wX ca f kq ad) ++ (wKd kq) ++ (wMp ca kq (ad i0) u24)) H := hP
        have hD : va_D A ((wX ca f kq ad) ++ (wKd kq) ++ (wMp ca kq (ad i0) u24)) := hD
        obtain ⟨er24, ec24, hR24⟩ := hu24
        subst er24
        refine W.widen (k := 2) (n := 12) (by omega) (by omega) ?_
        exact vx_ret (W.iret (v := ((F_next r).1)) hx hb hr (fun t9 e9 w9 => ⟨⟨_, u24, rfl, gret hB2 rfl ec24 hR24, by rw [e9]; exact hP, hD⟩, hS.F e9⟩) hS.2.2 dX10_next_27)
    · skip
      have c10 := bI_0.mp c10
      obtain ⟨sa9, hsa⟩ := NW.s hKN.2 (a := RX10) (i := 118) (b := "no iterator that knows the map as it is") (by decide +kernel)
      exact vx_throwS (A := A) hx hb hl9 hown (by decide +kernel) hns_X (hts (.classLink RX10 116 eIS) (by decide +kernel)) (hts (.initialized eIS) (by decide +kernel)) hsa (hat_X10_eIS hKN.2 (fun w h => hts w (inT_X10_next_eIS w h))) hgo_X10_eIS_116 hTZ.1 hTZ.2 hS (hl.1.trans hml.symm) dX10_next_13 dX10_next_16 dX10_next_17 dX10_next_19 dX10_next_22 (fun x h => (hno x h).elim) (Nat.le_of_ble_eq_true rfl) (Nat.le_of_ble_eq_true rfl) (Nat.le_of_ble_eq_true rfl) (Nat.le_of_ble_eq_true rfl) hlocks (fun t9 _ hz9 hk9 => xX_of m (gthr hB2 (F_next_2 (nw_of c10)) (by decide) rfl (rel_mono hR (by omega))) hP hD hS hz9 hk9) hS.2.2 (by omega) (by omega)

-- TreeFamily.drop
theorem inT_X10_drop_eIS : ∀ w ∈ (vx_atS RX10 120 eIS eNs).filter goodWord, w ∈ wsX10_drop := by decide +kernel
set_option maxHeartbeats 4000000 in
set_option maxRecDepth 100000 in
theorem c_X10_drop (l : Launch) (D : va_G) (ca : Nat → ClassId) (f kq : Nat → Nat) (ad : Nat → Nat → Nat) (sz : Nat) (hl9 : l.stackTraces = false) (i0 : Nat) (m : MS) (r : RW) (N : Nat) (mm : Int32) (hR : Rel1 N m r) (hN : N ≤ 1000000) (hm : isB mm 3 = true → mm = nI i0 ∧ i0 < 3) : vx_Met l yX10_drop wsX10_drop ({ frames := 67, cells := 2, slots := 12, locals := 1657 } : Room) (xPcT D (TY ca) [.ref (f 0), .int mm] ((wX ca f kq ad) ++ (wKd kq) ++ (wMp ca kq (ad i0) m)) sz) (va_Qv (fun u : MS => PR () (F_drop) mm r N () u) (xB D (wF1 ca f kq ad i0) (va_A ((wX ca f kq ad) ++ (wKd kq) ++ (wMp ca kq (ad i0) m)) sz)) (va_A ((wX ca f kq ad) ++ (wKd kq) ++ (wMp ca kq (ad i0) m)) sz)) (xX D (wF1 ca f kq ad i0) (va_A ((wX ca f kq ad) ++ (wKd kq) ++ (wMp ca kq (ad i0) m)) sz) (fun (E : String) (u : MS) => PT xN () (F_drop) mm r N E u)) 2 12 (va_A ((wX ca f kq ad) ++ (wKd kq) ++ (wMp ca kq (ad i0) m)) sz) := by
  refine vx_ofW (cc := cX10_drop) (maxL := 3) (ret := none) (by decide) rfl ?_
  intro p e s m9 args below meth c s₁ B hml hno hv
  obtain ⟨rfl, hsz, hP, hKN, hD0, hTZ⟩ := hv
  have hx := B.exec
  have hb := B.bytes
  have hr := B.returns
  have hts := atoms_spec (ws := wsX10_drop) B.pre
  have hown : s.vm.findClass RX10 = some m9.cls := findClass_of_methodNamed B.named
  have hlocks := B.notSynchronized
  subst hsz
  have hD := hD0.self (sz := s.heap.size)
  generalize hAe : va_A ((wX ca f kq ad) ++ (wKd kq) ++ (wMp ca kq (ad i0) m)) s.heap.size = A at hD hTZ ⊢
  have hA : ∀ q : Nat, s.heap.size ≤ q → A q := fun q h => by rw [← hAe]; exact Or.inr h
  have hS : va_S A s.heap s.heap [] := va_S.rf
  have hl := lv_entry ([.ref (f 0), .int mm]) (n := 3) (Nat.le_of_ble_eq_true rfl)
  rw [lg_entry_eq]
  generalize (lg_sl ([.ref (f 0), .int mm]) ++ List.replicate (3 - (lg_sl ([.ref (f 0), .int mm])).length) Slot.unset).toArray = ls at hl ⊢
  have hl : lv_has ls 3 [(0, .ref (f 0)), (1, .int mm)] := hl
  refine lv_aload_n hx hb dX10_drop_0 rfl (lv_at hl 0 rfl) ?_
  refine lv_iload_n hx hb dX10_drop_1 rfl (lv_at hl 1 rfl) ?_
  refine xcx_r (wr := (wKd kq) ++ (wMp ca kq (ad i0) m)) (vx_runV (As := [.int mm]) (rest := []) ⟨hx, hb, hml, hown, hts⟩ (c_X10_mapAt l D ca f kq ad _ hl9 mm i0 hm) (cwV 1 hts gX10_drop_X10_mapAt rfl rfl rfl (by decide +kernel) ⟨(Nat.le_of_ble_eq_true rfl), (Nat.le_of_ble_eq_true rfl)⟩) (xPreVT hKN hTZ hP hD hS hA [0, 1, 2] (by decide +kernel) rfl (q0 := 0) rfl rfl rfl) rfl rfl hl.1 rfl (lv_room (Nat.le_of_ble_eq_true rfl)) dX10_drop_2 ⟨(Nat.le_of_ble_eq_true rfl), (Nat.le_of_ble_eq_true rfl)⟩) hP hD hS hA [0, 1, 2] [3, 4, 5, 6, 7, 8, 9, 10, 11, 12, 13, 14, 15, 16, 17, 18, 19, 20] rfl rfl (by decide +kernel) (by decide +kernel) (fun E9 ce9 q9 u2 H locs hu2 hP hD hS h91 h92 h93 => ?_) (fun ra u2 H locs hu2 hra2 hP hD hS => ?_)
  · skip
    obtain ⟨eE, hB2⟩ := hu2
    have hP : va_P D vwCl ((wX ca f kq ad) ++ (wKd kq) ++ (wMp ca kq (ad i0) m)) H := hP.sub (ws' := (wX ca f kq ad) ++ (wKd kq) ++ (wMp ca kq (ad i0) m)) [18, 19, 20, 0, 1, 2, 3, 4, 5, 6, 7, 8, 9, 10, 11, 12, 13, 14, 15, 16, 17] rfl
    have hD : va_D A ((wX ca f kq ad) ++ (wKd kq) ++ (wMp ca kq (ad i0) m)) := hD.sub (ws' := (wX ca f kq ad) ++ (wKd kq) ++ (wMp ca kq (ad i0) m)) [18, 19, 20, 0, 1, 2, 3, 4, 5, 6, 7, 8, 9, 10, 11, 12, 13, 14, 15, 16, 17] (by decide +kernel) rfl
    exact vx_out (fun x h => (hno x h).elim) hlocks h91 h92 h93 (fun t9 e9 _ => xX_on m (gbad hB2 eE (rel_mono hR (by omega))) hP hD hS e9) hS.2.2 (by omega) (by omega)
  · skip
    have hP : va_P D vwCl ((wX ca f kq ad) ++ (wKd kq) ++ (wMp ca kq (ad i0) m)) H := hP.sub (ws' := (wX ca f kq ad) ++ (wKd kq) ++ (wMp ca kq (ad i0) m)) [18, 19, 20, 0, 1, 2, 3, 4, 5, 6, 7, 8, 9, 10, 11, 12, 13, 14, 15, 16, 17] rfl
    have hD : va_D A ((wX ca f kq ad) ++ (wKd kq) ++ (wMp ca kq (ad i0) m)) := hD.sub (ws' := (wX ca f kq ad) ++ (wKd kq) ++ (wMp ca kq (ad i0) m)) [18, 19, 20, 0, 1, 2, 3, 4, 5, 6, 7, 8, 9, 10, 11, 12, 13, 14, 15, 16, 17] (by decide +kernel) rfl
    obtain ⟨hm2, hB2⟩ := hu2
    subst hra2
    have hi3 := (hm hB2).2
    subst hm2
    refine lv_astore_n (lv' := [(2, .ref (ad i0 11)), (0, .ref (f 0)), (1, .int (nI i0))]) hx hb dX10_drop_5 rfl hl (by decide) rfl (fun ls hl => ?_)
    refine lv_aload_n hx hb dX10_drop_6 rfl (lv_at hl 0 rfl) ?_
    refine xc_i (wr := wX ca f kq ad) (va_runV (As := []) (rest := []) ⟨hx, hb, hml, hown, hts⟩ (r_X6_canDrop l D ca kq (ad i0) _ m r N hR hN ) (cwV 0 hts gX10_drop_X6_canDrop rfl rfl rfl (by decide +kernel) ⟨(Nat.le_of_ble_eq_true rfl), (Nat.le_of_ble_eq_true rfl)⟩) (xPreV hKN hP hD [3, 4, 5, 6, 7, 8, 9, 10, 11, 12, 13, 14, 15, 16, 17, 18, 19, 20] (by decide +kernel) rfl (q0 := 7) rfl rfl rfl) rfl rfl hl.1 rfl (lv_room (Nat.le_of_ble_eq_true rfl)) dX10_drop_7 ⟨(Nat.le_of_ble_eq_true rfl), (Nat.le_of_ble_eq_true rfl)⟩) hP hD hS hA [3, 4, 5, 6, 7, 8, 9, 10, 11, 12, 13, 14, 15, 16, 17, 18, 19, 20] [0, 1, 2] rfl rfl (by decide +kernel) (by decide +kernel) (fun r7 u7 H locs hu7 hP hD hS => ?_)
    have hP : va_P D vwCl ((wX ca f kq ad) ++ (wKd kq) ++ (wMp ca kq (ad i0) u7)) H := hP
    have hD : va_D A ((wX ca f kq ad) ++ (wKd kq) ++ (wMp ca kq (ad i0) u7)) := hD
    obtain ⟨er7, eu7⟩ := hu7
    have eu7 := eu7.symm
    subst eu7
    subst er7
    have hP : va_P D vwCl ((wX ca f kq ad) ++ (wKd kq) ++ (wMp ca kq (ad i0) m)) H := hP
    have hD : va_D A ((wX ca f kq ad) ++ (wKd kq) ++ (wMp ca kq (ad i0) m)) := hD
    refine lv_if_ne (tgt := 23) hx hb dX10_drop_10 (by decide) (fun c10 => ?_) (fun c10 => ?_)
    · skip
      have c10 := bI_ne.mp c10
      refine lv_aload_n hx hb dX10_drop_23 rfl (lv_at hl 0 rfl) ?_
      refine xc_v (wr := wX ca f kq ad) (va_runV (As := []) (rest := []) ⟨hx, hb, hml, hown, hts⟩ (r_X6_dropLatest l D ca kq (ad i0) _ m r N hR hN (of_decide_eq_true c10).1 (of_decide_eq_true c10).2.1 (of_decide_eq_true c10).2.2) (cwV 0 hts gX10_drop_X6_dropLatest rfl rfl rfl (by decide +kernel) ⟨(Nat.le_of_ble_eq_true rfl), (Nat.le_of_ble_eq_true rfl)⟩) (xPreV hKN hP hD [3, 4, 5, 6, 7, 8, 9, 10, 11, 12, 13, 14, 15, 16, 17, 18, 19, 20] (by decide +kernel) rfl (q0 := 7) rfl rfl rfl) rfl rfl hl.1 rfl (lv_room (Nat.le_of_ble_eq_true rfl)) dX10_drop_24 ⟨(Nat.le_of_ble_eq_true rfl), (Nat.le_of_ble_eq_true rfl)⟩) hP hD hS hA [3, 4, 5, 6, 7, 8, 9, 10, 11, 12, 13, 14, 15, 16, 17, 18, 19, 20] [0, 1, 2] rfl rfl (by decide +kernel) (by decide +kernel) (fun u24 H locs hu24 hP hD hS => ?_)
      have hP : va_P D vwCl ((wX ca f kq ad) ++ (wKd kq) ++ (wMp ca kq (ad i0) u24)) H := hP
      have hD : va_D A ((wX ca f kq ad) ++ (wKd kq) ++ (wMp ca kq (ad i0) u24)) := hD
      obtain ⟨ec24, hR24⟩ := hu24
      refine W.widen (k := 2) (n := 12) (by omega) (by omega) ?_
      exact vx_ret (W.vret hx hb hr (fun t9 e9 w9 => ⟨⟨u24, rfl, gret hB2 rfl ec24 hR24, by rw [e9]; exact hP, hD⟩, hS.F e9⟩) hS.2.2 dX10_drop_27)
    · skip
      have c10 := bI_0.mp c10
      obtain ⟨sa9, hsa⟩ := NW.s hKN.2 (a := RX10) (i := 127) (b := "no entry that the iterator could drop") (by decide +kernel)
      exact vx_throwS (A := A) hx hb hl9 hown (by decide +kernel) hns_X (hts (.classLink RX10 116 eIS) (by decide +kernel)) (hts (.initialized eIS) (by decide +kernel)) hsa (hat_X10_eIS hKN.2 (fun w h => hts w (inT_X10_drop_eIS w h))) hgo_X10_eIS_116 hTZ.1 hTZ.2 hS (hl.1.trans hml.symm) dX10_drop_13 dX10_drop_16 dX10_drop_17 dX10_drop_19 dX10_drop_22 (fun x h => (hno x h).elim) (Nat.le_of_ble_eq_true rfl) (Nat.le_of_ble_eq_true rfl) (Nat.le_of_ble_eq_true rfl) (Nat.le_of_ble_eq_true rfl) hlocks (fun t9 _ hz9 hk9 => xX_of m (gthr hB2 (F_drop_2 (nd_of c10)) (by decide) rfl (rel_mono hR (by omega))) hP hD hS hz9 hk9) hS.2.2 (by omega) (by omega)

-- TreeFamily.changes
set_option maxHeartbeats 4000000 in
set_option maxRecDepth 100000 in
theorem c_X10_changes (l : Launch) (D : va_G) (ca : Nat → ClassId) (f kq : Nat → Nat) (ad : Nat → Nat → Nat) (sz : Nat) (hl9 : l.stackTraces = false) (i0 : Nat) (m : MS) (r : RW) (N : Nat) (mm : Int32) (hR : Rel1 N m r) (hN : N ≤ 1000000) (hm : isB mm 3 = true → mm = nI i0 ∧ i0 < 3) : vx_Met l yX10_changes wsX10_changes ({ frames := 7, cells := 2, slots := 12, locals := 111 } : Room) (xPcT D (TY ca) [.ref (f 0), .int mm] ((wX ca f kq ad) ++ (wKd kq) ++ (wMp ca kq (ad i0) m)) sz) (va_Qi (fun (x : Int32) (u : MS) => PR 0 (F_changes) mm r N x u) (xB D (wF1 ca f kq ad i0) (va_A ((wX ca f kq ad) ++ (wKd kq) ++ (wMp ca kq (ad i0) m)) sz)) (va_A ((wX ca f kq ad) ++ (wKd kq) ++ (wMp ca kq (ad i0) m)) sz)) (xX D (wF1 ca f kq ad i0) (va_A ((wX ca f kq ad) ++ (wKd kq) ++ (wMp ca kq (ad i0) m)) sz) (fun (E : String) (u : MS) => PT xA (0 : Int32) (F_changes) mm r N E u)) 2 12 (va_A ((wX ca f kq ad) ++ (wKd kq) ++ (wMp ca kq (ad i0) m)) sz) := by
  refine vx_ofW (cc := cX10_changes) (maxL := 2) (ret := (some .int)) (by decide) rfl ?_
  intro p e s m9 args below meth c s₁ B hml hno hv
  obtain ⟨rfl, hsz, hP, hKN, hD0, hTZ⟩ := hv
  have hx := B.exec
  have hb := B.bytes
  have hr := B.returns
  have hts := atoms_spec (ws := wsX10_changes) B.pre
  have hown : s.vm.findClass RX10 = some m9.cls := findClass_of_methodNamed B.named
  have hlocks := B.notSynchronized
  have inX6 : ∀ w ∈ wsX60, w ∈ wsX10_changes := by decide +kernel
  subst hsz
  have hD := hD0.self (sz := s.heap.size)
  generalize hAe : va_A ((wX ca f kq ad) ++ (wKd kq) ++ (wMp ca kq (ad i0) m)) s.heap.size = A at hD hTZ ⊢
  have hA : ∀ q : Nat, s.heap.size ≤ q → A q := fun q h => by rw [← hAe]; exact Or.inr h
  have hS : va_S A s.heap s.heap [] := va_S.rf
  have hl := lv_entry ([.ref (f 0), .int mm]) (n := 2) (Nat.le_of_ble_eq_true rfl)
  rw [lg_entry_eq]
  generalize (lg_sl ([.ref (f 0), .int mm]) ++ List.replicate (2 - (lg_sl ([.ref (f 0), .int mm])).length) Slot.unset).toArray = ls at hl ⊢
  have hl : lv_has ls 2 [(0, .ref (f 0)), (1, .int mm)] := hl
  refine lv_aload_n hx hb dX10_changes_0 rfl (lv_at hl 0 rfl) ?_
  refine lv_iload_n hx hb dX10_changes_1 rfl (lv_at hl 1 rfl) ?_
  refine xcx_r (wr := (wKd kq) ++ (wMp ca kq (ad i0) m)) (vx_runV (As := [.int mm]) (rest := []) ⟨hx, hb, hml, hown, hts⟩ (c_X10_mapAt l D ca f kq ad _ hl9 mm i0 hm) (cwV 1 hts gX10_changes_X10_mapAt rfl rfl rfl (by decide +kernel) ⟨(Nat.le_of_ble_eq_true rfl), (Nat.le_of_ble_eq_true rfl)⟩) (xPreVT hKN hTZ hP hD hS hA [0, 1, 2] (by decide +kernel) rfl (q0 := 0) rfl rfl rfl) rfl rfl hl.1 rfl (lv_room (Nat.le_of_ble_eq_true rfl)) dX10_changes_2 ⟨(Nat.le_of_ble_eq_true rfl), (Nat.le_of_ble_eq_true rfl)⟩) hP hD hS hA [0, 1, 2] [3, 4, 5, 6, 7, 8, 9, 10, 11, 12, 13, 14, 15, 16, 17, 18, 19, 20] rfl rfl (by decide +kernel) (by decide +kernel) (fun E9 ce9 q9 u2 H locs hu2 hP hD hS h91 h92 h93 => ?_) (fun ra u2 H locs hu2 hra2 hP hD hS => ?_)
  · skip
    obtain ⟨eE, hB2⟩ := hu2
    have hP : va_P D vwCl ((wX ca f kq ad) ++ (wKd kq) ++ (wMp ca kq (ad i0) m)) H := hP.sub (ws' := (wX ca f kq ad) ++ (wKd kq) ++ (wMp ca kq (ad i0) m)) [18, 19, 20, 0, 1, 2, 3, 4, 5, 6, 7, 8, 9, 10, 11, 12, 13, 14, 15, 16, 17] rfl
    have hD : va_D A ((wX ca f kq ad) ++ (wKd kq) ++ (wMp ca kq (ad i0) m)) := hD.sub (ws' := (wX ca f kq ad) ++ (wKd kq) ++ (wMp ca kq (ad i0) m)) [18, 19, 20, 0, 1, 2, 3, 4, 5, 6, 7, 8, 9, 10, 11, 12, 13, 14, 15, 16, 17] (by decide +kernel) rfl
    exact vx_out (fun x h => (hno x h).elim) hlocks h91 h92 h93 (fun t9 e9 _ => xX_on m (gbad hB2 eE (rel_mono hR (by omega))) hP hD hS e9) hS.2.2 (by omega) (by omega)
  · skip
    have hP : va_P D vwCl ((wX ca f kq ad) ++ (wKd kq) ++ (wMp ca kq (ad i0) m)) H := hP.sub (ws' := (wX ca f kq ad) ++ (wKd kq) ++ (wMp ca kq (ad i0) m)) [18, 19, 20, 0, 1, 2, 3, 4, 5, 6, 7, 8, 9, 10, 11, 12, 13, 14, 15, 16, 17] rfl
    have hD : va_D A ((wX ca f kq ad) ++ (wKd kq) ++ (wMp ca kq (ad i0) m)) := hD.sub (ws' := (wX ca f kq ad) ++ (wKd kq) ++ (wMp ca kq (ad i0) m)) [18, 19, 20, 0, 1, 2, 3, 4, 5, 6, 7, 8, 9, 10, 11, 12, 13, 14, 15, 16, 17] (by decide +kernel) rfl
    obtain ⟨hm2, hB2⟩ := hu2
    subst hra2
    have hi3 := (hm hB2).2
    subst hm2
    refine va_getN (D := D) (ci := 4) (v := .int m.2.2.2) (C := RX6) (T := TX6) (N := 4) hx hb hts inX6 hown hKN.1 hP 7 rfl rfl 3 (by decide) (va_Nw.use rfl (NW.f hKN.2 (a := RX10) (i := 154) (b := "TreeFamily$OneMap") (n := "changes") (d := "I") (g := "TreeFamily") (by decide +kernel))) (fun _ h9 => h9) rfl dX10_changes_5 ?_
    refine W.widen (k := 2) (n := 12) (by omega) (by omega) ?_
    exact vx_ret (W.iret (v := m.2.2.2) hx hb hr (fun t9 e9 w9 => ⟨⟨_, m, rfl, gret hB2 hR.2.2.2.2.1 rfl (rel_mono hR (by omega)), by rw [e9]; exact hP, hD⟩, hS.F e9⟩) hS.2.2 dX10_changes_8)

-- TreeFamily.audit
set_option maxHeartbeats 4000000 in
set_option maxRecDepth 100000 in
theorem c_X10_audit (l : Launch) (D : va_G) (ca : Nat → ClassId) (f kq : Nat → Nat) (ad : Nat → Nat → Nat) (sz : Nat) (hl9 : l.stackTraces = false) (i0 : Nat) (m : MS) (r : RW) (N : Nat) (mm : Int32) (hR : Rel1 N m r) (hN : N ≤ 1000000) (hm : isB mm 3 = true → mm = nI i0 ∧ i0 < 3) : vx_Met l yX10_audit wsX10_audit ({ frames := 7, cells := 2, slots := 12, locals := 111 } : Room) (xPcT D (TY ca) [.ref (f 0), .int mm] ((wX ca f kq ad) ++ (wKd kq) ++ (wMp ca kq (ad i0) m)) sz) (va_Qi (fun (x : Int32) (u : MS) => PR 0 (F_audit) mm r N x u) (xB D (wF1 ca f kq ad i0) (va_A ((wX ca f kq ad) ++ (wKd kq) ++ (wMp ca kq (ad i0) m)) sz)) (va_A ((wX ca f kq ad) ++ (wKd kq) ++ (wMp ca kq (ad i0) m)) sz)) (xX D (wF1 ca f kq ad i0) (va_A ((wX ca f kq ad) ++ (wKd kq) ++ (wMp ca kq (ad i0) m)) sz) (fun (E : String) (u : MS) => PT xA (0 : Int32) (F_audit) mm r N E u)) 2 12 (va_A ((wX ca f kq ad) ++ (wKd kq) ++ (wMp ca kq (ad i0) m)) sz) := by
  refine vx_ofW (cc := cX10_audit) (maxL := 2) (ret := (some .boolean)) (by decide) rfl ?_
  intro p e s m9 args below meth c s₁ B hml hno hv
  obtain ⟨rfl, hsz, hP, hKN, hD0, hTZ⟩ := hv
  have hx := B.exec
  have hb := B.bytes
  have hr := B.returns
  have hts := atoms_spec (ws := wsX10_audit) B.pre
  have hown : s.vm.findClass RX10 = some m9.cls := findClass_of_methodNamed B.named
  have hlocks := B.notSynchronized
  subst hsz
  have hD := hD0.self (sz := s.heap.size)
  generalize hAe : va_A ((wX ca f kq ad) ++ (wKd kq) ++ (wMp ca kq (ad i0) m)) s.heap.size = A at hD hTZ ⊢
  have hA : ∀ q : Nat, s.heap.size ≤ q → A q := fun q h => by rw [← hAe]; exact Or.inr h
  have hS : va_S A s.heap s.heap [] := va_S.rf
  have hl := lv_entry ([.ref (f 0), .int mm]) (n := 2) (Nat.le_of_ble_eq_true rfl)
  rw [lg_entry_eq]
  generalize (lg_sl ([.ref (f 0), .int mm]) ++ List.replicate (2 - (lg_sl ([.ref (f 0), .int mm])).length) Slot.unset).toArray = ls at hl ⊢
  have hl : lv_has ls 2 [(0, .ref (f 0)), (1, .int mm)] := hl
  refine lv_aload_n hx hb dX10_audit_0 rfl (lv_at hl 0 rfl) ?_
  refine lv_iload_n hx hb dX10_audit_1 rfl (lv_at hl 1 rfl) ?_
  refine xcx_r (wr := (wKd kq) ++ (wMp ca kq (ad i0) m)) (vx_runV (As := [.int mm]) (rest := []) ⟨hx, hb, hml, hown, hts⟩ (c_X10_mapAt l D ca f kq ad _ hl9 mm i0 hm) (cwV 1 hts gX10_audit_X10_mapAt rfl rfl rfl (by decide +kernel) ⟨(Nat.le_of_ble_eq_true rfl), (Nat.le_of_ble_eq_true rfl)⟩) (xPreVT hKN hTZ hP hD hS hA [0, 1, 2] (by decide +kernel) rfl (q0 := 0) rfl rfl rfl) rfl rfl hl.1 rfl (lv_room (Nat.le_of_ble_eq_true rfl)) dX10_audit_2 ⟨(Nat.le_of_ble_eq_true rfl), (Nat.le_of_ble_eq_true rfl)⟩) hP hD hS hA [0, 1, 2] [3, 4, 5, 6, 7, 8, 9, 10, 11, 12, 13, 14, 15, 16, 17, 18, 19, 20] rfl rfl (by decide +kernel) (by decide +kernel) (fun E9 ce9 q9 u2 H locs hu2 hP hD hS h91 h92 h93 => ?_) (fun ra u2 H locs hu2 hra2 hP hD hS => ?_)
  · skip
    obtain ⟨eE, hB2⟩ := hu2
    have hP : va_P D vwCl ((wX ca f kq ad) ++ (wKd kq) ++ (wMp ca kq (ad i0) m)) H := hP.sub (ws' := (wX ca f kq ad) ++ (wKd kq) ++ (wMp ca kq (ad i0) m)) [18, 19, 20, 0, 1, 2, 3, 4, 5, 6, 7, 8, 9, 10, 11, 12, 13, 14, 15, 16, 17] rfl
    have hD : va_D A ((wX ca f kq ad) ++ (wKd kq) ++ (wMp ca kq (ad i0) m)) := hD.sub (ws' := (wX ca f kq ad) ++ (wKd kq) ++ (wMp ca kq (ad i0) m)) [18, 19, 20, 0, 1, 2, 3, 4, 5, 6, 7, 8, 9, 10, 11, 12, 13, 14, 15, 16, 17] (by decide +kernel) rfl
    exact vx_out (fun x h => (hno x h).elim) hlocks h91 h92 h93 (fun t9 e9 _ => xX_on m (gbad hB2 eE (rel_mono hR (by omega))) hP hD hS e9) hS.2.2 (by omega) (by omega)
  · skip
    have hP : va_P D vwCl ((wX ca f kq ad) ++ (wKd kq) ++ (wMp ca kq (ad i0) m)) H := hP.sub (ws' := (wX ca f kq ad) ++ (wKd kq) ++ (wMp ca kq (ad i0) m)) [18, 19, 20, 0, 1, 2, 3, 4, 5, 6, 7, 8, 9, 10, 11, 12, 13, 14, 15, 16, 17] rfl
    have hD : va_D A ((wX ca f kq ad) ++ (wKd kq) ++ (wMp ca kq (ad i0) m)) := hD.sub (ws' := (wX ca f kq ad) ++ (wKd kq) ++ (wMp ca kq (ad i0) m)) [18, 19, 20, 0, 1, 2, 3, 4, 5, 6, 7, 8, 9, 10, 11, 12, 13, 14, 15, 16, 17] (by decide +kernel) rfl
    obtain ⟨hm2, hB2⟩ := hu2
    subst hra2
    have hi3 := (hm hB2).2
    subst hm2
    refine xc_i (wr := wX ca f kq ad) (va_runV (As := []) (rest := []) ⟨hx, hb, hml, hown, hts⟩ (r_X6_isSound l D ca kq (ad i0) _ m r N hR hN ) (cwV 0 hts gX10_audit_X6_isSound rfl rfl rfl (by decide +kernel) ⟨(Nat.le_of_ble_eq_true rfl), (Nat.le_of_ble_eq_true rfl)⟩) (xPreV hKN hP hD [3, 4, 5, 6, 7, 8, 9, 10, 11, 12, 13, 14, 15, 16, 17, 18, 19, 20] (by decide +kernel) rfl (q0 := 7) rfl rfl rfl) rfl rfl hl.1 rfl (lv_room (Nat.le_of_ble_eq_true rfl)) dX10_audit_5 ⟨(Nat.le_of_ble_eq_true rfl), (Nat.le_of_ble_eq_true rfl)⟩) hP hD hS hA [3, 4, 5, 6, 7, 8, 9, 10, 11, 12, 13, 14, 15, 16, 17, 18, 19, 20] [0, 1, 2] rfl rfl (by decide +kernel) (by decide +kernel) (fun r5 u5 H locs hu5 hP hD hS => ?_)
    have hP : va_P D vwCl ((wX ca f kq ad) ++ (wKd kq) ++ (wMp ca kq (ad i0) u5)) H := hP
    have hD : va_D A ((wX ca f kq ad) ++ (wKd kq) ++ (wMp ca kq (ad i0) u5)) := hD
    obtain ⟨er5, eu5⟩ := hu5
    have eu5 := eu5.symm
    subst eu5
    subst er5
    have hP : va_P D vwCl ((wX ca f kq ad) ++ (wKd kq) ++ (wMp ca kq (ad i0) m)) H := hP
    have hD : va_D A ((wX ca f kq ad) ++ (wKd kq) ++ (wMp ca kq (ad i0) m)) := hD
    refine W.widen (k := 2) (n := 12) (by omega) (by omega) ?_
    exact vx_ret (W.zret (v := 1) hx hb hr (by decide) (fun t9 e9 w9 => ⟨⟨_, m, rfl, gretF hB2 rfl (rel_mono hR (by omega)), by rw [e9]; exact hP, hD⟩, hS.F e9⟩) hS.2.2 dX10_audit_8)
