-- TreeFamilyModel.range
set_option maxHeartbeats 4000000 in
set_option maxRecDepth 100000 in
theorem c_X11_range (l : Launch) (D : va_G) (ca : Nat → ClassId) (b : Nat → Nat) (sz : Nat) (q : QS) (how f s2 : Int32) (mm : Int32) (hq : WQ q) : Met l yX11_range wsX11_range ({ frames := 1, cells := 0, slots := 0, locals := 23 } : Room) (xPc D (TY ca) [.ref (b 0), .int mm, .int how, .int f, .int s2] (wQ ca b q) sz) (va_Qv (fun u : QS => PO () (F_range how f s2) mm q () u) (xB D (wQ ca b) (va_A (wQ ca b q) sz)) (va_A (wQ ca b q) sz)) 0 0 (va_A (wQ ca b q) sz) := by
  refine Met.ofW (cc := cX11_range) (maxL := 5) (ret := none) (by decide) rfl ?_
  intro p e s m args below meth c s₁ B hml hv
  obtain ⟨rfl, hsz, hP, hKN, hD0⟩ := hv
  have hx := B.exec
  have hb := B.bytes
  have hr := B.returns
  have hts := atoms_spec (ws := wsX11_range) B.pre
  have hown : s.vm.findClass RX11 = some m.cls := findClass_of_methodNamed B.named
  have hlocks := B.notSynchronized
  have inX11 : ∀ w ∈ wsX110, w ∈ wsX11_range := by decide +kernel
  subst hsz
  have hD := hD0.self (sz := s.heap.size)
  generalize hAe : va_A (wQ ca b q) s.heap.size = A at hD ⊢
  have hA : ∀ q : Nat, s.heap.size ≤ q → A q := fun q h => by rw [← hAe]; exact Or.inr h
  have hS : va_S A s.heap s.heap [] := va_S.rf
  have hl := lv_entry ([.ref (b 0), .int mm, .int how, .int f, .int s2]) (n := 5) (Nat.le_of_ble_eq_true rfl)
  rw [lg_entry_eq]
  generalize (lg_sl ([.ref (b 0), .int mm, .int how, .int f, .int s2]) ++ List.replicate (5 - (lg_sl ([.ref (b 0), .int mm, .int how, .int f, .int s2])).length) Slot.unset).toArray = ls at hl ⊢
  have hl : lv_has ls 5 [(0, .ref (b 0)), (1, .int mm), (2, .int how), (3, .int f), (4, .int s2)] := hl
  rcases isB3 mm with hmm | ⟨j, hj, hmj⟩
  · skip
    refine lv_aload_n hx hb dX11_range_0 rfl (lv_at hl 0 rfl) ?_
    refine lv_iload_n hx hb dX11_range_1 rfl (lv_at hl 1 rfl) ?_
    refine xs_i (va_runS (As := [.int mm]) (rest := [.ref (b 0)]) ⟨hx, hb, hml, hown, hts⟩ (c_X11_isMap l _) (va_cwS 1 hts gX11_range_X11_isMap rfl rfl rfl (by decide +kernel) ⟨(Nat.le_of_ble_eq_true rfl), (Nat.le_of_ble_eq_true rfl)⟩) xPreT rfl rfl hl.1 rfl (lv_room (Nat.le_of_ble_eq_true rfl)) dX11_range_2 ⟨(Nat.le_of_ble_eq_true rfl), (Nat.le_of_ble_eq_true rfl)⟩) (fun r2 er2 => ?_)
    subst er2
    refine xr_top (y := 0) (by rw [hmm]; rfl) ?_
    refine lv_if_eq (tgt := 33) hx hb dX11_range_5 (by decide) (fun c5 => ?_) (fun c5 => ?_)
    · skip
      refine lv_iconst (v := 1) hx hb dX11_range_33 (by decide) ?_
      refine lv_goto (tgt := 38) hx hb dX11_range_34 (by decide) ?_
      refine va_put (D := D) (ci := 9) (v := .int 1) (ty := .int) (C := RX11) (T := TX11) (N := 17) hx hb hts inX11 tyX11 tyX11_ok nmX11 hown hKN.1 hP hD hS 0 rfl rfl 0 (by decide) (hts (.fieldLink RX11 59 "TreeFamilyModel" "code" "I") (by decide +kernel)) (fun _ h9 => h9) rfl (by decide +kernel) rfl rfl (Nat.le_of_ble_eq_true rfl) dX11_range_38 (fun H locs hP hD hS => ?_)
      have hP : va_P D vwCl (wQx ca b 1 q.oo q.zz q.ks q.vs q.cg q.hw q.lo q.hg q.wk q.kw q.mn q.gv q.cp q.ho q.nk q.nv) H := hP
      have hD : va_D A (wQx ca b 1 q.oo q.zz q.ks q.vs q.cg q.hw q.lo q.hg q.wk q.kw q.mn q.gv q.cp q.ho q.nk q.nv) := hD
      refine lv_aload_n hx hb dX11_range_41 rfl (lv_at hl 0 rfl) ?_
      refine va_get (D := D) (ci := 9) (v := .int 1) (C := RX11) (T := TX11) (N := 17) hx hb hts inX11 hown hKN.1 hP 0 rfl rfl 0 (by decide) (hts (.fieldLink RX11 59 "TreeFamilyModel" "code" "I") (by decide +kernel)) (fun _ h9 => h9) rfl dX11_range_42 ?_
      refine lv_if_le (tgt := 49) hx hb dX11_range_45 (by decide) (fun c45 => ?_) (fun c45 => ?_)
      · skip
        exact absurd c45 (by decide)
      · skip
        exact W.vret hx hb hr (fun t9 e9 w9 => ⟨⟨(1, q.oo, q.zz, q.ks, q.vs, q.cg, q.hw, q.lo, q.hg, q.wk, q.kw, q.mn, q.gv, q.cp, q.ho, q.nk, q.nv), rfl, PO_bad hmm hq rfl rfl rfl, by rw [e9]; exact hP, hD⟩, hS.F e9⟩) hS.2.2 dX11_range_48
    · skip
      exact absurd c5 (by decide)
  · subst hmj
    have hz6 := hq.1 j
    have hh3 := hq.2.1 j
    refine lv_aload_n hx hb dX11_range_0 rfl (lv_at hl 0 rfl) ?_
    refine lv_iload_n hx hb dX11_range_1 rfl (lv_at hl 1 rfl) ?_
    refine xs_i (va_runS (As := [.int (nI j)]) (rest := [.ref (b 0)]) ⟨hx, hb, hml, hown, hts⟩ (c_X11_isMap l _) (va_cwS 1 hts gX11_range_X11_isMap rfl rfl rfl (by decide +kernel) ⟨(Nat.le_of_ble_eq_true rfl), (Nat.le_of_ble_eq_true rfl)⟩) xPreT rfl rfl hl.1 rfl (lv_room (Nat.le_of_ble_eq_true rfl)) dX11_range_2 ⟨(Nat.le_of_ble_eq_true rfl), (Nat.le_of_ble_eq_true rfl)⟩) (fun r2 er2 => ?_)
    subst er2
    refine xr_top (y := 1) (by rw [isB3_ok hj]; rfl) ?_
    refine lv_if_eq (tgt := 33) hx hb dX11_range_5 (by decide) (fun c5 => ?_) (fun c5 => ?_)
    · skip
      exact absurd c5 (by decide)
    · skip
      refine lv_iload_n hx hb dX11_range_8 rfl (lv_at hl 2 rfl) ?_
      refine lv_if_lt (tgt := 33) hx hb dX11_range_9 (by decide) (fun c9 => ?_) (fun c9 => ?_)
      · skip
        refine lv_iconst (v := 1) hx hb dX11_range_33 (by decide) ?_
        refine lv_goto (tgt := 38) hx hb dX11_range_34 (by decide) ?_
        refine va_put (D := D) (ci := 9) (v := .int 1) (ty := .int) (C := RX11) (T := TX11) (N := 17) hx hb hts inX11 tyX11 tyX11_ok nmX11 hown hKN.1 hP hD hS 0 rfl rfl 0 (by decide) (hts (.fieldLink RX11 59 "TreeFamilyModel" "code" "I") (by decide +kernel)) (fun _ h9 => h9) rfl (by decide +kernel) rfl rfl (Nat.le_of_ble_eq_true rfl) dX11_range_38 (fun H locs hP hD hS => ?_)
        have hP : va_P D vwCl (wQx ca b 1 q.oo q.zz q.ks q.vs q.cg q.hw q.lo q.hg q.wk q.kw q.mn q.gv q.cp q.ho q.nk q.nv) H := hP
        have hD : va_D A (wQx ca b 1 q.oo q.zz q.ks q.vs q.cg q.hw q.lo q.hg q.wk q.kw q.mn q.gv q.cp q.ho q.nk q.nv) := hD
        refine lv_aload_n hx hb dX11_range_41 rfl (lv_at hl 0 rfl) ?_
        refine va_get (D := D) (ci := 9) (v := .int 1) (C := RX11) (T := TX11) (N := 17) hx hb hts inX11 hown hKN.1 hP 0 rfl rfl 0 (by decide) (hts (.fieldLink RX11 59 "TreeFamilyModel" "code" "I") (by decide +kernel)) (fun _ h9 => h9) rfl dX11_range_42 ?_
        refine lv_if_le (tgt := 49) hx hb dX11_range_45 (by decide) (fun c45 => ?_) (fun c45 => ?_)
        · skip
          exact absurd c45 (by decide)
        · skip
          exact W.vret hx hb hr (fun t9 e9 w9 => ⟨⟨(1, q.oo, q.zz, q.ks, q.vs, q.cg, q.hw, q.lo, q.hg, q.wk, q.kw, q.mn, q.gv, q.cp, q.ho, q.nk, q.nv), rfl, by first | exact PO_same hj (F_range_0 (isB_lt c9)) hq rfl rfl | exact PO_same hj (F_range_0 (isB_ge (gt34' c14))) hq rfl rfl | exact PO_same hj (F_range_3 c19 c30) hq rfl rfl, by rw [e9]; exact hP, hD⟩, hS.F e9⟩) hS.2.2 dX11_range_48
      · skip
        refine lv_iload_n hx hb dX11_range_12 rfl (lv_at hl 2 rfl) ?_
        refine lv_iconst (v := 3) hx hb dX11_range_13 (by decide) ?_
        refine lv_icmp_gt (tgt := 33) hx hb dX11_range_14 (by decide) (fun c14 => ?_) (fun c14 => ?_)
        · skip
          refine lv_iconst (v := 1) hx hb dX11_range_33 (by decide) ?_
          refine lv_goto (tgt := 38) hx hb dX11_range_34 (by decide) ?_
          refine va_put (D := D) (ci := 9) (v := .int 1) (ty := .int) (C := RX11) (T := TX11) (N := 17) hx hb hts inX11 tyX11 tyX11_ok nmX11 hown hKN.1 hP hD hS 0 rfl rfl 0 (by decide) (hts (.fieldLink RX11 59 "TreeFamilyModel" "code" "I") (by decide +kernel)) (fun _ h9 => h9) rfl (by decide +kernel) rfl rfl (Nat.le_of_ble_eq_true rfl) dX11_range_38 (fun H locs hP hD hS => ?_)
          have hP : va_P D vwCl (wQx ca b 1 q.oo q.zz q.ks q.vs q.cg q.hw q.lo q.hg q.wk q.kw q.mn q.gv q.cp q.ho q.nk q.nv) H := hP
          have hD : va_D A (wQx ca b 1 q.oo q.zz q.ks q.vs q.cg q.hw q.lo q.hg q.wk q.kw q.mn q.gv q.cp q.ho q.nk q.nv) := hD
          refine lv_aload_n hx hb dX11_range_41 rfl (lv_at hl 0 rfl) ?_
          refine va_get (D := D) (ci := 9) (v := .int 1) (C := RX11) (T := TX11) (N := 17) hx hb hts inX11 hown hKN.1 hP 0 rfl rfl 0 (by decide) (hts (.fieldLink RX11 59 "TreeFamilyModel" "code" "I") (by decide +kernel)) (fun _ h9 => h9) rfl dX11_range_42 ?_
          refine lv_if_le (tgt := 49) hx hb dX11_range_45 (by decide) (fun c45 => ?_) (fun c45 => ?_)
          · skip
            exact absurd c45 (by decide)
          · skip
            exact W.vret hx hb hr (fun t9 e9 w9 => ⟨⟨(1, q.oo, q.zz, q.ks, q.vs, q.cg, q.hw, q.lo, q.hg, q.wk, q.kw, q.mn, q.gv, q.cp, q.ho, q.nk, q.nv), rfl, by first | exact PO_same hj (F_range_0 (isB_lt c9)) hq rfl rfl | exact PO_same hj (F_range_0 (isB_ge (gt34' c14))) hq rfl rfl | exact PO_same hj (F_range_3 c19 c30) hq rfl rfl, by rw [e9]; exact hP, hD⟩, hS.F e9⟩) hS.2.2 dX11_range_48
        · skip
          refine lv_iload_n hx hb dX11_range_17 rfl (lv_at hl 2 rfl) ?_
          refine lv_iconst (v := 3) hx hb dX11_range_18 (by decide) ?_
          refine lv_icmp_ne (tgt := 37) hx hb dX11_range_19 (by decide) (fun c19 => ?_) (fun c19 => ?_)
          · skip
            refine lv_iconst (v := 0) hx hb dX11_range_37 (by decide) ?_
            refine va_put (D := D) (ci := 9) (v := .int 0) (ty := .int) (C := RX11) (T := TX11) (N := 17) hx hb hts inX11 tyX11 tyX11_ok nmX11 hown hKN.1 hP hD hS 0 rfl rfl 0 (by decide) (hts (.fieldLink RX11 59 "TreeFamilyModel" "code" "I") (by decide +kernel)) (fun _ h9 => h9) rfl (by decide +kernel) rfl rfl (Nat.le_of_ble_eq_true rfl) dX11_range_38 (fun H locs hP hD hS => ?_)
            have hP : va_P D vwCl (wQx ca b 0 q.oo q.zz q.ks q.vs q.cg q.hw q.lo q.hg q.wk q.kw q.mn q.gv q.cp q.ho q.nk q.nv) H := hP
            have hD : va_D A (wQx ca b 0 q.oo q.zz q.ks q.vs q.cg q.hw q.lo q.hg q.wk q.kw q.mn q.gv q.cp q.ho q.nk q.nv) := hD
            refine lv_aload_n hx hb dX11_range_41 rfl (lv_at hl 0 rfl) ?_
            refine va_get (D := D) (ci := 9) (v := .int 0) (C := RX11) (T := TX11) (N := 17) hx hb hts inX11 hown hKN.1 hP 0 rfl rfl 0 (by decide) (hts (.fieldLink RX11 59 "TreeFamilyModel" "code" "I") (by decide +kernel)) (fun _ h9 => h9) rfl dX11_range_42 ?_
            refine lv_if_le (tgt := 49) hx hb dX11_range_45 (by decide) (fun c45 => ?_) (fun c45 => ?_)
            · skip
              have hB := isB_in c9 (le34' c14)
              obtain ⟨hi1, hi2⟩ := isB_nN (n := 4) (by decide) hB
              rw [hi2] at hl
              refine lv_aload_n hx hb dX11_range_49 rfl (lv_at hl 0 rfl) ?_
              refine va_get (D := D) (ci := 9) (v := .ref (b 6)) (C := RX11) (T := TX11) (N := 17) hx hb hts inX11 hown hKN.1 hP 0 rfl rfl 6 (by decide) (hts (.fieldLink RX11 25 "TreeFamilyModel" "how" "[I") (by decide +kernel)) (fun _ h9 => h9) rfl dX11_range_50 ?_
              refine lv_iload_n hx hb dX11_range_53 rfl (lv_at hl 1 rfl) ?_
              refine lv_iload_n hx hb dX11_range_54 rfl (lv_at hl 2 rfl) ?_
              refine xr_nst hx hb hKN.1 hP hD hS 6 0 (g := q.hw) rfl rfl (j := j) (v := iN how) (by omega) (by decide) dX11_range_55 (fun H locs hP hD hS => ?_)
              have hP : va_P D vwCl (wQx ca b 0 q.oo q.zz q.ks q.vs q.cg (va_up q.hw j (iN how)) q.lo q.hg q.wk q.kw q.mn q.gv q.cp q.ho q.nk q.nv) H := hP
              have hD : va_D A (wQx ca b 0 q.oo q.zz q.ks q.vs q.cg (va_up q.hw j (iN how)) q.lo q.hg q.wk q.kw q.mn q.gv q.cp q.ho q.nk q.nv) := hD
              refine lv_aload_n hx hb dX11_range_56 rfl (lv_at hl 0 rfl) ?_
              refine va_get (D := D) (ci := 9) (v := .ref (b 7)) (C := RX11) (T := TX11) (N := 17) hx hb hts inX11 hown hKN.1 hP 0 rfl rfl 7 (by decide) (hts (.fieldLink RX11 28 "TreeFamilyModel" "low" "[I") (by decide +kernel)) (fun _ h9 => h9) rfl dX11_range_57 ?_
              refine lv_iload_n hx hb dX11_range_60 rfl (lv_at hl 1 rfl) ?_
              refine lv_iload_n hx hb dX11_range_61 rfl (lv_at hl 3 rfl) ?_
              refine xr_ist hx hb hKN.1 hP hD hS 7 0 rfl rfl (j := j) (by omega) (by decide) dX11_range_62 (fun H locs hP hD hS => ?_)
              have hP : va_P D vwCl (wQx ca b 0 q.oo q.zz q.ks q.vs q.cg (va_up q.hw j (iN how)) (upd q.lo j f) q.hg q.wk q.kw q.mn q.gv q.cp q.ho q.nk q.nv) H := hP
              have hD : va_D A (wQx ca b 0 q.oo q.zz q.ks q.vs q.cg (va_up q.hw j (iN how)) (upd q.lo j f) q.hg q.wk q.kw q.mn q.gv q.cp q.ho q.nk q.nv) := hD
              refine lv_aload_n hx hb dX11_range_63 rfl (lv_at hl 0 rfl) ?_
              refine va_get (D := D) (ci := 9) (v := .ref (b 8)) (C := RX11) (T := TX11) (N := 17) hx hb hts inX11 hown hKN.1 hP 0 rfl rfl 8 (by decide) (hts (.fieldLink RX11 31 "TreeFamilyModel" "high" "[I") (by decide +kernel)) (fun _ h9 => h9) rfl dX11_range_64 ?_
              refine lv_iload_n hx hb dX11_range_67 rfl (lv_at hl 1 rfl) ?_
              refine lv_iload hx hb dX11_range_68 (lv_at hl 4 rfl) ?_
              refine xr_ist hx hb hKN.1 hP hD hS 8 0 rfl rfl (j := j) (by omega) (by decide) dX11_range_70 (fun H locs hP hD hS => ?_)
              have hP : va_P D vwCl (wQx ca b 0 q.oo q.zz q.ks q.vs q.cg (va_up q.hw j (iN how)) (upd q.lo j f) (upd q.hg j s2) q.wk q.kw q.mn q.gv q.cp q.ho q.nk q.nv) H := hP
              have hD : va_D A (wQx ca b 0 q.oo q.zz q.ks q.vs q.cg (va_up q.hw j (iN how)) (upd q.lo j f) (upd q.hg j s2) q.wk q.kw q.mn q.gv q.cp q.ho q.nk q.nv) := hD
              exact W.vret hx hb hr (fun t9 e9 w9 => ⟨⟨(0, q.oo, q.zz, q.ks, q.vs, q.cg, (va_up q.hw j (iN how)), (upd q.lo j f), (upd q.hg j s2), q.wk, q.kw, q.mn, q.gv, q.cp, q.ho, q.nk, q.nv), rfl, by first | exact PO_by hj (F_range_1 hB (fun h9 => c19 h9.1)) (wq_range hq (by omega) (fun h9 => absurd (hi2.trans (congrArg nI h9)) c19)) rfl (ab_range q) | exact PO_by hj (F_range_1 hB (fun h9 => absurd (c30.symm.trans h9.2) (by decide))) (wq_range hq (by omega) (fun _ => c30)) rfl (ab_range q), by rw [e9]; exact hP, hD⟩, hS.F e9⟩) hS.2.2 dX11_range_71
            · skip
              exact absurd c45 (by decide)
          · skip
            refine lv_aload_n hx hb dX11_range_22 rfl (lv_at hl 0 rfl) ?_
            refine lv_iload_n hx hb dX11_range_23 rfl (lv_at hl 1 rfl) ?_
            refine lv_iload hx hb dX11_range_24 (lv_at hl 4 rfl) ?_
            refine lv_iload_n hx hb dX11_range_26 rfl (lv_at hl 3 rfl) ?_
            refine xc_i (wr := []) (va_runV (As := [.int (nI j), .int s2, .int f]) (rest := [.ref (b 0)]) ⟨hx, hb, hml, hown, hts⟩ (c_X11_before l D ca b _ q j s2 f hj) (cwV 3 hts gX11_range_X11_before rfl rfl rfl (by decide +kernel) ⟨(Nat.le_of_ble_eq_true rfl), (Nat.le_of_ble_eq_true rfl)⟩) (xPreV hKN hP hD [0, 1, 2, 3, 4, 5, 6, 7, 8, 9, 10, 11, 12, 13, 14, 15, 16] (by decide) rfl (q0 := 0) rfl rfl rfl) rfl rfl hl.1 rfl (lv_room (Nat.le_of_ble_eq_true rfl)) dX11_range_27 ⟨(Nat.le_of_ble_eq_true rfl), (Nat.le_of_ble_eq_true rfl)⟩) hP hD hS hA [0, 1, 2, 3, 4, 5, 6, 7, 8, 9, 10, 11, 12, 13, 14, 15, 16] [] rfl rfl (by decide) (by decide) (fun r27 u27 H locs hu27 hP hD hS => ?_)
            obtain ⟨er27, eu27⟩ := hu27
            have eu27 := eu27.symm
            subst eu27
            have hP : va_P D vwCl (wQ ca b q) H := hP
            have hD : va_D A (wQ ca b q) := hD
            have er27 : r27 = bI (gB (q.oo j) s2 f) := er27
            subst er27
            refine lv_if_eq (tgt := 37) hx hb dX11_range_30 (by decide) (fun c30 => ?_) (fun c30 => ?_)
            · skip
              have c30 := bI_0.mp c30
              refine lv_iconst (v := 0) hx hb dX11_range_37 (by decide) ?_
              refine va_put (D := D) (ci := 9) (v := .int 0) (ty := .int) (C := RX11) (T := TX11) (N := 17) hx hb hts inX11 tyX11 tyX11_ok nmX11 hown hKN.1 hP hD hS 0 rfl rfl 0 (by decide) (hts (.fieldLink RX11 59 "TreeFamilyModel" "code" "I") (by decide +kernel)) (fun _ h9 => h9) rfl (by decide +kernel) rfl rfl (Nat.le_of_ble_eq_true rfl) dX11_range_38 (fun H locs hP hD hS => ?_)
              have hP : va_P D vwCl (wQx ca b 0 q.oo q.zz q.ks q.vs q.cg q.hw q.lo q.hg q.wk q.kw q.mn q.gv q.cp q.ho q.nk q.nv) H := hP
              have hD : va_D A (wQx ca b 0 q.oo q.zz q.ks q.vs q.cg q.hw q.lo q.hg q.wk q.kw q.mn q.gv q.cp q.ho q.nk q.nv) := hD
              refine lv_aload_n hx hb dX11_range_41 rfl (lv_at hl 0 rfl) ?_
              refine va_get (D := D) (ci := 9) (v := .int 0) (C := RX11) (T := TX11) (N := 17) hx hb hts inX11 hown hKN.1 hP 0 rfl rfl 0 (by decide) (hts (.fieldLink RX11 59 "TreeFamilyModel" "code" "I") (by decide +kernel)) (fun _ h9 => h9) rfl dX11_range_42 ?_
              refine lv_if_le (tgt := 49) hx hb dX11_range_45 (by decide) (fun c45 => ?_) (fun c45 => ?_)
              · skip
                have hB := isB_in c9 (le34' c14)
                obtain ⟨hi1, hi2⟩ := isB_nN (n := 4) (by decide) hB
                rw [hi2] at hl
                refine lv_aload_n hx hb dX11_range_49 rfl (lv_at hl 0 rfl) ?_
                refine va_get (D := D) (ci := 9) (v := .ref (b 6)) (C := RX11) (T := TX11) (N := 17) hx hb hts inX11 hown hKN.1 hP 0 rfl rfl 6 (by decide) (hts (.fieldLink RX11 25 "TreeFamilyModel" "how" "[I") (by decide +kernel)) (fun _ h9 => h9) rfl dX11_range_50 ?_
                refine lv_iload_n hx hb dX11_range_53 rfl (lv_at hl 1 rfl) ?_
                refine lv_iload_n hx hb dX11_range_54 rfl (lv_at hl 2 rfl) ?_
                refine xr_nst hx hb hKN.1 hP hD hS 6 0 (g := q.hw) rfl rfl (j := j) (v := iN how) (by omega) (by decide) dX11_range_55 (fun H locs hP hD hS => ?_)
                have hP : va_P D vwCl (wQx ca b 0 q.oo q.zz q.ks q.vs q.cg (va_up q.hw j (iN how)) q.lo q.hg q.wk q.kw q.mn q.gv q.cp q.ho q.nk q.nv) H := hP
                have hD : va_D A (wQx ca b 0 q.oo q.zz q.ks q.vs q.cg (va_up q.hw j (iN how)) q.lo q.hg q.wk q.kw q.mn q.gv q.cp q.ho q.nk q.nv) := hD
                refine lv_aload_n hx hb dX11_range_56 rfl (lv_at hl 0 rfl) ?_
                refine va_get (D := D) (ci := 9) (v := .ref (b 7)) (C := RX11) (T := TX11) (N := 17) hx hb hts inX11 hown hKN.1 hP 0 rfl rfl 7 (by decide) (hts (.fieldLink RX11 28 "TreeFamilyModel" "low" "[I") (by decide +kernel)) (fun _ h9 => h9) rfl dX11_range_57 ?_
                refine lv_iload_n hx hb dX11_range_60 rfl (lv_at hl 1 rfl) ?_
                refine lv_iload_n hx hb dX11_range_61 rfl (lv_at hl 3 rfl) ?_
                refine xr_ist hx hb hKN.1 hP hD hS 7 0 rfl rfl (j := j) (by omega) (by decide) dX11_range_62 (fun H locs hP hD hS => ?_)
                have hP : va_P D vwCl (wQx ca b 0 q.oo q.zz q.ks q.vs q.cg (va_up q.hw j (iN how)) (upd q.lo j f) q.hg q.wk q.kw q.mn q.gv q.cp q.ho q.nk q.nv) H := hP
                have hD : va_D A (wQx ca b 0 q.oo q.zz q.ks q.vs q.cg (va_up q.hw j (iN how)) (upd q.lo j f) q.hg q.wk q.kw q.mn q.gv q.cp q.ho q.nk q.nv) := hD
                refine lv_aload_n hx hb dX11_range_63 rfl (lv_at hl 0 rfl) ?_
                refine va_get (D := D) (ci := 9) (v := .ref (b 8)) (C := RX11) (T := TX11) (N := 17) hx hb hts inX11 hown hKN.1 hP 0 rfl rfl 8 (by decide) (hts (.fieldLink RX11 31 "TreeFamilyModel" "high" "[I") (by decide +kernel)) (fun _ h9 => h9) rfl dX11_range_64 ?_
                refine lv_iload_n hx hb dX11_range_67 rfl (lv_at hl 1 rfl) ?_
                refine lv_iload hx hb dX11_range_68 (lv_at hl 4 rfl) ?_
                refine xr_ist hx hb hKN.1 hP hD hS 8 0 rfl rfl (j := j) (by omega) (by decide) dX11_range_70 (fun H locs hP hD hS => ?_)
                have hP : va_P D vwCl (wQx ca b 0 q.oo q.zz q.ks q.vs q.cg (va_up q.hw j (iN how)) (upd q.lo j f) (upd q.hg j s2) q.wk q.kw q.mn q.gv q.cp q.ho q.nk q.nv) H := hP
                have hD : va_D A (wQx ca b 0 q.oo q.zz q.ks q.vs q.cg (va_up q.hw j (iN how)) (upd q.lo j f) (upd q.hg j s2) q.wk q.kw q.mn q.gv q.cp q.ho q.nk q.nv) := hD
                exact W.vret hx hb hr (fun t9 e9 w9 => ⟨⟨(0, q.oo, q.zz, q.ks, q.vs, q.cg, (va_up q.hw j (iN how)), (upd q.lo j f), (upd q.hg j s2), q.wk, q.kw, q.mn, q.gv, q.cp, q.ho, q.nk, q.nv), rfl, by first | exact PO_by hj (F_range_1 hB (fun h9 => c19 h9.1)) (wq_range hq (by omega) (fun h9 => absurd (hi2.trans (congrArg nI h9)) c19)) rfl (ab_range q) | exact PO_by hj (F_range_1 hB (fun h9 => absurd (c30.symm.trans h9.2) (by decide))) (wq_range hq (by omega) (fun _ => c30)) rfl (ab_range q), by rw [e9]; exact hP, hD⟩, hS.F e9⟩) hS.2.2 dX11_range_71
              · skip
                exact absurd c45 (by decide)
            · skip
              have c30 := bI_ne.mp c30
              refine lv_iconst (v := 1) hx hb dX11_range_33 (by decide) ?_
              refine lv_goto (tgt := 38) hx hb dX11_range_34 (by decide) ?_
              refine va_put (D := D) (ci := 9) (v := .int 1) (ty := .int) (C := RX11) (T := TX11) (N := 17) hx hb hts inX11 tyX11 tyX11_ok nmX11 hown hKN.1 hP hD hS 0 rfl rfl 0 (by decide) (hts (.fieldLink RX11 59 "TreeFamilyModel" "code" "I") (by decide +kernel)) (fun _ h9 => h9) rfl (by decide +kernel) rfl rfl (Nat.le_of_ble_eq_true rfl) dX11_range_38 (fun H locs hP hD hS => ?_)
              have hP : va_P D vwCl (wQx ca b 1 q.oo q.zz q.ks q.vs q.cg q.hw q.lo q.hg q.wk q.kw q.mn q.gv q.cp q.ho q.nk q.nv) H := hP
              have hD : va_D A (wQx ca b 1 q.oo q.zz q.ks q.vs q.cg q.hw q.lo q.hg q.wk q.kw q.mn q.gv q.cp q.ho q.nk q.nv) := hD
              refine lv_aload_n hx hb dX11_range_41 rfl (lv_at hl 0 rfl) ?_
              refine va_get (D := D) (ci := 9) (v := .int 1) (C := RX11) (T := TX11) (N := 17) hx hb hts inX11 hown hKN.1 hP 0 rfl rfl 0 (by decide) (hts (.fieldLink RX11 59 "TreeFamilyModel" "code" "I") (by decide +kernel)) (fun _ h9 => h9) rfl dX11_range_42 ?_
              refine lv_if_le (tgt := 49) hx hb dX11_range_45 (by decide) (fun c45 => ?_) (fun c45 => ?_)
              · skip
                exact absurd c45 (by decide)
              · skip
                exact W.vret hx hb hr (fun t9 e9 w9 => ⟨⟨(1, q.oo, q.zz, q.ks, q.vs, q.cg, q.hw, q.lo, q.hg, q.wk, q.kw, q.mn, q.gv, q.cp, q.ho, q.nk, q.nv), rfl, by first | exact PO_same hj (F_range_0 (isB_lt c9)) hq rfl rfl | exact PO_same hj (F_range_0 (isB_ge (gt34' c14))) hq rfl rfl | exact PO_same hj (F_range_3 c19 c30) hq rfl rfl, by rw [e9]; exact hP, hD⟩, hS.F e9⟩) hS.2.2 dX11_range_48

-- TreeFamilyModel.within
set_option maxHeartbeats 4000000 in
set_option maxRecDepth 100000 in
theorem c_X11_within (l : Launch) (D : va_G) (ca : Nat → ClassId) (b : Nat → Nat) (sz : Nat) (q : QS) (what : Int32) (mm : Int32) (hq : WQ q) : Met l yX11_within wsX11_within ({ frames := 3, cells := 0, slots := 0, locals := 67 } : Room) (xPc D (TY ca) [.ref (b 0), .int mm, .int what] (wQ ca b q) sz) (va_Qi (fun (r : Int32) (u : QS) => PO 0 (F_within what) mm q r u) (xB D (wQ ca b) (va_A (wQ ca b q) sz)) (va_A (wQ ca b q) sz)) 0 0 (va_A (wQ ca b q) sz) := by
  refine Met.ofW (cc := cX11_within) (maxL := 5) (ret := (some .int)) (by decide) rfl ?_
  intro p e s m args below meth c s₁ B hml hv
  obtain ⟨rfl, hsz, hP, hKN, hD0⟩ := hv
  have hx := B.exec
  have hb := B.bytes
  have hr := B.returns
  have hts := atoms_spec (ws := wsX11_within) B.pre
  have hown : s.vm.findClass RX11 = some m.cls := findClass_of_methodNamed B.named
  have hlocks := B.notSynchronized
  have inX11 : ∀ w ∈ wsX110, w ∈ wsX11_within := by decide +kernel
  subst hsz
  have hD := hD0.self (sz := s.heap.size)
  generalize hAe : va_A (wQ ca b q) s.heap.size = A at hD ⊢
  have hA : ∀ q : Nat, s.heap.size ≤ q → A q := fun q h => by rw [← hAe]; exact Or.inr h
  have hS : va_S A s.heap s.heap [] := va_S.rf
  have hl := lv_entry ([.ref (b 0), .int mm, .int what]) (n := 5) (Nat.le_of_ble_eq_true rfl)
  rw [lg_entry_eq]
  generalize (lg_sl ([.ref (b 0), .int mm, .int what]) ++ List.replicate (5 - (lg_sl ([.ref (b 0), .int mm, .int what])).length) Slot.unset).toArray = ls at hl ⊢
  have hl : lv_has ls 5 [(0, .ref (b 0)), (1, .int mm), (2, .int what)] := hl
  rcases isB3 mm with hmm | ⟨j, hj, hmj⟩
  · skip
    refine lv_aload_n hx hb dX11_within_0 rfl (lv_at hl 0 rfl) ?_
    refine lv_iload_n hx hb dX11_within_1 rfl (lv_at hl 1 rfl) ?_
    refine xs_i (va_runS (As := [.int mm]) (rest := [.ref (b 0)]) ⟨hx, hb, hml, hown, hts⟩ (c_X11_isMap l _) (va_cwS 1 hts gX11_within_X11_isMap rfl rfl rfl (by decide +kernel) ⟨(Nat.le_of_ble_eq_true rfl), (Nat.le_of_ble_eq_true rfl)⟩) xPreT rfl rfl hl.1 rfl (lv_room (Nat.le_of_ble_eq_true rfl)) dX11_within_2 ⟨(Nat.le_of_ble_eq_true rfl), (Nat.le_of_ble_eq_true rfl)⟩) (fun r2 er2 => ?_)
    subst er2
    refine xr_top (y := 0) (by rw [hmm]; rfl) ?_
    refine lv_if_eq (tgt := 17) hx hb dX11_within_5 (by decide) (fun c5 => ?_) (fun c5 => ?_)
    · skip
      refine lv_iconst (v := 1) hx hb dX11_within_17 (by decide) ?_
      refine lv_goto (tgt := 22) hx hb dX11_within_18 (by decide) ?_
      refine va_put (D := D) (ci := 9) (v := .int 1) (ty := .int) (C := RX11) (T := TX11) (N := 17) hx hb hts inX11 tyX11 tyX11_ok nmX11 hown hKN.1 hP hD hS 0 rfl rfl 0 (by decide) (hts (.fieldLink RX11 59 "TreeFamilyModel" "code" "I") (by decide +kernel)) (fun _ h9 => h9) rfl (by decide +kernel) rfl rfl (Nat.le_of_ble_eq_true rfl) dX11_within_22 (fun H locs hP hD hS => ?_)
      have hP : va_P D vwCl (wQx ca b 1 q.oo q.zz q.ks q.vs q.cg q.hw q.lo q.hg q.wk q.kw q.mn q.gv q.cp q.ho q.nk q.nv) H := hP
      have hD : va_D A (wQx ca b 1 q.oo q.zz q.ks q.vs q.cg q.hw q.lo q.hg q.wk q.kw q.mn q.gv q.cp q.ho q.nk q.nv) := hD
      refine lv_aload_n hx hb dX11_within_25 rfl (lv_at hl 0 rfl) ?_
      refine va_get (D := D) (ci := 9) (v := .int 1) (C := RX11) (T := TX11) (N := 17) hx hb hts inX11 hown hKN.1 hP 0 rfl rfl 0 (by decide) (hts (.fieldLink RX11 59 "TreeFamilyModel" "code" "I") (by decide +kernel)) (fun _ h9 => h9) rfl dX11_within_26 ?_
      refine lv_if_le (tgt := 34) hx hb dX11_within_29 (by decide) (fun c29 => ?_) (fun c29 => ?_)
      · skip
        exact absurd c29 (by decide)
      · skip
        refine lv_iconst (v := 0) hx hb dX11_within_32 (by decide) ?_
        exact W.iret (v := 0) hx hb hr (fun t9 e9 w9 => ⟨⟨_, (1, q.oo, q.zz, q.ks, q.vs, q.cg, q.hw, q.lo, q.hg, q.wk, q.kw, q.mn, q.gv, q.cp, q.ho, q.nk, q.nv), rfl, PO_bad hmm hq rfl rfl rfl, by rw [e9]; exact hP, hD⟩, hS.F e9⟩) hS.2.2 dX11_within_33
    · skip
      exact absurd c5 (by decide)
  · subst hmj
    have hz6 := hq.1 j
    have hh3 := hq.2.1 j
    refine lv_aload_n hx hb dX11_within_0 rfl (lv_at hl 0 rfl) ?_
    refine lv_iload_n hx hb dX11_within_1 rfl (lv_at hl 1 rfl) ?_
    refine xs_i (va_runS (As := [.int (nI j)]) (rest := [.ref (b 0)]) ⟨hx, hb, hml, hown, hts⟩ (c_X11_isMap l _) (va_cwS 1 hts gX11_within_X11_isMap rfl rfl rfl (by decide +kernel) ⟨(Nat.le_of_ble_eq_true rfl), (Nat.le_of_ble_eq_true rfl)⟩) xPreT rfl rfl hl.1 rfl (lv_room (Nat.le_of_ble_eq_true rfl)) dX11_within_2 ⟨(Nat.le_of_ble_eq_true rfl), (Nat.le_of_ble_eq_true rfl)⟩) (fun r2 er2 => ?_)
    subst er2
    refine xr_top (y := 1) (by rw [isB3_ok hj]; rfl) ?_
    refine lv_if_eq (tgt := 17) hx hb dX11_within_5 (by decide) (fun c5 => ?_) (fun c5 => ?_)
    · skip
      exact absurd c5 (by decide)
    · skip
      refine lv_iload_n hx hb dX11_within_8 rfl (lv_at hl 2 rfl) ?_
      refine lv_if_lt (tgt := 17) hx hb dX11_within_9 (by decide) (fun c9 => ?_) (fun c9 => ?_)
      · skip
        refine lv_iconst (v := 1) hx hb dX11_within_17 (by decide) ?_
        refine lv_goto (tgt := 22) hx hb dX11_within_18 (by decide) ?_
        refine va_put (D := D) (ci := 9) (v := .int 1) (ty := .int) (C := RX11) (T := TX11) (N := 17) hx hb hts inX11 tyX11 tyX11_ok nmX11 hown hKN.1 hP hD hS 0 rfl rfl 0 (by decide) (hts (.fieldLink RX11 59 "TreeFamilyModel" "code" "I") (by decide +kernel)) (fun _ h9 => h9) rfl (by decide +kernel) rfl rfl (Nat.le_of_ble_eq_true rfl) dX11_within_22 (fun H locs hP hD hS => ?_)
        have hP : va_P D vwCl (wQx ca b 1 q.oo q.zz q.ks q.vs q.cg q.hw q.lo q.hg q.wk q.kw q.mn q.gv q.cp q.ho q.nk q.nv) H := hP
        have hD : va_D A (wQx ca b 1 q.oo q.zz q.ks q.vs q.cg q.hw q.lo q.hg q.wk q.kw q.mn q.gv q.cp q.ho q.nk q.nv) := hD
        refine lv_aload_n hx hb dX11_within_25 rfl (lv_at hl 0 rfl) ?_
        refine va_get (D := D) (ci := 9) (v := .int 1) (C := RX11) (T := TX11) (N := 17) hx hb hts inX11 hown hKN.1 hP 0 rfl rfl 0 (by decide) (hts (.fieldLink RX11 59 "TreeFamilyModel" "code" "I") (by decide +kernel)) (fun _ h9 => h9) rfl dX11_within_26 ?_
        refine lv_if_le (tgt := 34) hx hb dX11_within_29 (by decide) (fun c29 => ?_) (fun c29 => ?_)
        · skip
          exact absurd c29 (by decide)
        · skip
          refine lv_iconst (v := 0) hx hb dX11_within_32 (by decide) ?_
          exact W.iret (v := 0) hx hb hr (fun t9 e9 w9 => ⟨⟨_, (1, q.oo, q.zz, q.ks, q.vs, q.cg, q.hw, q.lo, q.hg, q.wk, q.kw, q.mn, q.gv, q.cp, q.ho, q.nk, q.nv), rfl, by first | exact PO_same hj (F_within_0 (isB_lt c9)) hq rfl rfl | exact PO_same hj (F_within_0 (isB_ge (gt23 c14))) hq rfl rfl, by rw [e9]; exact hP, hD⟩, hS.F e9⟩) hS.2.2 dX11_within_33
      · skip
        refine lv_iload_n hx hb dX11_within_12 rfl (lv_at hl 2 rfl) ?_
        refine lv_iconst (v := 2) hx hb dX11_within_13 (by decide) ?_
        refine lv_icmp_le (tgt := 21) hx hb dX11_within_14 (by decide) (fun c14 => ?_) (fun c14 => ?_)
        · skip
          refine lv_iconst (v := 0) hx hb dX11_within_21 (by decide) ?_
          refine va_put (D := D) (ci := 9) (v := .int 0) (ty := .int) (C := RX11) (T := TX11) (N := 17) hx hb hts inX11 tyX11 tyX11_ok nmX11 hown hKN.1 hP hD hS 0 rfl rfl 0 (by decide) (hts (.fieldLink RX11 59 "TreeFamilyModel" "code" "I") (by decide +kernel)) (fun _ h9 => h9) rfl (by decide +kernel) rfl rfl (Nat.le_of_ble_eq_true rfl) dX11_within_22 (fun H locs hP hD hS => ?_)
          have hP : va_P D vwCl (wQx ca b 0 q.oo q.zz q.ks q.vs q.cg q.hw q.lo q.hg q.wk q.kw q.mn q.gv q.cp q.ho q.nk q.nv) H := hP
          have hD : va_D A (wQx ca b 0 q.oo q.zz q.ks q.vs q.cg q.hw q.lo q.hg q.wk q.kw q.mn q.gv q.cp q.ho q.nk q.nv) := hD
          refine lv_aload_n hx hb dX11_within_25 rfl (lv_at hl 0 rfl) ?_
          refine va_get (D := D) (ci := 9) (v := .int 0) (C := RX11) (T := TX11) (N := 17) hx hb hts inX11 hown hKN.1 hP 0 rfl rfl 0 (by decide) (hts (.fieldLink RX11 59 "TreeFamilyModel" "code" "I") (by decide +kernel)) (fun _ h9 => h9) rfl dX11_within_26 ?_
          refine lv_if_le (tgt := 34) hx hb dX11_within_29 (by decide) (fun c29 => ?_) (fun c29 => ?_)
          · skip
            refine lv_aload_n hx hb dX11_within_34 rfl (lv_at hl 0 rfl) ?_
            refine lv_iload_n hx hb dX11_within_35 rfl (lv_at hl 1 rfl) ?_
            refine xc_i (wr := []) (va_runV (As := [.int (nI j)]) (rest := []) ⟨hx, hb, hml, hown, hts⟩ (c_X11_begins l D ca b _ (0, q.oo, q.zz, q.ks, q.vs, q.cg, q.hw, q.lo, q.hg, q.wk, q.kw, q.mn, q.gv, q.cp, q.ho, q.nk, q.nv) j hq hj) (cwV 1 hts gX11_within_X11_begins rfl rfl rfl (by decide +kernel) ⟨(Nat.le_of_ble_eq_true rfl), (Nat.le_of_ble_eq_true rfl)⟩) (xPreV hKN hP hD [0, 1, 2, 3, 4, 5, 6, 7, 8, 9, 10, 11, 12, 13, 14, 15, 16] (by decide) rfl (q0 := 0) rfl rfl rfl) rfl rfl hl.1 rfl (lv_room (Nat.le_of_ble_eq_true rfl)) dX11_within_36 ⟨(Nat.le_of_ble_eq_true rfl), (Nat.le_of_ble_eq_true rfl)⟩) hP hD hS hA [0, 1, 2, 3, 4, 5, 6, 7, 8, 9, 10, 11, 12, 13, 14, 15, 16] [] rfl rfl (by decide) (by decide) (fun r36 u36 H locs hu36 hP hD hS => ?_)
            obtain ⟨er36, eu36⟩ := hu36
            have eu36 := eu36.symm
            subst eu36
            have hP : va_P D vwCl (wQx ca b 0 q.oo q.zz q.ks q.vs q.cg q.hw q.lo q.hg q.wk q.kw q.mn q.gv q.cp q.ho q.nk q.nv) H := hP
            have hD : va_D A (wQx ca b 0 q.oo q.zz q.ks q.vs q.cg q.hw q.lo q.hg q.wk q.kw q.mn q.gv q.cp q.ho q.nk q.nv) := hD
            have er36 : r36 = nI (begR (ab q j)) := er36
            subst er36
            refine lv_istore_n (lv' := [(3, .int (nI (begR (ab q j)))), (0, .ref (b 0)), (1, .int (nI j)), (2, .int what)]) hx hb dX11_within_39 rfl hl (by decide) rfl (fun ls hl => ?_)
            refine lv_aload_n hx hb dX11_within_40 rfl (lv_at hl 1 rfl) ?_
            refine lv_iload_n hx hb dX11_within_41 rfl (lv_at hl 2 rfl) ?_
            refine xc_i (wr := []) (va_runV (As := [.int (nI j)]) (rest := []) ⟨hx, hb, hml, hown, hts⟩ (c_X11_ends l D ca b _ (0, q.oo, q.zz, q.ks, q.vs, q.cg, q.hw, q.lo, q.hg, q.wk, q.kw, q.mn, q.gv, q.cp, q.ho, q.nk, q.nv) j hq hj) (cwV 1 hts gX11_within_X11_ends rfl rfl rfl (by decide +kernel) ⟨(Nat.le_of_ble_eq_true rfl), (Nat.le_of_ble_eq_true rfl)⟩) (xPreV hKN hP hD [0, 1, 2, 3, 4, 5, 6, 7, 8, 9, 10, 11, 12, 13, 14, 15, 16] (by decide) rfl (q0 := 0) rfl rfl rfl) rfl rfl hl.1 rfl (lv_room (Nat.le_of_ble_eq_true rfl)) dX11_within_42 ⟨(Nat.le_of_ble_eq_true rfl), (Nat.le_of_ble_eq_true rfl)⟩) hP hD hS hA [0, 1, 2, 3, 4, 5, 6, 7, 8, 9, 10, 11, 12, 13, 14, 15, 16] [] rfl rfl (by decide) (by decide) (fun r42 u42 H locs hu42 hP hD hS => ?_)
            obtain ⟨er42, eu42⟩ := hu42
            have eu42 := eu42.symm
            subst eu42
            have hP : va_P D vwCl (wQx ca b 0 q.oo q.zz q.ks q.vs q.cg q.hw q.lo q.hg q.wk q.kw q.mn q.gv q.cp q.ho q.nk q.nv) H := hP
            have hD : va_D A (wQx ca b 0 q.oo q.zz q.ks q.vs q.cg q.hw q.lo q.hg q.wk q.kw q.mn q.gv q.cp q.ho q.nk q.nv) := hD
            have er42 : r42 = nI (endR (ab q j)) := er42
            subst er42
            refine lv_istore (lv' := [(4, .int (nI (endR (ab q j)))), (3, .int (nI (begR (ab q j)))), (0, .ref (b 0)), (1, .int (nI j)), (2, .int what)]) hx hb dX11_within_45 hl (by decide) rfl (fun ls hl => ?_)
            have hbe := beg_le_end (r := ab q j) (hq.2.1 j) (hq.2.2.2.2 j)
            have hel := end_le (ab q j)
            rw [ab_len] at hel
            refine lv_iload_n hx hb dX11_within_47 rfl (lv_at hl 4 rfl) ?_
            refine lv_if_ne (tgt := 56) hx hb dX11_within_48 (by decide) (fun c48 => ?_) (fun c48 => ?_)
            · skip
              refine lv_iload hx hb dX11_within_56 (lv_at hl 0 rfl) ?_
              refine lv_iload_n hx hb dX11_within_58 rfl (lv_at hl 1 rfl) ?_
              refine lv_icmp_ne (tgt := 68) hx hb dX11_within_59 (by decide) (fun c59 => ?_) (fun c59 => ?_)
              · skip
                have c59 : ¬ (endR (ab q j)) = (begR (ab q j)) := fun h9 => c59 ((xn_eq (a := (endR (ab q j))) (b := (begR (ab q j))) (Nat.lt_of_le_of_lt (en60 (q := q) hq j) (by decide)) (Nat.lt_of_le_of_lt (be60 (q := q) hq j) (by decide))).mpr h9)
                refine lv_aload_n hx hb dX11_within_68 rfl (lv_at hl 2 rfl) ?_
                refine va_get (D := D) (ci := 9) (v := .ref (b 3)) (C := RX11) (T := TX11) (N := 17) hx hb hts inX11 hown hKN.1 hP 0 rfl rfl 3 (by decide) (hts (.fieldLink RX11 16 "TreeFamilyModel" "keys" "[I") (by decide +kernel)) (fun _ h9 => h9) rfl dX11_within_69 ?_
                refine lv_bipush (v := 64) hx hb dX11_within_72 (by decide) ?_
                refine lv_iload_n hx hb dX11_within_74 rfl (lv_at hl 3 rfl) ?_
                refine lv_imul hx hb dX11_within_75 ?_
                refine xr_top (y := nI (64 * j)) (pk_mul 64 j) ?_
                refine lv_iload_n hx hb dX11_within_76 rfl (lv_at hl 4 rfl) ?_
                refine lv_iconst (v := 1) hx hb dX11_within_77 (by decide) ?_
                refine lv_icmp_ne (tgt := 85) hx hb dX11_within_78 (by decide) (fun c78 => ?_) (fun c78 => ?_)
                · skip
                  refine lv_iload hx hb dX11_within_85 (lv_at hl 0 rfl) ?_
                  refine lv_iconst (v := 1) hx hb dX11_within_87 (by decide) ?_
                  refine lv_isub hx hb dX11_within_88 ?_
                  refine xr_top (y := nI ((endR (ab q j)) - 1)) (pk_sub (a := endR (ab q j)) (b := 1) (by omega)) ?_
                  refine lv_iadd hx hb dX11_within_89 ?_
                  refine xr_top (y := nI ((64 * j) + ((endR (ab q j)) - 1))) (nI_add (64 * j) ((endR (ab q j)) - 1)) ?_
                  refine xr_ild hx hb hKN.1 hP 3 0 rfl rfl (j := (64 * j) + ((endR (ab q j)) - 1)) (by omega) (by decide) dX11_within_90 ?_
                  exact W.iret (v := (q.ks ((64 * j) + ((endR (ab q j)) - 1)))) hx hb hr (fun t9 e9 w9 => ⟨⟨_, (0, q.oo, q.zz, q.ks, q.vs, q.cg, q.hw, q.lo, q.hg, q.wk, q.kw, q.mn, q.gv, q.cp, q.ho, q.nk, q.nv), rfl, by first | exact PO_same hj (F_within_1 (isB_in c9 (le23 c14)) c48) hq rfl rfl | exact PO_same hj (F_within_3 (isB_in c9 (le23 c14)) c48 c59 c78 (congrArg Prod.fst (row_getD j (by omega)))) hq rfl rfl | exact PO_same hj (F_within_4 (isB_in c9 (le23 c14)) c48 c59 c78 (congrArg Prod.fst (row_getD j (by omega)))) hq rfl rfl, by rw [e9]; exact hP, hD⟩, hS.F e9⟩) hS.2.2 dX11_within_91
                · skip
                  refine lv_iload_n hx hb dX11_within_81 rfl (lv_at hl 1 rfl) ?_
                  refine lv_goto (tgt := 89) hx hb dX11_within_82 (by decide) ?_
                  refine lv_iadd hx hb dX11_within_89 ?_
                  refine xr_top (y := nI ((64 * j) + (begR (ab q j)))) (nI_add (64 * j) (begR (ab q j))) ?_
                  refine xr_ild hx hb hKN.1 hP 3 0 rfl rfl (j := (64 * j) + (begR (ab q j))) (by omega) (by decide) dX11_within_90 ?_
                  exact W.iret (v := (q.ks ((64 * j) + (begR (ab q j))))) hx hb hr (fun t9 e9 w9 => ⟨⟨_, (0, q.oo, q.zz, q.ks, q.vs, q.cg, q.hw, q.lo, q.hg, q.wk, q.kw, q.mn, q.gv, q.cp, q.ho, q.nk, q.nv), rfl, by first | exact PO_same hj (F_within_1 (isB_in c9 (le23 c14)) c48) hq rfl rfl | exact PO_same hj (F_within_3 (isB_in c9 (le23 c14)) c48 c59 c78 (congrArg Prod.fst (row_getD j (by omega)))) hq rfl rfl | exact PO_same hj (F_within_4 (isB_in c9 (le23 c14)) c48 c59 c78 (congrArg Prod.fst (row_getD j (by omega)))) hq rfl rfl, by rw [e9]; exact hP, hD⟩, hS.F e9⟩) hS.2.2 dX11_within_91
              · skip
                have c59 : (endR (ab q j)) = (begR (ab q j)) := (xn_eq (a := (endR (ab q j))) (b := (begR (ab q j))) (Nat.lt_of_le_of_lt (en60 (q := q) hq j) (by decide)) (Nat.lt_of_le_of_lt (be60 (q := q) hq j) (by decide))).mp c59
                refine lv_aload_n hx hb dX11_within_62 rfl (lv_at hl 2 rfl) ?_
                refine lv_iconst (v := 2) hx hb dX11_within_63 (by decide) ?_
                refine xc_i (wr := []) (va_runV (As := [.int 2]) (rest := []) ⟨hx, hb, hml, hown, hts⟩ (c_X11_refuse l D ca b _ (0, q.oo, q.zz, q.ks, q.vs, q.cg, q.hw, q.lo, q.hg, q.wk, q.kw, q.mn, q.gv, q.cp, q.ho, q.nk, q.nv) 2) (cwV 1 hts gX11_within_X11_refuse rfl rfl rfl (by decide +kernel) ⟨(Nat.le_of_ble_eq_true rfl), (Nat.le_of_ble_eq_true rfl)⟩) (xPreV hKN hP hD [0, 1, 2, 3, 4, 5, 6, 7, 8, 9, 10, 11, 12, 13, 14, 15, 16] (by decide) rfl (q0 := 0) rfl rfl rfl) rfl rfl hl.1 rfl (lv_room (Nat.le_of_ble_eq_true rfl)) dX11_within_64 ⟨(Nat.le_of_ble_eq_true rfl), (Nat.le_of_ble_eq_true rfl)⟩) hP hD hS hA [0, 1, 2, 3, 4, 5, 6, 7, 8, 9, 10, 11, 12, 13, 14, 15, 16] [] rfl rfl (by decide) (by decide) (fun r64 u64 H locs hu64 hP hD hS => ?_)
                obtain ⟨er64, eu64⟩ := hu64
                have eu64 := eu64.symm
                subst eu64
                subst er64
                have hP : va_P D vwCl (wQx ca b 2 q.oo q.zz q.ks q.vs q.cg q.hw q.lo q.hg q.wk q.kw q.mn q.gv q.cp q.ho q.nk q.nv) H := hP
                have hD : va_D A (wQx ca b 2 q.oo q.zz q.ks q.vs q.cg q.hw q.lo q.hg q.wk q.kw q.mn q.gv q.cp q.ho q.nk q.nv) := hD
                exact W.iret (v := 0) hx hb hr (fun t9 e9 w9 => ⟨⟨_, (2, q.oo, q.zz, q.ks, q.vs, q.cg, q.hw, q.lo, q.hg, q.wk, q.kw, q.mn, q.gv, q.cp, q.ho, q.nk, q.nv), rfl, PO_same hj (F_within_2 (isB_in c9 (le23 c14)) c48 c59) hq rfl rfl, by rw [e9]; exact hP, hD⟩, hS.F e9⟩) hS.2.2 dX11_within_67
            · skip
              refine lv_iload hx hb dX11_within_51 (lv_at hl 0 rfl) ?_
              refine lv_iload_n hx hb dX11_within_53 rfl (lv_at hl 1 rfl) ?_
              refine lv_isub hx hb dX11_within_54 ?_
              refine xr_top (y := nI ((endR (ab q j)) - (begR (ab q j)))) (pk_sub (a := endR (ab q j)) (b := begR (ab q j)) (by omega)) ?_
              exact W.iret (v := (nI ((endR (ab q j)) - (begR (ab q j))))) hx hb hr (fun t9 e9 w9 => ⟨⟨_, (0, q.oo, q.zz, q.ks, q.vs, q.cg, q.hw, q.lo, q.hg, q.wk, q.kw, q.mn, q.gv, q.cp, q.ho, q.nk, q.nv), rfl, by first | exact PO_same hj (F_within_1 (isB_in c9 (le23 c14)) c48) hq rfl rfl | exact PO_same hj (F_within_3 (isB_in c9 (le23 c14)) c48 c59 c78 (congrArg Prod.fst (row_getD j (by omega)))) hq rfl rfl | exact PO_same hj (F_within_4 (isB_in c9 (le23 c14)) c48 c59 c78 (congrArg Prod.fst (row_getD j (by omega)))) hq rfl rfl, by rw [e9]; exact hP, hD⟩, hS.F e9⟩) hS.2.2 dX11_within_55
          · skip
            exact absurd c29 (by decide)
        · skip
          refine lv_iconst (v := 1) hx hb dX11_within_17 (by decide) ?_
          refine lv_goto (tgt := 22) hx hb dX11_within_18 (by decide) ?_
          refine va_put (D := D) (ci := 9) (v := .int 1) (ty := .int) (C := RX11) (T := TX11) (N := 17) hx hb hts inX11 tyX11 tyX11_ok nmX11 hown hKN.1 hP hD hS 0 rfl rfl 0 (by decide) (hts (.fieldLink RX11 59 "TreeFamilyModel" "code" "I") (by decide +kernel)) (fun _ h9 => h9) rfl (by decide +kernel) rfl rfl (Nat.le_of_ble_eq_true rfl) dX11_within_22 (fun H locs hP hD hS => ?_)
          have hP : va_P D vwCl (wQx ca b 1 q.oo q.zz q.ks q.vs q.cg q.hw q.lo q.hg q.wk q.kw q.mn q.gv q.cp q.ho q.nk q.nv) H := hP
          have hD : va_D A (wQx ca b 1 q.oo q.zz q.ks q.vs q.cg q.hw q.lo q.hg q.wk q.kw q.mn q.gv q.cp q.ho q.nk q.nv) := hD
          refine lv_aload_n hx hb dX11_within_25 rfl (lv_at hl 0 rfl) ?_
          refine va_get (D := D) (ci := 9) (v := .int 1) (C := RX11) (T := TX11) (N := 17) hx hb hts inX11 hown hKN.1 hP 0 rfl rfl 0 (by decide) (hts (.fieldLink RX11 59 "TreeFamilyModel" "code" "I") (by decide +kernel)) (fun _ h9 => h9) rfl dX11_within_26 ?_
          refine lv_if_le (tgt := 34) hx hb dX11_within_29 (by decide) (fun c29 => ?_) (fun c29 => ?_)
          · skip
            exact absurd c29 (by decide)
          · skip
            refine lv_iconst (v := 0) hx hb dX11_within_32 (by decide) ?_
            exact W.iret (v := 0) hx hb hr (fun t9 e9 w9 => ⟨⟨_, (1, q.oo, q.zz, q.ks, q.vs, q.cg, q.hw, q.lo, q.hg, q.wk, q.kw, q.mn, q.gv, q.cp, q.ho, q.nk, q.nv), rfl, by first | exact PO_same hj (F_within_0 (isB_lt c9)) hq rfl rfl | exact PO_same hj (F_within_0 (isB_ge (gt23 c14))) hq rfl rfl, by rw [e9]; exact hP, hD⟩, hS.F e9⟩) hS.2.2 dX11_within_33

-- TreeFamilyModel.putWithin
set_option maxHeartbeats 4000000 in
set_option maxRecDepth 100000 in
theorem c_X11_putWithin (l : Launch) (D : va_G) (ca : Nat → ClassId) (b : Nat → Nat) (sz : Nat) (q : QS) (key v : Int32) (mm : Int32) (hq : WQ q) : Met l yX11_putWithin wsX11_putWithin ({ frames := 3, cells := 0, slots := 0, locals := 70 } : Room) (xPc D (TY ca) [.ref (b 0), .int mm, .int key, .int v] (wQ ca b q) sz) (va_Qi (fun (r : Int32) (u : QS) => PO 0 (F_putWithin key v) mm q r u) (xB D (wQ ca b) (va_A (wQ ca b q) sz)) (va_A (wQ ca b q) sz)) 0 0 (va_A (wQ ca b q) sz) := by
  refine Met.ofW (cc := cX11_putWithin) (maxL := 4) (ret := (some .boolean)) (by decide) rfl ?_
  intro p e s m args below meth c s₁ B hml hv
  obtain ⟨rfl, hsz, hP, hKN, hD0⟩ := hv
  have hx := B.exec
  have hb := B.bytes
  have hr := B.returns
  have hts := atoms_spec (ws := wsX11_putWithin) B.pre
  have hown : s.vm.findClass RX11 = some m.cls := findClass_of_methodNamed B.named
  have hlocks := B.notSynchronized
  have inX11 : ∀ w ∈ wsX110, w ∈ wsX11_putWithin := by decide +kernel
  subst hsz
  have hD := hD0.self (sz := s.heap.size)
  generalize hAe : va_A (wQ ca b q) s.heap.size = A at hD ⊢
  have hA : ∀ q : Nat, s.heap.size ≤ q → A q := fun q h => by rw [← hAe]; exact Or.inr h
  have hS : va_S A s.heap s.heap [] := va_S.rf
  have hl := lv_entry ([.ref (b 0), .int mm, .int key, .int v]) (n := 4) (Nat.le_of_ble_eq_true rfl)
  rw [lg_entry_eq]
  generalize (lg_sl ([.ref (b 0), .int mm, .int key, .int v]) ++ List.replicate (4 - (lg_sl ([.ref (b 0), .int mm, .int key, .int v])).length) Slot.unset).toArray = ls at hl ⊢
  have hl : lv_has ls 4 [(0, .ref (b 0)), (1, .int mm), (2, .int key), (3, .int v)] := hl
  rcases isB3 mm with hmm | ⟨j, hj, hmj⟩
  · skip
    refine lv_aload_n hx hb dX11_putWithin_0 rfl (lv_at hl 0 rfl) ?_
    refine lv_iload_n hx hb dX11_putWithin_1 rfl (lv_at hl 1 rfl) ?_
    refine xs_i (va_runS (As := [.int mm]) (rest := [.ref (b 0)]) ⟨hx, hb, hml, hown, hts⟩ (c_X11_isMap l _) (va_cwS 1 hts gX11_putWithin_X11_isMap rfl rfl rfl (by decide +kernel) ⟨(Nat.le_of_ble_eq_true rfl), (Nat.le_of_ble_eq_true rfl)⟩) xPreT rfl rfl hl.1 rfl (lv_room (Nat.le_of_ble_eq_true rfl)) dX11_putWithin_2 ⟨(Nat.le_of_ble_eq_true rfl), (Nat.le_of_ble_eq_true rfl)⟩) (fun r2 er2 => ?_)
    subst er2
    refine xr_top (y := 0) (by rw [hmm]; rfl) ?_
    refine lv_if_eq (tgt := 60) hx hb dX11_putWithin_5 (by decide) (fun c5 => ?_) (fun c5 => ?_)
    · skip
      refine lv_iconst (v := 1) hx hb dX11_putWithin_60 (by decide) ?_
      refine lv_goto (tgt := 65) hx hb dX11_putWithin_61 (by decide) ?_
      refine va_put (D := D) (ci := 9) (v := .int 1) (ty := .int) (C := RX11) (T := TX11) (N := 17) hx hb hts inX11 tyX11 tyX11_ok nmX11 hown hKN.1 hP hD hS 0 rfl rfl 0 (by decide) (hts (.fieldLink RX11 59 "TreeFamilyModel" "code" "I") (by decide +kernel)) (fun _ h9 => h9) rfl (by decide +kernel) rfl rfl (Nat.le_of_ble_eq_true rfl) dX11_putWithin_65 (fun H locs hP hD hS => ?_)
      have hP : va_P D vwCl (wQx ca b 1 q.oo q.zz q.ks q.vs q.cg q.hw q.lo q.hg q.wk q.kw q.mn q.gv q.cp q.ho q.nk q.nv) H := hP
      have hD : va_D A (wQx ca b 1 q.oo q.zz q.ks q.vs q.cg q.hw q.lo q.hg q.wk q.kw q.mn q.gv q.cp q.ho q.nk q.nv) := hD
      refine lv_aload_n hx hb dX11_putWithin_68 rfl (lv_at hl 0 rfl) ?_
      refine va_get (D := D) (ci := 9) (v := .int 1) (C := RX11) (T := TX11) (N := 17) hx hb hts inX11 hown hKN.1 hP 0 rfl rfl 0 (by decide) (hts (.fieldLink RX11 59 "TreeFamilyModel" "code" "I") (by decide +kernel)) (fun _ h9 => h9) rfl dX11_putWithin_69 ?_
      refine lv_if_ne (tgt := 89) hx hb dX11_putWithin_72 (by decide) (fun c72 => ?_) (fun c72 => ?_)
      · skip
        refine lv_iconst (v := 0) hx hb dX11_putWithin_89 (by decide) ?_
        exact W.zret (v := 0) hx hb hr (by decide) (fun t9 e9 w9 => ⟨⟨_, (1, q.oo, q.zz, q.ks, q.vs, q.cg, q.hw, q.lo, q.hg, q.wk, q.kw, q.mn, q.gv, q.cp, q.ho, q.nk, q.nv), rfl, PO_bad hmm hq rfl rfl rfl, by rw [e9]; exact hP, hD⟩, hS.F e9⟩) hS.2.2 dX11_putWithin_90
      · skip
        exact absurd c72 (by decide)
    · skip
      exact absurd c5 (by decide)
  · subst hmj
    have hz6 := hq.1 j
    have hh3 := hq.2.1 j
    refine lv_aload_n hx hb dX11_putWithin_0 rfl (lv_at hl 0 rfl) ?_
    refine lv_iload_n hx hb dX11_putWithin_1 rfl (lv_at hl 1 rfl) ?_
    refine xs_i (va_runS (As := [.int (nI j)]) (rest := [.ref (b 0)]) ⟨hx, hb, hml, hown, hts⟩ (c_X11_isMap l _) (va_cwS 1 hts gX11_putWithin_X11_isMap rfl rfl rfl (by decide +kernel) ⟨(Nat.le_of_ble_eq_true rfl), (Nat.le_of_ble_eq_true rfl)⟩) xPreT rfl rfl hl.1 rfl (lv_room (Nat.le_of_ble_eq_true rfl)) dX11_putWithin_2 ⟨(Nat.le_of_ble_eq_true rfl), (Nat.le_of_ble_eq_true rfl)⟩) (fun r2 er2 => ?_)
    subst er2
    refine xr_top (y := 1) (by rw [isB3_ok hj]; rfl) ?_
    refine lv_if_eq (tgt := 60) hx hb dX11_putWithin_5 (by decide) (fun c5 => ?_) (fun c5 => ?_)
    · skip
      exact absurd c5 (by decide)
    · skip
      refine lv_aload_n hx hb dX11_putWithin_8 rfl (lv_at hl 0 rfl) ?_
      refine va_get (D := D) (ci := 9) (v := .ref (b 6)) (C := RX11) (T := TX11) (N := 17) hx hb hts inX11 hown hKN.1 hP 0 rfl rfl 6 (by decide) (hts (.fieldLink RX11 25 "TreeFamilyModel" "how" "[I") (by decide +kernel)) (fun _ h9 => h9) rfl dX11_putWithin_9 ?_
      refine lv_iload_n hx hb dX11_putWithin_12 rfl (lv_at hl 1 rfl) ?_
      refine xr_ild hx hb hKN.1 hP 6 0 rfl rfl (j := j) (by omega) (by decide) dX11_putWithin_13 ?_
      refine lv_iconst (v := 2) hx hb dX11_putWithin_14 (by decide) ?_
      refine lv_irem hx hb dX11_putWithin_15 (by decide) ?_
      refine xr_top (y := nI ((q.hw j) % 2)) (pk_rem (a := q.hw j) (d := 2) (by omega) (by decide) (by decide)) ?_
      refine lv_iconst (v := 1) hx hb dX11_putWithin_16 (by decide) ?_
      refine lv_icmp_ne (tgt := 35) hx hb dX11_putWithin_17 (by decide) (fun c17 => ?_) (fun c17 => ?_)
      · skip
        have c17 : ¬ ((q.hw j) % 2) = 1 := fun h9 => c17 ((xn_eq (a := ((q.hw j) % 2)) (b := 1) (by omega) (by decide)).mpr h9)
        refine lv_aload_n hx hb dX11_putWithin_35 rfl (lv_at hl 0 rfl) ?_
        refine va_get (D := D) (ci := 9) (v := .ref (b 6)) (C := RX11) (T := TX11) (N := 17) hx hb hts inX11 hown hKN.1 hP 0 rfl rfl 6 (by decide) (hts (.fieldLink RX11 25 "TreeFamilyModel" "how" "[I") (by decide +kernel)) (fun _ h9 => h9) rfl dX11_putWithin_36 ?_
        refine lv_iload_n hx hb dX11_putWithin_39 rfl (lv_at hl 1 rfl) ?_
        refine xr_ild hx hb hKN.1 hP 6 0 rfl rfl (j := j) (by omega) (by decide) dX11_putWithin_40 ?_
        refine lv_iconst (v := 1) hx hb dX11_putWithin_41 (by decide) ?_
        refine lv_icmp_le (tgt := 64) hx hb dX11_putWithin_42 (by decide) (fun c42 => ?_) (fun c42 => ?_)
        · skip
          have c42 : (q.hw j) ≤ 1 := (xn_le (a := (q.hw j)) (b := 1) (Nat.lt_of_le_of_lt (hq.2.1 j) (by decide)) (by decide)).mp c42
          refine lv_iconst (v := 0) hx hb dX11_putWithin_64 (by decide) ?_
          refine va_put (D := D) (ci := 9) (v := .int 0) (ty := .int) (C := RX11) (T := TX11) (N := 17) hx hb hts inX11 tyX11 tyX11_ok nmX11 hown hKN.1 hP hD hS 0 rfl rfl 0 (by decide) (hts (.fieldLink RX11 59 "TreeFamilyModel" "code" "I") (by decide +kernel)) (fun _ h9 => h9) rfl (by decide +kernel) rfl rfl (Nat.le_of_ble_eq_true rfl) dX11_putWithin_65 (fun H locs hP hD hS => ?_)
          have hP : va_P D vwCl (wQx ca b 0 q.oo q.zz q.ks q.vs q.cg q.hw q.lo q.hg q.wk q.kw q.mn q.gv q.cp q.ho q.nk q.nv) H := hP
          have hD : va_D A (wQx ca b 0 q.oo q.zz q.ks q.vs q.cg q.hw q.lo q.hg q.wk q.kw q.mn q.gv q.cp q.ho q.nk q.nv) := hD
          refine lv_aload_n hx hb dX11_putWithin_68 rfl (lv_at hl 0 rfl) ?_
          refine va_get (D := D) (ci := 9) (v := .int 0) (C := RX11) (T := TX11) (N := 17) hx hb hts inX11 hown hKN.1 hP 0 rfl rfl 0 (by decide) (hts (.fieldLink RX11 59 "TreeFamilyModel" "code" "I") (by decide +kernel)) (fun _ h9 => h9) rfl dX11_putWithin_69 ?_
          refine lv_if_ne (tgt := 89) hx hb dX11_putWithin_72 (by decide) (fun c72 => ?_) (fun c72 => ?_)
          · skip
            exact absurd c72 (by decide)
          · skip
            refine lv_aload_n hx hb dX11_putWithin_75 rfl (lv_at hl 0 rfl) ?_
            refine lv_iload_n hx hb dX11_putWithin_76 rfl (lv_at hl 1 rfl) ?_
            refine lv_iload_n hx hb dX11_putWithin_77 rfl (lv_at hl 2 rfl) ?_
            refine lv_iload_n hx hb dX11_putWithin_78 rfl (lv_at hl 3 rfl) ?_
            refine xc_i (wr := []) (va_runV (As := [.int (nI j), .int key, .int v]) (rest := []) ⟨hx, hb, hml, hown, hts⟩ (c_X11_enter l D ca b _ (0, q.oo, q.zz, q.ks, q.vs, q.cg, q.hw, q.lo, q.hg, q.wk, q.kw, q.mn, q.gv, q.cp, q.ho, q.nk, q.nv) j key v hq hj rfl) (cwV 3 hts gX11_putWithin_X11_enter rfl rfl rfl (by decide +kernel) ⟨(Nat.le_of_ble_eq_true rfl), (Nat.le_of_ble_eq_true rfl)⟩) (xPreV hKN hP hD [0, 1, 2, 3, 4, 5, 6, 7, 8, 9, 10, 11, 12, 13, 14, 15, 16] (by decide) rfl (q0 := 0) rfl rfl rfl) rfl rfl hl.1 rfl (lv_room (Nat.le_of_ble_eq_true rfl)) dX11_putWithin_79 ⟨(Nat.le_of_ble_eq_true rfl), (Nat.le_of_ble_eq_true rfl)⟩) hP hD hS hA [0, 1, 2, 3, 4, 5, 6, 7, 8, 9, 10, 11, 12, 13, 14, 15, 16] [] rfl rfl (by decide) (by decide) (fun r79 u79 H locs hu79 hP hD hS => ?_)
            obtain ⟨hw79, er79, hc79, ha79⟩ := hu79
            have er79 : r79 = (F_enter key v (ab q j)).1 := er79
            subst er79
            have hP : va_P D vwCl (wQ ca b u79) H := hP
            have hD : va_D A (wQ ca b u79) := hD
            refine lv_if_eq (tgt := 89) hx hb dX11_putWithin_82 (by decide) (fun c82 => ?_) (fun c82 => ?_)
            · skip
              refine lv_iconst (v := 0) hx hb dX11_putWithin_89 (by decide) ?_
              exact W.zret (v := 0) hx hb hr (by decide) (fun t9 e9 w9 => ⟨⟨_, u79, rfl, PO_cg hj (F_pw_1 (not_out (by first | exact Or.inl c17 | exact Or.inr c32) (by first | exact Or.inr c57 | exact Or.inl (by show ¬ 1 < q.hw j; omega)))) (PO_ok hj hw79 c82.symm hc79 ha79), by rw [e9]; exact hP, hD⟩, hS.F e9⟩) hS.2.2 dX11_putWithin_90
            · skip
              refine lv_iconst (v := 1) hx hb dX11_putWithin_85 (by decide) ?_
              refine lv_goto (tgt := 90) hx hb dX11_putWithin_86 (by decide) ?_
              exact W.zret (v := 1) hx hb hr (by decide) (fun t9 e9 w9 => ⟨⟨_, u79, rfl, PO_cg hj (F_pw_1 (not_out (by first | exact Or.inl c17 | exact Or.inr c32) (by first | exact Or.inr c57 | exact Or.inl (by show ¬ 1 < q.hw j; omega)))) (PO_ok hj hw79 (F_enter_1 c82).symm hc79 ha79), by rw [e9]; exact hP, hD⟩, hS.F e9⟩) hS.2.2 dX11_putWithin_90
        · skip
          have c42 : ¬ (q.hw j) ≤ 1 := fun h9 => c42 ((xn_le (a := (q.hw j)) (b := 1) (Nat.lt_of_le_of_lt (hq.2.1 j) (by decide)) (by decide)).mpr h9)
          refine lv_aload_n hx hb dX11_putWithin_45 rfl (lv_at hl 0 rfl) ?_
          refine lv_iload_n hx hb dX11_putWithin_46 rfl (lv_at hl 1 rfl) ?_
          refine lv_iload_n hx hb dX11_putWithin_47 rfl (lv_at hl 2 rfl) ?_
          refine lv_aload_n hx hb dX11_putWithin_48 rfl (lv_at hl 0 rfl) ?_
          refine va_get (D := D) (ci := 9) (v := .ref (b 8)) (C := RX11) (T := TX11) (N := 17) hx hb hts inX11 hown hKN.1 hP 0 rfl rfl 8 (by decide) (hts (.fieldLink RX11 31 "TreeFamilyModel" "high" "[I") (by decide +kernel)) (fun _ h9 => h9) rfl dX11_putWithin_49 ?_
          refine lv_iload_n hx hb dX11_putWithin_52 rfl (lv_at hl 1 rfl) ?_
          refine xr_ild hx hb hKN.1 hP 8 0 rfl rfl (j := j) (by omega) (by decide) dX11_putWithin_53 ?_
          refine xc_i (wr := []) (va_runV (As := [.int (nI j), .int key, .int (q.hg j)]) (rest := [.ref (b 0)]) ⟨hx, hb, hml, hown, hts⟩ (c_X11_before l D ca b _ q j key (q.hg j) hj) (cwV 3 hts gX11_putWithin_X11_before rfl rfl rfl (by decide +kernel) ⟨(Nat.le_of_ble_eq_true rfl), (Nat.le_of_ble_eq_true rfl)⟩) (xPreV hKN hP hD [0, 1, 2, 3, 4, 5, 6, 7, 8, 9, 10, 11, 12, 13, 14, 15, 16] (by decide) rfl (q0 := 0) rfl rfl rfl) rfl rfl hl.1 rfl (lv_room (Nat.le_of_ble_eq_true rfl)) dX11_putWithin_54 ⟨(Nat.le_of_ble_eq_true rfl), (Nat.le_of_ble_eq_true rfl)⟩) hP hD hS hA [0, 1, 2, 3, 4, 5, 6, 7, 8, 9, 10, 11, 12, 13, 14, 15, 16] [] rfl rfl (by decide) (by decide) (fun r54 u54 H locs hu54 hP hD hS => ?_)
          obtain ⟨er54, eu54⟩ := hu54
          have eu54 := eu54.symm
          subst eu54
          have hP : va_P D vwCl (wQ ca b q) H := hP
          have hD : va_D A (wQ ca b q) := hD
          have er54 : r54 = bI (gB (q.oo j) key (q.hg j)) := er54
          subst er54
          refine lv_if_ne (tgt := 64) hx hb dX11_putWithin_57 (by decide) (fun c57 => ?_) (fun c57 => ?_)
          · skip
            have c57 := bI_ne.mp c57
            refine lv_iconst (v := 0) hx hb dX11_putWithin_64 (by decide) ?_
            refine va_put (D := D) (ci := 9) (v := .int 0) (ty := .int) (C := RX11) (T := TX11) (N := 17) hx hb hts inX11 tyX11 tyX11_ok nmX11 hown hKN.1 hP hD hS 0 rfl rfl 0 (by decide) (hts (.fieldLink RX11 59 "TreeFamilyModel" "code" "I") (by decide +kernel)) (fun _ h9 => h9) rfl (by decide +kernel) rfl rfl (Nat.le_of_ble_eq_true rfl) dX11_putWithin_65 (fun H locs hP hD hS => ?_)
            have hP : va_P D vwCl (wQx ca b 0 q.oo q.zz q.ks q.vs q.cg q.hw q.lo q.hg q.wk q.kw q.mn q.gv q.cp q.ho q.nk q.nv) H := hP
            have hD : va_D A (wQx ca b 0 q.oo q.zz q.ks q.vs q.cg q.hw q.lo q.hg q.wk q.kw q.mn q.gv q.cp q.ho q.nk q.nv) := hD
            refine lv_aload_n hx hb dX11_putWithin_68 rfl (lv_at hl 0 rfl) ?_
            refine va_get (D := D) (ci := 9) (v := .int 0) (C := RX11) (T := TX11) (N := 17) hx hb hts inX11 hown hKN.1 hP 0 rfl rfl 0 (by decide) (hts (.fieldLink RX11 59 "TreeFamilyModel" "code" "I") (by decide +kernel)) (fun _ h9 => h9) rfl dX11_putWithin_69 ?_
            refine lv_if_ne (tgt := 89) hx hb dX11_putWithin_72 (by decide) (fun c72 => ?_) (fun c72 => ?_)
            · skip
              exact absurd c72 (by decide)
            · skip
              refine lv_aload_n hx hb dX11_putWithin_75 rfl (lv_at hl 0 rfl) ?_
              refine lv_iload_n hx hb dX11_putWithin_76 rfl (lv_at hl 1 rfl) ?_
              refine lv_iload_n hx hb dX11_putWithin_77 rfl (lv_at hl 2 rfl) ?_
              refine lv_iload_n hx hb dX11_putWithin_78 rfl (lv_at hl 3 rfl) ?_
              refine xc_i (wr := []) (va_runV (As := [.int (nI j), .int key, .int v]) (rest := []) ⟨hx, hb, hml, hown, hts⟩ (c_X11_enter l D ca b _ (0, q.oo, q.zz, q.ks, q.vs, q.cg, q.hw, q.lo, q.hg, q.wk, q.kw, q.mn, q.gv, q.cp, q.ho, q.nk, q.nv) j key v hq hj rfl) (cwV 3 hts gX11_putWithin_X11_enter rfl rfl rfl (by decide +kernel) ⟨(Nat.le_of_ble_eq_true rfl), (Nat.le_of_ble_eq_true rfl)⟩) (xPreV hKN hP hD [0, 1, 2, 3, 4, 5, 6, 7, 8, 9, 10, 11, 12, 13, 14, 15, 16] (by decide) rfl (q0 := 0) rfl rfl rfl) rfl rfl hl.1 rfl (lv_room (Nat.le_of_ble_eq_true rfl)) dX11_putWithin_79 ⟨(Nat.le_of_ble_eq_true rfl), (Nat.le_of_ble_eq_true rfl)⟩) hP hD hS hA [0, 1, 2, 3, 4, 5, 6, 7, 8, 9, 10, 11, 12, 13, 14, 15, 16] [] rfl rfl (by decide) (by decide) (fun r79 u79 H locs hu79 hP hD hS => ?_)
              obtain ⟨hw79, er79, hc79, ha79⟩ := hu79
              have er79 : r79 = (F_enter key v (ab q j)).1 := er79
              subst er79
              have hP : va_P D vwCl (wQ ca b u79) H := hP
              have hD : va_D A (wQ ca b u79) := hD
              refine lv_if_eq (tgt := 89) hx hb dX11_putWithin_82 (by decide) (fun c82 => ?_) (fun c82 => ?_)
              · skip
                refine lv_iconst (v := 0) hx hb dX11_putWithin_89 (by decide) ?_
                exact W.zret (v := 0) hx hb hr (by decide) (fun t9 e9 w9 => ⟨⟨_, u79, rfl, PO_cg hj (F_pw_1 (not_out (by first | exact Or.inl c17 | exact Or.inr c32) (by first | exact Or.inr c57 | exact Or.inl (by show ¬ 1 < q.hw j; omega)))) (PO_ok hj hw79 c82.symm hc79 ha79), by rw [e9]; exact hP, hD⟩, hS.F e9⟩) hS.2.2 dX11_putWithin_90
              · skip
                refine lv_iconst (v := 1) hx hb dX11_putWithin_85 (by decide) ?_
                refine lv_goto (tgt := 90) hx hb dX11_putWithin_86 (by decide) ?_
                exact W.zret (v := 1) hx hb hr (by decide) (fun t9 e9 w9 => ⟨⟨_, u79, rfl, PO_cg hj (F_pw_1 (not_out (by first | exact Or.inl c17 | exact Or.inr c32) (by first | exact Or.inr c57 | exact Or.inl (by show ¬ 1 < q.hw j; omega)))) (PO_ok hj hw79 (F_enter_1 c82).symm hc79 ha79), by rw [e9]; exact hP, hD⟩, hS.F e9⟩) hS.2.2 dX11_putWithin_90
          · skip
            have c57 := bI_0.mp c57
            refine lv_iconst (v := 1) hx hb dX11_putWithin_60 (by decide) ?_
            refine lv_goto (tgt := 65) hx hb dX11_putWithin_61 (by decide) ?_
            refine va_put (D := D) (ci := 9) (v := .int 1) (ty := .int) (C := RX11) (T := TX11) (N := 17) hx hb hts inX11 tyX11 tyX11_ok nmX11 hown hKN.1 hP hD hS 0 rfl rfl 0 (by decide) (hts (.fieldLink RX11 59 "TreeFamilyModel" "code" "I") (by decide +kernel)) (fun _ h9 => h9) rfl (by decide +kernel) rfl rfl (Nat.le_of_ble_eq_true rfl) dX11_putWithin_65 (fun H locs hP hD hS => ?_)
            have hP : va_P D vwCl (wQx ca b 1 q.oo q.zz q.ks q.vs q.cg q.hw q.lo q.hg q.wk q.kw q.mn q.gv q.cp q.ho q.nk q.nv) H := hP
            have hD : va_D A (wQx ca b 1 q.oo q.zz q.ks q.vs q.cg q.hw q.lo q.hg q.wk q.kw q.mn q.gv q.cp q.ho q.nk q.nv) := hD
            refine lv_aload_n hx hb dX11_putWithin_68 rfl (lv_at hl 0 rfl) ?_
            refine va_get (D := D) (ci := 9) (v := .int 1) (C := RX11) (T := TX11) (N := 17) hx hb hts inX11 hown hKN.1 hP 0 rfl rfl 0 (by decide) (hts (.fieldLink RX11 59 "TreeFamilyModel" "code" "I") (by decide +kernel)) (fun _ h9 => h9) rfl dX11_putWithin_69 ?_
            refine lv_if_ne (tgt := 89) hx hb dX11_putWithin_72 (by decide) (fun c72 => ?_) (fun c72 => ?_)
            · skip
              refine lv_iconst (v := 0) hx hb dX11_putWithin_89 (by decide) ?_
              exact W.zret (v := 0) hx hb hr (by decide) (fun t9 e9 w9 => ⟨⟨_, (1, q.oo, q.zz, q.ks, q.vs, q.cg, q.hw, q.lo, q.hg, q.wk, q.kw, q.mn, q.gv, q.cp, q.ho, q.nk, q.nv), rfl, by first | exact PO_same hj (F_pw_0 (Or.inl ⟨c17, c32⟩)) hq rfl rfl | exact PO_same hj (F_pw_0 (Or.inr ⟨(by show 1 < q.hw j; omega), c57⟩)) hq rfl rfl, by rw [e9]; exact hP, hD⟩, hS.F e9⟩) hS.2.2 dX11_putWithin_90
            · skip
              exact absurd c72 (by decide)
      · skip
        have c17 : ((q.hw j) % 2) = 1 := (xn_eq (a := ((q.hw j) % 2)) (b := 1) (by omega) (by decide)).mp c17
        refine lv_aload_n hx hb dX11_putWithin_20 rfl (lv_at hl 0 rfl) ?_
        refine lv_iload_n hx hb dX11_putWithin_21 rfl (lv_at hl 1 rfl) ?_
        refine lv_iload_n hx hb dX11_putWithin_22 rfl (lv_at hl 2 rfl) ?_
        refine lv_aload_n hx hb dX11_putWithin_23 rfl (lv_at hl 0 rfl) ?_
        refine va_get (D := D) (ci := 9) (v := .ref (b 7)) (C := RX11) (T := TX11) (N := 17) hx hb hts inX11 hown hKN.1 hP 0 rfl rfl 7 (by decide) (hts (.fieldLink RX11 28 "TreeFamilyModel" "low" "[I") (by decide +kernel)) (fun _ h9 => h9) rfl dX11_putWithin_24 ?_
        refine lv_iload_n hx hb dX11_putWithin_27 rfl (lv_at hl 1 rfl) ?_
        refine xr_ild hx hb hKN.1 hP 7 0 rfl rfl (j := j) (by omega) (by decide) dX11_putWithin_28 ?_
        refine xc_i (wr := []) (va_runV (As := [.int (nI j), .int key, .int (q.lo j)]) (rest := [.ref (b 0)]) ⟨hx, hb, hml, hown, hts⟩ (c_X11_before l D ca b _ q j key (q.lo j) hj) (cwV 3 hts gX11_putWithin_X11_before rfl rfl rfl (by decide +kernel) ⟨(Nat.le_of_ble_eq_true rfl), (Nat.le_of_ble_eq_true rfl)⟩) (xPreV hKN hP hD [0, 1, 2, 3, 4, 5, 6, 7, 8, 9, 10, 11, 12, 13, 14, 15, 16] (by decide) rfl (q0 := 0) rfl rfl rfl) rfl rfl hl.1 rfl (lv_room (Nat.le_of_ble_eq_true rfl)) dX11_putWithin_29 ⟨(Nat.le_of_ble_eq_true rfl), (Nat.le_of_ble_eq_true rfl)⟩) hP hD hS hA [0, 1, 2, 3, 4, 5, 6, 7, 8, 9, 10, 11, 12, 13, 14, 15, 16] [] rfl rfl (by decide) (by decide) (fun r29 u29 H locs hu29 hP hD hS => ?_)
        obtain ⟨er29, eu29⟩ := hu29
        have eu29 := eu29.symm
        subst eu29
        have hP : va_P D vwCl (wQ ca b q) H := hP
        have hD : va_D A (wQ ca b q) := hD
        have er29 : r29 = bI (gB (q.oo j) key (q.lo j)) := er29
        subst er29
        refine lv_if_ne (tgt := 60) hx hb dX11_putWithin_32 (by decide) (fun c32 => ?_) (fun c32 => ?_)
        · skip
          have c32 := bI_ne.mp c32
          refine lv_iconst (v := 1) hx hb dX11_putWithin_60 (by decide) ?_
          refine lv_goto (tgt := 65) hx hb dX11_putWithin_61 (by decide) ?_
          refine va_put (D := D) (ci := 9) (v := .int 1) (ty := .int) (C := RX11) (T := TX11) (N := 17) hx hb hts inX11 tyX11 tyX11_ok nmX11 hown hKN.1 hP hD hS 0 rfl rfl 0 (by decide) (hts (.fieldLink RX11 59 "TreeFamilyModel" "code" "I") (by decide +kernel)) (fun _ h9 => h9) rfl (by decide +kernel) rfl rfl (Nat.le_of_ble_eq_true rfl) dX11_putWithin_65 (fun H locs hP hD hS => ?_)
          have hP : va_P D vwCl (wQx ca b 1 q.oo q.zz q.ks q.vs q.cg q.hw q.lo q.hg q.wk q.kw q.mn q.gv q.cp q.ho q.nk q.nv) H := hP
          have hD : va_D A (wQx ca b 1 q.oo q.zz q.ks q.vs q.cg q.hw q.lo q.hg q.wk q.kw q.mn q.gv q.cp q.ho q.nk q.nv) := hD
          refine lv_aload_n hx hb dX11_putWithin_68 rfl (lv_at hl 0 rfl) ?_
          refine va_get (D := D) (ci := 9) (v := .int 1) (C := RX11) (T := TX11) (N := 17) hx hb hts inX11 hown hKN.1 hP 0 rfl rfl 0 (by decide) (hts (.fieldLink RX11 59 "TreeFamilyModel" "code" "I") (by decide +kernel)) (fun _ h9 => h9) rfl dX11_putWithin_69 ?_
          refine lv_if_ne (tgt := 89) hx hb dX11_putWithin_72 (by decide) (fun c72 => ?_) (fun c72 => ?_)
          · skip
            refine lv_iconst (v := 0) hx hb dX11_putWithin_89 (by decide) ?_
            exact W.zret (v := 0) hx hb hr (by decide) (fun t9 e9 w9 => ⟨⟨_, (1, q.oo, q.zz, q.ks, q.vs, q.cg, q.hw, q.lo, q.hg, q.wk, q.kw, q.mn, q.gv, q.cp, q.ho, q.nk, q.nv), rfl, by first | exact PO_same hj (F_pw_0 (Or.inl ⟨c17, c32⟩)) hq rfl rfl | exact PO_same hj (F_pw_0 (Or.inr ⟨(by show 1 < q.hw j; omega), c57⟩)) hq rfl rfl, by rw [e9]; exact hP, hD⟩, hS.F e9⟩) hS.2.2 dX11_putWithin_90
          · skip
            exact absurd c72 (by decide)
        · skip
          have c32 := bI_0.mp c32
          refine lv_aload_n hx hb dX11_putWithin_35 rfl (lv_at hl 0 rfl) ?_
          refine va_get (D := D) (ci := 9) (v := .ref (b 6)) (C := RX11) (T := TX11) (N := 17) hx hb hts inX11 hown hKN.1 hP 0 rfl rfl 6 (by decide) (hts (.fieldLink RX11 25 "TreeFamilyModel" "how" "[I") (by decide +kernel)) (fun _ h9 => h9) rfl dX11_putWithin_36 ?_
          refine lv_iload_n hx hb dX11_putWithin_39 rfl (lv_at hl 1 rfl) ?_
          refine xr_ild hx hb hKN.1 hP 6 0 rfl rfl (j := j) (by omega) (by decide) dX11_putWithin_40 ?_
          refine lv_iconst (v := 1) hx hb dX11_putWithin_41 (by decide) ?_
          refine lv_icmp_le (tgt := 64) hx hb dX11_putWithin_42 (by decide) (fun c42 => ?_) (fun c42 => ?_)
          · skip
            have c42 : (q.hw j) ≤ 1 := (xn_le (a := (q.hw j)) (b := 1) (Nat.lt_of_le_of_lt (hq.2.1 j) (by decide)) (by decide)).mp c42
            refine lv_iconst (v := 0) hx hb dX11_putWithin_64 (by decide) ?_
            refine va_put (D := D) (ci := 9) (v := .int 0) (ty := .int) (C := RX11) (T := TX11) (N := 17) hx hb hts inX11 tyX11 tyX11_ok nmX11 hown hKN.1 hP hD hS 0 rfl rfl 0 (by decide) (hts (.fieldLink RX11 59 "TreeFamilyModel" "code" "I") (by decide +kernel)) (fun _ h9 => h9) rfl (by decide +kernel) rfl rfl (Nat.le_of_ble_eq_true rfl) dX11_putWithin_65 (fun H locs hP hD hS => ?_)
            have hP : va_P D vwCl (wQx ca b 0 q.oo q.zz q.ks q.vs q.cg q.hw q.lo q.hg q.wk q.kw q.mn q.gv q.cp q.ho q.nk q.nv) H := hP
            have hD : va_D A (wQx ca b 0 q.oo q.zz q.ks q.vs q.cg q.hw q.lo q.hg q.wk q.kw q.mn q.gv q.cp q.ho q.nk q.nv) := hD
            refine lv_aload_n hx hb dX11_putWithin_68 rfl (lv_at hl 0 rfl) ?_
            refine va_get (D := D) (ci := 9) (v := .int 0) (C := RX11) (T := TX11) (N := 17) hx hb hts inX11 hown hKN.1 hP 0 rfl rfl 0 (by decide) (hts (.fieldLink RX11 59 "TreeFamilyModel" "code" "I") (by decide +kernel)) (fun _ h9 => h9) rfl dX11_putWithin_69 ?_
            refine lv_if_ne (tgt := 89) hx hb dX11_putWithin_72 (by decide) (fun c72 => ?_) (fun c72 => ?_)
            · skip
              exact absurd c72 (by decide)
            · skip
              refine lv_aload_n hx hb dX11_putWithin_75 rfl (lv_at hl 0 rfl) ?_
              refine lv_iload_n hx hb dX11_putWithin_76 rfl (lv_at hl 1 rfl) ?_
              refine lv_iload_n hx hb dX11_putWithin_77 rfl (lv_at hl 2 rfl) ?_
              refine lv_iload_n hx hb dX11_putWithin_78 rfl (lv_at hl 3 rfl) ?_
              refine xc_i (wr := []) (va_runV (As := [.int (nI j), .int key, .int v]) (rest := []) ⟨hx, hb, hml, hown, hts⟩ (c_X11_enter l D ca b _ (0, q.oo, q.zz, q.ks, q.vs, q.cg, q.hw, q.lo, q.hg, q.wk, q.kw, q.mn, q.gv, q.cp, q.ho, q.nk, q.nv) j key v hq hj rfl) (cwV 3 hts gX11_putWithin_X11_enter rfl rfl rfl (by decide +kernel) ⟨(Nat.le_of_ble_eq_true rfl), (Nat.le_of_ble_eq_true rfl)⟩) (xPreV hKN hP hD [0, 1, 2, 3, 4, 5, 6, 7, 8, 9, 10, 11, 12, 13, 14, 15, 16] (by decide) rfl (q0 := 0) rfl rfl rfl) rfl rfl hl.1 rfl (lv_room (Nat.le_of_ble_eq_true rfl)) dX11_putWithin_79 ⟨(Nat.le_of_ble_eq_true rfl), (Nat.le_of_ble_eq_true rfl)⟩) hP hD hS hA [0, 1, 2, 3, 4, 5, 6, 7, 8, 9, 10, 11, 12, 13, 14, 15, 16] [] rfl rfl (by decide) (by decide) (fun r79 u79 H locs hu79 hP hD hS => ?_)
              obtain ⟨hw79, er79, hc79, ha79⟩ := hu79
              have er79 : r79 = (F_enter key v (ab q j)).1 := er79
              subst er79
              have hP : va_P D vwCl (wQ ca b u79) H := hP
              have hD : va_D A (wQ ca b u79) := hD
              refine lv_if_eq (tgt := 89) hx hb dX11_putWithin_82 (by decide) (fun c82 => ?_) (fun c82 => ?_)
              · skip
                refine lv_iconst (v := 0) hx hb dX11_putWithin_89 (by decide) ?_
                exact W.zret (v := 0) hx hb hr (by decide) (fun t9 e9 w9 => ⟨⟨_, u79, rfl, PO_cg hj (F_pw_1 (not_out (by first | exact Or.inl c17 | exact Or.inr c32) (by first | exact Or.inr c57 | exact Or.inl (by show ¬ 1 < q.hw j; omega)))) (PO_ok hj hw79 c82.symm hc79 ha79), by rw [e9]; exact hP, hD⟩, hS.F e9⟩) hS.2.2 dX11_putWithin_90
              · skip
                refine lv_iconst (v := 1) hx hb dX11_putWithin_85 (by decide) ?_
                refine lv_goto (tgt := 90) hx hb dX11_putWithin_86 (by decide) ?_
                exact W.zret (v := 1) hx hb hr (by decide) (fun t9 e9 w9 => ⟨⟨_, u79, rfl, PO_cg hj (F_pw_1 (not_out (by first | exact Or.inl c17 | exact Or.inr c32) (by first | exact Or.inr c57 | exact Or.inl (by show ¬ 1 < q.hw j; omega)))) (PO_ok hj hw79 (F_enter_1 c82).symm hc79 ha79), by rw [e9]; exact hP, hD⟩, hS.F e9⟩) hS.2.2 dX11_putWithin_90
          · skip
            have c42 : ¬ (q.hw j) ≤ 1 := fun h9 => c42 ((xn_le (a := (q.hw j)) (b := 1) (Nat.lt_of_le_of_lt (hq.2.1 j) (by decide)) (by decide)).mpr h9)
            refine lv_aload_n hx hb dX11_putWithin_45 rfl (lv_at hl 0 rfl) ?_
            refine lv_iload_n hx hb dX11_putWithin_46 rfl (lv_at hl 1 rfl) ?_
            refine lv_iload_n hx hb dX11_putWithin_47 rfl (lv_at hl 2 rfl) ?_
            refine lv_aload_n hx hb dX11_putWithin_48 rfl (lv_at hl 0 rfl) ?_
            refine va_get (D := D) (ci := 9) (v := .ref (b 8)) (C := RX11) (T := TX11) (N := 17) hx hb hts inX11 hown hKN.1 hP 0 rfl rfl 8 (by decide) (hts (.fieldLink RX11 31 "TreeFamilyModel" "high" "[I") (by decide +kernel)) (fun _ h9 => h9) rfl dX11_putWithin_49 ?_
            refine lv_iload_n hx hb dX11_putWithin_52 rfl (lv_at hl 1 rfl) ?_
            refine xr_ild hx hb hKN.1 hP 8 0 rfl rfl (j := j) (by omega) (by decide) dX11_putWithin_53 ?_
            refine xc_i (wr := []) (va_runV (As := [.int (nI j), .int key, .int (q.hg j)]) (rest := [.ref (b 0)]) ⟨hx, hb, hml, hown, hts⟩ (c_X11_before l D ca b _ q j key (q.hg j) hj) (cwV 3 hts gX11_putWithin_X11_before rfl rfl rfl (by decide +kernel) ⟨(Nat.le_of_ble_eq_true rfl), (Nat.le_of_ble_eq_true rfl)⟩) (xPreV hKN hP hD [0, 1, 2, 3, 4, 5, 6, 7, 8, 9, 10, 11, 12, 13, 14, 15, 16] (by decide) rfl (q0 := 0) rfl rfl rfl) rfl rfl hl.1 rfl (lv_room (Nat.le_of_ble_eq_true rfl)) dX11_putWithin_54 ⟨(Nat.le_of_ble_eq_true rfl), (Nat.le_of_ble_eq_true rfl)⟩) hP hD hS hA [0, 1, 2, 3, 4, 5, 6, 7, 8, 9, 10, 11, 12, 13, 14, 15, 16] [] rfl rfl (by decide) (by decide) (fun r54 u54 H locs hu54 hP hD hS => ?_)
            obtain ⟨er54, eu54⟩ := hu54
            have eu54 := eu54.symm
            subst eu54
            have hP : va_P D vwCl (wQ ca b q) H := hP
            have hD : va_D A (wQ ca b q) := hD
            have er54 : r54 = bI (gB (q.oo j) key (q.hg j)) := er54
            subst er54
            refine lv_if_ne (tgt := 64) hx hb dX11_putWithin_57 (by decide) (fun c57 => ?_) (fun c57 => ?_)
            · skip
              have c57 := bI_ne.mp c57
              refine lv_iconst (v := 0) hx hb dX11_putWithin_64 (by decide) ?_
              refine va_put (D := D) (ci := 9) (v := .int 0) (ty := .int) (C := RX11) (T := TX11) (N := 17) hx hb hts inX11 tyX11 tyX11_ok nmX11 hown hKN.1 hP hD hS 0 rfl rfl 0 (by decide) (hts (.fieldLink RX11 59 "TreeFamilyModel" "code" "I") (by decide +kernel)) (fun _ h9 => h9) rfl (by decide +kernel) rfl rfl (Nat.le_of_ble_eq_true rfl) dX11_putWithin_65 (fun H locs hP hD hS => ?_)
              have hP : va_P D vwCl (wQx ca b 0 q.oo q.zz q.ks q.vs q.cg q.hw q.lo q.hg q.wk q.kw q.mn q.gv q.cp q.ho q.nk q.nv) H := hP
              have hD : va_D A (wQx ca b 0 q.oo q.zz q.ks q.vs q.cg q.hw q.lo q.hg q.wk q.kw q.mn q.gv q.cp q.ho q.nk q.nv) := hD
              refine lv_aload_n hx hb dX11_putWithin_68 rfl (lv_at hl 0 rfl) ?_
              refine va_get (D := D) (ci := 9) (v := .int 0) (C := RX11) (T := TX11) (N := 17) hx hb hts inX11 hown hKN.1 hP 0 rfl rfl 0 (by decide) (hts (.fieldLink RX11 59 "TreeFamilyModel" "code" "I") (by decide +kernel)) (fun _ h9 => h9) rfl dX11_putWithin_69 ?_
              refine lv_if_ne (tgt := 89) hx hb dX11_putWithin_72 (by decide) (fun c72 => ?_) (fun c72 => ?_)
              · skip
                exact absurd c72 (by decide)
              · skip
                refine lv_aload_n hx hb dX11_putWithin_75 rfl (lv_at hl 0 rfl) ?_
                refine lv_iload_n hx hb dX11_putWithin_76 rfl (lv_at hl 1 rfl) ?_
                refine lv_iload_n hx hb dX11_putWithin_77 rfl (lv_at hl 2 rfl) ?_
                refine lv_iload_n hx hb dX11_putWithin_78 rfl (lv_at hl 3 rfl) ?_
                refine xc_i (wr := []) (va_runV (As := [.int (nI j), .int key, .int v]) (rest := []) ⟨hx, hb, hml, hown, hts⟩ (c_X11_enter l D ca b _ (0, q.oo, q.zz, q.ks, q.vs, q.cg, q.hw, q.lo, q.hg, q.wk, q.kw, q.mn, q.gv, q.cp, q.ho, q.nk, q.nv) j key v hq hj rfl) (cwV 3 hts gX11_putWithin_X11_enter rfl rfl rfl (by decide +kernel) ⟨(Nat.le_of_ble_eq_true rfl), (Nat.le_of_ble_eq_true rfl)⟩) (xPreV hKN hP hD [0, 1, 2, 3, 4, 5, 6, 7, 8, 9, 10, 11, 12, 13, 14, 15, 16] (by decide) rfl (q0 := 0) rfl rfl rfl) rfl rfl hl.1 rfl (lv_room (Nat.le_of_ble_eq_true rfl)) dX11_putWithin_79 ⟨(Nat.le_of_ble_eq_true rfl), (Nat.le_of_ble_eq_true rfl)⟩) hP hD hS hA [0, 1, 2, 3, 4, 5, 6, 7, 8, 9, 10, 11, 12, 13, 14, 15, 16] [] rfl rfl (by decide) (by decide) (fun r79 u79 H locs hu79 hP hD hS => ?_)
                obtain ⟨hw79, er79, hc79, ha79⟩ := hu79
                have er79 : r79 = (F_enter key v (ab q j)).1 := er79
                subst er79
                have hP : va_P D vwCl (wQ ca b u79) H := hP
                have hD : va_D A (wQ ca b u79) := hD
                refine lv_if_eq (tgt := 89) hx hb dX11_putWithin_82 (by decide) (fun c82 => ?_) (fun c82 => ?_)
                · skip
                  refine lv_iconst (v := 0) hx hb dX11_putWithin_89 (by decide) ?_
                  exact W.zret (v := 0) hx hb hr (by decide) (fun t9 e9 w9 => ⟨⟨_, u79, rfl, PO_cg hj (F_pw_1 (not_out (by first | exact Or.inl c17 | exact Or.inr c32) (by first | exact Or.inr c57 | exact Or.inl (by show ¬ 1 < q.hw j; omega)))) (PO_ok hj hw79 c82.symm hc79 ha79), by rw [e9]; exact hP, hD⟩, hS.F e9⟩) hS.2.2 dX11_putWithin_90
                · skip
                  refine lv_iconst (v := 1) hx hb dX11_putWithin_85 (by decide) ?_
                  refine lv_goto (tgt := 90) hx hb dX11_putWithin_86 (by decide) ?_
                  exact W.zret (v := 1) hx hb hr (by decide) (fun t9 e9 w9 => ⟨⟨_, u79, rfl, PO_cg hj (F_pw_1 (not_out (by first | exact Or.inl c17 | exact Or.inr c32) (by first | exact Or.inr c57 | exact Or.inl (by show ¬ 1 < q.hw j; omega)))) (PO_ok hj hw79 (F_enter_1 c82).symm hc79 ha79), by rw [e9]; exact hP, hD⟩, hS.F e9⟩) hS.2.2 dX11_putWithin_90
            · skip
              have c57 := bI_0.mp c57
              refine lv_iconst (v := 1) hx hb dX11_putWithin_60 (by decide) ?_
              refine lv_goto (tgt := 65) hx hb dX11_putWithin_61 (by decide) ?_
              refine va_put (D := D) (ci := 9) (v := .int 1) (ty := .int) (C := RX11) (T := TX11) (N := 17) hx hb hts inX11 tyX11 tyX11_ok nmX11 hown hKN.1 hP hD hS 0 rfl rfl 0 (by decide) (hts (.fieldLink RX11 59 "TreeFamilyModel" "code" "I") (by decide +kernel)) (fun _ h9 => h9) rfl (by decide +kernel) rfl rfl (Nat.le_of_ble_eq_true rfl) dX11_putWithin_65 (fun H locs hP hD hS => ?_)
              have hP : va_P D vwCl (wQx ca b 1 q.oo q.zz q.ks q.vs q.cg q.hw q.lo q.hg q.wk q.kw q.mn q.gv q.cp q.ho q.nk q.nv) H := hP
              have hD : va_D A (wQx ca b 1 q.oo q.zz q.ks q.vs q.cg q.hw q.lo q.hg q.wk q.kw q.mn q.gv q.cp q.ho q.nk q.nv) := hD
              refine lv_aload_n hx hb dX11_putWithin_68 rfl (lv_at hl 0 rfl) ?_
              refine va_get (D := D) (ci := 9) (v := .int 1) (C := RX11) (T := TX11) (N := 17) hx hb hts inX11 hown hKN.1 hP 0 rfl rfl 0 (by decide) (hts (.fieldLink RX11 59 "TreeFamilyModel" "code" "I") (by decide +kernel)) (fun _ h9 => h9) rfl dX11_putWithin_69 ?_
              refine lv_if_ne (tgt := 89) hx hb dX11_putWithin_72 (by decide) (fun c72 => ?_) (fun c72 => ?_)
              · skip
                refine lv_iconst (v := 0) hx hb dX11_putWithin_89 (by decide) ?_
                exact W.zret (v := 0) hx hb hr (by decide) (fun t9 e9 w9 => ⟨⟨_, (1, q.oo, q.zz, q.ks, q.vs, q.cg, q.hw, q.lo, q.hg, q.wk, q.kw, q.mn, q.gv, q.cp, q.ho, q.nk, q.nv), rfl, by first | exact PO_same hj (F_pw_0 (Or.inl ⟨c17, c32⟩)) hq rfl rfl | exact PO_same hj (F_pw_0 (Or.inr ⟨(by show 1 < q.hw j; omega), c57⟩)) hq rfl rfl, by rw [e9]; exact hP, hD⟩, hS.F e9⟩) hS.2.2 dX11_putWithin_90
              · skip
                exact absurd c72 (by decide)

-- TreeFamilyModel.poll
set_option maxHeartbeats 4000000 in
set_option maxRecDepth 100000 in
theorem c_X11_poll (l : Launch) (D : va_G) (ca : Nat → ClassId) (b : Nat → Nat) (sz : Nat) (q : QS) (b0 : Bool) (mm : Int32) (hq : WQ q) : Met l yX11_poll wsX11_poll ({ frames := 3, cells := 0, slots := 0, locals := 67 } : Room) (xPc D (TY ca) [.ref (b 0), .int mm, .int (bI b0)] (wQ ca b q) sz) (va_Qi (fun (r : Int32) (u : QS) => PO 0 (F_poll b0) mm q r u) (xB D (wQ ca b) (va_A (wQ ca b q) sz)) (va_A (wQ ca b q) sz)) 0 0 (va_A (wQ ca b q) sz) := by
  refine Met.ofW (cc := cX11_poll) (maxL := 3) (ret := (some .int)) (by decide) rfl ?_
  intro p e s m args below meth c s₁ B hml hv
  obtain ⟨rfl, hsz, hP, hKN, hD0⟩ := hv
  have hx := B.exec
  have hb := B.bytes
  have hr := B.returns
  have hts := atoms_spec (ws := wsX11_poll) B.pre
  have hown : s.vm.findClass RX11 = some m.cls := findClass_of_methodNamed B.named
  have hlocks := B.notSynchronized
  have inX11 : ∀ w ∈ wsX110, w ∈ wsX11_poll := by decide +kernel
  subst hsz
  have hD := hD0.self (sz := s.heap.size)
  generalize hAe : va_A (wQ ca b q) s.heap.size = A at hD ⊢
  have hA : ∀ q : Nat, s.heap.size ≤ q → A q := fun q h => by rw [← hAe]; exact Or.inr h
  have hS : va_S A s.heap s.heap [] := va_S.rf
  have hl := lv_entry ([.ref (b 0), .int mm, .int (bI b0)]) (n := 3) (Nat.le_of_ble_eq_true rfl)
  rw [lg_entry_eq]
  generalize (lg_sl ([.ref (b 0), .int mm, .int (bI b0)]) ++ List.replicate (3 - (lg_sl ([.ref (b 0), .int mm, .int (bI b0)])).length) Slot.unset).toArray = ls at hl ⊢
  have hl : lv_has ls 3 [(0, .ref (b 0)), (1, .int mm), (2, .int (bI b0))] := hl
  rcases isB3 mm with hmm | ⟨j, hj, hmj⟩
  · skip
    refine lv_aload_n hx hb dX11_poll_0 rfl (lv_at hl 0 rfl) ?_
    refine lv_iload_n hx hb dX11_poll_1 rfl (lv_at hl 1 rfl) ?_
    refine xs_i (va_runS (As := [.int mm]) (rest := [.ref (b 0)]) ⟨hx, hb, hml, hown, hts⟩ (c_X11_isMap l _) (va_cwS 1 hts gX11_poll_X11_isMap rfl rfl rfl (by decide +kernel) ⟨(Nat.le_of_ble_eq_true rfl), (Nat.le_of_ble_eq_true rfl)⟩) xPreT rfl rfl hl.1 rfl (lv_room (Nat.le_of_ble_eq_true rfl)) dX11_poll_2 ⟨(Nat.le_of_ble_eq_true rfl), (Nat.le_of_ble_eq_true rfl)⟩) (fun r2 er2 => ?_)
    subst er2
    refine xr_top (y := 0) (by rw [hmm]; rfl) ?_
    refine lv_if_ne (tgt := 12) hx hb dX11_poll_5 (by decide) (fun c5 => ?_) (fun c5 => ?_)
    · skip
      exact absurd c5 (by decide)
    · skip
      refine lv_iconst (v := 1) hx hb dX11_poll_8 (by decide) ?_
      refine lv_goto (tgt := 30) hx hb dX11_poll_9 (by decide) ?_
      refine va_put (D := D) (ci := 9) (v := .int 1) (ty := .int) (C := RX11) (T := TX11) (N := 17) hx hb hts inX11 tyX11 tyX11_ok nmX11 hown hKN.1 hP hD hS 0 rfl rfl 0 (by decide) (hts (.fieldLink RX11 59 "TreeFamilyModel" "code" "I") (by decide +kernel)) (fun _ h9 => h9) rfl (by decide +kernel) rfl rfl (Nat.le_of_ble_eq_true rfl) dX11_poll_30 (fun H locs hP hD hS => ?_)
      have hP : va_P D vwCl (wQx ca b 1 q.oo q.zz q.ks q.vs q.cg q.hw q.lo q.hg q.wk q.kw q.mn q.gv q.cp q.ho q.nk q.nv) H := hP
      have hD : va_D A (wQx ca b 1 q.oo q.zz q.ks q.vs q.cg q.hw q.lo q.hg q.wk q.kw q.mn q.gv q.cp q.ho q.nk q.nv) := hD
      refine lv_aload_n hx hb dX11_poll_33 rfl (lv_at hl 0 rfl) ?_
      refine va_get (D := D) (ci := 9) (v := .int 1) (C := RX11) (T := TX11) (N := 17) hx hb hts inX11 hown hKN.1 hP 0 rfl rfl 0 (by decide) (hts (.fieldLink RX11 59 "TreeFamilyModel" "code" "I") (by decide +kernel)) (fun _ h9 => h9) rfl dX11_poll_34 ?_
      refine lv_if_le (tgt := 44) hx hb dX11_poll_37 (by decide) (fun c37 => ?_) (fun c37 => ?_)
      · skip
        exact absurd c37 (by decide)
      · skip
        refine lv_iconst (v := 0) hx hb dX11_poll_40 (by decide) ?_
        refine lv_goto (tgt := 68) hx hb dX11_poll_41 (by decide) ?_
        exact W.iret (v := 0) hx hb hr (fun t9 e9 w9 => ⟨⟨_, (1, q.oo, q.zz, q.ks, q.vs, q.cg, q.hw, q.lo, q.hg, q.wk, q.kw, q.mn, q.gv, q.cp, q.ho, q.nk, q.nv), rfl, PO_bad hmm hq rfl rfl rfl, by rw [e9]; exact hP, hD⟩, hS.F e9⟩) hS.2.2 dX11_poll_68
  · subst hmj
    have hz6 := hq.1 j
    have hh3 := hq.2.1 j
    refine lv_aload_n hx hb dX11_poll_0 rfl (lv_at hl 0 rfl) ?_
    refine lv_iload_n hx hb dX11_poll_1 rfl (lv_at hl 1 rfl) ?_
    refine xs_i (va_runS (As := [.int (nI j)]) (rest := [.ref (b 0)]) ⟨hx, hb, hml, hown, hts⟩ (c_X11_isMap l _) (va_cwS 1 hts gX11_poll_X11_isMap rfl rfl rfl (by decide +kernel) ⟨(Nat.le_of_ble_eq_true rfl), (Nat.le_of_ble_eq_true rfl)⟩) xPreT rfl rfl hl.1 rfl (lv_room (Nat.le_of_ble_eq_true rfl)) dX11_poll_2 ⟨(Nat.le_of_ble_eq_true rfl), (Nat.le_of_ble_eq_true rfl)⟩) (fun r2 er2 => ?_)
    subst er2
    refine xr_top (y := 1) (by rw [isB3_ok hj]; rfl) ?_
    refine lv_if_ne (tgt := 12) hx hb dX11_poll_5 (by decide) (fun c5 => ?_) (fun c5 => ?_)
    · skip
      have hbe := beg_le_end (r := ab q j) (hq.2.1 j) (hq.2.2.2.2 j)
      have hel := end_le (ab q j)
      rw [ab_len] at hel
      refine lv_aload_n hx hb dX11_poll_12 rfl (lv_at hl 0 rfl) ?_
      refine lv_iload_n hx hb dX11_poll_13 rfl (lv_at hl 1 rfl) ?_
      refine xc_i (wr := []) (va_runV (As := [.int (nI j)]) (rest := [.ref (b 0)]) ⟨hx, hb, hml, hown, hts⟩ (c_X11_begins l D ca b _ q j hq hj) (cwV 1 hts gX11_poll_X11_begins rfl rfl rfl (by decide +kernel) ⟨(Nat.le_of_ble_eq_true rfl), (Nat.le_of_ble_eq_true rfl)⟩) (xPreV hKN hP hD [0, 1, 2, 3, 4, 5, 6, 7, 8, 9, 10, 11, 12, 13, 14, 15, 16] (by decide) rfl (q0 := 0) rfl rfl rfl) rfl rfl hl.1 rfl (lv_room (Nat.le_of_ble_eq_true rfl)) dX11_poll_14 ⟨(Nat.le_of_ble_eq_true rfl), (Nat.le_of_ble_eq_true rfl)⟩) hP hD hS hA [0, 1, 2, 3, 4, 5, 6, 7, 8, 9, 10, 11, 12, 13, 14, 15, 16] [] rfl rfl (by decide) (by decide) (fun r14 u14 H locs hu14 hP hD hS => ?_)
      obtain ⟨er14, eu14⟩ := hu14
      have eu14 := eu14.symm
      subst eu14
      have hP : va_P D vwCl (wQ ca b q) H := hP
      have hD : va_D A (wQ ca b q) := hD
      have er14 : r14 = nI (begR (ab q j)) := er14
      subst er14
      refine lv_aload_n hx hb dX11_poll_17 rfl (lv_at hl 0 rfl) ?_
      refine lv_iload_n hx hb dX11_poll_18 rfl (lv_at hl 1 rfl) ?_
      refine xc_i (wr := []) (va_runV (As := [.int (nI j)]) (rest := [.int (nI (begR (ab q j))), .ref (b 0)]) ⟨hx, hb, hml, hown, hts⟩ (c_X11_ends l D ca b _ q j hq hj) (cwV 1 hts gX11_poll_X11_ends rfl rfl rfl (by decide +kernel) ⟨(Nat.le_of_ble_eq_true rfl), (Nat.le_of_ble_eq_true rfl)⟩) (xPreV hKN hP hD [0, 1, 2, 3, 4, 5, 6, 7, 8, 9, 10, 11, 12, 13, 14, 15, 16] (by decide) rfl (q0 := 0) rfl rfl rfl) rfl rfl hl.1 rfl (lv_room (Nat.le_of_ble_eq_true rfl)) dX11_poll_19 ⟨(Nat.le_of_ble_eq_true rfl), (Nat.le_of_ble_eq_true rfl)⟩) hP hD hS hA [0, 1, 2, 3, 4, 5, 6, 7, 8, 9, 10, 11, 12, 13, 14, 15, 16] [] rfl rfl (by decide) (by decide) (fun r19 u19 H locs hu19 hP hD hS => ?_)
      obtain ⟨er19, eu19⟩ := hu19
      have eu19 := eu19.symm
      subst eu19
      have hP : va_P D vwCl (wQ ca b q) H := hP
      have hD : va_D A (wQ ca b q) := hD
      have er19 : r19 = nI (endR (ab q j)) := er19
      subst er19
      refine lv_icmp_ne (tgt := 29) hx hb dX11_poll_22 (by decide) (fun c22 => ?_) (fun c22 => ?_)
      · skip
        have c22 : ¬ (begR (ab q j)) = (endR (ab q j)) := fun h9 => c22 ((xn_eq (a := (begR (ab q j))) (b := (endR (ab q j))) (Nat.lt_of_le_of_lt (be60 (q := q) hq j) (by decide)) (Nat.lt_of_le_of_lt (en60 (q := q) hq j) (by decide))).mpr h9)
        refine lv_iconst (v := 0) hx hb dX11_poll_29 (by decide) ?_
        refine va_put (D := D) (ci := 9) (v := .int 0) (ty := .int) (C := RX11) (T := TX11) (N := 17) hx hb hts inX11 tyX11 tyX11_ok nmX11 hown hKN.1 hP hD hS 0 rfl rfl 0 (by decide) (hts (.fieldLink RX11 59 "TreeFamilyModel" "code" "I") (by decide +kernel)) (fun _ h9 => h9) rfl (by decide +kernel) rfl rfl (Nat.le_of_ble_eq_true rfl) dX11_poll_30 (fun H locs hP hD hS => ?_)
        have hP : va_P D vwCl (wQx ca b 0 q.oo q.zz q.ks q.vs q.cg q.hw q.lo q.hg q.wk q.kw q.mn q.gv q.cp q.ho q.nk q.nv) H := hP
        have hD : va_D A (wQx ca b 0 q.oo q.zz q.ks q.vs q.cg q.hw q.lo q.hg q.wk q.kw q.mn q.gv q.cp q.ho q.nk q.nv) := hD
        refine lv_aload_n hx hb dX11_poll_33 rfl (lv_at hl 0 rfl) ?_
        refine va_get (D := D) (ci := 9) (v := .int 0) (C := RX11) (T := TX11) (N := 17) hx hb hts inX11 hown hKN.1 hP 0 rfl rfl 0 (by decide) (hts (.fieldLink RX11 59 "TreeFamilyModel" "code" "I") (by decide +kernel)) (fun _ h9 => h9) rfl dX11_poll_34 ?_
        refine lv_if_le (tgt := 44) hx hb dX11_poll_37 (by decide) (fun c37 => ?_) (fun c37 => ?_)
        · skip
          refine lv_aload_n hx hb dX11_poll_44 rfl (lv_at hl 0 rfl) ?_
          refine lv_iload_n hx hb dX11_poll_45 rfl (lv_at hl 1 rfl) ?_
          refine lv_iload_n hx hb dX11_poll_46 rfl (lv_at hl 2 rfl) ?_
          refine lv_if_eq (tgt := 60) hx hb dX11_poll_47 (by decide) (fun c47 => ?_) (fun c47 => ?_)
          · skip
            have c47 := bI_0.mp c47
            refine lv_aload_n hx hb dX11_poll_60 rfl (lv_at hl 0 rfl) ?_
            refine lv_iload_n hx hb dX11_poll_61 rfl (lv_at hl 1 rfl) ?_
            refine xc_i (wr := []) (va_runV (As := [.int (nI j)]) (rest := [.int (nI j), .ref (b 0)]) ⟨hx, hb, hml, hown, hts⟩ (c_X11_begins l D ca b _ (0, q.oo, q.zz, q.ks, q.vs, q.cg, q.hw, q.lo, q.hg, q.wk, q.kw, q.mn, q.gv, q.cp, q.ho, q.nk, q.nv) j hq hj) (cwV 1 hts gX11_poll_X11_begins rfl rfl rfl (by decide +kernel) ⟨(Nat.le_of_ble_eq_true rfl), (Nat.le_of_ble_eq_true rfl)⟩) (xPreV hKN hP hD [0, 1, 2, 3, 4, 5, 6, 7, 8, 9, 10, 11, 12, 13, 14, 15, 16] (by decide) rfl (q0 := 0) rfl rfl rfl) rfl rfl hl.1 rfl (lv_room (Nat.le_of_ble_eq_true rfl)) dX11_poll_62 ⟨(Nat.le_of_ble_eq_true rfl), (Nat.le_of_ble_eq_true rfl)⟩) hP hD hS hA [0, 1, 2, 3, 4, 5, 6, 7, 8, 9, 10, 11, 12, 13, 14, 15, 16] [] rfl rfl (by decide) (by decide) (fun r62 u62 H locs hu62 hP hD hS => ?_)
            obtain ⟨er62, eu62⟩ := hu62
            have eu62 := eu62.symm
            subst eu62
            have hP : va_P D vwCl (wQx ca b 0 q.oo q.zz q.ks q.vs q.cg q.hw q.lo q.hg q.wk q.kw q.mn q.gv q.cp q.ho q.nk q.nv) H := hP
            have hD : va_D A (wQx ca b 0 q.oo q.zz q.ks q.vs q.cg q.hw q.lo q.hg q.wk q.kw q.mn q.gv q.cp q.ho q.nk q.nv) := hD
            have er62 : r62 = nI (begR (ab q j)) := er62
            subst er62
            refine xc_i (wr := []) (va_runV (As := [.int (nI j), .int (nI (begR (ab q j)))]) (rest := []) ⟨hx, hb, hml, hown, hts⟩ (c_X11_close l D ca b _ (0, q.oo, q.zz, q.ks, q.vs, q.cg, q.hw, q.lo, q.hg, q.wk, q.kw, q.mn, q.gv, q.cp, q.ho, q.nk, q.nv) j (begR (ab q j)) hq hj (by show _ < q.zz j; omega)) (cwV 2 hts gX11_poll_X11_close rfl rfl rfl (by decide +kernel) ⟨(Nat.le_of_ble_eq_true rfl), (Nat.le_of_ble_eq_true rfl)⟩) (xPreV hKN hP hD [0, 1, 2, 3, 4, 5, 6, 7, 8, 9, 10, 11, 12, 13, 14, 15, 16] (by decide) rfl (q0 := 0) rfl rfl rfl) rfl rfl hl.1 rfl (lv_room (Nat.le_of_ble_eq_true rfl)) dX11_poll_65 ⟨(Nat.le_of_ble_eq_true rfl), (Nat.le_of_ble_eq_true rfl)⟩) hP hD hS hA [0, 1, 2, 3, 4, 5, 6, 7, 8, 9, 10, 11, 12, 13, 14, 15, 16] [] rfl rfl (by decide) (by decide) (fun r65 u65 H locs hu65 hP hD hS => ?_)
            obtain ⟨er65, hw65, hc65, ha65⟩ := hu65
            have er65 : r65 = q.ks (64 * j + (begR (ab q j))) := er65
            subst er65
            have hP : va_P D vwCl (wQ ca b u65) H := hP
            have hD : va_D A (wQ ca b u65) := hD
            exact W.iret (v := (q.ks (64 * j + (begR (ab q j))))) hx hb hr (fun t9 e9 w9 => ⟨⟨_, u65, rfl, by first | exact PO_by hj (F_poll_1 c22 c47 (congrArg Prod.fst (row_getD j (by omega)))) hw65 hc65 ha65 | exact PO_by hj (F_poll_2 c22 c47 (congrArg Prod.fst (row_getD j (by omega)))) hw65 hc65 ha65, by rw [e9]; exact hP, hD⟩, hS.F e9⟩) hS.2.2 dX11_poll_68
          · skip
            have c47 := bI_ne.mp c47
            refine lv_aload_n hx hb dX11_poll_50 rfl (lv_at hl 0 rfl) ?_
            refine lv_iload_n hx hb dX11_poll_51 rfl (lv_at hl 1 rfl) ?_
            refine xc_i (wr := []) (va_runV (As := [.int (nI j)]) (rest := [.int (nI j), .ref (b 0)]) ⟨hx, hb, hml, hown, hts⟩ (c_X11_ends l D ca b _ (0, q.oo, q.zz, q.ks, q.vs, q.cg, q.hw, q.lo, q.hg, q.wk, q.kw, q.mn, q.gv, q.cp, q.ho, q.nk, q.nv) j hq hj) (cwV 1 hts gX11_poll_X11_ends rfl rfl rfl (by decide +kernel) ⟨(Nat.le_of_ble_eq_true rfl), (Nat.le_of_ble_eq_true rfl)⟩) (xPreV hKN hP hD [0, 1, 2, 3, 4, 5, 6, 7, 8, 9, 10, 11, 12, 13, 14, 15, 16] (by decide) rfl (q0 := 0) rfl rfl rfl) rfl rfl hl.1 rfl (lv_room (Nat.le_of_ble_eq_true rfl)) dX11_poll_52 ⟨(Nat.le_of_ble_eq_true rfl), (Nat.le_of_ble_eq_true rfl)⟩) hP hD hS hA [0, 1, 2, 3, 4, 5, 6, 7, 8, 9, 10, 11, 12, 13, 14, 15, 16] [] rfl rfl (by decide) (by decide) (fun r52 u52 H locs hu52 hP hD hS => ?_)
            obtain ⟨er52, eu52⟩ := hu52
            have eu52 := eu52.symm
            subst eu52
            have hP : va_P D vwCl (wQx ca b 0 q.oo q.zz q.ks q.vs q.cg q.hw q.lo q.hg q.wk q.kw q.mn q.gv q.cp q.ho q.nk q.nv) H := hP
            have hD : va_D A (wQx ca b 0 q.oo q.zz q.ks q.vs q.cg q.hw q.lo q.hg q.wk q.kw q.mn q.gv q.cp q.ho q.nk q.nv) := hD
            have er52 : r52 = nI (endR (ab q j)) := er52
            subst er52
            refine lv_iconst (v := 1) hx hb dX11_poll_55 (by decide) ?_
            refine lv_isub hx hb dX11_poll_56 ?_
            refine xr_top (y := nI ((endR (ab q j)) - 1)) (pk_sub (a := endR (ab q j)) (b := 1) (by omega)) ?_
            refine lv_goto (tgt := 65) hx hb dX11_poll_57 (by decide) ?_
            refine xc_i (wr := []) (va_runV (As := [.int (nI j), .int (nI ((endR (ab q j)) - 1))]) (rest := []) ⟨hx, hb, hml, hown, hts⟩ (c_X11_close l D ca b _ (0, q.oo, q.zz, q.ks, q.vs, q.cg, q.hw, q.lo, q.hg, q.wk, q.kw, q.mn, q.gv, q.cp, q.ho, q.nk, q.nv) j ((endR (ab q j)) - 1) hq hj (by show _ < q.zz j; omega)) (cwV 2 hts gX11_poll_X11_close rfl rfl rfl (by decide +kernel) ⟨(Nat.le_of_ble_eq_true rfl), (Nat.le_of_ble_eq_true rfl)⟩) (xPreV hKN hP hD [0, 1, 2, 3, 4, 5, 6, 7, 8, 9, 10, 11, 12, 13, 14, 15, 16] (by decide) rfl (q0 := 0) rfl rfl rfl) rfl rfl hl.1 rfl (lv_room (Nat.le_of_ble_eq_true rfl)) dX11_poll_65 ⟨(Nat.le_of_ble_eq_true rfl), (Nat.le_of_ble_eq_true rfl)⟩) hP hD hS hA [0, 1, 2, 3, 4, 5, 6, 7, 8, 9, 10, 11, 12, 13, 14, 15, 16] [] rfl rfl (by decide) (by decide) (fun r65 u65 H locs hu65 hP hD hS => ?_)
            obtain ⟨er65, hw65, hc65, ha65⟩ := hu65
            have er65 : r65 = q.ks (64 * j + ((endR (ab q j)) - 1)) := er65
            subst er65
            have hP : va_P D vwCl (wQ ca b u65) H := hP
            have hD : va_D A (wQ ca b u65) := hD
            exact W.iret (v := (q.ks (64 * j + ((endR (ab q j)) - 1)))) hx hb hr (fun t9 e9 w9 => ⟨⟨_, u65, rfl, by first | exact PO_by hj (F_poll_1 c22 c47 (congrArg Prod.fst (row_getD j (by omega)))) hw65 hc65 ha65 | exact PO_by hj (F_poll_2 c22 c47 (congrArg Prod.fst (row_getD j (by omega)))) hw65 hc65 ha65, by rw [e9]; exact hP, hD⟩, hS.F e9⟩) hS.2.2 dX11_poll_68
        · skip
          exact absurd c37 (by decide)
      · skip
        have c22 : (begR (ab q j)) = (endR (ab q j)) := (xn_eq (a := (begR (ab q j))) (b := (endR (ab q j))) (Nat.lt_of_le_of_lt (be60 (q := q) hq j) (by decide)) (Nat.lt_of_le_of_lt (en60 (q := q) hq j) (by decide))).mp c22
        refine lv_iconst (v := 2) hx hb dX11_poll_25 (by decide) ?_
        refine lv_goto (tgt := 30) hx hb dX11_poll_26 (by decide) ?_
        refine va_put (D := D) (ci := 9) (v := .int 2) (ty := .int) (C := RX11) (T := TX11) (N := 17) hx hb hts inX11 tyX11 tyX11_ok nmX11 hown hKN.1 hP hD hS 0 rfl rfl 0 (by decide) (hts (.fieldLink RX11 59 "TreeFamilyModel" "code" "I") (by decide +kernel)) (fun _ h9 => h9) rfl (by decide +kernel) rfl rfl (Nat.le_of_ble_eq_true rfl) dX11_poll_30 (fun H locs hP hD hS => ?_)
        have hP : va_P D vwCl (wQx ca b 2 q.oo q.zz q.ks q.vs q.cg q.hw q.lo q.hg q.wk q.kw q.mn q.gv q.cp q.ho q.nk q.nv) H := hP
        have hD : va_D A (wQx ca b 2 q.oo q.zz q.ks q.vs q.cg q.hw q.lo q.hg q.wk q.kw q.mn q.gv q.cp q.ho q.nk q.nv) := hD
        refine lv_aload_n hx hb dX11_poll_33 rfl (lv_at hl 0 rfl) ?_
        refine va_get (D := D) (ci := 9) (v := .int 2) (C := RX11) (T := TX11) (N := 17) hx hb hts inX11 hown hKN.1 hP 0 rfl rfl 0 (by decide) (hts (.fieldLink RX11 59 "TreeFamilyModel" "code" "I") (by decide +kernel)) (fun _ h9 => h9) rfl dX11_poll_34 ?_
        refine lv_if_le (tgt := 44) hx hb dX11_poll_37 (by decide) (fun c37 => ?_) (fun c37 => ?_)
        · skip
          exact absurd c37 (by decide)
        · skip
          refine lv_iconst (v := 0) hx hb dX11_poll_40 (by decide) ?_
          refine lv_goto (tgt := 68) hx hb dX11_poll_41 (by decide) ?_
          exact W.iret (v := 0) hx hb hr (fun t9 e9 w9 => ⟨⟨_, (2, q.oo, q.zz, q.ks, q.vs, q.cg, q.hw, q.lo, q.hg, q.wk, q.kw, q.mn, q.gv, q.cp, q.ho, q.nk, q.nv), rfl, PO_same hj (F_poll_0 c22) hq rfl rfl, by rw [e9]; exact hP, hD⟩, hS.F e9⟩) hS.2.2 dX11_poll_68
    · skip
      exact absurd c5 (by decide)

-- TreeFamilyModel.iterate
set_option maxHeartbeats 4000000 in
set_option maxRecDepth 100000 in
theorem c_X11_iterate (l : Launch) (D : va_G) (ca : Nat → ClassId) (b : Nat → Nat) (sz : Nat) (q : QS) (b0 : Bool) (mm : Int32) (hq : WQ q) : Met l yX11_iterate wsX11_iterate ({ frames := 3, cells := 0, slots := 0, locals := 67 } : Room) (xPc D (TY ca) [.ref (b 0), .int mm, .int (bI b0)] (wQ ca b q) sz) (va_Qv (fun u : QS => PO () (F_iterate b0) mm q () u) (xB D (wQ ca b) (va_A (wQ ca b q) sz)) (va_A (wQ ca b q) sz)) 0 0 (va_A (wQ ca b q) sz) := by
  refine Met.ofW (cc := cX11_iterate) (maxL := 6) (ret := none) (by decide) rfl ?_
  intro p e s m args below meth c s₁ B hml hv
  obtain ⟨rfl, hsz, hP, hKN, hD0⟩ := hv
  have hx := B.exec
  have hb := B.bytes
  have hr := B.returns
  have hts := atoms_spec (ws := wsX11_iterate) B.pre
  have hown : s.vm.findClass RX11 = some m.cls := findClass_of_methodNamed B.named
  have hlocks := B.notSynchronized
  have inX11 : ∀ w ∈ wsX110, w ∈ wsX11_iterate := by decide +kernel
  subst hsz
  have hD := hD0.self (sz := s.heap.size)
  generalize hAe : va_A (wQ ca b q) s.heap.size = A at hD ⊢
  have hA : ∀ q : Nat, s.heap.size ≤ q → A q := fun q h => by rw [← hAe]; exact Or.inr h
  have hS : va_S A s.heap s.heap [] := va_S.rf
  have hl := lv_entry ([.ref (b 0), .int mm, .int (bI b0)]) (n := 6) (Nat.le_of_ble_eq_true rfl)
  rw [lg_entry_eq]
  generalize (lg_sl ([.ref (b 0), .int mm, .int (bI b0)]) ++ List.replicate (6 - (lg_sl ([.ref (b 0), .int mm, .int (bI b0)])).length) Slot.unset).toArray = ls at hl ⊢
  have hl : lv_has ls 6 [(0, .ref (b 0)), (1, .int mm), (2, .int (bI b0))] := hl
  rcases isB3 mm with hmm | ⟨j, hj, hmj⟩
  · skip
    refine lv_aload_n hx hb dX11_iterate_0 rfl (lv_at hl 0 rfl) ?_
    refine lv_iload_n hx hb dX11_iterate_1 rfl (lv_at hl 1 rfl) ?_
    refine xs_i (va_runS (As := [.int mm]) (rest := [.ref (b 0)]) ⟨hx, hb, hml, hown, hts⟩ (c_X11_isMap l _) (va_cwS 1 hts gX11_iterate_X11_isMap rfl rfl rfl (by decide +kernel) ⟨(Nat.le_of_ble_eq_true rfl), (Nat.le_of_ble_eq_true rfl)⟩) xPreT rfl rfl hl.1 rfl (lv_room (Nat.le_of_ble_eq_true rfl)) dX11_iterate_2 ⟨(Nat.le_of_ble_eq_true rfl), (Nat.le_of_ble_eq_true rfl)⟩) (fun r2 er2 => ?_)
    subst er2
    refine xr_top (y := 0) (by rw [hmm]; rfl) ?_
    refine lv_if_eq (tgt := 12) hx hb dX11_iterate_5 (by decide) (fun c5 => ?_) (fun c5 => ?_)
    · skip
      refine lv_iconst (v := 1) hx hb dX11_iterate_12 (by decide) ?_
      refine va_put (D := D) (ci := 9) (v := .int 1) (ty := .int) (C := RX11) (T := TX11) (N := 17) hx hb hts inX11 tyX11 tyX11_ok nmX11 hown hKN.1 hP hD hS 0 rfl rfl 0 (by decide) (hts (.fieldLink RX11 59 "TreeFamilyModel" "code" "I") (by decide +kernel)) (fun _ h9 => h9) rfl (by decide +kernel) rfl rfl (Nat.le_of_ble_eq_true rfl) dX11_iterate_13 (fun H locs hP hD hS => ?_)
      have hP : va_P D vwCl (wQx ca b 1 q.oo q.zz q.ks q.vs q.cg q.hw q.lo q.hg q.wk q.kw q.mn q.gv q.cp q.ho q.nk q.nv) H := hP
      have hD : va_D A (wQx ca b 1 q.oo q.zz q.ks q.vs q.cg q.hw q.lo q.hg q.wk q.kw q.mn q.gv q.cp q.ho q.nk q.nv) := hD
      refine lv_aload_n hx hb dX11_iterate_16 rfl (lv_at hl 0 rfl) ?_
      refine va_get (D := D) (ci := 9) (v := .int 1) (C := RX11) (T := TX11) (N := 17) hx hb hts inX11 hown hKN.1 hP 0 rfl rfl 0 (by decide) (hts (.fieldLink RX11 59 "TreeFamilyModel" "code" "I") (by decide +kernel)) (fun _ h9 => h9) rfl dX11_iterate_17 ?_
      refine lv_if_le (tgt := 24) hx hb dX11_iterate_20 (by decide) (fun c20 => ?_) (fun c20 => ?_)
      · skip
        exact absurd c20 (by decide)
      · skip
        exact W.vret hx hb hr (fun t9 e9 w9 => ⟨⟨(1, q.oo, q.zz, q.ks, q.vs, q.cg, q.hw, q.lo, q.hg, q.wk, q.kw, q.mn, q.gv, q.cp, q.ho, q.nk, q.nv), rfl, PO_bad hmm hq rfl rfl rfl, by rw [e9]; exact hP, hD⟩, hS.F e9⟩) hS.2.2 dX11_iterate_23
    · skip
      exact absurd c5 (by decide)
  · subst hmj
    have hz6 := hq.1 j
    have hh3 := hq.2.1 j
    refine lv_aload_n hx hb dX11_iterate_0 rfl (lv_at hl 0 rfl) ?_
    refine lv_iload_n hx hb dX11_iterate_1 rfl (lv_at hl 1 rfl) ?_
    refine xs_i (va_runS (As := [.int (nI j)]) (rest := [.ref (b 0)]) ⟨hx, hb, hml, hown, hts⟩ (c_X11_isMap l _) (va_cwS 1 hts gX11_iterate_X11_isMap rfl rfl rfl (by decide +kernel) ⟨(Nat.le_of_ble_eq_true rfl), (Nat.le_of_ble_eq_true rfl)⟩) xPreT rfl rfl hl.1 rfl (lv_room (Nat.le_of_ble_eq_true rfl)) dX11_iterate_2 ⟨(Nat.le_of_ble_eq_true rfl), (Nat.le_of_ble_eq_true rfl)⟩) (fun r2 er2 => ?_)
    subst er2
    refine xr_top (y := 1) (by rw [isB3_ok hj]; rfl) ?_
    refine lv_if_eq (tgt := 12) hx hb dX11_iterate_5 (by decide) (fun c5 => ?_) (fun c5 => ?_)
    · skip
      exact absurd c5 (by decide)
    · skip
      refine lv_iconst (v := 0) hx hb dX11_iterate_8 (by decide) ?_
      refine lv_goto (tgt := 13) hx hb dX11_iterate_9 (by decide) ?_
      refine va_put (D := D) (ci := 9) (v := .int 0) (ty := .int) (C := RX11) (T := TX11) (N := 17) hx hb hts inX11 tyX11 tyX11_ok nmX11 hown hKN.1 hP hD hS 0 rfl rfl 0 (by decide) (hts (.fieldLink RX11 59 "TreeFamilyModel" "code" "I") (by decide +kernel)) (fun _ h9 => h9) rfl (by decide +kernel) rfl rfl (Nat.le_of_ble_eq_true rfl) dX11_iterate_13 (fun H locs hP hD hS => ?_)
      have hP : va_P D vwCl (wQx ca b 0 q.oo q.zz q.ks q.vs q.cg q.hw q.lo q.hg q.wk q.kw q.mn q.gv q.cp q.ho q.nk q.nv) H := hP
      have hD : va_D A (wQx ca b 0 q.oo q.zz q.ks q.vs q.cg q.hw q.lo q.hg q.wk q.kw q.mn q.gv q.cp q.ho q.nk q.nv) := hD
      refine lv_aload_n hx hb dX11_iterate_16 rfl (lv_at hl 0 rfl) ?_
      refine va_get (D := D) (ci := 9) (v := .int 0) (C := RX11) (T := TX11) (N := 17) hx hb hts inX11 hown hKN.1 hP 0 rfl rfl 0 (by decide) (hts (.fieldLink RX11 59 "TreeFamilyModel" "code" "I") (by decide +kernel)) (fun _ h9 => h9) rfl dX11_iterate_17 ?_
      refine lv_if_le (tgt := 24) hx hb dX11_iterate_20 (by decide) (fun c20 => ?_) (fun c20 => ?_)
      · skip
        refine lv_aload_n hx hb dX11_iterate_24 rfl (lv_at hl 0 rfl) ?_
        refine lv_iload_n hx hb dX11_iterate_25 rfl (lv_at hl 1 rfl) ?_
        refine xc_i (wr := []) (va_runV (As := [.int (nI j)]) (rest := []) ⟨hx, hb, hml, hown, hts⟩ (c_X11_begins l D ca b _ (0, q.oo, q.zz, q.ks, q.vs, q.cg, q.hw, q.lo, q.hg, q.wk, q.kw, q.mn, q.gv, q.cp, q.ho, q.nk, q.nv) j hq hj) (cwV 1 hts gX11_iterate_X11_begins rfl rfl rfl (by decide +kernel) ⟨(Nat.le_of_ble_eq_true rfl), (Nat.le_of_ble_eq_true rfl)⟩) (xPreV hKN hP hD [0, 1, 2, 3, 4, 5, 6, 7, 8, 9, 10, 11, 12, 13, 14, 15, 16] (by decide) rfl (q0 := 0) rfl rfl rfl) rfl rfl hl.1 rfl (lv_room (Nat.le_of_ble_eq_true rfl)) dX11_iterate_26 ⟨(Nat.le_of_ble_eq_true rfl), (Nat.le_of_ble_eq_true rfl)⟩) hP hD hS hA [0, 1, 2, 3, 4, 5, 6, 7, 8, 9, 10, 11, 12, 13, 14, 15, 16] [] rfl rfl (by decide) (by decide) (fun r26 u26 H locs hu26 hP hD hS => ?_)
        obtain ⟨er26, eu26⟩ := hu26
        have eu26 := eu26.symm
        subst eu26
        have hP : va_P D vwCl (wQx ca b 0 q.oo q.zz q.ks q.vs q.cg q.hw q.lo q.hg q.wk q.kw q.mn q.gv q.cp q.ho q.nk q.nv) H := hP
        have hD : va_D A (wQx ca b 0 q.oo q.zz q.ks q.vs q.cg q.hw q.lo q.hg q.wk q.kw q.mn q.gv q.cp q.ho q.nk q.nv) := hD
        have er26 : r26 = nI (begR (ab q j)) := er26
        subst er26
        refine lv_istore_n (lv' := [(3, .int (nI (begR (ab q j)))), (0, .ref (b 0)), (1, .int (nI j)), (2, .int (bI b0))]) hx hb dX11_iterate_29 rfl hl (by decide) rfl (fun ls hl => ?_)
        refine lv_aload_n hx hb dX11_iterate_30 rfl (lv_at hl 1 rfl) ?_
        refine lv_iload_n hx hb dX11_iterate_31 rfl (lv_at hl 2 rfl) ?_
        refine xc_i (wr := []) (va_runV (As := [.int (nI j)]) (rest := []) ⟨hx, hb, hml, hown, hts⟩ (c_X11_ends l D ca b _ (0, q.oo, q.zz, q.ks, q.vs, q.cg, q.hw, q.lo, q.hg, q.wk, q.kw, q.mn, q.gv, q.cp, q.ho, q.nk, q.nv) j hq hj) (cwV 1 hts gX11_iterate_X11_ends rfl rfl rfl (by decide +kernel) ⟨(Nat.le_of_ble_eq_true rfl), (Nat.le_of_ble_eq_true rfl)⟩) (xPreV hKN hP hD [0, 1, 2, 3, 4, 5, 6, 7, 8, 9, 10, 11, 12, 13, 14, 15, 16] (by decide) rfl (q0 := 0) rfl rfl rfl) rfl rfl hl.1 rfl (lv_room (Nat.le_of_ble_eq_true rfl)) dX11_iterate_32 ⟨(Nat.le_of_ble_eq_true rfl), (Nat.le_of_ble_eq_true rfl)⟩) hP hD hS hA [0, 1, 2, 3, 4, 5, 6, 7, 8, 9, 10, 11, 12, 13, 14, 15, 16] [] rfl rfl (by decide) (by decide) (fun r32 u32 H locs hu32 hP hD hS => ?_)
        obtain ⟨er32, eu32⟩ := hu32
        have eu32 := eu32.symm
        subst eu32
        have hP : va_P D vwCl (wQx ca b 0 q.oo q.zz q.ks q.vs q.cg q.hw q.lo q.hg q.wk q.kw q.mn q.gv q.cp q.ho q.nk q.nv) H := hP
        have hD : va_D A (wQx ca b 0 q.oo q.zz q.ks q.vs q.cg q.hw q.lo q.hg q.wk q.kw q.mn q.gv q.cp q.ho q.nk q.nv) := hD
        have er32 : r32 = nI (endR (ab q j)) := er32
        subst er32
        refine lv_istore (lv' := [(4, .int (nI (endR (ab q j)))), (3, .int (nI (begR (ab q j)))), (0, .ref (b 0)), (1, .int (nI j)), (2, .int (bI b0))]) hx hb dX11_iterate_35 hl (by decide) rfl (fun ls hl => ?_)
        have hbe := beg_le_end (r := ab q j) (hq.2.1 j) (hq.2.2.2.2 j)
        have hel := end_le (ab q j)
        rw [ab_len] at hel
        have he60 := en60 hq j
        refine lv_aload_n hx hb dX11_iterate_37 rfl (lv_at hl 2 rfl) ?_
        refine va_get (D := D) (ci := 9) (v := .ref (b 9)) (C := RX11) (T := TX11) (N := 17) hx hb hts inX11 hown hKN.1 hP 0 rfl rfl 9 (by decide) (hts (.fieldLink RX11 34 "TreeFamilyModel" "walks" "[Z") (by decide +kernel)) (fun _ h9 => h9) rfl dX11_iterate_38 ?_
        refine lv_iload_n hx hb dX11_iterate_41 rfl (lv_at hl 3 rfl) ?_
        refine lv_iconst (v := 1) hx hb dX11_iterate_42 (by decide) ?_
        refine xr_bst hx hb hKN.1 hP hD hS 9 2 (g := q.wk) (v := true) rfl rfl (j := j) (by omega) (by decide) dX11_iterate_43 (fun H locs hP hD hS => ?_)
        have hP : va_P D vwCl (wQx ca b 0 q.oo q.zz q.ks q.vs q.cg q.hw q.lo q.hg (va_up q.wk j true) q.kw q.mn q.gv q.cp q.ho q.nk q.nv) H := hP
        have hD : va_D A (wQx ca b 0 q.oo q.zz q.ks q.vs q.cg q.hw q.lo q.hg (va_up q.wk j true) q.kw q.mn q.gv q.cp q.ho q.nk q.nv) := hD
        refine lv_aload_n hx hb dX11_iterate_44 rfl (lv_at hl 2 rfl) ?_
        refine va_get (D := D) (ci := 9) (v := .ref (b 10)) (C := RX11) (T := TX11) (N := 17) hx hb hts inX11 hown hKN.1 hP 0 rfl rfl 10 (by decide) (hts (.fieldLink RX11 38 "TreeFamilyModel" "knows" "[I") (by decide +kernel)) (fun _ h9 => h9) rfl dX11_iterate_45 ?_
        refine lv_iload_n hx hb dX11_iterate_48 rfl (lv_at hl 3 rfl) ?_
        refine lv_aload_n hx hb dX11_iterate_49 rfl (lv_at hl 2 rfl) ?_
        refine va_get (D := D) (ci := 9) (v := .ref (b 5)) (C := RX11) (T := TX11) (N := 17) hx hb hts inX11 hown hKN.1 hP 0 rfl rfl 5 (by decide) (hts (.fieldLink RX11 22 "TreeFamilyModel" "changes" "[I") (by decide +kernel)) (fun _ h9 => h9) rfl dX11_iterate_50 ?_
        refine lv_iload_n hx hb dX11_iterate_53 rfl (lv_at hl 3 rfl) ?_
        refine xr_ild hx hb hKN.1 hP 5 0 rfl rfl (j := j) (by omega) (by decide) dX11_iterate_54 ?_
        refine xr_ist hx hb hKN.1 hP hD hS 10 0 rfl rfl (j := j) (by omega) (by decide) dX11_iterate_55 (fun H locs hP hD hS => ?_)
        have hP : va_P D vwCl (wQx ca b 0 q.oo q.zz q.ks q.vs q.cg q.hw q.lo q.hg (va_up q.wk j true) (upd q.kw j (q.cg j)) q.mn q.gv q.cp q.ho q.nk q.nv) H := hP
        have hD : va_D A (wQx ca b 0 q.oo q.zz q.ks q.vs q.cg q.hw q.lo q.hg (va_up q.wk j true) (upd q.kw j (q.cg j)) q.mn q.gv q.cp q.ho q.nk q.nv) := hD
        refine lv_aload_n hx hb dX11_iterate_56 rfl (lv_at hl 2 rfl) ?_
        refine va_get (D := D) (ci := 9) (v := .ref (b 11)) (C := RX11) (T := TX11) (N := 17) hx hb hts inX11 hown hKN.1 hP 0 rfl rfl 11 (by decide) (hts (.fieldLink RX11 41 "TreeFamilyModel" "many" "[I") (by decide +kernel)) (fun _ h9 => h9) rfl dX11_iterate_57 ?_
        refine lv_iload_n hx hb dX11_iterate_60 rfl (lv_at hl 3 rfl) ?_
        refine lv_iload hx hb dX11_iterate_61 (lv_at hl 0 rfl) ?_
        refine lv_iload_n hx hb dX11_iterate_63 rfl (lv_at hl 1 rfl) ?_
        refine lv_isub hx hb dX11_iterate_64 ?_
        refine xr_top (y := nI ((endR (ab q j)) - (begR (ab q j)))) (pk_sub (a := endR (ab q j)) (b := begR (ab q j)) (by omega)) ?_
        refine xr_nst hx hb hKN.1 hP hD hS 11 0 (g := q.mn) rfl rfl (j := j) (v := (endR (ab q j)) - (begR (ab q j))) (by omega) (by decide) dX11_iterate_65 (fun H locs hP hD hS => ?_)
        have hP : va_P D vwCl (wQx ca b 0 q.oo q.zz q.ks q.vs q.cg q.hw q.lo q.hg (va_up q.wk j true) (upd q.kw j (q.cg j)) (va_up q.mn j ((endR (ab q j)) - (begR (ab q j)))) q.gv q.cp q.ho q.nk q.nv) H := hP
        have hD : va_D A (wQx ca b 0 q.oo q.zz q.ks q.vs q.cg q.hw q.lo q.hg (va_up q.wk j true) (upd q.kw j (q.cg j)) (va_up q.mn j ((endR (ab q j)) - (begR (ab q j)))) q.gv q.cp q.ho q.nk q.nv) := hD
        refine lv_aload_n hx hb dX11_iterate_66 rfl (lv_at hl 2 rfl) ?_
        refine va_get (D := D) (ci := 9) (v := .ref (b 12)) (C := RX11) (T := TX11) (N := 17) hx hb hts inX11 hown hKN.1 hP 0 rfl rfl 12 (by decide) (hts (.fieldLink RX11 44 "TreeFamilyModel" "given" "[I") (by decide +kernel)) (fun _ h9 => h9) rfl dX11_iterate_67 ?_
        refine lv_iload_n hx hb dX11_iterate_70 rfl (lv_at hl 3 rfl) ?_
        refine lv_iconst (v := 0) hx hb dX11_iterate_71 (by decide) ?_
        refine xr_nst hx hb hKN.1 hP hD hS 12 0 (g := q.gv) rfl rfl (j := j) (v := 0) (by omega) (by decide) dX11_iterate_72 (fun H locs hP hD hS => ?_)
        have hP : va_P D vwCl (wQx ca b 0 q.oo q.zz q.ks q.vs q.cg q.hw q.lo q.hg (va_up q.wk j true) (upd q.kw j (q.cg j)) (va_up q.mn j ((endR (ab q j)) - (begR (ab q j)))) (va_up q.gv j 0) q.cp q.ho q.nk q.nv) H := hP
        have hD : va_D A (wQx ca b 0 q.oo q.zz q.ks q.vs q.cg q.hw q.lo q.hg (va_up q.wk j true) (upd q.kw j (q.cg j)) (va_up q.mn j ((endR (ab q j)) - (begR (ab q j)))) (va_up q.gv j 0) q.cp q.ho q.nk q.nv) := hD
        refine lv_aload_n hx hb dX11_iterate_73 rfl (lv_at hl 2 rfl) ?_
        refine va_get (D := D) (ci := 9) (v := .ref (b 14)) (C := RX11) (T := TX11) (N := 17) hx hb hts inX11 hown hKN.1 hP 0 rfl rfl 14 (by decide) (hts (.fieldLink RX11 50 "TreeFamilyModel" "holds" "[Z") (by decide +kernel)) (fun _ h9 => h9) rfl dX11_iterate_74 ?_
        refine lv_iload_n hx hb dX11_iterate_77 rfl (lv_at hl 3 rfl) ?_
        refine lv_iconst (v := 0) hx hb dX11_iterate_78 (by decide) ?_
        refine xr_bst hx hb hKN.1 hP hD hS 14 2 (g := q.ho) (v := false) rfl rfl (j := j) (by omega) (by decide) dX11_iterate_79 (fun H locs hP hD hS => ?_)
        have hP : va_P D vwCl (wQx ca b 0 q.oo q.zz q.ks q.vs q.cg q.hw q.lo q.hg (va_up q.wk j true) (upd q.kw j (q.cg j)) (va_up q.mn j ((endR (ab q j)) - (begR (ab q j)))) (va_up q.gv j 0) q.cp (va_up q.ho j false) q.nk q.nv) H := hP
        have hD : va_D A (wQx ca b 0 q.oo q.zz q.ks q.vs q.cg q.hw q.lo q.hg (va_up q.wk j true) (upd q.kw j (q.cg j)) (va_up q.mn j ((endR (ab q j)) - (begR (ab q j)))) (va_up q.gv j 0) q.cp (va_up q.ho j false) q.nk q.nv) := hD
        refine lv_iconst (v := 0) hx hb dX11_iterate_80 (by decide) ?_
        refine lv_istore (lv' := [(5, .int 0), (4, .int (nI (endR (ab q j)))), (3, .int (nI (begR (ab q j)))), (0, .ref (b 0)), (1, .int (nI j)), (2, .int (bI b0))]) hx hb dX11_iterate_81 hl (by decide) rfl (fun ls hl => ?_)
        refine xl 83 (σ := Nat × (Nat → Int32)) (fun n u H locs ls => match u with | (i, f) => i + n = endR (ab q j) - begR (ab q j) ∧ cpI q j b0 f i ∧ va_P D vwCl (wQx ca b 0 q.oo q.zz q.ks q.vs q.cg q.hw q.lo q.hg (va_up q.wk j true) (upd q.kw j (q.cg j)) (va_up q.mn j ((endR (ab q j)) - (begR (ab q j)))) (va_up q.gv j 0) f (va_up q.ho j false) q.nk q.nv) H ∧ va_D A (wQx ca b 0 q.oo q.zz q.ks q.vs q.cg q.hw q.lo q.hg (va_up q.wk j true) (upd q.kw j (q.cg j)) (va_up q.mn j ((endR (ab q j)) - (begR (ab q j)))) (va_up q.gv j 0) f (va_up q.ho j false) q.nk q.nv) ∧ va_S A s.heap H locs ∧ lv_has ls 6 [(0, .ref (b 0)), (1, .int (nI j)), (2, .int (bI b0)), (3, .int (nI (begR (ab q j)))), (4, .int (nI (endR (ab q j)))), (5, .int (nI i))]) ?_ (endR (ab q j) - begR (ab q j)) (0, q.cp) _ _ _ ⟨(by omega), (cpI_0 q j b0), hP, hD, hS, lv_sub hl [3, 4, 5, 2, 1, 0] rfl⟩
        clear hP hD hS hl
        intro n ih u H locs ls hI
        obtain ⟨i, f⟩ := u
        obtain ⟨hn, hf, hP, hD, hS, hl⟩ := hI
        refine lv_iload hx hb dX11_iterate_83 (lv_at hl 5 rfl) ?_
        refine lv_iload hx hb dX11_iterate_85 (lv_at hl 4 rfl) ?_
        refine lv_iload_n hx hb dX11_iterate_87 rfl (lv_at hl 3 rfl) ?_
        refine lv_isub hx hb dX11_iterate_88 ?_
        refine xr_top (y := nI ((endR (ab q j)) - (begR (ab q j)))) (pk_sub (a := endR (ab q j)) (b := begR (ab q j)) (by omega)) ?_
        refine lv_icmp_ge (tgt := 138) hx hb dX11_iterate_89 (by decide) (fun c89 => ?_) (fun c89 => ?_)
        · skip
          have c89 : ((endR (ab q j)) - (begR (ab q j))) ≤ i := (xn_le (a := ((endR (ab q j)) - (begR (ab q j)))) (b := i) (by omega) (by omega)).mp c89
          exact W.vret hx hb hr (fun t9 e9 w9 => ⟨⟨(0, q.oo, q.zz, q.ks, q.vs, q.cg, q.hw, q.lo, q.hg, (va_up q.wk j true), (upd q.kw j (q.cg j)), (va_up q.mn j ((endR (ab q j)) - (begR (ab q j)))), (va_up q.gv j 0), f, (va_up q.ho j false), q.nk, q.nv), rfl, (by obtain rfl : i = endR (ab q j) - begR (ab q j) := (by omega); exact PO_by hj rfl (wq_iter hq (by omega)) rfl (ab_iter hq (cpI_col hf rfl) (cpI_far hf (by omega)))), by rw [e9]; exact hP, hD⟩, hS.F e9⟩) hS.2.2 dX11_iterate_138
        · skip
          have c89 : ¬ ((endR (ab q j)) - (begR (ab q j))) ≤ i := fun h9 => c89 ((xn_le (a := ((endR (ab q j)) - (begR (ab q j)))) (b := i) (by omega) (by omega)).mpr h9)
          obtain ⟨n, rfl⟩ : ∃ k, n = k + 1 := ⟨n - 1, by omega⟩
          refine lv_aload_n hx hb dX11_iterate_92 rfl (lv_at hl 0 rfl) ?_
          refine va_get (D := D) (ci := 9) (v := .ref (b 13)) (C := RX11) (T := TX11) (N := 17) hx hb hts inX11 hown hKN.1 hP 0 rfl rfl 13 (by decide) (hts (.fieldLink RX11 47 "TreeFamilyModel" "copy" "[I") (by decide +kernel)) (fun _ h9 => h9) rfl dX11_iterate_93 ?_
          refine lv_bipush (v := 64) hx hb dX11_iterate_96 (by decide) ?_
          refine lv_iload_n hx hb dX11_iterate_98 rfl (lv_at hl 1 rfl) ?_
          refine lv_imul hx hb dX11_iterate_99 ?_
          refine xr_top (y := nI (64 * j)) (pk_mul 64 j) ?_
          refine lv_iload hx hb dX11_iterate_100 (lv_at hl 5 rfl) ?_
          refine lv_iadd hx hb dX11_iterate_102 ?_
          refine xr_top (y := nI ((64 * j) + i)) (nI_add (64 * j) i) ?_
          refine lv_aload_n hx hb dX11_iterate_103 rfl (lv_at hl 0 rfl) ?_
          refine va_get (D := D) (ci := 9) (v := .ref (b 3)) (C := RX11) (T := TX11) (N := 17) hx hb hts inX11 hown hKN.1 hP 0 rfl rfl 3 (by decide) (hts (.fieldLink RX11 16 "TreeFamilyModel" "keys" "[I") (by decide +kernel)) (fun _ h9 => h9) rfl dX11_iterate_104 ?_
          refine lv_bipush (v := 64) hx hb dX11_iterate_107 (by decide) ?_
          refine lv_iload_n hx hb dX11_iterate_109 rfl (lv_at hl 1 rfl) ?_
          refine lv_imul hx hb dX11_iterate_110 ?_
          refine xr_top (y := nI (64 * j)) (pk_mul 64 j) ?_
          refine lv_iload_n hx hb dX11_iterate_111 rfl (lv_at hl 2 rfl) ?_
          refine lv_if_eq (tgt := 125) hx hb dX11_iterate_112 (by decide) (fun c112 => ?_) (fun c112 => ?_)
          · skip
            have c112 := bI_0.mp c112
            refine lv_iload_n hx hb dX11_iterate_125 rfl (lv_at hl 3 rfl) ?_
            refine lv_iload hx hb dX11_iterate_126 (lv_at hl 5 rfl) ?_
            refine lv_iadd hx hb dX11_iterate_128 ?_
            refine xr_top (y := nI ((begR (ab q j)) + i)) (nI_add (begR (ab q j)) i) ?_
            refine lv_iadd hx hb dX11_iterate_129 ?_
            refine xr_top (y := nI ((64 * j) + ((begR (ab q j)) + i))) (nI_add (64 * j) ((begR (ab q j)) + i)) ?_
            refine xr_ild hx hb hKN.1 hP 3 0 rfl rfl (j := (64 * j) + ((begR (ab q j)) + i)) (by omega) (by decide) dX11_iterate_130 ?_
            refine xr_ist hx hb hKN.1 hP hD hS 13 0 rfl rfl (j := (64 * j) + i) (by omega) (by decide) dX11_iterate_131 (fun H locs hP hD hS => ?_)
            have hP : va_P D vwCl (wQx ca b 0 q.oo q.zz q.ks q.vs q.cg q.hw q.lo q.hg (va_up q.wk j true) (upd q.kw j (q.cg j)) (va_up q.mn j ((endR (ab q j)) - (begR (ab q j)))) (va_up q.gv j 0) (upd f ((64 * j) + i) (q.ks ((64 * j) + ((begR (ab q j)) + i)))) (va_up q.ho j false) q.nk q.nv) H := hP
            have hD : va_D A (wQx ca b 0 q.oo q.zz q.ks q.vs q.cg q.hw q.lo q.hg (va_up q.wk j true) (upd q.kw j (q.cg j)) (va_up q.mn j ((endR (ab q j)) - (begR (ab q j)))) (va_up q.gv j 0) (upd f ((64 * j) + i) (q.ks ((64 * j) + ((begR (ab q j)) + i)))) (va_up q.ho j false) q.nk q.nv) := hD
            refine lv_iinc (v := (nI (i + 1))) (lv' := [(5, .int (nI (i + 1))), (0, .ref (b 0)), (1, .int (nI j)), (2, .int (bI b0)), (3, .int (nI (begR (ab q j)))), (4, .int (nI (endR (ab q j))))]) hx hb dX11_iterate_132 hl (k := 5) rfl (nI_1 _) (by decide) rfl (fun ls hl => ?_)
            refine lv_goto (tgt := 83) hx hb dX11_iterate_135 (by decide) ?_
            exact ih n (by omega) (i + 1, (upd f ((64 * j) + i) (q.ks ((64 * j) + ((begR (ab q j)) + i))))) _ _ _ ⟨(by omega), (cpI_s hf (by first | (rw [if_pos c112]) | (rw [if_neg (by rw [c112]; decide)]))), hP, hD, hS, lv_sub hl [1, 2, 3, 4, 5, 0] rfl⟩
          · skip
            have c112 := bI_ne.mp c112
            refine lv_iload hx hb dX11_iterate_115 (lv_at hl 4 rfl) ?_
            refine lv_iconst (v := 1) hx hb dX11_iterate_117 (by decide) ?_
            refine lv_isub hx hb dX11_iterate_118 ?_
            refine xr_top (y := nI ((endR (ab q j)) - 1)) (pk_sub (a := endR (ab q j)) (b := 1) (by omega)) ?_
            refine lv_iload hx hb dX11_iterate_119 (lv_at hl 5 rfl) ?_
            refine lv_isub hx hb dX11_iterate_121 ?_
            refine xr_top (y := nI (((endR (ab q j)) - 1) - i)) (pk_sub (a := (endR (ab q j)) - 1) (b := i) (by omega)) ?_
            refine lv_goto (tgt := 129) hx hb dX11_iterate_122 (by decide) ?_
            refine lv_iadd hx hb dX11_iterate_129 ?_
            refine xr_top (y := nI ((64 * j) + (((endR (ab q j)) - 1) - i))) (nI_add (64 * j) (((endR (ab q j)) - 1) - i)) ?_
            refine xr_ild hx hb hKN.1 hP 3 0 rfl rfl (j := (64 * j) + (((endR (ab q j)) - 1) - i)) (by omega) (by decide) dX11_iterate_130 ?_
            refine xr_ist hx hb hKN.1 hP hD hS 13 0 rfl rfl (j := (64 * j) + i) (by omega) (by decide) dX11_iterate_131 (fun H locs hP hD hS => ?_)
            have hP : va_P D vwCl (wQx ca b 0 q.oo q.zz q.ks q.vs q.cg q.hw q.lo q.hg (va_up q.wk j true) (upd q.kw j (q.cg j)) (va_up q.mn j ((endR (ab q j)) - (begR (ab q j)))) (va_up q.gv j 0) (upd f ((64 * j) + i) (q.ks ((64 * j) + (((endR (ab q j)) - 1) - i)))) (va_up q.ho j false) q.nk q.nv) H := hP
            have hD : va_D A (wQx ca b 0 q.oo q.zz q.ks q.vs q.cg q.hw q.lo q.hg (va_up q.wk j true) (upd q.kw j (q.cg j)) (va_up q.mn j ((endR (ab q j)) - (begR (ab q j)))) (va_up q.gv j 0) (upd f ((64 * j) + i) (q.ks ((64 * j) + (((endR (ab q j)) - 1) - i)))) (va_up q.ho j false) q.nk q.nv) := hD
            refine lv_iinc (v := (nI (i + 1))) (lv' := [(5, .int (nI (i + 1))), (0, .ref (b 0)), (1, .int (nI j)), (2, .int (bI b0)), (3, .int (nI (begR (ab q j)))), (4, .int (nI (endR (ab q j))))]) hx hb dX11_iterate_132 hl (k := 5) rfl (nI_1 _) (by decide) rfl (fun ls hl => ?_)
            refine lv_goto (tgt := 83) hx hb dX11_iterate_135 (by decide) ?_
            exact ih n (by omega) (i + 1, (upd f ((64 * j) + i) (q.ks ((64 * j) + (((endR (ab q j)) - 1) - i))))) _ _ _ ⟨(by omega), (cpI_s hf (by first | (rw [if_pos c112]) | (rw [if_neg (by rw [c112]; decide)]))), hP, hD, hS, lv_sub hl [1, 2, 3, 4, 5, 0] rfl⟩
      · skip
        exact absurd c20 (by decide)

-- TreeFamilyModel.next
set_option maxHeartbeats 4000000 in
set_option maxRecDepth 100000 in
theorem c_X11_next (l : Launch) (D : va_G) (ca : Nat → ClassId) (b : Nat → Nat) (sz : Nat) (q : QS) (mm : Int32) (hq : WQ q) : Met l yX11_next wsX11_next ({ frames := 1, cells := 0, slots := 0, locals := 20 } : Room) (xPc D (TY ca) [.ref (b 0), .int mm] (wQ ca b q) sz) (va_Qi (fun (r : Int32) (u : QS) => PO 0 (F_next) mm q r u) (xB D (wQ ca b) (va_A (wQ ca b q) sz)) (va_A (wQ ca b q) sz)) 0 0 (va_A (wQ ca b q) sz) := by
  refine Met.ofW (cc := cX11_next) (maxL := 2) (ret := (some .int)) (by decide) rfl ?_
  intro p e s m args below meth c s₁ B hml hv
  obtain ⟨rfl, hsz, hP, hKN, hD0⟩ := hv
  have hx := B.exec
  have hb := B.bytes
  have hr := B.returns
  have hts := atoms_spec (ws := wsX11_next) B.pre
  have hown : s.vm.findClass RX11 = some m.cls := findClass_of_methodNamed B.named
  have hlocks := B.notSynchronized
  have inX11 : ∀ w ∈ wsX110, w ∈ wsX11_next := by decide +kernel
  subst hsz
  have hD := hD0.self (sz := s.heap.size)
  generalize hAe : va_A (wQ ca b q) s.heap.size = A at hD ⊢
  have hA : ∀ q : Nat, s.heap.size ≤ q → A q := fun q h => by rw [← hAe]; exact Or.inr h
  have hS : va_S A s.heap s.heap [] := va_S.rf
  have hl := lv_entry ([.ref (b 0), .int mm]) (n := 2) (Nat.le_of_ble_eq_true rfl)
  rw [lg_entry_eq]
  generalize (lg_sl ([.ref (b 0), .int mm]) ++ List.replicate (2 - (lg_sl ([.ref (b 0), .int mm])).length) Slot.unset).toArray = ls at hl ⊢
  have hl : lv_has ls 2 [(0, .ref (b 0)), (1, .int mm)] := hl
  rcases isB3 mm with hmm | ⟨j, hj, hmj⟩
  · skip
    refine lv_aload_n hx hb dX11_next_0 rfl (lv_at hl 0 rfl) ?_
    refine lv_iload_n hx hb dX11_next_1 rfl (lv_at hl 1 rfl) ?_
    refine xs_i (va_runS (As := [.int mm]) (rest := [.ref (b 0)]) ⟨hx, hb, hml, hown, hts⟩ (c_X11_isMap l _) (va_cwS 1 hts gX11_next_X11_isMap rfl rfl rfl (by decide +kernel) ⟨(Nat.le_of_ble_eq_true rfl), (Nat.le_of_ble_eq_true rfl)⟩) xPreT rfl rfl hl.1 rfl (lv_room (Nat.le_of_ble_eq_true rfl)) dX11_next_2 ⟨(Nat.le_of_ble_eq_true rfl), (Nat.le_of_ble_eq_true rfl)⟩) (fun r2 er2 => ?_)
    subst er2
    refine xr_top (y := 0) (by rw [hmm]; rfl) ?_
    refine lv_if_ne (tgt := 12) hx hb dX11_next_5 (by decide) (fun c5 => ?_) (fun c5 => ?_)
    · skip
      exact absurd c5 (by decide)
    · skip
      refine lv_iconst (v := 1) hx hb dX11_next_8 (by decide) ?_
      refine lv_goto (tgt := 60) hx hb dX11_next_9 (by decide) ?_
      refine va_put (D := D) (ci := 9) (v := .int 1) (ty := .int) (C := RX11) (T := TX11) (N := 17) hx hb hts inX11 tyX11 tyX11_ok nmX11 hown hKN.1 hP hD hS 0 rfl rfl 0 (by decide) (hts (.fieldLink RX11 59 "TreeFamilyModel" "code" "I") (by decide +kernel)) (fun _ h9 => h9) rfl (by decide +kernel) rfl rfl (Nat.le_of_ble_eq_true rfl) dX11_next_60 (fun H locs hP hD hS => ?_)
      have hP : va_P D vwCl (wQx ca b 1 q.oo q.zz q.ks q.vs q.cg q.hw q.lo q.hg q.wk q.kw q.mn q.gv q.cp q.ho q.nk q.nv) H := hP
      have hD : va_D A (wQx ca b 1 q.oo q.zz q.ks q.vs q.cg q.hw q.lo q.hg q.wk q.kw q.mn q.gv q.cp q.ho q.nk q.nv) := hD
      refine lv_aload_n hx hb dX11_next_63 rfl (lv_at hl 0 rfl) ?_
      refine va_get (D := D) (ci := 9) (v := .int 1) (C := RX11) (T := TX11) (N := 17) hx hb hts inX11 hown hKN.1 hP 0 rfl rfl 0 (by decide) (hts (.fieldLink RX11 59 "TreeFamilyModel" "code" "I") (by decide +kernel)) (fun _ h9 => h9) rfl dX11_next_64 ?_
      refine lv_if_le (tgt := 72) hx hb dX11_next_67 (by decide) (fun c67 => ?_) (fun c67 => ?_)
      · skip
        exact absurd c67 (by decide)
      · skip
        refine lv_iconst (v := 0) hx hb dX11_next_70 (by decide) ?_
        exact W.iret (v := 0) hx hb hr (fun t9 e9 w9 => ⟨⟨_, (1, q.oo, q.zz, q.ks, q.vs, q.cg, q.hw, q.lo, q.hg, q.wk, q.kw, q.mn, q.gv, q.cp, q.ho, q.nk, q.nv), rfl, PO_bad hmm hq rfl rfl rfl, by rw [e9]; exact hP, hD⟩, hS.F e9⟩) hS.2.2 dX11_next_71
  · subst hmj
    have hz6 := hq.1 j
    have hh3 := hq.2.1 j
    refine lv_aload_n hx hb dX11_next_0 rfl (lv_at hl 0 rfl) ?_
    refine lv_iload_n hx hb dX11_next_1 rfl (lv_at hl 1 rfl) ?_
    refine xs_i (va_runS (As := [.int (nI j)]) (rest := [.ref (b 0)]) ⟨hx, hb, hml, hown, hts⟩ (c_X11_isMap l _) (va_cwS 1 hts gX11_next_X11_isMap rfl rfl rfl (by decide +kernel) ⟨(Nat.le_of_ble_eq_true rfl), (Nat.le_of_ble_eq_true rfl)⟩) xPreT rfl rfl hl.1 rfl (lv_room (Nat.le_of_ble_eq_true rfl)) dX11_next_2 ⟨(Nat.le_of_ble_eq_true rfl), (Nat.le_of_ble_eq_true rfl)⟩) (fun r2 er2 => ?_)
    subst er2
    refine xr_top (y := 1) (by rw [isB3_ok hj]; rfl) ?_
    refine lv_if_ne (tgt := 12) hx hb dX11_next_5 (by decide) (fun c5 => ?_) (fun c5 => ?_)
    · skip
      have hg4 := hq.2.2.2.1 j
      have hm6 := hq.2.2.1 j
      refine lv_aload_n hx hb dX11_next_12 rfl (lv_at hl 0 rfl) ?_
      refine va_get (D := D) (ci := 9) (v := .ref (b 9)) (C := RX11) (T := TX11) (N := 17) hx hb hts inX11 hown hKN.1 hP 0 rfl rfl 9 (by decide) (hts (.fieldLink RX11 34 "TreeFamilyModel" "walks" "[Z") (by decide +kernel)) (fun _ h9 => h9) rfl dX11_next_13 ?_
      refine lv_iload_n hx hb dX11_next_16 rfl (lv_at hl 1 rfl) ?_
      refine xr_zld hx hb hKN.1 hP 9 2 rfl rfl (j := j) (by omega) (by decide) dX11_next_17 ?_
      refine lv_if_eq (tgt := 36) hx hb dX11_next_18 (by decide) (fun c18 => ?_) (fun c18 => ?_)
      · skip
        have c18 := bI_0.mp c18
        refine lv_iconst (v := 2) hx hb dX11_next_36 (by decide) ?_
        refine lv_goto (tgt := 60) hx hb dX11_next_37 (by decide) ?_
        refine va_put (D := D) (ci := 9) (v := .int 2) (ty := .int) (C := RX11) (T := TX11) (N := 17) hx hb hts inX11 tyX11 tyX11_ok nmX11 hown hKN.1 hP hD hS 0 rfl rfl 0 (by decide) (hts (.fieldLink RX11 59 "TreeFamilyModel" "code" "I") (by decide +kernel)) (fun _ h9 => h9) rfl (by decide +kernel) rfl rfl (Nat.le_of_ble_eq_true rfl) dX11_next_60 (fun H locs hP hD hS => ?_)
        have hP : va_P D vwCl (wQx ca b 2 q.oo q.zz q.ks q.vs q.cg q.hw q.lo q.hg q.wk q.kw q.mn q.gv q.cp q.ho q.nk q.nv) H := hP
        have hD : va_D A (wQx ca b 2 q.oo q.zz q.ks q.vs q.cg q.hw q.lo q.hg q.wk q.kw q.mn q.gv q.cp q.ho q.nk q.nv) := hD
        refine lv_aload_n hx hb dX11_next_63 rfl (lv_at hl 0 rfl) ?_
        refine va_get (D := D) (ci := 9) (v := .int 2) (C := RX11) (T := TX11) (N := 17) hx hb hts inX11 hown hKN.1 hP 0 rfl rfl 0 (by decide) (hts (.fieldLink RX11 59 "TreeFamilyModel" "code" "I") (by decide +kernel)) (fun _ h9 => h9) rfl dX11_next_64 ?_
        refine lv_if_le (tgt := 72) hx hb dX11_next_67 (by decide) (fun c67 => ?_) (fun c67 => ?_)
        · skip
          exact absurd c67 (by decide)
        · skip
          refine lv_iconst (v := 0) hx hb dX11_next_70 (by decide) ?_
          exact W.iret (v := 0) hx hb hr (fun t9 e9 w9 => ⟨⟨_, (2, q.oo, q.zz, q.ks, q.vs, q.cg, q.hw, q.lo, q.hg, q.wk, q.kw, q.mn, q.gv, q.cp, q.ho, q.nk, q.nv), rfl, by first | exact PO_same hj (F_next_2 (Or.inl c18)) hq rfl rfl | exact PO_same hj (F_next_2 (Or.inr c33)) hq rfl rfl, by rw [e9]; exact hP, hD⟩, hS.F e9⟩) hS.2.2 dX11_next_71
      · skip
        have c18 := bI_ne.mp c18
        refine lv_aload_n hx hb dX11_next_21 rfl (lv_at hl 0 rfl) ?_
        refine va_get (D := D) (ci := 9) (v := .ref (b 10)) (C := RX11) (T := TX11) (N := 17) hx hb hts inX11 hown hKN.1 hP 0 rfl rfl 10 (by decide) (hts (.fieldLink RX11 38 "TreeFamilyModel" "knows" "[I") (by decide +kernel)) (fun _ h9 => h9) rfl dX11_next_22 ?_
        refine lv_iload_n hx hb dX11_next_25 rfl (lv_at hl 1 rfl) ?_
        refine xr_ild hx hb hKN.1 hP 10 0 rfl rfl (j := j) (by omega) (by decide) dX11_next_26 ?_
        refine lv_aload_n hx hb dX11_next_27 rfl (lv_at hl 0 rfl) ?_
        refine va_get (D := D) (ci := 9) (v := .ref (b 5)) (C := RX11) (T := TX11) (N := 17) hx hb hts inX11 hown hKN.1 hP 0 rfl rfl 5 (by decide) (hts (.fieldLink RX11 22 "TreeFamilyModel" "changes" "[I") (by decide +kernel)) (fun _ h9 => h9) rfl dX11_next_28 ?_
        refine lv_iload_n hx hb dX11_next_31 rfl (lv_at hl 1 rfl) ?_
        refine xr_ild hx hb hKN.1 hP 5 0 rfl rfl (j := j) (by omega) (by decide) dX11_next_32 ?_
        refine lv_icmp_eq (tgt := 40) hx hb dX11_next_33 (by decide) (fun c33 => ?_) (fun c33 => ?_)
        · skip
          refine lv_aload_n hx hb dX11_next_40 rfl (lv_at hl 0 rfl) ?_
          refine va_get (D := D) (ci := 9) (v := .ref (b 12)) (C := RX11) (T := TX11) (N := 17) hx hb hts inX11 hown hKN.1 hP 0 rfl rfl 12 (by decide) (hts (.fieldLink RX11 44 "TreeFamilyModel" "given" "[I") (by decide +kernel)) (fun _ h9 => h9) rfl dX11_next_41 ?_
          refine lv_iload_n hx hb dX11_next_44 rfl (lv_at hl 1 rfl) ?_
          refine xr_ild hx hb hKN.1 hP 12 0 rfl rfl (j := j) (by omega) (by decide) dX11_next_45 ?_
          refine lv_aload_n hx hb dX11_next_46 rfl (lv_at hl 0 rfl) ?_
          refine va_get (D := D) (ci := 9) (v := .ref (b 11)) (C := RX11) (T := TX11) (N := 17) hx hb hts inX11 hown hKN.1 hP 0 rfl rfl 11 (by decide) (hts (.fieldLink RX11 41 "TreeFamilyModel" "many" "[I") (by decide +kernel)) (fun _ h9 => h9) rfl dX11_next_47 ?_
          refine lv_iload_n hx hb dX11_next_50 rfl (lv_at hl 1 rfl) ?_
          refine xr_ild hx hb hKN.1 hP 11 0 rfl rfl (j := j) (by omega) (by decide) dX11_next_51 ?_
          refine lv_icmp_ne (tgt := 59) hx hb dX11_next_52 (by decide) (fun c52 => ?_) (fun c52 => ?_)
          · skip
            have c52 : ¬ (q.gv j) = (q.mn j) := fun h9 => c52 ((xn_eq (a := (q.gv j)) (b := (q.mn j)) (Nat.lt_of_le_of_lt ((fun k => Nat.le_trans (hq.2.2.2.1 k) (hq.2.2.1 k)) j) (by decide)) (Nat.lt_of_le_of_lt (hq.2.2.1 j) (by decide))).mpr h9)
            refine lv_iconst (v := 0) hx hb dX11_next_59 (by decide) ?_
            refine va_put (D := D) (ci := 9) (v := .int 0) (ty := .int) (C := RX11) (T := TX11) (N := 17) hx hb hts inX11 tyX11 tyX11_ok nmX11 hown hKN.1 hP hD hS 0 rfl rfl 0 (by decide) (hts (.fieldLink RX11 59 "TreeFamilyModel" "code" "I") (by decide +kernel)) (fun _ h9 => h9) rfl (by decide +kernel) rfl rfl (Nat.le_of_ble_eq_true rfl) dX11_next_60 (fun H locs hP hD hS => ?_)
            have hP : va_P D vwCl (wQx ca b 0 q.oo q.zz q.ks q.vs q.cg q.hw q.lo q.hg q.wk q.kw q.mn q.gv q.cp q.ho q.nk q.nv) H := hP
            have hD : va_D A (wQx ca b 0 q.oo q.zz q.ks q.vs q.cg q.hw q.lo q.hg q.wk q.kw q.mn q.gv q.cp q.ho q.nk q.nv) := hD
            refine lv_aload_n hx hb dX11_next_63 rfl (lv_at hl 0 rfl) ?_
            refine va_get (D := D) (ci := 9) (v := .int 0) (C := RX11) (T := TX11) (N := 17) hx hb hts inX11 hown hKN.1 hP 0 rfl rfl 0 (by decide) (hts (.fieldLink RX11 59 "TreeFamilyModel" "code" "I") (by decide +kernel)) (fun _ h9 => h9) rfl dX11_next_64 ?_
            refine lv_if_le (tgt := 72) hx hb dX11_next_67 (by decide) (fun c67 => ?_) (fun c67 => ?_)
            · skip
              refine lv_aload_n hx hb dX11_next_72 rfl (lv_at hl 0 rfl) ?_
              refine va_get (D := D) (ci := 9) (v := .ref (b 12)) (C := RX11) (T := TX11) (N := 17) hx hb hts inX11 hown hKN.1 hP 0 rfl rfl 12 (by decide) (hts (.fieldLink RX11 44 "TreeFamilyModel" "given" "[I") (by decide +kernel)) (fun _ h9 => h9) rfl dX11_next_73 ?_
              refine lv_iload_n hx hb dX11_next_76 rfl (lv_at hl 1 rfl) ?_
              refine lv_dup2_11 hx hb dX11_next_77 rfl rfl ?_
              refine xr_ild hx hb hKN.1 hP 12 0 rfl rfl (j := j) (by omega) (by decide) dX11_next_78 ?_
              refine lv_iconst (v := 1) hx hb dX11_next_79 (by decide) ?_
              refine lv_iadd hx hb dX11_next_80 ?_
              refine xr_top (y := nI ((q.gv j) + 1)) (nI_add (q.gv j) 1) ?_
              refine xr_nst hx hb hKN.1 hP hD hS 12 0 (g := q.gv) rfl rfl (j := j) (v := (q.gv j) + 1) (by omega) (by decide) dX11_next_81 (fun H locs hP hD hS => ?_)
              have hP : va_P D vwCl (wQx ca b 0 q.oo q.zz q.ks q.vs q.cg q.hw q.lo q.hg q.wk q.kw q.mn (va_up q.gv j ((q.gv j) + 1)) q.cp q.ho q.nk q.nv) H := hP
              have hD : va_D A (wQx ca b 0 q.oo q.zz q.ks q.vs q.cg q.hw q.lo q.hg q.wk q.kw q.mn (va_up q.gv j ((q.gv j) + 1)) q.cp q.ho q.nk q.nv) := hD
              refine lv_aload_n hx hb dX11_next_82 rfl (lv_at hl 0 rfl) ?_
              refine va_get (D := D) (ci := 9) (v := .ref (b 14)) (C := RX11) (T := TX11) (N := 17) hx hb hts inX11 hown hKN.1 hP 0 rfl rfl 14 (by decide) (hts (.fieldLink RX11 50 "TreeFamilyModel" "holds" "[Z") (by decide +kernel)) (fun _ h9 => h9) rfl dX11_next_83 ?_
              refine lv_iload_n hx hb dX11_next_86 rfl (lv_at hl 1 rfl) ?_
              refine lv_iconst (v := 1) hx hb dX11_next_87 (by decide) ?_
              refine xr_bst hx hb hKN.1 hP hD hS 14 2 (g := q.ho) (v := true) rfl rfl (j := j) (by omega) (by decide) dX11_next_88 (fun H locs hP hD hS => ?_)
              have hP : va_P D vwCl (wQx ca b 0 q.oo q.zz q.ks q.vs q.cg q.hw q.lo q.hg q.wk q.kw q.mn (va_up q.gv j ((q.gv j) + 1)) q.cp (va_up q.ho j true) q.nk q.nv) H := hP
              have hD : va_D A (wQx ca b 0 q.oo q.zz q.ks q.vs q.cg q.hw q.lo q.hg q.wk q.kw q.mn (va_up q.gv j ((q.gv j) + 1)) q.cp (va_up q.ho j true) q.nk q.nv) := hD
              refine lv_aload_n hx hb dX11_next_89 rfl (lv_at hl 0 rfl) ?_
              refine va_get (D := D) (ci := 9) (v := .ref (b 13)) (C := RX11) (T := TX11) (N := 17) hx hb hts inX11 hown hKN.1 hP 0 rfl rfl 13 (by decide) (hts (.fieldLink RX11 47 "TreeFamilyModel" "copy" "[I") (by decide +kernel)) (fun _ h9 => h9) rfl dX11_next_90 ?_
              refine lv_bipush (v := 64) hx hb dX11_next_93 (by decide) ?_
              refine lv_iload_n hx hb dX11_next_95 rfl (lv_at hl 1 rfl) ?_
              refine lv_imul hx hb dX11_next_96 ?_
              refine xr_top (y := nI (64 * j)) (pk_mul 64 j) ?_
              refine lv_aload_n hx hb dX11_next_97 rfl (lv_at hl 0 rfl) ?_
              refine va_get (D := D) (ci := 9) (v := .ref (b 12)) (C := RX11) (T := TX11) (N := 17) hx hb hts inX11 hown hKN.1 hP 0 rfl rfl 12 (by decide) (hts (.fieldLink RX11 44 "TreeFamilyModel" "given" "[I") (by decide +kernel)) (fun _ h9 => h9) rfl dX11_next_98 ?_
              refine lv_iload_n hx hb dX11_next_101 rfl (lv_at hl 1 rfl) ?_
              refine xr_ild hx hb hKN.1 hP 12 0 rfl rfl (j := j) (by omega) (by decide) dX11_next_102 ?_
              refine xr_top (y := nI ((q.gv j) + 1)) (congrArg nI vup_eq) ?_
              refine lv_iadd hx hb dX11_next_103 ?_
              refine xr_top (y := nI ((64 * j) + ((q.gv j) + 1))) (nI_add (64 * j) ((q.gv j) + 1)) ?_
              refine lv_iconst (v := 1) hx hb dX11_next_104 (by decide) ?_
              refine lv_isub hx hb dX11_next_105 ?_
              refine xr_top (y := nI (((64 * j) + ((q.gv j) + 1)) - 1)) (pk_sub (a := (64 * j) + ((q.gv j) + 1)) (b := 1) (by omega)) ?_
              refine xr_ild hx hb hKN.1 hP 13 0 rfl rfl (j := ((64 * j) + ((q.gv j) + 1)) - 1) (by omega) (by decide) dX11_next_106 ?_
              exact W.iret (v := (q.cp (((64 * j) + ((q.gv j) + 1)) - 1))) hx hb hr (fun t9 e9 w9 => ⟨⟨_, (0, q.oo, q.zz, q.ks, q.vs, q.cg, q.hw, q.lo, q.hg, q.wk, q.kw, q.mn, (va_up q.gv j ((q.gv j) + 1)), q.cp, (va_up q.ho j true), q.nk, q.nv), rfl, PO_by hj (F_next_0 c18 c33 (fun h9 => c52 (h9.trans (ab_cplen q j))) ((col_getD (f := q.cp) (z := q.mn j) (i := q.gv j) j (by omega)).trans (congrArg q.cp (by omega)))) (wq_next hq (by omega)) rfl (ab_next q), by rw [e9]; exact hP, hD⟩, hS.F e9⟩) hS.2.2 dX11_next_107
            · skip
              exact absurd c67 (by decide)
          · skip
            have c52 : (q.gv j) = (q.mn j) := (xn_eq (a := (q.gv j)) (b := (q.mn j)) (Nat.lt_of_le_of_lt ((fun k => Nat.le_trans (hq.2.2.2.1 k) (hq.2.2.1 k)) j) (by decide)) (Nat.lt_of_le_of_lt (hq.2.2.1 j) (by decide))).mp c52
            refine lv_iconst (v := 3) hx hb dX11_next_55 (by decide) ?_
            refine lv_goto (tgt := 60) hx hb dX11_next_56 (by decide) ?_
            refine va_put (D := D) (ci := 9) (v := .int 3) (ty := .int) (C := RX11) (T := TX11) (N := 17) hx hb hts inX11 tyX11 tyX11_ok nmX11 hown hKN.1 hP hD hS 0 rfl rfl 0 (by decide) (hts (.fieldLink RX11 59 "TreeFamilyModel" "code" "I") (by decide +kernel)) (fun _ h9 => h9) rfl (by decide +kernel) rfl rfl (Nat.le_of_ble_eq_true rfl) dX11_next_60 (fun H locs hP hD hS => ?_)
            have hP : va_P D vwCl (wQx ca b 3 q.oo q.zz q.ks q.vs q.cg q.hw q.lo q.hg q.wk q.kw q.mn q.gv q.cp q.ho q.nk q.nv) H := hP
            have hD : va_D A (wQx ca b 3 q.oo q.zz q.ks q.vs q.cg q.hw q.lo q.hg q.wk q.kw q.mn q.gv q.cp q.ho q.nk q.nv) := hD
            refine lv_aload_n hx hb dX11_next_63 rfl (lv_at hl 0 rfl) ?_
            refine va_get (D := D) (ci := 9) (v := .int 3) (C := RX11) (T := TX11) (N := 17) hx hb hts inX11 hown hKN.1 hP 0 rfl rfl 0 (by decide) (hts (.fieldLink RX11 59 "TreeFamilyModel" "code" "I") (by decide +kernel)) (fun _ h9 => h9) rfl dX11_next_64 ?_
            refine lv_if_le (tgt := 72) hx hb dX11_next_67 (by decide) (fun c67 => ?_) (fun c67 => ?_)
            · skip
              exact absurd c67 (by decide)
            · skip
              refine lv_iconst (v := 0) hx hb dX11_next_70 (by decide) ?_
              exact W.iret (v := 0) hx hb hr (fun t9 e9 w9 => ⟨⟨_, (3, q.oo, q.zz, q.ks, q.vs, q.cg, q.hw, q.lo, q.hg, q.wk, q.kw, q.mn, q.gv, q.cp, q.ho, q.nk, q.nv), rfl, PO_same hj (F_next_3 c18 c33 (c52.trans (ab_cplen q j).symm)) hq rfl rfl, by rw [e9]; exact hP, hD⟩, hS.F e9⟩) hS.2.2 dX11_next_71
        · skip
          refine lv_iconst (v := 2) hx hb dX11_next_36 (by decide) ?_
          refine lv_goto (tgt := 60) hx hb dX11_next_37 (by decide) ?_
          refine va_put (D := D) (ci := 9) (v := .int 2) (ty := .int) (C := RX11) (T := TX11) (N := 17) hx hb hts inX11 tyX11 tyX11_ok nmX11 hown hKN.1 hP hD hS 0 rfl rfl 0 (by decide) (hts (.fieldLink RX11 59 "TreeFamilyModel" "code" "I") (by decide +kernel)) (fun _ h9 => h9) rfl (by decide +kernel) rfl rfl (Nat.le_of_ble_eq_true rfl) dX11_next_60 (fun H locs hP hD hS => ?_)
          have hP : va_P D vwCl (wQx ca b 2 q.oo q.zz q.ks q.vs q.cg q.hw q.lo q.hg q.wk q.kw q.mn q.gv q.cp q.ho q.nk q.nv) H := hP
          have hD : va_D A (wQx ca b 2 q.oo q.zz q.ks q.vs q.cg q.hw q.lo q.hg q.wk q.kw q.mn q.gv q.cp q.ho q.nk q.nv) := hD
          refine lv_aload_n hx hb dX11_next_63 rfl (lv_at hl 0 rfl) ?_
          refine va_get (D := D) (ci := 9) (v := .int 2) (C := RX11) (T := TX11) (N := 17) hx hb hts inX11 hown hKN.1 hP 0 rfl rfl 0 (by decide) (hts (.fieldLink RX11 59 "TreeFamilyModel" "code" "I") (by decide +kernel)) (fun _ h9 => h9) rfl dX11_next_64 ?_
          refine lv_if_le (tgt := 72) hx hb dX11_next_67 (by decide) (fun c67 => ?_) (fun c67 => ?_)
          · skip
            exact absurd c67 (by decide)
          · skip
            refine lv_iconst (v := 0) hx hb dX11_next_70 (by decide) ?_
            exact W.iret (v := 0) hx hb hr (fun t9 e9 w9 => ⟨⟨_, (2, q.oo, q.zz, q.ks, q.vs, q.cg, q.hw, q.lo, q.hg, q.wk, q.kw, q.mn, q.gv, q.cp, q.ho, q.nk, q.nv), rfl, by first | exact PO_same hj (F_next_2 (Or.inl c18)) hq rfl rfl | exact PO_same hj (F_next_2 (Or.inr c33)) hq rfl rfl, by rw [e9]; exact hP, hD⟩, hS.F e9⟩) hS.2.2 dX11_next_71
    · skip
      exact absurd c5 (by decide)

-- TreeFamilyModel.drop
set_option maxHeartbeats 4000000 in
set_option maxRecDepth 100000 in
theorem c_X11_drop (l : Launch) (D : va_G) (ca : Nat → ClassId) (b : Nat → Nat) (sz : Nat) (q : QS) (mm : Int32) (hq : WQ q) (hdr : ∀ j, j < 3 → mm = nI j → q.wk j = true → q.kw j = q.cg j → q.ho j = true → 1 ≤ q.gv j ∧ plQ q j (q.cp (64 * j + q.gv j - 1)) < q.zz j) : Met l yX11_drop wsX11_drop ({ frames := 2, cells := 0, slots := 0, locals := 46 } : Room) (xPc D (TY ca) [.ref (b 0), .int mm] (wQ ca b q) sz) (va_Qv (fun u : QS => PO () (F_drop) mm q () u) (xB D (wQ ca b) (va_A (wQ ca b q) sz)) (va_A (wQ ca b q) sz)) 0 0 (va_A (wQ ca b q) sz) := by
  refine Met.ofW (cc := cX11_drop) (maxL := 3) (ret := none) (by decide) rfl ?_
  intro p e s m args below meth c s₁ B hml hv
  obtain ⟨rfl, hsz, hP, hKN, hD0⟩ := hv
  have hx := B.exec
  have hb := B.bytes
  have hr := B.returns
  have hts := atoms_spec (ws := wsX11_drop) B.pre
  have hown : s.vm.findClass RX11 = some m.cls := findClass_of_methodNamed B.named
  have hlocks := B.notSynchronized
  have inX11 : ∀ w ∈ wsX110, w ∈ wsX11_drop := by decide +kernel
  subst hsz
  have hD := hD0.self (sz := s.heap.size)
  generalize hAe : va_A (wQ ca b q) s.heap.size = A at hD ⊢
  have hA : ∀ q : Nat, s.heap.size ≤ q → A q := fun q h => by rw [← hAe]; exact Or.inr h
  have hS : va_S A s.heap s.heap [] := va_S.rf
  have hl := lv_entry ([.ref (b 0), .int mm]) (n := 3) (Nat.le_of_ble_eq_true rfl)
  rw [lg_entry_eq]
  generalize (lg_sl ([.ref (b 0), .int mm]) ++ List.replicate (3 - (lg_sl ([.ref (b 0), .int mm])).length) Slot.unset).toArray = ls at hl ⊢
  have hl : lv_has ls 3 [(0, .ref (b 0)), (1, .int mm)] := hl
  rcases isB3 mm with hmm | ⟨j, hj, hmj⟩
  · skip
    refine lv_aload_n hx hb dX11_drop_0 rfl (lv_at hl 0 rfl) ?_
    refine lv_iload_n hx hb dX11_drop_1 rfl (lv_at hl 1 rfl) ?_
    refine xs_i (va_runS (As := [.int mm]) (rest := [.ref (b 0)]) ⟨hx, hb, hml, hown, hts⟩ (c_X11_isMap l _) (va_cwS 1 hts gX11_drop_X11_isMap rfl rfl rfl (by decide +kernel) ⟨(Nat.le_of_ble_eq_true rfl), (Nat.le_of_ble_eq_true rfl)⟩) xPreT rfl rfl hl.1 rfl (lv_room (Nat.le_of_ble_eq_true rfl)) dX11_drop_2 ⟨(Nat.le_of_ble_eq_true rfl), (Nat.le_of_ble_eq_true rfl)⟩) (fun r2 er2 => ?_)
    subst er2
    refine xr_top (y := 0) (by rw [hmm]; rfl) ?_
    refine lv_if_ne (tgt := 12) hx hb dX11_drop_5 (by decide) (fun c5 => ?_) (fun c5 => ?_)
    · skip
      exact absurd c5 (by decide)
    · skip
      refine lv_iconst (v := 1) hx hb dX11_drop_8 (by decide) ?_
      refine lv_goto (tgt := 50) hx hb dX11_drop_9 (by decide) ?_
      refine va_put (D := D) (ci := 9) (v := .int 1) (ty := .int) (C := RX11) (T := TX11) (N := 17) hx hb hts inX11 tyX11 tyX11_ok nmX11 hown hKN.1 hP hD hS 0 rfl rfl 0 (by decide) (hts (.fieldLink RX11 59 "TreeFamilyModel" "code" "I") (by decide +kernel)) (fun _ h9 => h9) rfl (by decide +kernel) rfl rfl (Nat.le_of_ble_eq_true rfl) dX11_drop_50 (fun H locs hP hD hS => ?_)
      have hP : va_P D vwCl (wQx ca b 1 q.oo q.zz q.ks q.vs q.cg q.hw q.lo q.hg q.wk q.kw q.mn q.gv q.cp q.ho q.nk q.nv) H := hP
      have hD : va_D A (wQx ca b 1 q.oo q.zz q.ks q.vs q.cg q.hw q.lo q.hg q.wk q.kw q.mn q.gv q.cp q.ho q.nk q.nv) := hD
      refine lv_aload_n hx hb dX11_drop_53 rfl (lv_at hl 0 rfl) ?_
      refine va_get (D := D) (ci := 9) (v := .int 1) (C := RX11) (T := TX11) (N := 17) hx hb hts inX11 hown hKN.1 hP 0 rfl rfl 0 (by decide) (hts (.fieldLink RX11 59 "TreeFamilyModel" "code" "I") (by decide +kernel)) (fun _ h9 => h9) rfl dX11_drop_54 ?_
      refine lv_if_le (tgt := 61) hx hb dX11_drop_57 (by decide) (fun c57 => ?_) (fun c57 => ?_)
      · skip
        exact absurd c57 (by decide)
      · skip
        exact W.vret hx hb hr (fun t9 e9 w9 => ⟨⟨(1, q.oo, q.zz, q.ks, q.vs, q.cg, q.hw, q.lo, q.hg, q.wk, q.kw, q.mn, q.gv, q.cp, q.ho, q.nk, q.nv), rfl, PO_bad hmm hq rfl rfl rfl, by rw [e9]; exact hP, hD⟩, hS.F e9⟩) hS.2.2 dX11_drop_60
  · subst hmj
    have hz6 := hq.1 j
    have hh3 := hq.2.1 j
    refine lv_aload_n hx hb dX11_drop_0 rfl (lv_at hl 0 rfl) ?_
    refine lv_iload_n hx hb dX11_drop_1 rfl (lv_at hl 1 rfl) ?_
    refine xs_i (va_runS (As := [.int (nI j)]) (rest := [.ref (b 0)]) ⟨hx, hb, hml, hown, hts⟩ (c_X11_isMap l _) (va_cwS 1 hts gX11_drop_X11_isMap rfl rfl rfl (by decide +kernel) ⟨(Nat.le_of_ble_eq_true rfl), (Nat.le_of_ble_eq_true rfl)⟩) xPreT rfl rfl hl.1 rfl (lv_room (Nat.le_of_ble_eq_true rfl)) dX11_drop_2 ⟨(Nat.le_of_ble_eq_true rfl), (Nat.le_of_ble_eq_true rfl)⟩) (fun r2 er2 => ?_)
    subst er2
    refine xr_top (y := 1) (by rw [isB3_ok hj]; rfl) ?_
    refine lv_if_ne (tgt := 12) hx hb dX11_drop_5 (by decide) (fun c5 => ?_) (fun c5 => ?_)
    · skip
      have hg4 := hq.2.2.2.1 j
      have hm6 := hq.2.2.1 j
      refine lv_aload_n hx hb dX11_drop_12 rfl (lv_at hl 0 rfl) ?_
      refine va_get (D := D) (ci := 9) (v := .ref (b 9)) (C := RX11) (T := TX11) (N := 17) hx hb hts inX11 hown hKN.1 hP 0 rfl rfl 9 (by decide) (hts (.fieldLink RX11 34 "TreeFamilyModel" "walks" "[Z") (by decide +kernel)) (fun _ h9 => h9) rfl dX11_drop_13 ?_
      refine lv_iload_n hx hb dX11_drop_16 rfl (lv_at hl 1 rfl) ?_
      refine xr_zld hx hb hKN.1 hP 9 2 rfl rfl (j := j) (by omega) (by decide) dX11_drop_17 ?_
      refine lv_if_eq (tgt := 45) hx hb dX11_drop_18 (by decide) (fun c18 => ?_) (fun c18 => ?_)
      · skip
        have c18 := bI_0.mp c18
        refine lv_iconst (v := 2) hx hb dX11_drop_45 (by decide) ?_
        refine lv_goto (tgt := 50) hx hb dX11_drop_46 (by decide) ?_
        refine va_put (D := D) (ci := 9) (v := .int 2) (ty := .int) (C := RX11) (T := TX11) (N := 17) hx hb hts inX11 tyX11 tyX11_ok nmX11 hown hKN.1 hP hD hS 0 rfl rfl 0 (by decide) (hts (.fieldLink RX11 59 "TreeFamilyModel" "code" "I") (by decide +kernel)) (fun _ h9 => h9) rfl (by decide +kernel) rfl rfl (Nat.le_of_ble_eq_true rfl) dX11_drop_50 (fun H locs hP hD hS => ?_)
        have hP : va_P D vwCl (wQx ca b 2 q.oo q.zz q.ks q.vs q.cg q.hw q.lo q.hg q.wk q.kw q.mn q.gv q.cp q.ho q.nk q.nv) H := hP
        have hD : va_D A (wQx ca b 2 q.oo q.zz q.ks q.vs q.cg q.hw q.lo q.hg q.wk q.kw q.mn q.gv q.cp q.ho q.nk q.nv) := hD
        refine lv_aload_n hx hb dX11_drop_53 rfl (lv_at hl 0 rfl) ?_
        refine va_get (D := D) (ci := 9) (v := .int 2) (C := RX11) (T := TX11) (N := 17) hx hb hts inX11 hown hKN.1 hP 0 rfl rfl 0 (by decide) (hts (.fieldLink RX11 59 "TreeFamilyModel" "code" "I") (by decide +kernel)) (fun _ h9 => h9) rfl dX11_drop_54 ?_
        refine lv_if_le (tgt := 61) hx hb dX11_drop_57 (by decide) (fun c57 => ?_) (fun c57 => ?_)
        · skip
          exact absurd c57 (by decide)
        · skip
          exact W.vret hx hb hr (fun t9 e9 w9 => ⟨⟨(2, q.oo, q.zz, q.ks, q.vs, q.cg, q.hw, q.lo, q.hg, q.wk, q.kw, q.mn, q.gv, q.cp, q.ho, q.nk, q.nv), rfl, by first | exact PO_same hj (F_drop_2 (Or.inl c18)) hq rfl rfl | exact PO_same hj (F_drop_2 (Or.inr (Or.inl c33))) hq rfl rfl | exact PO_same hj (F_drop_2 (Or.inr (Or.inr c42))) hq rfl rfl, by rw [e9]; exact hP, hD⟩, hS.F e9⟩) hS.2.2 dX11_drop_60
      · skip
        have c18 := bI_ne.mp c18
        refine lv_aload_n hx hb dX11_drop_21 rfl (lv_at hl 0 rfl) ?_
        refine va_get (D := D) (ci := 9) (v := .ref (b 10)) (C := RX11) (T := TX11) (N := 17) hx hb hts inX11 hown hKN.1 hP 0 rfl rfl 10 (by decide) (hts (.fieldLink RX11 38 "TreeFamilyModel" "knows" "[I") (by decide +kernel)) (fun _ h9 => h9) rfl dX11_drop_22 ?_
        refine lv_iload_n hx hb dX11_drop_25 rfl (lv_at hl 1 rfl) ?_
        refine xr_ild hx hb hKN.1 hP 10 0 rfl rfl (j := j) (by omega) (by decide) dX11_drop_26 ?_
        refine lv_aload_n hx hb dX11_drop_27 rfl (lv_at hl 0 rfl) ?_
        refine va_get (D := D) (ci := 9) (v := .ref (b 5)) (C := RX11) (T := TX11) (N := 17) hx hb hts inX11 hown hKN.1 hP 0 rfl rfl 5 (by decide) (hts (.fieldLink RX11 22 "TreeFamilyModel" "changes" "[I") (by decide +kernel)) (fun _ h9 => h9) rfl dX11_drop_28 ?_
        refine lv_iload_n hx hb dX11_drop_31 rfl (lv_at hl 1 rfl) ?_
        refine xr_ild hx hb hKN.1 hP 5 0 rfl rfl (j := j) (by omega) (by decide) dX11_drop_32 ?_
        refine lv_icmp_ne (tgt := 45) hx hb dX11_drop_33 (by decide) (fun c33 => ?_) (fun c33 => ?_)
        · skip
          refine lv_iconst (v := 2) hx hb dX11_drop_45 (by decide) ?_
          refine lv_goto (tgt := 50) hx hb dX11_drop_46 (by decide) ?_
          refine va_put (D := D) (ci := 9) (v := .int 2) (ty := .int) (C := RX11) (T := TX11) (N := 17) hx hb hts inX11 tyX11 tyX11_ok nmX11 hown hKN.1 hP hD hS 0 rfl rfl 0 (by decide) (hts (.fieldLink RX11 59 "TreeFamilyModel" "code" "I") (by decide +kernel)) (fun _ h9 => h9) rfl (by decide +kernel) rfl rfl (Nat.le_of_ble_eq_true rfl) dX11_drop_50 (fun H locs hP hD hS => ?_)
          have hP : va_P D vwCl (wQx ca b 2 q.oo q.zz q.ks q.vs q.cg q.hw q.lo q.hg q.wk q.kw q.mn q.gv q.cp q.ho q.nk q.nv) H := hP
          have hD : va_D A (wQx ca b 2 q.oo q.zz q.ks q.vs q.cg q.hw q.lo q.hg q.wk q.kw q.mn q.gv q.cp q.ho q.nk q.nv) := hD
          refine lv_aload_n hx hb dX11_drop_53 rfl (lv_at hl 0 rfl) ?_
          refine va_get (D := D) (ci := 9) (v := .int 2) (C := RX11) (T := TX11) (N := 17) hx hb hts inX11 hown hKN.1 hP 0 rfl rfl 0 (by decide) (hts (.fieldLink RX11 59 "TreeFamilyModel" "code" "I") (by decide +kernel)) (fun _ h9 => h9) rfl dX11_drop_54 ?_
          refine lv_if_le (tgt := 61) hx hb dX11_drop_57 (by decide) (fun c57 => ?_) (fun c57 => ?_)
          · skip
            exact absurd c57 (by decide)
          · skip
            exact W.vret hx hb hr (fun t9 e9 w9 => ⟨⟨(2, q.oo, q.zz, q.ks, q.vs, q.cg, q.hw, q.lo, q.hg, q.wk, q.kw, q.mn, q.gv, q.cp, q.ho, q.nk, q.nv), rfl, by first | exact PO_same hj (F_drop_2 (Or.inl c18)) hq rfl rfl | exact PO_same hj (F_drop_2 (Or.inr (Or.inl c33))) hq rfl rfl | exact PO_same hj (F_drop_2 (Or.inr (Or.inr c42))) hq rfl rfl, by rw [e9]; exact hP, hD⟩, hS.F e9⟩) hS.2.2 dX11_drop_60
        · skip
          refine lv_aload_n hx hb dX11_drop_36 rfl (lv_at hl 0 rfl) ?_
          refine va_get (D := D) (ci := 9) (v := .ref (b 14)) (C := RX11) (T := TX11) (N := 17) hx hb hts inX11 hown hKN.1 hP 0 rfl rfl 14 (by decide) (hts (.fieldLink RX11 50 "TreeFamilyModel" "holds" "[Z") (by decide +kernel)) (fun _ h9 => h9) rfl dX11_drop_37 ?_
          refine lv_iload_n hx hb dX11_drop_40 rfl (lv_at hl 1 rfl) ?_
          refine xr_zld hx hb hKN.1 hP 14 2 rfl rfl (j := j) (by omega) (by decide) dX11_drop_41 ?_
          refine lv_if_ne (tgt := 49) hx hb dX11_drop_42 (by decide) (fun c42 => ?_) (fun c42 => ?_)
          · skip
            have c42 := bI_ne.mp c42
            refine lv_iconst (v := 0) hx hb dX11_drop_49 (by decide) ?_
            refine va_put (D := D) (ci := 9) (v := .int 0) (ty := .int) (C := RX11) (T := TX11) (N := 17) hx hb hts inX11 tyX11 tyX11_ok nmX11 hown hKN.1 hP hD hS 0 rfl rfl 0 (by decide) (hts (.fieldLink RX11 59 "TreeFamilyModel" "code" "I") (by decide +kernel)) (fun _ h9 => h9) rfl (by decide +kernel) rfl rfl (Nat.le_of_ble_eq_true rfl) dX11_drop_50 (fun H locs hP hD hS => ?_)
            have hP : va_P D vwCl (wQx ca b 0 q.oo q.zz q.ks q.vs q.cg q.hw q.lo q.hg q.wk q.kw q.mn q.gv q.cp q.ho q.nk q.nv) H := hP
            have hD : va_D A (wQx ca b 0 q.oo q.zz q.ks q.vs q.cg q.hw q.lo q.hg q.wk q.kw q.mn q.gv q.cp q.ho q.nk q.nv) := hD
            refine lv_aload_n hx hb dX11_drop_53 rfl (lv_at hl 0 rfl) ?_
            refine va_get (D := D) (ci := 9) (v := .int 0) (C := RX11) (T := TX11) (N := 17) hx hb hts inX11 hown hKN.1 hP 0 rfl rfl 0 (by decide) (hts (.fieldLink RX11 59 "TreeFamilyModel" "code" "I") (by decide +kernel)) (fun _ h9 => h9) rfl dX11_drop_54 ?_
            refine lv_if_le (tgt := 61) hx hb dX11_drop_57 (by decide) (fun c57 => ?_) (fun c57 => ?_)
            · skip
              obtain ⟨hgx, hgy⟩ := hdr j hj rfl c18 c33 c42
              refine lv_aload_n hx hb dX11_drop_61 rfl (lv_at hl 0 rfl) ?_
              refine lv_iload_n hx hb dX11_drop_62 rfl (lv_at hl 1 rfl) ?_
              refine lv_aload_n hx hb dX11_drop_63 rfl (lv_at hl 0 rfl) ?_
              refine lv_iload_n hx hb dX11_drop_64 rfl (lv_at hl 1 rfl) ?_
              refine lv_aload_n hx hb dX11_drop_65 rfl (lv_at hl 0 rfl) ?_
              refine va_get (D := D) (ci := 9) (v := .ref (b 13)) (C := RX11) (T := TX11) (N := 17) hx hb hts inX11 hown hKN.1 hP 0 rfl rfl 13 (by decide) (hts (.fieldLink RX11 47 "TreeFamilyModel" "copy" "[I") (by decide +kernel)) (fun _ h9 => h9) rfl dX11_drop_66 ?_
              refine lv_bipush (v := 64) hx hb dX11_drop_69 (by decide) ?_
              refine lv_iload_n hx hb dX11_drop_71 rfl (lv_at hl 1 rfl) ?_
              refine lv_imul hx hb dX11_drop_72 ?_
              refine xr_top (y := nI (64 * j)) (pk_mul 64 j) ?_
              refine lv_aload_n hx hb dX11_drop_73 rfl (lv_at hl 0 rfl) ?_
              refine va_get (D := D) (ci := 9) (v := .ref (b 12)) (C := RX11) (T := TX11) (N := 17) hx hb hts inX11 hown hKN.1 hP 0 rfl rfl 12 (by decide) (hts (.fieldLink RX11 44 "TreeFamilyModel" "given" "[I") (by decide +kernel)) (fun _ h9 => h9) rfl dX11_drop_74 ?_
              refine lv_iload_n hx hb dX11_drop_77 rfl (lv_at hl 1 rfl) ?_
              refine xr_ild hx hb hKN.1 hP 12 0 rfl rfl (j := j) (by omega) (by decide) dX11_drop_78 ?_
              refine lv_iadd hx hb dX11_drop_79 ?_
              refine xr_top (y := nI ((64 * j) + (q.gv j))) (nI_add (64 * j) (q.gv j)) ?_
              refine lv_iconst (v := 1) hx hb dX11_drop_80 (by decide) ?_
              refine lv_isub hx hb dX11_drop_81 ?_
              refine xr_top (y := nI (((64 * j) + (q.gv j)) - 1)) (pk_sub (a := (64 * j) + (q.gv j)) (b := 1) (by omega)) ?_
              refine xr_ild hx hb hKN.1 hP 13 0 rfl rfl (j := ((64 * j) + (q.gv j)) - 1) (by omega) (by decide) dX11_drop_82 ?_
              refine xc_i (wr := []) (va_runV (As := [.int (nI j), .int (q.cp (((64 * j) + (q.gv j)) - 1))]) (rest := [.int (nI j), .ref (b 0)]) ⟨hx, hb, hml, hown, hts⟩ (c_X11_place l D ca b _ (0, q.oo, q.zz, q.ks, q.vs, q.cg, q.hw, q.lo, q.hg, q.wk, q.kw, q.mn, q.gv, q.cp, q.ho, q.nk, q.nv) j (q.cp (((64 * j) + (q.gv j)) - 1)) hq hj) (cwV 2 hts gX11_drop_X11_place rfl rfl rfl (by decide +kernel) ⟨(Nat.le_of_ble_eq_true rfl), (Nat.le_of_ble_eq_true rfl)⟩) (xPreV hKN hP hD [0, 1, 2, 3, 4, 5, 6, 7, 8, 9, 10, 11, 12, 13, 14, 15, 16] (by decide) rfl (q0 := 0) rfl rfl rfl) rfl rfl hl.1 rfl (lv_room (Nat.le_of_ble_eq_true rfl)) dX11_drop_83 ⟨(Nat.le_of_ble_eq_true rfl), (Nat.le_of_ble_eq_true rfl)⟩) hP hD hS hA [0, 1, 2, 3, 4, 5, 6, 7, 8, 9, 10, 11, 12, 13, 14, 15, 16] [] rfl rfl (by decide) (by decide) (fun r83 u83 H locs hu83 hP hD hS => ?_)
              obtain ⟨er83, eu83⟩ := hu83
              have eu83 := eu83.symm
              subst eu83
              have hP : va_P D vwCl (wQx ca b 0 q.oo q.zz q.ks q.vs q.cg q.hw q.lo q.hg q.wk q.kw q.mn q.gv q.cp q.ho q.nk q.nv) H := hP
              have hD : va_D A (wQx ca b 0 q.oo q.zz q.ks q.vs q.cg q.hw q.lo q.hg q.wk q.kw q.mn q.gv q.cp q.ho q.nk q.nv) := hD
              have er83 : r83 = nI (plQ q j (q.cp (((64 * j) + (q.gv j)) - 1))) := er83
              subst er83
              refine xc_i (wr := []) (va_runV (As := [.int (nI j), .int (nI (plQ q j (q.cp (((64 * j) + (q.gv j)) - 1))))]) (rest := []) ⟨hx, hb, hml, hown, hts⟩ (c_X11_close l D ca b _ (0, q.oo, q.zz, q.ks, q.vs, q.cg, q.hw, q.lo, q.hg, q.wk, q.kw, q.mn, q.gv, q.cp, q.ho, q.nk, q.nv) j (plQ q j (q.cp (((64 * j) + (q.gv j)) - 1))) hq hj hgy) (cwV 2 hts gX11_drop_X11_close rfl rfl rfl (by decide +kernel) ⟨(Nat.le_of_ble_eq_true rfl), (Nat.le_of_ble_eq_true rfl)⟩) (xPreV hKN hP hD [0, 1, 2, 3, 4, 5, 6, 7, 8, 9, 10, 11, 12, 13, 14, 15, 16] (by decide) rfl (q0 := 0) rfl rfl rfl) rfl rfl hl.1 rfl (lv_room (Nat.le_of_ble_eq_true rfl)) dX11_drop_86 ⟨(Nat.le_of_ble_eq_true rfl), (Nat.le_of_ble_eq_true rfl)⟩) hP hD hS hA [0, 1, 2, 3, 4, 5, 6, 7, 8, 9, 10, 11, 12, 13, 14, 15, 16] [] rfl rfl (by decide) (by decide) (fun r86 u86 H locs hu86 hP hD hS => ?_)
              obtain ⟨er86, hw86, hc86, ha86⟩ := hu86
              have er86 : r86 = q.ks (64 * j + (plQ q j (q.cp (((64 * j) + (q.gv j)) - 1)))) := er86
              subst er86
              have hP : va_P D vwCl (wQ ca b u86) H := hP
              have hD : va_D A (wQ ca b u86) := hD
              refine lv_istore_n (lv' := [(2, .int (q.ks (64 * j + (plQ q j (q.cp (((64 * j) + (q.gv j)) - 1)))))), (0, .ref (b 0)), (1, .int (nI j))]) hx hb dX11_drop_89 rfl hl (by decide) rfl (fun ls hl => ?_)
              refine lv_aload_n hx hb dX11_drop_90 rfl (lv_at hl 1 rfl) ?_
              refine va_get (D := D) (ci := 9) (v := .ref (b 10)) (C := RX11) (T := TX11) (N := 17) hx hb hts inX11 hown hKN.1 hP 0 rfl rfl 10 (by decide) (hts (.fieldLink RX11 38 "TreeFamilyModel" "knows" "[I") (by decide +kernel)) (fun _ h9 => h9) rfl dX11_drop_91 ?_
              refine lv_iload_n hx hb dX11_drop_94 rfl (lv_at hl 2 rfl) ?_
              refine lv_aload_n hx hb dX11_drop_95 rfl (lv_at hl 1 rfl) ?_
              refine va_get (D := D) (ci := 9) (v := .ref (b 5)) (C := RX11) (T := TX11) (N := 17) hx hb hts inX11 hown hKN.1 hP 0 rfl rfl 5 (by decide) (hts (.fieldLink RX11 22 "TreeFamilyModel" "changes" "[I") (by decide +kernel)) (fun _ h9 => h9) rfl dX11_drop_96 ?_
              refine lv_iload_n hx hb dX11_drop_99 rfl (lv_at hl 2 rfl) ?_
              refine xr_ild hx hb hKN.1 hP 5 0 rfl rfl (j := j) (by omega) (by decide) dX11_drop_100 ?_
              refine xr_ist hx hb hKN.1 hP hD hS 10 0 rfl rfl (j := j) (by omega) (by decide) dX11_drop_101 (fun H locs hP hD hS => ?_)
              have hP : va_P D vwCl (wQx ca b u86.co u86.oo u86.zz u86.ks u86.vs u86.cg u86.hw u86.lo u86.hg u86.wk (upd u86.kw j (u86.cg j)) u86.mn u86.gv u86.cp u86.ho u86.nk u86.nv) H := hP
              have hD : va_D A (wQx ca b u86.co u86.oo u86.zz u86.ks u86.vs u86.cg u86.hw u86.lo u86.hg u86.wk (upd u86.kw j (u86.cg j)) u86.mn u86.gv u86.cp u86.ho u86.nk u86.nv) := hD
              refine lv_aload_n hx hb dX11_drop_102 rfl (lv_at hl 1 rfl) ?_
              refine va_get (D := D) (ci := 9) (v := .ref (b 14)) (C := RX11) (T := TX11) (N := 17) hx hb hts inX11 hown hKN.1 hP 0 rfl rfl 14 (by decide) (hts (.fieldLink RX11 50 "TreeFamilyModel" "holds" "[Z") (by decide +kernel)) (fun _ h9 => h9) rfl dX11_drop_103 ?_
              refine lv_iload_n hx hb dX11_drop_106 rfl (lv_at hl 2 rfl) ?_
              refine lv_iconst (v := 0) hx hb dX11_drop_107 (by decide) ?_
              refine xr_bst hx hb hKN.1 hP hD hS 14 2 (g := u86.ho) (v := false) rfl rfl (j := j) (by omega) (by decide) dX11_drop_108 (fun H locs hP hD hS => ?_)
              have hP : va_P D vwCl (wQx ca b u86.co u86.oo u86.zz u86.ks u86.vs u86.cg u86.hw u86.lo u86.hg u86.wk (upd u86.kw j (u86.cg j)) u86.mn u86.gv u86.cp (va_up u86.ho j false) u86.nk u86.nv) H := hP
              have hD : va_D A (wQx ca b u86.co u86.oo u86.zz u86.ks u86.vs u86.cg u86.hw u86.lo u86.hg u86.wk (upd u86.kw j (u86.cg j)) u86.mn u86.gv u86.cp (va_up u86.ho j false) u86.nk u86.nv) := hD
              exact W.vret hx hb hr (fun t9 e9 w9 => ⟨⟨(u86.co, u86.oo, u86.zz, u86.ks, u86.vs, u86.cg, u86.hw, u86.lo, u86.hg, u86.wk, (upd u86.kw j (u86.cg j)), u86.mn, u86.gv, u86.cp, (va_up u86.ho j false), u86.nk, u86.nv), rfl, drop_by hj c18 c33 c42 hgx hw86 hc86 ha86 hq rfl, by rw [e9]; exact hP, hD⟩, hS.F e9⟩) hS.2.2 dX11_drop_109
            · skip
              exact absurd c57 (by decide)
          · skip
            have c42 := bI_0.mp c42
            refine lv_iconst (v := 2) hx hb dX11_drop_45 (by decide) ?_
            refine lv_goto (tgt := 50) hx hb dX11_drop_46 (by decide) ?_
            refine va_put (D := D) (ci := 9) (v := .int 2) (ty := .int) (C := RX11) (T := TX11) (N := 17) hx hb hts inX11 tyX11 tyX11_ok nmX11 hown hKN.1 hP hD hS 0 rfl rfl 0 (by decide) (hts (.fieldLink RX11 59 "TreeFamilyModel" "code" "I") (by decide +kernel)) (fun _ h9 => h9) rfl (by decide +kernel) rfl rfl (Nat.le_of_ble_eq_true rfl) dX11_drop_50 (fun H locs hP hD hS => ?_)
            have hP : va_P D vwCl (wQx ca b 2 q.oo q.zz q.ks q.vs q.cg q.hw q.lo q.hg q.wk q.kw q.mn q.gv q.cp q.ho q.nk q.nv) H := hP
            have hD : va_D A (wQx ca b 2 q.oo q.zz q.ks q.vs q.cg q.hw q.lo q.hg q.wk q.kw q.mn q.gv q.cp q.ho q.nk q.nv) := hD
            refine lv_aload_n hx hb dX11_drop_53 rfl (lv_at hl 0 rfl) ?_
            refine va_get (D := D) (ci := 9) (v := .int 2) (C := RX11) (T := TX11) (N := 17) hx hb hts inX11 hown hKN.1 hP 0 rfl rfl 0 (by decide) (hts (.fieldLink RX11 59 "TreeFamilyModel" "code" "I") (by decide +kernel)) (fun _ h9 => h9) rfl dX11_drop_54 ?_
            refine lv_if_le (tgt := 61) hx hb dX11_drop_57 (by decide) (fun c57 => ?_) (fun c57 => ?_)
            · skip
              exact absurd c57 (by decide)
            · skip
              exact W.vret hx hb hr (fun t9 e9 w9 => ⟨⟨(2, q.oo, q.zz, q.ks, q.vs, q.cg, q.hw, q.lo, q.hg, q.wk, q.kw, q.mn, q.gv, q.cp, q.ho, q.nk, q.nv), rfl, by first | exact PO_same hj (F_drop_2 (Or.inl c18)) hq rfl rfl | exact PO_same hj (F_drop_2 (Or.inr (Or.inl c33))) hq rfl rfl | exact PO_same hj (F_drop_2 (Or.inr (Or.inr c42))) hq rfl rfl, by rw [e9]; exact hP, hD⟩, hS.F e9⟩) hS.2.2 dX11_drop_60
    · skip
      exact absurd c5 (by decide)

-- TreeFamilyModel.changes
set_option maxHeartbeats 4000000 in
set_option maxRecDepth 100000 in
theorem c_X11_changes (l : Launch) (D : va_G) (ca : Nat → ClassId) (b : Nat → Nat) (sz : Nat) (q : QS) (mm : Int32) (hq : WQ q) : Met l yX11_changes wsX11_changes ({ frames := 1, cells := 0, slots := 0, locals := 20 } : Room) (xPc D (TY ca) [.ref (b 0), .int mm] (wQ ca b q) sz) (va_Qi (fun (r : Int32) (u : QS) => PO 0 (F_changes) mm q r u) (xB D (wQ ca b) (va_A (wQ ca b q) sz)) (va_A (wQ ca b q) sz)) 0 0 (va_A (wQ ca b q) sz) := by
  refine Met.ofW (cc := cX11_changes) (maxL := 2) (ret := (some .int)) (by decide) rfl ?_
  intro p e s m args below meth c s₁ B hml hv
  obtain ⟨rfl, hsz, hP, hKN, hD0⟩ := hv
  have hx := B.exec
  have hb := B.bytes
  have hr := B.returns
  have hts := atoms_spec (ws := wsX11_changes) B.pre
  have hown : s.vm.findClass RX11 = some m.cls := findClass_of_methodNamed B.named
  have hlocks := B.notSynchronized
  have inX11 : ∀ w ∈ wsX110, w ∈ wsX11_changes := by decide +kernel
  subst hsz
  have hD := hD0.self (sz := s.heap.size)
  generalize hAe : va_A (wQ ca b q) s.heap.size = A at hD ⊢
  have hA : ∀ q : Nat, s.heap.size ≤ q → A q := fun q h => by rw [← hAe]; exact Or.inr h
  have hS : va_S A s.heap s.heap [] := va_S.rf
  have hl := lv_entry ([.ref (b 0), .int mm]) (n := 2) (Nat.le_of_ble_eq_true rfl)
  rw [lg_entry_eq]
  generalize (lg_sl ([.ref (b 0), .int mm]) ++ List.replicate (2 - (lg_sl ([.ref (b 0), .int mm])).length) Slot.unset).toArray = ls at hl ⊢
  have hl : lv_has ls 2 [(0, .ref (b 0)), (1, .int mm)] := hl
  rcases isB3 mm with hmm | ⟨j, hj, hmj⟩
  · skip
    refine lv_aload_n hx hb dX11_changes_0 rfl (lv_at hl 0 rfl) ?_
    refine lv_iload_n hx hb dX11_changes_1 rfl (lv_at hl 1 rfl) ?_
    refine xs_i (va_runS (As := [.int mm]) (rest := [.ref (b 0)]) ⟨hx, hb, hml, hown, hts⟩ (c_X11_isMap l _) (va_cwS 1 hts gX11_changes_X11_isMap rfl rfl rfl (by decide +kernel) ⟨(Nat.le_of_ble_eq_true rfl), (Nat.le_of_ble_eq_true rfl)⟩) xPreT rfl rfl hl.1 rfl (lv_room (Nat.le_of_ble_eq_true rfl)) dX11_changes_2 ⟨(Nat.le_of_ble_eq_true rfl), (Nat.le_of_ble_eq_true rfl)⟩) (fun r2 er2 => ?_)
    subst er2
    refine xr_top (y := 0) (by rw [hmm]; rfl) ?_
    refine lv_if_eq (tgt := 12) hx hb dX11_changes_5 (by decide) (fun c5 => ?_) (fun c5 => ?_)
    · skip
      refine lv_iconst (v := 1) hx hb dX11_changes_12 (by decide) ?_
      refine va_put (D := D) (ci := 9) (v := .int 1) (ty := .int) (C := RX11) (T := TX11) (N := 17) hx hb hts inX11 tyX11 tyX11_ok nmX11 hown hKN.1 hP hD hS 0 rfl rfl 0 (by decide) (hts (.fieldLink RX11 59 "TreeFamilyModel" "code" "I") (by decide +kernel)) (fun _ h9 => h9) rfl (by decide +kernel) rfl rfl (Nat.le_of_ble_eq_true rfl) dX11_changes_13 (fun H locs hP hD hS => ?_)
      have hP : va_P D vwCl (wQx ca b 1 q.oo q.zz q.ks q.vs q.cg q.hw q.lo q.hg q.wk q.kw q.mn q.gv q.cp q.ho q.nk q.nv) H := hP
      have hD : va_D A (wQx ca b 1 q.oo q.zz q.ks q.vs q.cg q.hw q.lo q.hg q.wk q.kw q.mn q.gv q.cp q.ho q.nk q.nv) := hD
      refine lv_aload_n hx hb dX11_changes_16 rfl (lv_at hl 0 rfl) ?_
      refine va_get (D := D) (ci := 9) (v := .int 1) (C := RX11) (T := TX11) (N := 17) hx hb hts inX11 hown hKN.1 hP 0 rfl rfl 0 (by decide) (hts (.fieldLink RX11 59 "TreeFamilyModel" "code" "I") (by decide +kernel)) (fun _ h9 => h9) rfl dX11_changes_17 ?_
      refine lv_if_ne (tgt := 32) hx hb dX11_changes_20 (by decide) (fun c20 => ?_) (fun c20 => ?_)
      · skip
        refine lv_iconst (v := 0) hx hb dX11_changes_32 (by decide) ?_
        exact W.iret (v := 0) hx hb hr (fun t9 e9 w9 => ⟨⟨_, (1, q.oo, q.zz, q.ks, q.vs, q.cg, q.hw, q.lo, q.hg, q.wk, q.kw, q.mn, q.gv, q.cp, q.ho, q.nk, q.nv), rfl, PO_bad hmm hq rfl rfl rfl, by rw [e9]; exact hP, hD⟩, hS.F e9⟩) hS.2.2 dX11_changes_33
      · skip
        exact absurd c20 (by decide)
    · skip
      exact absurd c5 (by decide)
  · subst hmj
    have hz6 := hq.1 j
    have hh3 := hq.2.1 j
    refine lv_aload_n hx hb dX11_changes_0 rfl (lv_at hl 0 rfl) ?_
    refine lv_iload_n hx hb dX11_changes_1 rfl (lv_at hl 1 rfl) ?_
    refine xs_i (va_runS (As := [.int (nI j)]) (rest := [.ref (b 0)]) ⟨hx, hb, hml, hown, hts⟩ (c_X11_isMap l _) (va_cwS 1 hts gX11_changes_X11_isMap rfl rfl rfl (by decide +kernel) ⟨(Nat.le_of_ble_eq_true rfl), (Nat.le_of_ble_eq_true rfl)⟩) xPreT rfl rfl hl.1 rfl (lv_room (Nat.le_of_ble_eq_true rfl)) dX11_changes_2 ⟨(Nat.le_of_ble_eq_true rfl), (Nat.le_of_ble_eq_true rfl)⟩) (fun r2 er2 => ?_)
    subst er2
    refine xr_top (y := 1) (by rw [isB3_ok hj]; rfl) ?_
    refine lv_if_eq (tgt := 12) hx hb dX11_changes_5 (by decide) (fun c5 => ?_) (fun c5 => ?_)
    · skip
      exact absurd c5 (by decide)
    · skip
      refine lv_iconst (v := 0) hx hb dX11_changes_8 (by decide) ?_
      refine lv_goto (tgt := 13) hx hb dX11_changes_9 (by decide) ?_
      refine va_put (D := D) (ci := 9) (v := .int 0) (ty := .int) (C := RX11) (T := TX11) (N := 17) hx hb hts inX11 tyX11 tyX11_ok nmX11 hown hKN.1 hP hD hS 0 rfl rfl 0 (by decide) (hts (.fieldLink RX11 59 "TreeFamilyModel" "code" "I") (by decide +kernel)) (fun _ h9 => h9) rfl (by decide +kernel) rfl rfl (Nat.le_of_ble_eq_true rfl) dX11_changes_13 (fun H locs hP hD hS => ?_)
      have hP : va_P D vwCl (wQx ca b 0 q.oo q.zz q.ks q.vs q.cg q.hw q.lo q.hg q.wk q.kw q.mn q.gv q.cp q.ho q.nk q.nv) H := hP
      have hD : va_D A (wQx ca b 0 q.oo q.zz q.ks q.vs q.cg q.hw q.lo q.hg q.wk q.kw q.mn q.gv q.cp q.ho q.nk q.nv) := hD
      refine lv_aload_n hx hb dX11_changes_16 rfl (lv_at hl 0 rfl) ?_
      refine va_get (D := D) (ci := 9) (v := .int 0) (C := RX11) (T := TX11) (N := 17) hx hb hts inX11 hown hKN.1 hP 0 rfl rfl 0 (by decide) (hts (.fieldLink RX11 59 "TreeFamilyModel" "code" "I") (by decide +kernel)) (fun _ h9 => h9) rfl dX11_changes_17 ?_
      refine lv_if_ne (tgt := 32) hx hb dX11_changes_20 (by decide) (fun c20 => ?_) (fun c20 => ?_)
      · skip
        exact absurd c20 (by decide)
      · skip
        refine lv_aload_n hx hb dX11_changes_23 rfl (lv_at hl 0 rfl) ?_
        refine va_get (D := D) (ci := 9) (v := .ref (b 5)) (C := RX11) (T := TX11) (N := 17) hx hb hts inX11 hown hKN.1 hP 0 rfl rfl 5 (by decide) (hts (.fieldLink RX11 22 "TreeFamilyModel" "changes" "[I") (by decide +kernel)) (fun _ h9 => h9) rfl dX11_changes_24 ?_
        refine lv_iload_n hx hb dX11_changes_27 rfl (lv_at hl 1 rfl) ?_
        refine xr_ild hx hb hKN.1 hP 5 0 rfl rfl (j := j) (by omega) (by decide) dX11_changes_28 ?_
        refine lv_goto (tgt := 33) hx hb dX11_changes_29 (by decide) ?_
        exact W.iret (v := (q.cg j)) hx hb hr (fun t9 e9 w9 => ⟨⟨_, (0, q.oo, q.zz, q.ks, q.vs, q.cg, q.hw, q.lo, q.hg, q.wk, q.kw, q.mn, q.gv, q.cp, q.ho, q.nk, q.nv), rfl, PO_same hj rfl hq rfl rfl, by rw [e9]; exact hP, hD⟩, hS.F e9⟩) hS.2.2 dX11_changes_33

-- TreeFamilyModel.audit
set_option maxHeartbeats 4000000 in
set_option maxRecDepth 100000 in
theorem c_X11_audit (l : Launch) (D : va_G) (ca : Nat → ClassId) (b : Nat → Nat) (sz : Nat) (q : QS) (mm : Int32) (hq : WQ q) : Met l yX11_audit wsX11_audit ({ frames := 1, cells := 0, slots := 0, locals := 20 } : Room) (xPc D (TY ca) [.ref (b 0), .int mm] (wQ ca b q) sz) (va_Qi (fun (r : Int32) (u : QS) => PO 0 (F_audit) mm q r u) (xB D (wQ ca b) (va_A (wQ ca b q) sz)) (va_A (wQ ca b q) sz)) 0 0 (va_A (wQ ca b q) sz) := by
  refine Met.ofW (cc := cX11_audit) (maxL := 2) (ret := (some .boolean)) (by decide) rfl ?_
  intro p e s m args below meth c s₁ B hml hv
  obtain ⟨rfl, hsz, hP, hKN, hD0⟩ := hv
  have hx := B.exec
  have hb := B.bytes
  have hr := B.returns
  have hts := atoms_spec (ws := wsX11_audit) B.pre
  have hown : s.vm.findClass RX11 = some m.cls := findClass_of_methodNamed B.named
  have hlocks := B.notSynchronized
  have inX11 : ∀ w ∈ wsX110, w ∈ wsX11_audit := by decide +kernel
  subst hsz
  have hD := hD0.self (sz := s.heap.size)
  generalize hAe : va_A (wQ ca b q) s.heap.size = A at hD ⊢
  have hA : ∀ q : Nat, s.heap.size ≤ q → A q := fun q h => by rw [← hAe]; exact Or.inr h
  have hS : va_S A s.heap s.heap [] := va_S.rf
  have hl := lv_entry ([.ref (b 0), .int mm]) (n := 2) (Nat.le_of_ble_eq_true rfl)
  rw [lg_entry_eq]
  generalize (lg_sl ([.ref (b 0), .int mm]) ++ List.replicate (2 - (lg_sl ([.ref (b 0), .int mm])).length) Slot.unset).toArray = ls at hl ⊢
  have hl : lv_has ls 2 [(0, .ref (b 0)), (1, .int mm)] := hl
  rcases isB3 mm with hmm | ⟨j, hj, hmj⟩
  · skip
    refine lv_aload_n hx hb dX11_audit_0 rfl (lv_at hl 0 rfl) ?_
    refine lv_iload_n hx hb dX11_audit_1 rfl (lv_at hl 1 rfl) ?_
    refine xs_i (va_runS (As := [.int mm]) (rest := [.ref (b 0)]) ⟨hx, hb, hml, hown, hts⟩ (c_X11_isMap l _) (va_cwS 1 hts gX11_audit_X11_isMap rfl rfl rfl (by decide +kernel) ⟨(Nat.le_of_ble_eq_true rfl), (Nat.le_of_ble_eq_true rfl)⟩) xPreT rfl rfl hl.1 rfl (lv_room (Nat.le_of_ble_eq_true rfl)) dX11_audit_2 ⟨(Nat.le_of_ble_eq_true rfl), (Nat.le_of_ble_eq_true rfl)⟩) (fun r2 er2 => ?_)
    subst er2
    refine xr_top (y := 0) (by rw [hmm]; rfl) ?_
    refine lv_if_eq (tgt := 12) hx hb dX11_audit_5 (by decide) (fun c5 => ?_) (fun c5 => ?_)
    · skip
      refine lv_iconst (v := 1) hx hb dX11_audit_12 (by decide) ?_
      refine va_put (D := D) (ci := 9) (v := .int 1) (ty := .int) (C := RX11) (T := TX11) (N := 17) hx hb hts inX11 tyX11 tyX11_ok nmX11 hown hKN.1 hP hD hS 0 rfl rfl 0 (by decide) (hts (.fieldLink RX11 59 "TreeFamilyModel" "code" "I") (by decide +kernel)) (fun _ h9 => h9) rfl (by decide +kernel) rfl rfl (Nat.le_of_ble_eq_true rfl) dX11_audit_13 (fun H locs hP hD hS => ?_)
      have hP : va_P D vwCl (wQx ca b 1 q.oo q.zz q.ks q.vs q.cg q.hw q.lo q.hg q.wk q.kw q.mn q.gv q.cp q.ho q.nk q.nv) H := hP
      have hD : va_D A (wQx ca b 1 q.oo q.zz q.ks q.vs q.cg q.hw q.lo q.hg q.wk q.kw q.mn q.gv q.cp q.ho q.nk q.nv) := hD
      refine lv_aload_n hx hb dX11_audit_16 rfl (lv_at hl 0 rfl) ?_
      refine va_get (D := D) (ci := 9) (v := .int 1) (C := RX11) (T := TX11) (N := 17) hx hb hts inX11 hown hKN.1 hP 0 rfl rfl 0 (by decide) (hts (.fieldLink RX11 59 "TreeFamilyModel" "code" "I") (by decide +kernel)) (fun _ h9 => h9) rfl dX11_audit_17 ?_
      refine lv_if_ne (tgt := 27) hx hb dX11_audit_20 (by decide) (fun c20 => ?_) (fun c20 => ?_)
      · skip
        refine lv_iconst (v := 0) hx hb dX11_audit_27 (by decide) ?_
        exact W.zret (v := 0) hx hb hr (by decide) (fun t9 e9 w9 => ⟨⟨_, (1, q.oo, q.zz, q.ks, q.vs, q.cg, q.hw, q.lo, q.hg, q.wk, q.kw, q.mn, q.gv, q.cp, q.ho, q.nk, q.nv), rfl, PO_bad hmm hq rfl rfl rfl, by rw [e9]; exact hP, hD⟩, hS.F e9⟩) hS.2.2 dX11_audit_28
      · skip
        exact absurd c20 (by decide)
    · skip
      exact absurd c5 (by decide)
  · subst hmj
    have hz6 := hq.1 j
    have hh3 := hq.2.1 j
    refine lv_aload_n hx hb dX11_audit_0 rfl (lv_at hl 0 rfl) ?_
    refine lv_iload_n hx hb dX11_audit_1 rfl (lv_at hl 1 rfl) ?_
    refine xs_i (va_runS (As := [.int (nI j)]) (rest := [.ref (b 0)]) ⟨hx, hb, hml, hown, hts⟩ (c_X11_isMap l _) (va_cwS 1 hts gX11_audit_X11_isMap rfl rfl rfl (by decide +kernel) ⟨(Nat.le_of_ble_eq_true rfl), (Nat.le_of_ble_eq_true rfl)⟩) xPreT rfl rfl hl.1 rfl (lv_room (Nat.le_of_ble_eq_true rfl)) dX11_audit_2 ⟨(Nat.le_of_ble_eq_true rfl), (Nat.le_of_ble_eq_true rfl)⟩) (fun r2 er2 => ?_)
    subst er2
    refine xr_top (y := 1) (by rw [isB3_ok hj]; rfl) ?_
    refine lv_if_eq (tgt := 12) hx hb dX11_audit_5 (by decide) (fun c5 => ?_) (fun c5 => ?_)
    · skip
      exact absurd c5 (by decide)
    · skip
      refine lv_iconst (v := 0) hx hb dX11_audit_8 (by decide) ?_
      refine lv_goto (tgt := 13) hx hb dX11_audit_9 (by decide) ?_
      refine va_put (D := D) (ci := 9) (v := .int 0) (ty := .int) (C := RX11) (T := TX11) (N := 17) hx hb hts inX11 tyX11 tyX11_ok nmX11 hown hKN.1 hP hD hS 0 rfl rfl 0 (by decide) (hts (.fieldLink RX11 59 "TreeFamilyModel" "code" "I") (by decide +kernel)) (fun _ h9 => h9) rfl (by decide +kernel) rfl rfl (Nat.le_of_ble_eq_true rfl) dX11_audit_13 (fun H locs hP hD hS => ?_)
      have hP : va_P D vwCl (wQx ca b 0 q.oo q.zz q.ks q.vs q.cg q.hw q.lo q.hg q.wk q.kw q.mn q.gv q.cp q.ho q.nk q.nv) H := hP
      have hD : va_D A (wQx ca b 0 q.oo q.zz q.ks q.vs q.cg q.hw q.lo q.hg q.wk q.kw q.mn q.gv q.cp q.ho q.nk q.nv) := hD
      refine lv_aload_n hx hb dX11_audit_16 rfl (lv_at hl 0 rfl) ?_
      refine va_get (D := D) (ci := 9) (v := .int 0) (C := RX11) (T := TX11) (N := 17) hx hb hts inX11 hown hKN.1 hP 0 rfl rfl 0 (by decide) (hts (.fieldLink RX11 59 "TreeFamilyModel" "code" "I") (by decide +kernel)) (fun _ h9 => h9) rfl dX11_audit_17 ?_
      refine lv_if_ne (tgt := 27) hx hb dX11_audit_20 (by decide) (fun c20 => ?_) (fun c20 => ?_)
      · skip
        exact absurd c20 (by decide)
      · skip
        refine lv_iconst (v := 1) hx hb dX11_audit_23 (by decide) ?_
        refine lv_goto (tgt := 28) hx hb dX11_audit_24 (by decide) ?_
        exact W.zret (v := 1) hx hb hr (by decide) (fun t9 e9 w9 => ⟨⟨_, (0, q.oo, q.zz, q.ks, q.vs, q.cg, q.hw, q.lo, q.hg, q.wk, q.kw, q.mn, q.gv, q.cp, q.ho, q.nk, q.nv), rfl, PO_same hj rfl hq rfl rfl, by rw [e9]; exact hP, hD⟩, hS.F e9⟩) hS.2.2 dX11_audit_28
