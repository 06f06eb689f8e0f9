/-! the law's cases, the second half -/
set_option maxHeartbeats 4000000 in
set_option maxRecDepth 100000 in
theorem k_putWithin {p : Program} {l : Launch} {e : Env} {s : State} {m : MethodId} {args : Array Value} {below : List Frame} {meth : Method} {c : Code} {H : Heap} {locs : List Loc} {Q : State → Prop} {ls : Array Slot} {D : va_G} {ca : Nat → ClassId} {A : Nat → Prop} {f kq bb : Nat → Nat} {ad : Nat → Nat → Nat} {g b L i N cells slots : Nat} {xs : Nat → Int32} {q : QS} {ov : Nat → Int64} (hx : p.tables.exec = Jvm.exec) (hb : c.code = cL_law) (hml : c.maxLocals = 8) (hts : ∀ w ∈ wsL_law, w.before args s = true) (hown : s.vm.findClass RL = some m.cls) (hKN : xK D (TY ca) s) (hTZ : TZ A s s.heap) (hNC : NC s) (hA : ∀ q : Nat, s.heap.size ≤ q → A q) (hl9 : l.stackTraces = false) (hX : va_X b L xs s s.heap) (hbl : b < s.heap.size) (hbA : ¬ A b) (hiL : i + 5 ≤ L) (hL : L ≤ 2560) (hN : N ≤ 1000000) (hcl : cells + 3 ≤ 601024) (hsl : slots + 18 ≤ 7293033) (wr : va_W) (j : Nat) (y0 : MS) (hq : WQ q) (hm : isB (xs (i + 1)) 3 = true → xs (i + 1) = nI j ∧ j < 3) (hR : Rel1 N y0 (ab q j)) (hP : va_P D vwCl ((wr ++ (wQ ca bb q)) ++ ((wX ca f kq ad) ++ (wKd kq) ++ (wMp ca kq (ad j) y0) ++ [(g, .inl (ca 1, 1, .inr (.inl ov)))])) H) (hD : va_D A ((wr ++ (wQ ca bb q)) ++ ((wX ca f kq ad) ++ (wKd kq) ++ (wMp ca kq (ad j) y0) ++ [(g, .inl (ca 1, 1, .inr (.inl ov)))]))) (hS : va_S A s.heap H locs) (hl : lv_has ls 8 [(4, .int (nI i)), (3, .ref g), (2, .ref (bb 0)), (1, .ref (f 0)), (0, .ref b)]) (K9 : ∀ (H : Heap) (locs : List Loc) (ls : Array Slot) (u : MO) (q9 : QS), WQ q9 → (∀ i, ¬ i = j → ab q9 i = ab q i) → Rel1 (N + 61) u.1 (ab q9 j) → va_P D vwCl ((wr ++ (wH ca f kq ad j g u)) ++ (wQ ca bb q9)) H → va_D A ((wr ++ (wH ca f kq ad j g u)) ++ (wQ ca bb q9)) → va_S A s.heap H locs → lv_has ls 8 [(4, .int (nI i)), (3, .ref g), (2, .ref (bb 0)), (1, .ref (f 0)), (0, .ref b)] → W p l e room_1 s m args below meth c H locs (cells + 3) (slots + 18) Q (F0 m 1507 ls [])) : W p l e room_1 s m args below meth c H locs cells slots Q (F0 m 901 ls []) := by
  refine lv_aload_n hx hb dL_law_901 rfl (lv_at hl 3 rfl) ?_
  refine lv_aload_n hx hb dL_law_902 rfl (lv_at hl 4 rfl) ?_
  refine lv_iload hx hb dL_law_903 (lv_at hl 0 rfl) ?_
  refine lv_iconst (v := 1) hx hb dL_law_905 (by decide) ?_
  refine lv_iadd hx hb dL_law_906 ?_
  refine xr_top (y := nI (i + 1)) (nI_add i 1) ?_
  refine va_sld hx hb hX hbl hbA hS (vp_in_nI (n := i + 1) (by omega) (by omega)) dL_law_907 ?_
  refine xr_top (y := xs (i + 1)) (congrArg xs (nI_clamp (by omega))) ?_
  refine lv_aload_n hx hb dL_law_908 rfl (lv_at hl 4 rfl) ?_
  refine lv_iload hx hb dL_law_909 (lv_at hl 0 rfl) ?_
  refine lv_iconst (v := 2) hx hb dL_law_911 (by decide) ?_
  refine lv_iadd hx hb dL_law_912 ?_
  refine xr_top (y := nI (i + 2)) (nI_add i 2) ?_
  refine va_sld hx hb hX hbl hbA hS (vp_in_nI (n := i + 2) (by omega) (by omega)) dL_law_913 ?_
  refine xr_top (y := xs (i + 2)) (congrArg xs (nI_clamp (by omega))) ?_
  refine lv_aload_n hx hb dL_law_914 rfl (lv_at hl 4 rfl) ?_
  refine lv_iload hx hb dL_law_915 (lv_at hl 0 rfl) ?_
  refine lv_iconst (v := 3) hx hb dL_law_917 (by decide) ?_
  refine lv_iadd hx hb dL_law_918 ?_
  refine xr_top (y := nI (i + 3)) (nI_add i 3) ?_
  refine va_sld hx hb hX hbl hbA hS (vp_in_nI (n := i + 3) (by omega) (by omega)) dL_law_919 ?_
  refine xr_top (y := xs (i + 3)) (congrArg xs (nI_clamp (by omega))) ?_
  refine lv_aload_n hx hb dL_law_920 rfl (lv_at hl 1 rfl) ?_
  refine xcb_i (mc := 2) (ms := 12) (wr := (wr ++ (wQ ca bb q))) (w0 := (wX ca f kq ad) ++ (wKd kq) ++ (wMp ca kq (ad j) y0) ++ [(g, .inl (ca 1, 1, .inr (.inl ov)))]) (vx_runSX (As := [.ref (f 0), .int (xs (i + 1)), .int (xs (i + 2)), .int (xs (i + 3)), .ref g]) (rest := []) ⟨hx, hb, hml, hown, hts⟩ (c_L_putWithin l D ca f kq ad _ hl9 j g y0 ov (ab q j) N (xs (i + 1)) (xs (i + 2)) (xs (i + 3)) hR hN hm) (vx_cwSW 5 hts gL_law_L_putWithin rfl rfl rfl (by decide +kernel) ⟨(Nat.le_of_ble_eq_true rfl), (Nat.le_of_ble_eq_true rfl)⟩) (xPbS (wr := (wr ++ (wQ ca bb q))) hKN hTZ hNC hP hD hS hA) rfl rfl hl.1 rfl (lv_room (Nat.le_of_ble_eq_true rfl)) dL_law_921 ⟨Nat.le_trans (m := 601024) (by omega) (Nat.le_of_ble_eq_true rfl), Nat.le_trans (m := 7293033) (by omega) (Nat.le_of_ble_eq_true rfl)⟩) (fun _ _ h => h) hP hD hS hA (fun r921 u921 H locs hu921 hP hD hS => ?_)
  have hP : va_P D vwCl ((wr ++ (wH ca f kq ad j g u921)) ++ (wQ ca bb q)) H := hP.perm (pm_sw (a := wr) (b := (wQ ca bb q)) (c := wH ca f kq ad j g u921))
  have hD : va_D A ((wr ++ (wH ca f kq ad j g u921)) ++ (wQ ca bb q)) := hD.perm (pm_sw (a := wr) (b := (wQ ca bb q)) (c := wH ca f kq ad j g u921))
  refine lv_istore (lv' := [(5, .int r921), (4, .int (nI i)), (3, .ref g), (2, .ref (bb 0)), (1, .ref (f 0)), (0, .ref b)]) hx hb dL_law_924 hl (by decide) rfl (fun ls hl => ?_)
  refine lv_aload_n hx hb dL_law_926 rfl (lv_at hl 3 rfl) ?_
  refine lv_aload_n hx hb dL_law_927 rfl (lv_at hl 5 rfl) ?_
  refine lv_iload hx hb dL_law_928 (lv_at hl 1 rfl) ?_
  refine lv_iconst (v := 1) hx hb dL_law_930 (by decide) ?_
  refine lv_iadd hx hb dL_law_931 ?_
  refine xr_top (y := nI (i + 1)) (nI_add i 1) ?_
  refine va_sld hx hb hX hbl hbA hS (vp_in_nI (n := i + 1) (by omega) (by omega)) dL_law_932 ?_
  refine xr_top (y := xs (i + 1)) (congrArg xs (nI_clamp (by omega))) ?_
  refine lv_aload_n hx hb dL_law_933 rfl (lv_at hl 5 rfl) ?_
  refine lv_iload hx hb dL_law_934 (lv_at hl 1 rfl) ?_
  refine lv_iconst (v := 2) hx hb dL_law_936 (by decide) ?_
  refine lv_iadd hx hb dL_law_937 ?_
  refine xr_top (y := nI (i + 2)) (nI_add i 2) ?_
  refine va_sld hx hb hX hbl hbA hS (vp_in_nI (n := i + 2) (by omega) (by omega)) dL_law_938 ?_
  refine xr_top (y := xs (i + 2)) (congrArg xs (nI_clamp (by omega))) ?_
  refine lv_aload_n hx hb dL_law_939 rfl (lv_at hl 5 rfl) ?_
  refine lv_iload hx hb dL_law_940 (lv_at hl 1 rfl) ?_
  refine lv_iconst (v := 3) hx hb dL_law_942 (by decide) ?_
  refine lv_iadd hx hb dL_law_943 ?_
  refine xr_top (y := nI (i + 3)) (nI_add i 3) ?_
  refine va_sld hx hb hX hbl hbA hS (vp_in_nI (n := i + 3) (by omega) (by omega)) dL_law_944 ?_
  refine xr_top (y := xs (i + 3)) (congrArg xs (nI_clamp (by omega))) ?_
  refine xb_i (mc := 0) (ms := 0) (wr := (wr ++ (wH ca f kq ad j g u921))) (w0 := (wQ ca bb q)) (va_runV (As := [.int (xs (i + 1)), .int (xs (i + 2)), .int (xs (i + 3))]) (rest := []) ⟨hx, hb, hml, hown, hts⟩ (c_X11_putWithin l D ca bb _ q (xs (i + 2)) (xs (i + 3)) (xs (i + 1)) hq) (cwV 3 hts gL_law_X11_putWithin rfl rfl rfl (by decide +kernel) ⟨(Nat.le_of_ble_eq_true rfl), (Nat.le_of_ble_eq_true rfl)⟩) (xPbV (wr := (wr ++ (wH ca f kq ad j g u921))) hKN hP hD rfl rfl rfl) rfl rfl hl.1 rfl (lv_room (Nat.le_of_ble_eq_true rfl)) dL_law_945 ⟨Nat.le_trans (m := 601024) (by omega) (Nat.le_of_ble_eq_true rfl), Nat.le_trans (m := 7293033) (by omega) (Nat.le_of_ble_eq_true rfl)⟩) hP hD hS hA (fun r945 u945 H locs hu945 hP hD hS => ?_)
  have hP : va_P D vwCl ((wr ++ (wH ca f kq ad j g u921)) ++ (wQ ca bb u945)) H := hP
  have hD : va_D A ((wr ++ (wH ca f kq ad j g u921)) ++ (wQ ca bb u945)) := hD
  obtain ⟨ex9, hR9, ho9⟩ := hu921
  obtain ⟨hW9, er9, ec9, ab9⟩ := po_gg hu945 hm
  have hco : u945.co = r921 := ec9.trans ex9.symm
  have hab : ∀ i, ¬ i = j → ab u945 i = ab q i := fun i hi => by rw [ab9]; exact vup_ne hi
  have hRj : Rel1 (N + 61) u921.1 (ab u945 j) := by rw [ab9, vup_eq]; exact hR9
  refine lv_istore (lv' := [(6, .int r945), (5, .int r921), (4, .int (nI i)), (3, .ref g), (2, .ref (bb 0)), (1, .ref (f 0)), (0, .ref b)]) hx hb dL_law_948 hl (by decide) rfl (fun ls hl => ?_)
  refine lv_aload_n hx hb dL_law_950 rfl (lv_at hl 4 rfl) ?_
  refine xb_i (mc := 0) (ms := 0) (wr := (wr ++ (wH ca f kq ad j g u921))) (w0 := (wQ ca bb u945)) (va_runV (As := []) (rest := []) ⟨hx, hb, hml, hown, hts⟩ (c_X11_thrown l D ca bb _ u945) (cwV 0 hts gL_law_X11_thrown rfl rfl rfl (by decide +kernel) ⟨(Nat.le_of_ble_eq_true rfl), (Nat.le_of_ble_eq_true rfl)⟩) (xPbV (wr := (wr ++ (wH ca f kq ad j g u921))) hKN hP hD rfl rfl rfl) rfl rfl hl.1 rfl (lv_room (Nat.le_of_ble_eq_true rfl)) dL_law_951 ⟨Nat.le_trans (m := 601024) (by omega) (Nat.le_of_ble_eq_true rfl), Nat.le_trans (m := 7293033) (by omega) (Nat.le_of_ble_eq_true rfl)⟩) hP hD hS hA (fun r951 u951 H locs hu951 hP hD hS => ?_)
  obtain ⟨et951, eu951⟩ := hu951
  have eu951 := eu951.symm
  subst eu951
  refine lv_iload hx hb dL_law_954 (lv_at hl 1 rfl) ?_
  refine lv_icmp_eq (tgt := 961) hx hb dL_law_956 (by decide) (fun c956 => ?_) (fun c956 => ?_)
  · skip
    refine lv_iload hx hb dL_law_961 (lv_at hl 1 rfl) ?_
    refine lv_if_ne (tgt := 985) hx hb dL_law_963 (by decide) (fun c963 => ?_) (fun c963 => ?_)
    · skip
      refine lv_goto (tgt := 1507) hx hb dL_law_985 (by decide) ?_
      exact W.widen (k := cells + 3) (n := slots + 18) (by omega) (by omega) (K9 H locs ls u921 u945 hW9 hab hRj hP hD hS (lv_sub hl [2, 3, 4, 5, 6] rfl))
    · skip
      refine lv_aload_n hx hb dL_law_966 rfl (lv_at hl 3 rfl) ?_
      refine lv_iconst (v := 0) hx hb dL_law_967 (by decide) ?_
      have hPo : va_P D vwCl ([(g, .inl (ca 1, 1, .inr (.inl ((u921).2))))] ++ ((wr ++ ((wX ca f kq ad) ++ (wKd kq) ++ (wMp ca kq (ad j) (u921).1))) ++ (wQ ca bb u945))) H := va_P.perm hP (pm_out (a := wr) (h := (wX ca f kq ad) ++ (wKd kq) ++ (wMp ca kq (ad j) (u921).1)) (o := [(g, .inl (ca 1, 1, .inr (.inl ((u921).2))))]) (q := (wQ ca bb u945)))
      refine xr_lld hx hb hKN.1 hPo 0 1 rfl rfl (j := 0) (by decide) (by decide) dL_law_968 ?_
      refine lv_iload hx hb dL_law_969 (lv_at hl 0 rfl) ?_
      refine lv_if_eq (tgt := 978) hx hb dL_law_971 (by decide) (fun c971 => ?_) (fun c971 => ?_)
      · skip
        refine lv_lconst (v := 0) hx hb dL_law_978 (by decide) ?_
        refine W.lcmp hx hb dL_law_979 ?_
        refine lv_if_eq (tgt := 985) hx hb dL_law_980 (by decide) (fun c980 => ?_) (fun c980 => ?_)
        · skip
          refine lv_goto (tgt := 1507) hx hb dL_law_985 (by decide) ?_
          exact W.widen (k := cells + 3) (n := slots + 18) (by omega) (by omega) (K9 H locs ls u921 u945 hW9 hab hRj hP hD hS (lv_sub hl [2, 3, 4, 5, 6] rfl))
        · skip
          exact absurd (lgc_0.mpr ((ho9 c963).trans (if_pos (er9.symm.trans c971)))) c980
      · skip
        refine lv_lconst (v := 1) hx hb dL_law_974 (by decide) ?_
        refine lv_goto (tgt := 979) hx hb dL_law_975 (by decide) ?_
        refine W.lcmp hx hb dL_law_979 ?_
        refine lv_if_eq (tgt := 985) hx hb dL_law_980 (by decide) (fun c980 => ?_) (fun c980 => ?_)
        · skip
          refine lv_goto (tgt := 1507) hx hb dL_law_985 (by decide) ?_
          exact W.widen (k := cells + 3) (n := slots + 18) (by omega) (by omega) (K9 H locs ls u921 u945 hW9 hab hRj hP hD hS (lv_sub hl [2, 3, 4, 5, 6] rfl))
        · skip
          exact absurd (lgc_0.mpr ((ho9 c963).trans (if_neg (fun h => c971 (er9.trans h))))) c980
  · skip
    exact absurd (et951.trans hco) c956
set_option maxHeartbeats 4000000 in
set_option maxRecDepth 100000 in
theorem k_poll {p : Program} {l : Launch} {e : Env} {s : State} {m : MethodId} {args : Array Value} {below : List Frame} {meth : Method} {c : Code} {H : Heap} {locs : List Loc} {Q : State → Prop} {ls : Array Slot} {D : va_G} {ca : Nat → ClassId} {A : Nat → Prop} {f kq bb : Nat → Nat} {ad : Nat → Nat → Nat} {g b L i N cells slots : Nat} {xs : Nat → Int32} {q : QS} {ov : Nat → Int64} (hx : p.tables.exec = Jvm.exec) (hb : c.code = cL_law) (hml : c.maxLocals = 8) (hts : ∀ w ∈ wsL_law, w.before args s = true) (hown : s.vm.findClass RL = some m.cls) (hKN : xK D (TY ca) s) (hTZ : TZ A s s.heap) (hNC : NC s) (hA : ∀ q : Nat, s.heap.size ≤ q → A q) (hl9 : l.stackTraces = false) (hX : va_X b L xs s s.heap) (hbl : b < s.heap.size) (hbA : ¬ A b) (hiL : i + 5 ≤ L) (hL : L ≤ 2560) (hN : N ≤ 1000000) (hcl : cells + 3 ≤ 601024) (hsl : slots + 18 ≤ 7293033) (wr : va_W) (j : Nat) (y0 : MS) (hq : WQ q) (hm : isB (xs (i + 1)) 3 = true → xs (i + 1) = nI j ∧ j < 3) (hR : Rel1 N y0 (ab q j)) (hP : va_P D vwCl ((wr ++ (wQ ca bb q)) ++ ((wX ca f kq ad) ++ (wKd kq) ++ (wMp ca kq (ad j) y0) ++ [(g, .inl (ca 1, 1, .inr (.inl ov)))])) H) (hD : va_D A ((wr ++ (wQ ca bb q)) ++ ((wX ca f kq ad) ++ (wKd kq) ++ (wMp ca kq (ad j) y0) ++ [(g, .inl (ca 1, 1, .inr (.inl ov)))]))) (hS : va_S A s.heap H locs) (hl : lv_has ls 8 [(4, .int (nI i)), (3, .ref g), (2, .ref (bb 0)), (1, .ref (f 0)), (0, .ref b)]) (K9 : ∀ (H : Heap) (locs : List Loc) (ls : Array Slot) (u : MO) (q9 : QS), WQ q9 → (∀ i, ¬ i = j → ab q9 i = ab q i) → Rel1 (N + 61) u.1 (ab q9 j) → va_P D vwCl ((wr ++ (wH ca f kq ad j g u)) ++ (wQ ca bb q9)) H → va_D A ((wr ++ (wH ca f kq ad j g u)) ++ (wQ ca bb q9)) → va_S A s.heap H locs → lv_has ls 8 [(4, .int (nI i)), (3, .ref g), (2, .ref (bb 0)), (1, .ref (f 0)), (0, .ref b)] → W p l e room_1 s m args below meth c H locs (cells + 3) (slots + 18) Q (F0 m 1507 ls [])) : W p l e room_1 s m args below meth c H locs cells slots Q (F0 m 988 ls []) := by
  refine lv_aload_n hx hb dL_law_988 rfl (lv_at hl 3 rfl) ?_
  refine lv_aload_n hx hb dL_law_989 rfl (lv_at hl 4 rfl) ?_
  refine lv_iload hx hb dL_law_990 (lv_at hl 0 rfl) ?_
  refine lv_iconst (v := 1) hx hb dL_law_992 (by decide) ?_
  refine lv_iadd hx hb dL_law_993 ?_
  refine xr_top (y := nI (i + 1)) (nI_add i 1) ?_
  refine va_sld hx hb hX hbl hbA hS (vp_in_nI (n := i + 1) (by omega) (by omega)) dL_law_994 ?_
  refine xr_top (y := xs (i + 1)) (congrArg xs (nI_clamp (by omega))) ?_
  refine lv_aload_n hx hb dL_law_995 rfl (lv_at hl 4 rfl) ?_
  refine lv_iload hx hb dL_law_996 (lv_at hl 0 rfl) ?_
  refine lv_iconst (v := 2) hx hb dL_law_998 (by decide) ?_
  refine lv_iadd hx hb dL_law_999 ?_
  refine xr_top (y := nI (i + 2)) (nI_add i 2) ?_
  refine va_sld hx hb hX hbl hbA hS (vp_in_nI (n := i + 2) (by omega) (by omega)) dL_law_1000 ?_
  refine xr_top (y := xs (i + 2)) (congrArg xs (nI_clamp (by omega))) ?_
  refine lv_if_eq (tgt := 1008) hx hb dL_law_1001 (by decide) (fun c1001 => ?_) (fun c1001 => ?_)
  · skip
    refine lv_iconst (v := 0) hx hb dL_law_1008 (by decide) ?_
    refine lv_aload_n hx hb dL_law_1009 rfl (lv_at hl 1 rfl) ?_
    refine xcb_i (mc := 2) (ms := 12) (wr := (wr ++ (wQ ca bb q))) (w0 := (wX ca f kq ad) ++ (wKd kq) ++ (wMp ca kq (ad j) y0) ++ [(g, .inl (ca 1, 1, .inr (.inl ov)))]) (vx_runSX (As := [.ref (f 0), .int (xs (i + 1)), .int 0, .ref g]) (rest := []) ⟨hx, hb, hml, hown, hts⟩ (c_L_poll l D ca f kq ad _ hl9 j g y0 ov (ab q j) N (xs (i + 1)) false hR hN hm) (vx_cwSW 4 hts gL_law_L_poll rfl rfl rfl (by decide +kernel) ⟨(Nat.le_of_ble_eq_true rfl), (Nat.le_of_ble_eq_true rfl)⟩) (xPbS (wr := (wr ++ (wQ ca bb q))) hKN hTZ hNC hP hD hS hA) rfl rfl hl.1 rfl (lv_room (Nat.le_of_ble_eq_true rfl)) dL_law_1010 ⟨Nat.le_trans (m := 601024) (by omega) (Nat.le_of_ble_eq_true rfl), Nat.le_trans (m := 7293033) (by omega) (Nat.le_of_ble_eq_true rfl)⟩) (fun _ _ h => h) hP hD hS hA (fun r1010 u1010 H locs hu1010 hP hD hS => ?_)
    have hP : va_P D vwCl ((wr ++ (wH ca f kq ad j g u1010)) ++ (wQ ca bb q)) H := hP.perm (pm_sw (a := wr) (b := (wQ ca bb q)) (c := wH ca f kq ad j g u1010))
    have hD : va_D A ((wr ++ (wH ca f kq ad j g u1010)) ++ (wQ ca bb q)) := hD.perm (pm_sw (a := wr) (b := (wQ ca bb q)) (c := wH ca f kq ad j g u1010))
    refine lv_istore (lv' := [(5, .int r1010), (4, .int (nI i)), (3, .ref g), (2, .ref (bb 0)), (1, .ref (f 0)), (0, .ref b)]) hx hb dL_law_1013 hl (by decide) rfl (fun ls hl => ?_)
    refine lv_aload_n hx hb dL_law_1015 rfl (lv_at hl 3 rfl) ?_
    refine lv_aload_n hx hb dL_law_1016 rfl (lv_at hl 5 rfl) ?_
    refine lv_iload hx hb dL_law_1017 (lv_at hl 1 rfl) ?_
    refine lv_iconst (v := 1) hx hb dL_law_1019 (by decide) ?_
    refine lv_iadd hx hb dL_law_1020 ?_
    refine xr_top (y := nI (i + 1)) (nI_add i 1) ?_
    refine va_sld hx hb hX hbl hbA hS (vp_in_nI (n := i + 1) (by omega) (by omega)) dL_law_1021 ?_
    refine xr_top (y := xs (i + 1)) (congrArg xs (nI_clamp (by omega))) ?_
    refine lv_aload_n hx hb dL_law_1022 rfl (lv_at hl 5 rfl) ?_
    refine lv_iload hx hb dL_law_1023 (lv_at hl 1 rfl) ?_
    refine lv_iconst (v := 2) hx hb dL_law_1025 (by decide) ?_
    refine lv_iadd hx hb dL_law_1026 ?_
    refine xr_top (y := nI (i + 2)) (nI_add i 2) ?_
    refine va_sld hx hb hX hbl hbA hS (vp_in_nI (n := i + 2) (by omega) (by omega)) dL_law_1027 ?_
    refine xr_top (y := xs (i + 2)) (congrArg xs (nI_clamp (by omega))) ?_
    refine lv_if_eq (tgt := 1035) hx hb dL_law_1028 (by decide) (fun c1028 => ?_) (fun c1028 => ?_)
    · skip
      refine lv_iconst (v := 0) hx hb dL_law_1035 (by decide) ?_
      refine xb_i (mc := 0) (ms := 0) (wr := (wr ++ (wH ca f kq ad j g u1010))) (w0 := (wQ ca bb q)) (va_runV (As := [.int (xs (i + 1)), .int 0]) (rest := []) ⟨hx, hb, hml, hown, hts⟩ (c_X11_poll l D ca bb _ q false (xs (i + 1)) hq) (cwV 2 hts gL_law_X11_poll rfl rfl rfl (by decide +kernel) ⟨(Nat.le_of_ble_eq_true rfl), (Nat.le_of_ble_eq_true rfl)⟩) (xPbV (wr := (wr ++ (wH ca f kq ad j g u1010))) hKN hP hD rfl rfl rfl) rfl rfl hl.1 rfl (lv_room (Nat.le_of_ble_eq_true rfl)) dL_law_1036 ⟨Nat.le_trans (m := 601024) (by omega) (Nat.le_of_ble_eq_true rfl), Nat.le_trans (m := 7293033) (by omega) (Nat.le_of_ble_eq_true rfl)⟩) hP hD hS hA (fun r1036 u1036 H locs hu1036 hP hD hS => ?_)
      have hP : va_P D vwCl ((wr ++ (wH ca f kq ad j g u1010)) ++ (wQ ca bb u1036)) H := hP
      have hD : va_D A ((wr ++ (wH ca f kq ad j g u1010)) ++ (wQ ca bb u1036)) := hD
      obtain ⟨ex9, hR9, ho9⟩ := hu1010
      obtain ⟨hW9, er9, ec9, ab9⟩ := po_gg hu1036 hm
      have hco : u1036.co = r1010 := ec9.trans ex9.symm
      have hab : ∀ i, ¬ i = j → ab u1036 i = ab q i := fun i hi => by rw [ab9]; exact vup_ne hi
      have hRj : Rel1 (N + 61) u1010.1 (ab u1036 j) := by rw [ab9, vup_eq]; exact hR9
      refine lv_istore (lv' := [(6, .int r1036), (5, .int r1010), (4, .int (nI i)), (3, .ref g), (2, .ref (bb 0)), (1, .ref (f 0)), (0, .ref b)]) hx hb dL_law_1039 hl (by decide) rfl (fun ls hl => ?_)
      refine lv_aload_n hx hb dL_law_1041 rfl (lv_at hl 4 rfl) ?_
      refine xb_i (mc := 0) (ms := 0) (wr := (wr ++ (wH ca f kq ad j g u1010))) (w0 := (wQ ca bb u1036)) (va_runV (As := []) (rest := []) ⟨hx, hb, hml, hown, hts⟩ (c_X11_thrown l D ca bb _ u1036) (cwV 0 hts gL_law_X11_thrown rfl rfl rfl (by decide +kernel) ⟨(Nat.le_of_ble_eq_true rfl), (Nat.le_of_ble_eq_true rfl)⟩) (xPbV (wr := (wr ++ (wH ca f kq ad j g u1010))) hKN hP hD rfl rfl rfl) rfl rfl hl.1 rfl (lv_room (Nat.le_of_ble_eq_true rfl)) dL_law_1042 ⟨Nat.le_trans (m := 601024) (by omega) (Nat.le_of_ble_eq_true rfl), Nat.le_trans (m := 7293033) (by omega) (Nat.le_of_ble_eq_true rfl)⟩) hP hD hS hA (fun r1042 u1042 H locs hu1042 hP hD hS => ?_)
      obtain ⟨et1042, eu1042⟩ := hu1042
      have eu1042 := eu1042.symm
      subst eu1042
      refine lv_iload hx hb dL_law_1045 (lv_at hl 1 rfl) ?_
      refine lv_icmp_eq (tgt := 1052) hx hb dL_law_1047 (by decide) (fun c1047 => ?_) (fun c1047 => ?_)
      · skip
        refine lv_iload hx hb dL_law_1052 (lv_at hl 1 rfl) ?_
        refine lv_if_ne (tgt := 1069) hx hb dL_law_1054 (by decide) (fun c1054 => ?_) (fun c1054 => ?_)
        · skip
          refine lv_goto (tgt := 1507) hx hb dL_law_1069 (by decide) ?_
          exact W.widen (k := cells + 3) (n := slots + 18) (by omega) (by omega) (K9 H locs ls u1010 u1036 hW9 hab hRj hP hD hS (lv_sub hl [2, 3, 4, 5, 6] rfl))
        · skip
          refine lv_aload_n hx hb dL_law_1057 rfl (lv_at hl 3 rfl) ?_
          refine lv_iconst (v := 0) hx hb dL_law_1058 (by decide) ?_
          have hPo : va_P D vwCl ([(g, .inl (ca 1, 1, .inr (.inl ((u1010).2))))] ++ ((wr ++ ((wX ca f kq ad) ++ (wKd kq) ++ (wMp ca kq (ad j) (u1010).1))) ++ (wQ ca bb u1036))) H := va_P.perm hP (pm_out (a := wr) (h := (wX ca f kq ad) ++ (wKd kq) ++ (wMp ca kq (ad j) (u1010).1)) (o := [(g, .inl (ca 1, 1, .inr (.inl ((u1010).2))))]) (q := (wQ ca bb u1036)))
          refine xr_lld hx hb hKN.1 hPo 0 1 rfl rfl (j := 0) (by decide) (by decide) dL_law_1059 ?_
          refine lv_iload hx hb dL_law_1060 (lv_at hl 0 rfl) ?_
          refine lv_i2l hx hb dL_law_1062 rfl ?_
          refine W.lcmp hx hb dL_law_1063 ?_
          refine lv_if_eq (tgt := 1069) hx hb dL_law_1064 (by decide) (fun c1064 => ?_) (fun c1064 => ?_)
          · skip
            refine lv_goto (tgt := 1507) hx hb dL_law_1069 (by decide) ?_
            exact W.widen (k := cells + 3) (n := slots + 18) (by omega) (by omega) (K9 H locs ls u1010 u1036 hW9 hab hRj hP hD hS (lv_sub hl [2, 3, 4, 5, 6] rfl))
          · skip
            exact absurd (lgc_0.mpr ((ho9 c1054).trans (congrArg Int32.toInt64 er9.symm))) c1064
      · skip
        exact absurd (et1042.trans hco) c1047
    · skip
      exact absurd c1001 c1028
  · skip
    refine lv_iconst (v := 1) hx hb dL_law_1004 (by decide) ?_
    refine lv_goto (tgt := 1009) hx hb dL_law_1005 (by decide) ?_
    refine lv_aload_n hx hb dL_law_1009 rfl (lv_at hl 1 rfl) ?_
    refine xcb_i (mc := 2) (ms := 12) (wr := (wr ++ (wQ ca bb q))) (w0 := (wX ca f kq ad) ++ (wKd kq) ++ (wMp ca kq (ad j) y0) ++ [(g, .inl (ca 1, 1, .inr (.inl ov)))]) (vx_runSX (As := [.ref (f 0), .int (xs (i + 1)), .int 1, .ref g]) (rest := []) ⟨hx, hb, hml, hown, hts⟩ (c_L_poll l D ca f kq ad _ hl9 j g y0 ov (ab q j) N (xs (i + 1)) true hR hN hm) (vx_cwSW 4 hts gL_law_L_poll rfl rfl rfl (by decide +kernel) ⟨(Nat.le_of_ble_eq_true rfl), (Nat.le_of_ble_eq_true rfl)⟩) (xPbS (wr := (wr ++ (wQ ca bb q))) hKN hTZ hNC hP hD hS hA) rfl rfl hl.1 rfl (lv_room (Nat.le_of_ble_eq_true rfl)) dL_law_1010 ⟨Nat.le_trans (m := 601024) (by omega) (Nat.le_of_ble_eq_true rfl), Nat.le_trans (m := 7293033) (by omega) (Nat.le_of_ble_eq_true rfl)⟩) (fun _ _ h => h) hP hD hS hA (fun r1010 u1010 H locs hu1010 hP hD hS => ?_)
    have hP : va_P D vwCl ((wr ++ (wH ca f kq ad j g u1010)) ++ (wQ ca bb q)) H := hP.perm (pm_sw (a := wr) (b := (wQ ca bb q)) (c := wH ca f kq ad j g u1010))
    have hD : va_D A ((wr ++ (wH ca f kq ad j g u1010)) ++ (wQ ca bb q)) := hD.perm (pm_sw (a := wr) (b := (wQ ca bb q)) (c := wH ca f kq ad j g u1010))
    refine lv_istore (lv' := [(5, .int r1010), (4, .int (nI i)), (3, .ref g), (2, .ref (bb 0)), (1, .ref (f 0)), (0, .ref b)]) hx hb dL_law_1013 hl (by decide) rfl (fun ls hl => ?_)
    refine lv_aload_n hx hb dL_law_1015 rfl (lv_at hl 3 rfl) ?_
    refine lv_aload_n hx hb dL_law_1016 rfl (lv_at hl 5 rfl) ?_
    refine lv_iload hx hb dL_law_1017 (lv_at hl 1 rfl) ?_
    refine lv_iconst (v := 1) hx hb dL_law_1019 (by decide) ?_
    refine lv_iadd hx hb dL_law_1020 ?_
    refine xr_top (y := nI (i + 1)) (nI_add i 1) ?_
    refine va_sld hx hb hX hbl hbA hS (vp_in_nI (n := i + 1) (by omega) (by omega)) dL_law_1021 ?_
    refine xr_top (y := xs (i + 1)) (congrArg xs (nI_clamp (by omega))) ?_
    refine lv_aload_n hx hb dL_law_1022 rfl (lv_at hl 5 rfl) ?_
    refine lv_iload hx hb dL_law_1023 (lv_at hl 1 rfl) ?_
    refine lv_iconst (v := 2) hx hb dL_law_1025 (by decide) ?_
    refine lv_iadd hx hb dL_law_1026 ?_
    refine xr_top (y := nI (i + 2)) (nI_add i 2) ?_
    refine va_sld hx hb hX hbl hbA hS (vp_in_nI (n := i + 2) (by omega) (by omega)) dL_law_1027 ?_
    refine xr_top (y := xs (i + 2)) (congrArg xs (nI_clamp (by omega))) ?_
    refine lv_if_eq (tgt := 1035) hx hb dL_law_1028 (by decide) (fun c1028 => ?_) (fun c1028 => ?_)
    · skip
      exact absurd c1028 c1001
    · skip
      refine lv_iconst (v := 1) hx hb dL_law_1031 (by decide) ?_
      refine lv_goto (tgt := 1036) hx hb dL_law_1032 (by decide) ?_
      refine xb_i (mc := 0) (ms := 0) (wr := (wr ++ (wH ca f kq ad j g u1010))) (w0 := (wQ ca bb q)) (va_runV (As := [.int (xs (i + 1)), .int 1]) (rest := []) ⟨hx, hb, hml, hown, hts⟩ (c_X11_poll l D ca bb _ q true (xs (i + 1)) hq) (cwV 2 hts gL_law_X11_poll rfl rfl rfl (by decide +kernel) ⟨(Nat.le_of_ble_eq_true rfl), (Nat.le_of_ble_eq_true rfl)⟩) (xPbV (wr := (wr ++ (wH ca f kq ad j g u1010))) hKN hP hD rfl rfl rfl) rfl rfl hl.1 rfl (lv_room (Nat.le_of_ble_eq_true rfl)) dL_law_1036 ⟨Nat.le_trans (m := 601024) (by omega) (Nat.le_of_ble_eq_true rfl), Nat.le_trans (m := 7293033) (by omega) (Nat.le_of_ble_eq_true rfl)⟩) hP hD hS hA (fun r1036 u1036 H locs hu1036 hP hD hS => ?_)
      have hP : va_P D vwCl ((wr ++ (wH ca f kq ad j g u1010)) ++ (wQ ca bb u1036)) H := hP
      have hD : va_D A ((wr ++ (wH ca f kq ad j g u1010)) ++ (wQ ca bb u1036)) := hD
      obtain ⟨ex9, hR9, ho9⟩ := hu1010
      obtain ⟨hW9, er9, ec9, ab9⟩ := po_gg hu1036 hm
      have hco : u1036.co = r1010 := ec9.trans ex9.symm
      have hab : ∀ i, ¬ i = j → ab u1036 i = ab q i := fun i hi => by rw [ab9]; exact vup_ne hi
      have hRj : Rel1 (N + 61) u1010.1 (ab u1036 j) := by rw [ab9, vup_eq]; exact hR9
      refine lv_istore (lv' := [(6, .int r1036), (5, .int r1010), (4, .int (nI i)), (3, .ref g), (2, .ref (bb 0)), (1, .ref (f 0)), (0, .ref b)]) hx hb dL_law_1039 hl (by decide) rfl (fun ls hl => ?_)
      refine lv_aload_n hx hb dL_law_1041 rfl (lv_at hl 4 rfl) ?_
      refine xb_i (mc := 0) (ms := 0) (wr := (wr ++ (wH ca f kq ad j g u1010))) (w0 := (wQ ca bb u1036)) (va_runV (As := []) (rest := []) ⟨hx, hb, hml, hown, hts⟩ (c_X11_thrown l D ca bb _ u1036) (cwV 0 hts gL_law_X11_thrown rfl rfl rfl (by decide +kernel) ⟨(Nat.le_of_ble_eq_true rfl), (Nat.le_of_ble_eq_true rfl)⟩) (xPbV (wr := (wr ++ (wH ca f kq ad j g u1010))) hKN hP hD rfl rfl rfl) rfl rfl hl.1 rfl (lv_room (Nat.le_of_ble_eq_true rfl)) dL_law_1042 ⟨Nat.le_trans (m := 601024) (by omega) (Nat.le_of_ble_eq_true rfl), Nat.le_trans (m := 7293033) (by omega) (Nat.le_of_ble_eq_true rfl)⟩) hP hD hS hA (fun r1042 u1042 H locs hu1042 hP hD hS => ?_)
      obtain ⟨et1042, eu1042⟩ := hu1042
      have eu1042 := eu1042.symm
      subst eu1042
      refine lv_iload hx hb dL_law_1045 (lv_at hl 1 rfl) ?_
      refine lv_icmp_eq (tgt := 1052) hx hb dL_law_1047 (by decide) (fun c1047 => ?_) (fun c1047 => ?_)
      · skip
        refine lv_iload hx hb dL_law_1052 (lv_at hl 1 rfl) ?_
        refine lv_if_ne (tgt := 1069) hx hb dL_law_1054 (by decide) (fun c1054 => ?_) (fun c1054 => ?_)
        · skip
          refine lv_goto (tgt := 1507) hx hb dL_law_1069 (by decide) ?_
          exact W.widen (k := cells + 3) (n := slots + 18) (by omega) (by omega) (K9 H locs ls u1010 u1036 hW9 hab hRj hP hD hS (lv_sub hl [2, 3, 4, 5, 6] rfl))
        · skip
          refine lv_aload_n hx hb dL_law_1057 rfl (lv_at hl 3 rfl) ?_
          refine lv_iconst (v := 0) hx hb dL_law_1058 (by decide) ?_
          have hPo : va_P D vwCl ([(g, .inl (ca 1, 1, .inr (.inl ((u1010).2))))] ++ ((wr ++ ((wX ca f kq ad) ++ (wKd kq) ++ (wMp ca kq (ad j) (u1010).1))) ++ (wQ ca bb u1036))) H := va_P.perm hP (pm_out (a := wr) (h := (wX ca f kq ad) ++ (wKd kq) ++ (wMp ca kq (ad j) (u1010).1)) (o := [(g, .inl (ca 1, 1, .inr (.inl ((u1010).2))))]) (q := (wQ ca bb u1036)))
          refine xr_lld hx hb hKN.1 hPo 0 1 rfl rfl (j := 0) (by decide) (by decide) dL_law_1059 ?_
          refine lv_iload hx hb dL_law_1060 (lv_at hl 0 rfl) ?_
          refine lv_i2l hx hb dL_law_1062 rfl ?_
          refine W.lcmp hx hb dL_law_1063 ?_
          refine lv_if_eq (tgt := 1069) hx hb dL_law_1064 (by decide) (fun c1064 => ?_) (fun c1064 => ?_)
          · skip
            refine lv_goto (tgt := 1507) hx hb dL_law_1069 (by decide) ?_
            exact W.widen (k := cells + 3) (n := slots + 18) (by omega) (by omega) (K9 H locs ls u1010 u1036 hW9 hab hRj hP hD hS (lv_sub hl [2, 3, 4, 5, 6] rfl))
          · skip
            exact absurd (lgc_0.mpr ((ho9 c1054).trans (congrArg Int32.toInt64 er9.symm))) c1064
      · skip
        exact absurd (et1042.trans hco) c1047
set_option maxHeartbeats 4000000 in
set_option maxRecDepth 100000 in
theorem k_iterate {p : Program} {l : Launch} {e : Env} {s : State} {m : MethodId} {args : Array Value} {below : List Frame} {meth : Method} {c : Code} {H : Heap} {locs : List Loc} {Q : State → Prop} {ls : Array Slot} {D : va_G} {ca : Nat → ClassId} {A : Nat → Prop} {f kq bb : Nat → Nat} {ad : Nat → Nat → Nat} {g b L i N cells slots : Nat} {xs : Nat → Int32} {q : QS} {ov : Nat → Int64} (hx : p.tables.exec = Jvm.exec) (hb : c.code = cL_law) (hml : c.maxLocals = 8) (hts : ∀ w ∈ wsL_law, w.before args s = true) (hown : s.vm.findClass RL = some m.cls) (hKN : xK D (TY ca) s) (hTZ : TZ A s s.heap) (hNC : NC s) (hA : ∀ q : Nat, s.heap.size ≤ q → A q) (hl9 : l.stackTraces = false) (hX : va_X b L xs s s.heap) (hbl : b < s.heap.size) (hbA : ¬ A b) (hiL : i + 5 ≤ L) (hL : L ≤ 2560) (hN : N ≤ 1000000) (hcl : cells + 3 ≤ 601024) (hsl : slots + 18 ≤ 7293033) (wr : va_W) (j : Nat) (y0 : MS) (hq : WQ q) (hm : isB (xs (i + 1)) 3 = true → xs (i + 1) = nI j ∧ j < 3) (hR : Rel1 N y0 (ab q j)) (hP : va_P D vwCl ((wr ++ (wQ ca bb q)) ++ ((wX ca f kq ad) ++ (wKd kq) ++ (wMp ca kq (ad j) y0) ++ [(g, .inl (ca 1, 1, .inr (.inl ov)))])) H) (hD : va_D A ((wr ++ (wQ ca bb q)) ++ ((wX ca f kq ad) ++ (wKd kq) ++ (wMp ca kq (ad j) y0) ++ [(g, .inl (ca 1, 1, .inr (.inl ov)))]))) (hS : va_S A s.heap H locs) (hl : lv_has ls 8 [(4, .int (nI i)), (3, .ref g), (2, .ref (bb 0)), (1, .ref (f 0)), (0, .ref b)]) (K9 : ∀ (H : Heap) (locs : List Loc) (ls : Array Slot) (u : MO) (q9 : QS), WQ q9 → (∀ i, ¬ i = j → ab q9 i = ab q i) → Rel1 (N + 61) u.1 (ab q9 j) → va_P D vwCl ((wr ++ (wH ca f kq ad j g u)) ++ (wQ ca bb q9)) H → va_D A ((wr ++ (wH ca f kq ad j g u)) ++ (wQ ca bb q9)) → va_S A s.heap H locs → lv_has ls 8 [(4, .int (nI i)), (3, .ref g), (2, .ref (bb 0)), (1, .ref (f 0)), (0, .ref b)] → W p l e room_1 s m args below meth c H locs (cells + 3) (slots + 18) Q (F0 m 1507 ls [])) : W p l e room_1 s m args below meth c H locs cells slots Q (F0 m 1072 ls []) := by
  refine lv_aload_n hx hb dL_law_1072 rfl (lv_at hl 3 rfl) ?_
  refine lv_aload_n hx hb dL_law_1073 rfl (lv_at hl 4 rfl) ?_
  refine lv_iload hx hb dL_law_1074 (lv_at hl 0 rfl) ?_
  refine lv_iconst (v := 1) hx hb dL_law_1076 (by decide) ?_
  refine lv_iadd hx hb dL_law_1077 ?_
  refine xr_top (y := nI (i + 1)) (nI_add i 1) ?_
  refine va_sld hx hb hX hbl hbA hS (vp_in_nI (n := i + 1) (by omega) (by omega)) dL_law_1078 ?_
  refine xr_top (y := xs (i + 1)) (congrArg xs (nI_clamp (by omega))) ?_
  refine lv_aload_n hx hb dL_law_1079 rfl (lv_at hl 4 rfl) ?_
  refine lv_iload hx hb dL_law_1080 (lv_at hl 0 rfl) ?_
  refine lv_iconst (v := 2) hx hb dL_law_1082 (by decide) ?_
  refine lv_iadd hx hb dL_law_1083 ?_
  refine xr_top (y := nI (i + 2)) (nI_add i 2) ?_
  refine va_sld hx hb hX hbl hbA hS (vp_in_nI (n := i + 2) (by omega) (by omega)) dL_law_1084 ?_
  refine xr_top (y := xs (i + 2)) (congrArg xs (nI_clamp (by omega))) ?_
  refine lv_if_eq (tgt := 1092) hx hb dL_law_1085 (by decide) (fun c1085 => ?_) (fun c1085 => ?_)
  · skip
    refine lv_iconst (v := 0) hx hb dL_law_1092 (by decide) ?_
    have hP : va_P D vwCl (((wr ++ [(g, .inl (ca 1, 1, .inr (.inl ov)))]) ++ (wQ ca bb q)) ++ ((wX ca f kq ad) ++ (wKd kq) ++ (wMp ca kq (ad j) y0))) H := hP.perm (pm_v (a := wr) (x := (wX ca f kq ad) ++ (wKd kq) ++ (wMp ca kq (ad j) y0)) (o := [(g, .inl (ca 1, 1, .inr (.inl ov)))]) (q := (wQ ca bb q)))
    have hD : va_D A (((wr ++ [(g, .inl (ca 1, 1, .inr (.inl ov)))]) ++ (wQ ca bb q)) ++ ((wX ca f kq ad) ++ (wKd kq) ++ (wMp ca kq (ad j) y0))) := hD.perm (pm_v (a := wr) (x := (wX ca f kq ad) ++ (wKd kq) ++ (wMp ca kq (ad j) y0)) (o := [(g, .inl (ca 1, 1, .inr (.inl ov)))]) (q := (wQ ca bb q)))
    refine xcb_i (mc := 2) (ms := 12) (wr := ((wr ++ [(g, .inl (ca 1, 1, .inr (.inl ov)))]) ++ (wQ ca bb q))) (w0 := (wX ca f kq ad) ++ (wKd kq) ++ (wMp ca kq (ad j) y0)) (vx_runSX (As := [.ref (f 0), .int (xs (i + 1)), .int 0]) (rest := []) ⟨hx, hb, hml, hown, hts⟩ (c_L_iterate l D ca f kq ad _ hl9 j y0 (ab q j) N (xs (i + 1)) false hR hN hm) (vx_cwSW 3 hts gL_law_L_iterate rfl rfl rfl (by decide +kernel) ⟨(Nat.le_of_ble_eq_true rfl), (Nat.le_of_ble_eq_true rfl)⟩) (xPbS (wr := ((wr ++ [(g, .inl (ca 1, 1, .inr (.inl ov)))]) ++ (wQ ca bb q))) hKN hTZ hNC hP hD hS hA) rfl rfl hl.1 rfl (lv_room (Nat.le_of_ble_eq_true rfl)) dL_law_1093 ⟨Nat.le_trans (m := 601024) (by omega) (Nat.le_of_ble_eq_true rfl), Nat.le_trans (m := 7293033) (by omega) (Nat.le_of_ble_eq_true rfl)⟩) (fun _ _ h => h) hP hD hS hA (fun r1093 u1093 H locs hu1093 hP hD hS => ?_)
    have hP : va_P D vwCl ((wr ++ (wH ca f kq ad j g (u1093, ov))) ++ (wQ ca bb q)) H := hP.perm (pm_w (a := wr) (x := wF1 ca f kq ad j u1093) (o := [(g, .inl (ca 1, 1, .inr (.inl ov)))]) (q := (wQ ca bb q)))
    have hD : va_D A ((wr ++ (wH ca f kq ad j g (u1093, ov))) ++ (wQ ca bb q)) := hD.perm (pm_w (a := wr) (x := wF1 ca f kq ad j u1093) (o := [(g, .inl (ca 1, 1, .inr (.inl ov)))]) (q := (wQ ca bb q)))
    refine lv_istore (lv' := [(5, .int r1093), (4, .int (nI i)), (3, .ref g), (2, .ref (bb 0)), (1, .ref (f 0)), (0, .ref b)]) hx hb dL_law_1096 hl (by decide) rfl (fun ls hl => ?_)
    refine lv_aload_n hx hb dL_law_1098 rfl (lv_at hl 3 rfl) ?_
    refine lv_aload_n hx hb dL_law_1099 rfl (lv_at hl 5 rfl) ?_
    refine lv_iload hx hb dL_law_1100 (lv_at hl 1 rfl) ?_
    refine lv_iconst (v := 1) hx hb dL_law_1102 (by decide) ?_
    refine lv_iadd hx hb dL_law_1103 ?_
    refine xr_top (y := nI (i + 1)) (nI_add i 1) ?_
    refine va_sld hx hb hX hbl hbA hS (vp_in_nI (n := i + 1) (by omega) (by omega)) dL_law_1104 ?_
    refine xr_top (y := xs (i + 1)) (congrArg xs (nI_clamp (by omega))) ?_
    refine lv_aload_n hx hb dL_law_1105 rfl (lv_at hl 5 rfl) ?_
    refine lv_iload hx hb dL_law_1106 (lv_at hl 1 rfl) ?_
    refine lv_iconst (v := 2) hx hb dL_law_1108 (by decide) ?_
    refine lv_iadd hx hb dL_law_1109 ?_
    refine xr_top (y := nI (i + 2)) (nI_add i 2) ?_
    refine va_sld hx hb hX hbl hbA hS (vp_in_nI (n := i + 2) (by omega) (by omega)) dL_law_1110 ?_
    refine xr_top (y := xs (i + 2)) (congrArg xs (nI_clamp (by omega))) ?_
    refine lv_if_eq (tgt := 1118) hx hb dL_law_1111 (by decide) (fun c1111 => ?_) (fun c1111 => ?_)
    · skip
      refine lv_iconst (v := 0) hx hb dL_law_1118 (by decide) ?_
      refine xb_v (mc := 0) (ms := 0) (wr := (wr ++ (wH ca f kq ad j g (u1093, ov)))) (w0 := (wQ ca bb q)) (va_runV (As := [.int (xs (i + 1)), .int 0]) (rest := []) ⟨hx, hb, hml, hown, hts⟩ (c_X11_iterate l D ca bb _ q false (xs (i + 1)) hq) (cwV 2 hts gL_law_X11_iterate rfl rfl rfl (by decide +kernel) ⟨(Nat.le_of_ble_eq_true rfl), (Nat.le_of_ble_eq_true rfl)⟩) (xPbV (wr := (wr ++ (wH ca f kq ad j g (u1093, ov)))) hKN hP hD rfl rfl rfl) rfl rfl hl.1 rfl (lv_room (Nat.le_of_ble_eq_true rfl)) dL_law_1119 ⟨Nat.le_trans (m := 601024) (by omega) (Nat.le_of_ble_eq_true rfl), Nat.le_trans (m := 7293033) (by omega) (Nat.le_of_ble_eq_true rfl)⟩) hP hD hS hA (fun u1119 H locs hu1119 hP hD hS => ?_)
      have hP : va_P D vwCl ((wr ++ (wH ca f kq ad j g (u1093, ov))) ++ (wQ ca bb u1119)) H := hP
      have hD : va_D A ((wr ++ (wH ca f kq ad j g (u1093, ov))) ++ (wQ ca bb u1119)) := hD
      obtain ⟨ex9, hR9⟩ := hu1093
      obtain ⟨hW9, er9, ec9, ab9⟩ := po_gg hu1119 hm
      have hco : u1119.co = r1093 := ec9.trans ex9.symm
      have hab : ∀ i, ¬ i = j → ab u1119 i = ab q i := fun i hi => by rw [ab9]; exact vup_ne hi
      have hRj : Rel1 (N + 61) u1093 (ab u1119 j) := by rw [ab9, vup_eq]; exact hR9
      refine lv_aload_n hx hb dL_law_1122 rfl (lv_at hl 3 rfl) ?_
      refine xb_i (mc := 0) (ms := 0) (wr := (wr ++ (wH ca f kq ad j g (u1093, ov)))) (w0 := (wQ ca bb u1119)) (va_runV (As := []) (rest := []) ⟨hx, hb, hml, hown, hts⟩ (c_X11_thrown l D ca bb _ u1119) (cwV 0 hts gL_law_X11_thrown rfl rfl rfl (by decide +kernel) ⟨(Nat.le_of_ble_eq_true rfl), (Nat.le_of_ble_eq_true rfl)⟩) (xPbV (wr := (wr ++ (wH ca f kq ad j g (u1093, ov)))) hKN hP hD rfl rfl rfl) rfl rfl hl.1 rfl (lv_room (Nat.le_of_ble_eq_true rfl)) dL_law_1123 ⟨Nat.le_trans (m := 601024) (by omega) (Nat.le_of_ble_eq_true rfl), Nat.le_trans (m := 7293033) (by omega) (Nat.le_of_ble_eq_true rfl)⟩) hP hD hS hA (fun r1123 u1123 H locs hu1123 hP hD hS => ?_)
      obtain ⟨et1123, eu1123⟩ := hu1123
      have eu1123 := eu1123.symm
      subst eu1123
      refine lv_iload hx hb dL_law_1126 (lv_at hl 0 rfl) ?_
      refine lv_icmp_eq (tgt := 1133) hx hb dL_law_1128 (by decide) (fun c1128 => ?_) (fun c1128 => ?_)
      · skip
        refine lv_goto (tgt := 1507) hx hb dL_law_1133 (by decide) ?_
        exact W.widen (k := cells + 3) (n := slots + 18) (by omega) (by omega) (K9 H locs ls (u1093, ov) u1119 hW9 hab hRj hP hD hS (lv_sub hl [1, 2, 3, 4, 5] rfl))
      · skip
        exact absurd (et1123.trans hco) c1128
    · skip
      exact absurd c1085 c1111
  · skip
    refine lv_iconst (v := 1) hx hb dL_law_1088 (by decide) ?_
    refine lv_goto (tgt := 1093) hx hb dL_law_1089 (by decide) ?_
    have hP : va_P D vwCl (((wr ++ [(g, .inl (ca 1, 1, .inr (.inl ov)))]) ++ (wQ ca bb q)) ++ ((wX ca f kq ad) ++ (wKd kq) ++ (wMp ca kq (ad j) y0))) H := hP.perm (pm_v (a := wr) (x := (wX ca f kq ad) ++ (wKd kq) ++ (wMp ca kq (ad j) y0)) (o := [(g, .inl (ca 1, 1, .inr (.inl ov)))]) (q := (wQ ca bb q)))
    have hD : va_D A (((wr ++ [(g, .inl (ca 1, 1, .inr (.inl ov)))]) ++ (wQ ca bb q)) ++ ((wX ca f kq ad) ++ (wKd kq) ++ (wMp ca kq (ad j) y0))) := hD.perm (pm_v (a := wr) (x := (wX ca f kq ad) ++ (wKd kq) ++ (wMp ca kq (ad j) y0)) (o := [(g, .inl (ca 1, 1, .inr (.inl ov)))]) (q := (wQ ca bb q)))
    refine xcb_i (mc := 2) (ms := 12) (wr := ((wr ++ [(g, .inl (ca 1, 1, .inr (.inl ov)))]) ++ (wQ ca bb q))) (w0 := (wX ca f kq ad) ++ (wKd kq) ++ (wMp ca kq (ad j) y0)) (vx_runSX (As := [.ref (f 0), .int (xs (i + 1)), .int 1]) (rest := []) ⟨hx, hb, hml, hown, hts⟩ (c_L_iterate l D ca f kq ad _ hl9 j y0 (ab q j) N (xs (i + 1)) true hR hN hm) (vx_cwSW 3 hts gL_law_L_iterate rfl rfl rfl (by decide +kernel) ⟨(Nat.le_of_ble_eq_true rfl), (Nat.le_of_ble_eq_true rfl)⟩) (xPbS (wr := ((wr ++ [(g, .inl (ca 1, 1, .inr (.inl ov)))]) ++ (wQ ca bb q))) hKN hTZ hNC hP hD hS hA) rfl rfl hl.1 rfl (lv_room (Nat.le_of_ble_eq_true rfl)) dL_law_1093 ⟨Nat.le_trans (m := 601024) (by omega) (Nat.le_of_ble_eq_true rfl), Nat.le_trans (m := 7293033) (by omega) (Nat.le_of_ble_eq_true rfl)⟩) (fun _ _ h => h) hP hD hS hA (fun r1093 u1093 H locs hu1093 hP hD hS => ?_)
    have hP : va_P D vwCl ((wr ++ (wH ca f kq ad j g (u1093, ov))) ++ (wQ ca bb q)) H := hP.perm (pm_w (a := wr) (x := wF1 ca f kq ad j u1093) (o := [(g, .inl (ca 1, 1, .inr (.inl ov)))]) (q := (wQ ca bb q)))
    have hD : va_D A ((wr ++ (wH ca f kq ad j g (u1093, ov))) ++ (wQ ca bb q)) := hD.perm (pm_w (a := wr) (x := wF1 ca f kq ad j u1093) (o := [(g, .inl (ca 1, 1, .inr (.inl ov)))]) (q := (wQ ca bb q)))
    refine lv_istore (lv' := [(5, .int r1093), (4, .int (nI i)), (3, .ref g), (2, .ref (bb 0)), (1, .ref (f 0)), (0, .ref b)]) hx hb dL_law_1096 hl (by decide) rfl (fun ls hl => ?_)
    refine lv_aload_n hx hb dL_law_1098 rfl (lv_at hl 3 rfl) ?_
    refine lv_aload_n hx hb dL_law_1099 rfl (lv_at hl 5 rfl) ?_
    refine lv_iload hx hb dL_law_1100 (lv_at hl 1 rfl) ?_
    refine lv_iconst (v := 1) hx hb dL_law_1102 (by decide) ?_
    refine lv_iadd hx hb dL_law_1103 ?_
    refine xr_top (y := nI (i + 1)) (nI_add i 1) ?_
    refine va_sld hx hb hX hbl hbA hS (vp_in_nI (n := i + 1) (by omega) (by omega)) dL_law_1104 ?_
    refine xr_top (y := xs (i + 1)) (congrArg xs (nI_clamp (by omega))) ?_
    refine lv_aload_n hx hb dL_law_1105 rfl (lv_at hl 5 rfl) ?_
    refine lv_iload hx hb dL_law_1106 (lv_at hl 1 rfl) ?_
    refine lv_iconst (v := 2) hx hb dL_law_1108 (by decide) ?_
    refine lv_iadd hx hb dL_law_1109 ?_
    refine xr_top (y := nI (i + 2)) (nI_add i 2) ?_
    refine va_sld hx hb hX hbl hbA hS (vp_in_nI (n := i + 2) (by omega) (by omega)) dL_law_1110 ?_
    refine xr_top (y := xs (i + 2)) (congrArg xs (nI_clamp (by omega))) ?_
    refine lv_if_eq (tgt := 1118) hx hb dL_law_1111 (by decide) (fun c1111 => ?_) (fun c1111 => ?_)
    · skip
      exact absurd c1111 c1085
    · skip
      refine lv_iconst (v := 1) hx hb dL_law_1114 (by decide) ?_
      refine lv_goto (tgt := 1119) hx hb dL_law_1115 (by decide) ?_
      refine xb_v (mc := 0) (ms := 0) (wr := (wr ++ (wH ca f kq ad j g (u1093, ov)))) (w0 := (wQ ca bb q)) (va_runV (As := [.int (xs (i + 1)), .int 1]) (rest := []) ⟨hx, hb, hml, hown, hts⟩ (c_X11_iterate l D ca bb _ q true (xs (i + 1)) hq) (cwV 2 hts gL_law_X11_iterate rfl rfl rfl (by decide +kernel) ⟨(Nat.le_of_ble_eq_true rfl), (Nat.le_of_ble_eq_true rfl)⟩) (xPbV (wr := (wr ++ (wH ca f kq ad j g (u1093, ov)))) hKN hP hD rfl rfl rfl) rfl rfl hl.1 rfl (lv_room (Nat.le_of_ble_eq_true rfl)) dL_law_1119 ⟨Nat.le_trans (m := 601024) (by omega) (Nat.le_of_ble_eq_true rfl), Nat.le_trans (m := 7293033) (by omega) (Nat.le_of_ble_eq_true rfl)⟩) hP hD hS hA (fun u1119 H locs hu1119 hP hD hS => ?_)
      have hP : va_P D vwCl ((wr ++ (wH ca f kq ad j g (u1093, ov))) ++ (wQ ca bb u1119)) H := hP
      have hD : va_D A ((wr ++ (wH ca f kq ad j g (u1093, ov))) ++ (wQ ca bb u1119)) := hD
      obtain ⟨ex9, hR9⟩ := hu1093
      obtain ⟨hW9, er9, ec9, ab9⟩ := po_gg hu1119 hm
      have hco : u1119.co = r1093 := ec9.trans ex9.symm
      have hab : ∀ i, ¬ i = j → ab u1119 i = ab q i := fun i hi => by rw [ab9]; exact vup_ne hi
      have hRj : Rel1 (N + 61) u1093 (ab u1119 j) := by rw [ab9, vup_eq]; exact hR9
      refine lv_aload_n hx hb dL_law_1122 rfl (lv_at hl 3 rfl) ?_
      refine xb_i (mc := 0) (ms := 0) (wr := (wr ++ (wH ca f kq ad j g (u1093, ov)))) (w0 := (wQ ca bb u1119)) (va_runV (As := []) (rest := []) ⟨hx, hb, hml, hown, hts⟩ (c_X11_thrown l D ca bb _ u1119) (cwV 0 hts gL_law_X11_thrown rfl rfl rfl (by decide +kernel) ⟨(Nat.le_of_ble_eq_true rfl), (Nat.le_of_ble_eq_true rfl)⟩) (xPbV (wr := (wr ++ (wH ca f kq ad j g (u1093, ov)))) hKN hP hD rfl rfl rfl) rfl rfl hl.1 rfl (lv_room (Nat.le_of_ble_eq_true rfl)) dL_law_1123 ⟨Nat.le_trans (m := 601024) (by omega) (Nat.le_of_ble_eq_true rfl), Nat.le_trans (m := 7293033) (by omega) (Nat.le_of_ble_eq_true rfl)⟩) hP hD hS hA (fun r1123 u1123 H locs hu1123 hP hD hS => ?_)
      obtain ⟨et1123, eu1123⟩ := hu1123
      have eu1123 := eu1123.symm
      subst eu1123
      refine lv_iload hx hb dL_law_1126 (lv_at hl 0 rfl) ?_
      refine lv_icmp_eq (tgt := 1133) hx hb dL_law_1128 (by decide) (fun c1128 => ?_) (fun c1128 => ?_)
      · skip
        refine lv_goto (tgt := 1507) hx hb dL_law_1133 (by decide) ?_
        exact W.widen (k := cells + 3) (n := slots + 18) (by omega) (by omega) (K9 H locs ls (u1093, ov) u1119 hW9 hab hRj hP hD hS (lv_sub hl [1, 2, 3, 4, 5] rfl))
      · skip
        exact absurd (et1123.trans hco) c1128
set_option maxHeartbeats 4000000 in
set_option maxRecDepth 100000 in
theorem k_next {p : Program} {l : Launch} {e : Env} {s : State} {m : MethodId} {args : Array Value} {below : List Frame} {meth : Method} {c : Code} {H : Heap} {locs : List Loc} {Q : State → Prop} {ls : Array Slot} {D : va_G} {ca : Nat → ClassId} {A : Nat → Prop} {f kq bb : Nat → Nat} {ad : Nat → Nat → Nat} {g b L i N cells slots : Nat} {xs : Nat → Int32} {q : QS} {ov : Nat → Int64} (hx : p.tables.exec = Jvm.exec) (hb : c.code = cL_law) (hml : c.maxLocals = 8) (hts : ∀ w ∈ wsL_law, w.before args s = true) (hown : s.vm.findClass RL = some m.cls) (hKN : xK D (TY ca) s) (hTZ : TZ A s s.heap) (hNC : NC s) (hA : ∀ q : Nat, s.heap.size ≤ q → A q) (hl9 : l.stackTraces = false) (hX : va_X b L xs s s.heap) (hbl : b < s.heap.size) (hbA : ¬ A b) (hiL : i + 5 ≤ L) (hL : L ≤ 2560) (hN : N ≤ 1000000) (hcl : cells + 3 ≤ 601024) (hsl : slots + 18 ≤ 7293033) (wr : va_W) (j : Nat) (y0 : MS) (hq : WQ q) (hm : isB (xs (i + 1)) 3 = true → xs (i + 1) = nI j ∧ j < 3) (hR : Rel1 N y0 (ab q j)) (hP : va_P D vwCl ((wr ++ (wQ ca bb q)) ++ ((wX ca f kq ad) ++ (wKd kq) ++ (wMp ca kq (ad j) y0) ++ [(g, .inl (ca 1, 1, .inr (.inl ov)))])) H) (hD : va_D A ((wr ++ (wQ ca bb q)) ++ ((wX ca f kq ad) ++ (wKd kq) ++ (wMp ca kq (ad j) y0) ++ [(g, .inl (ca 1, 1, .inr (.inl ov)))]))) (hS : va_S A s.heap H locs) (hl : lv_has ls 8 [(4, .int (nI i)), (3, .ref g), (2, .ref (bb 0)), (1, .ref (f 0)), (0, .ref b)]) (K9 : ∀ (H : Heap) (locs : List Loc) (ls : Array Slot) (u : MO) (q9 : QS), WQ q9 → (∀ i, ¬ i = j → ab q9 i = ab q i) → Rel1 (N + 61) u.1 (ab q9 j) → va_P D vwCl ((wr ++ (wH ca f kq ad j g u)) ++ (wQ ca bb q9)) H → va_D A ((wr ++ (wH ca f kq ad j g u)) ++ (wQ ca bb q9)) → va_S A s.heap H locs → lv_has ls 8 [(4, .int (nI i)), (3, .ref g), (2, .ref (bb 0)), (1, .ref (f 0)), (0, .ref b)] → W p l e room_1 s m args below meth c H locs (cells + 3) (slots + 18) Q (F0 m 1507 ls [])) : W p l e room_1 s m args below meth c H locs cells slots Q (F0 m 1136 ls []) := by
  refine lv_aload_n hx hb dL_law_1136 rfl (lv_at hl 3 rfl) ?_
  refine lv_aload_n hx hb dL_law_1137 rfl (lv_at hl 4 rfl) ?_
  refine lv_iload hx hb dL_law_1138 (lv_at hl 0 rfl) ?_
  refine lv_iconst (v := 1) hx hb dL_law_1140 (by decide) ?_
  refine lv_iadd hx hb dL_law_1141 ?_
  refine xr_top (y := nI (i + 1)) (nI_add i 1) ?_
  refine va_sld hx hb hX hbl hbA hS (vp_in_nI (n := i + 1) (by omega) (by omega)) dL_law_1142 ?_
  refine xr_top (y := xs (i + 1)) (congrArg xs (nI_clamp (by omega))) ?_
  refine lv_aload_n hx hb dL_law_1143 rfl (lv_at hl 1 rfl) ?_
  refine xcb_i (mc := 2) (ms := 12) (wr := (wr ++ (wQ ca bb q))) (w0 := (wX ca f kq ad) ++ (wKd kq) ++ (wMp ca kq (ad j) y0) ++ [(g, .inl (ca 1, 1, .inr (.inl ov)))]) (vx_runSX (As := [.ref (f 0), .int (xs (i + 1)), .ref g]) (rest := []) ⟨hx, hb, hml, hown, hts⟩ (c_L_next l D ca f kq ad _ hl9 j g y0 ov (ab q j) N (xs (i + 1)) hR hN hm) (vx_cwSW 3 hts gL_law_L_next rfl rfl rfl (by decide +kernel) ⟨(Nat.le_of_ble_eq_true rfl), (Nat.le_of_ble_eq_true rfl)⟩) (xPbS (wr := (wr ++ (wQ ca bb q))) hKN hTZ hNC hP hD hS hA) rfl rfl hl.1 rfl (lv_room (Nat.le_of_ble_eq_true rfl)) dL_law_1144 ⟨Nat.le_trans (m := 601024) (by omega) (Nat.le_of_ble_eq_true rfl), Nat.le_trans (m := 7293033) (by omega) (Nat.le_of_ble_eq_true rfl)⟩) (fun _ _ h => h) hP hD hS hA (fun r1144 u1144 H locs hu1144 hP hD hS => ?_)
  have hP : va_P D vwCl ((wr ++ (wH ca f kq ad j g u1144)) ++ (wQ ca bb q)) H := hP.perm (pm_sw (a := wr) (b := (wQ ca bb q)) (c := wH ca f kq ad j g u1144))
  have hD : va_D A ((wr ++ (wH ca f kq ad j g u1144)) ++ (wQ ca bb q)) := hD.perm (pm_sw (a := wr) (b := (wQ ca bb q)) (c := wH ca f kq ad j g u1144))
  refine lv_istore (lv' := [(5, .int r1144), (4, .int (nI i)), (3, .ref g), (2, .ref (bb 0)), (1, .ref (f 0)), (0, .ref b)]) hx hb dL_law_1147 hl (by decide) rfl (fun ls hl => ?_)
  refine lv_aload_n hx hb dL_law_1149 rfl (lv_at hl 3 rfl) ?_
  refine lv_aload_n hx hb dL_law_1150 rfl (lv_at hl 5 rfl) ?_
  refine lv_iload hx hb dL_law_1151 (lv_at hl 1 rfl) ?_
  refine lv_iconst (v := 1) hx hb dL_law_1153 (by decide) ?_
  refine lv_iadd hx hb dL_law_1154 ?_
  refine xr_top (y := nI (i + 1)) (nI_add i 1) ?_
  refine va_sld hx hb hX hbl hbA hS (vp_in_nI (n := i + 1) (by omega) (by omega)) dL_law_1155 ?_
  refine xr_top (y := xs (i + 1)) (congrArg xs (nI_clamp (by omega))) ?_
  refine xb_i (mc := 0) (ms := 0) (wr := (wr ++ (wH ca f kq ad j g u1144))) (w0 := (wQ ca bb q)) (va_runV (As := [.int (xs (i + 1))]) (rest := []) ⟨hx, hb, hml, hown, hts⟩ (c_X11_next l D ca bb _ q (xs (i + 1)) hq) (cwV 1 hts gL_law_X11_next rfl rfl rfl (by decide +kernel) ⟨(Nat.le_of_ble_eq_true rfl), (Nat.le_of_ble_eq_true rfl)⟩) (xPbV (wr := (wr ++ (wH ca f kq ad j g u1144))) hKN hP hD rfl rfl rfl) rfl rfl hl.1 rfl (lv_room (Nat.le_of_ble_eq_true rfl)) dL_law_1156 ⟨Nat.le_trans (m := 601024) (by omega) (Nat.le_of_ble_eq_true rfl), Nat.le_trans (m := 7293033) (by omega) (Nat.le_of_ble_eq_true rfl)⟩) hP hD hS hA (fun r1156 u1156 H locs hu1156 hP hD hS => ?_)
  have hP : va_P D vwCl ((wr ++ (wH ca f kq ad j g u1144)) ++ (wQ ca bb u1156)) H := hP
  have hD : va_D A ((wr ++ (wH ca f kq ad j g u1144)) ++ (wQ ca bb u1156)) := hD
  obtain ⟨ex9, hR9, ho9⟩ := hu1144
  obtain ⟨hW9, er9, ec9, ab9⟩ := po_gg hu1156 hm
  have hco : u1156.co = r1144 := ec9.trans ex9.symm
  have hab : ∀ i, ¬ i = j → ab u1156 i = ab q i := fun i hi => by rw [ab9]; exact vup_ne hi
  have hRj : Rel1 (N + 61) u1144.1 (ab u1156 j) := by rw [ab9, vup_eq]; exact hR9
  refine lv_istore (lv' := [(6, .int r1156), (5, .int r1144), (4, .int (nI i)), (3, .ref g), (2, .ref (bb 0)), (1, .ref (f 0)), (0, .ref b)]) hx hb dL_law_1159 hl (by decide) rfl (fun ls hl => ?_)
  refine lv_aload_n hx hb dL_law_1161 rfl (lv_at hl 4 rfl) ?_
  refine xb_i (mc := 0) (ms := 0) (wr := (wr ++ (wH ca f kq ad j g u1144))) (w0 := (wQ ca bb u1156)) (va_runV (As := []) (rest := []) ⟨hx, hb, hml, hown, hts⟩ (c_X11_thrown l D ca bb _ u1156) (cwV 0 hts gL_law_X11_thrown rfl rfl rfl (by decide +kernel) ⟨(Nat.le_of_ble_eq_true rfl), (Nat.le_of_ble_eq_true rfl)⟩) (xPbV (wr := (wr ++ (wH ca f kq ad j g u1144))) hKN hP hD rfl rfl rfl) rfl rfl hl.1 rfl (lv_room (Nat.le_of_ble_eq_true rfl)) dL_law_1162 ⟨Nat.le_trans (m := 601024) (by omega) (Nat.le_of_ble_eq_true rfl), Nat.le_trans (m := 7293033) (by omega) (Nat.le_of_ble_eq_true rfl)⟩) hP hD hS hA (fun r1162 u1162 H locs hu1162 hP hD hS => ?_)
  obtain ⟨et1162, eu1162⟩ := hu1162
  have eu1162 := eu1162.symm
  subst eu1162
  refine lv_iload hx hb dL_law_1165 (lv_at hl 1 rfl) ?_
  refine lv_icmp_eq (tgt := 1172) hx hb dL_law_1167 (by decide) (fun c1167 => ?_) (fun c1167 => ?_)
  · skip
    refine lv_iload hx hb dL_law_1172 (lv_at hl 1 rfl) ?_
    refine lv_if_ne (tgt := 1189) hx hb dL_law_1174 (by decide) (fun c1174 => ?_) (fun c1174 => ?_)
    · skip
      refine lv_goto (tgt := 1507) hx hb dL_law_1189 (by decide) ?_
      exact W.widen (k := cells + 3) (n := slots + 18) (by omega) (by omega) (K9 H locs ls u1144 u1156 hW9 hab hRj hP hD hS (lv_sub hl [2, 3, 4, 5, 6] rfl))
    · skip
      refine lv_aload_n hx hb dL_law_1177 rfl (lv_at hl 3 rfl) ?_
      refine lv_iconst (v := 0) hx hb dL_law_1178 (by decide) ?_
      have hPo : va_P D vwCl ([(g, .inl (ca 1, 1, .inr (.inl ((u1144).2))))] ++ ((wr ++ ((wX ca f kq ad) ++ (wKd kq) ++ (wMp ca kq (ad j) (u1144).1))) ++ (wQ ca bb u1156))) H := va_P.perm hP (pm_out (a := wr) (h := (wX ca f kq ad) ++ (wKd kq) ++ (wMp ca kq (ad j) (u1144).1)) (o := [(g, .inl (ca 1, 1, .inr (.inl ((u1144).2))))]) (q := (wQ ca bb u1156)))
      refine xr_lld hx hb hKN.1 hPo 0 1 rfl rfl (j := 0) (by decide) (by decide) dL_law_1179 ?_
      refine lv_iload hx hb dL_law_1180 (lv_at hl 0 rfl) ?_
      refine lv_i2l hx hb dL_law_1182 rfl ?_
      refine W.lcmp hx hb dL_law_1183 ?_
      refine lv_if_eq (tgt := 1189) hx hb dL_law_1184 (by decide) (fun c1184 => ?_) (fun c1184 => ?_)
      · skip
        refine lv_goto (tgt := 1507) hx hb dL_law_1189 (by decide) ?_
        exact W.widen (k := cells + 3) (n := slots + 18) (by omega) (by omega) (K9 H locs ls u1144 u1156 hW9 hab hRj hP hD hS (lv_sub hl [2, 3, 4, 5, 6] rfl))
      · skip
        exact absurd (lgc_0.mpr ((ho9 c1174).trans (congrArg Int32.toInt64 er9.symm))) c1184
  · skip
    exact absurd (et1162.trans hco) c1167
set_option maxHeartbeats 4000000 in
set_option maxRecDepth 100000 in
theorem k_drop {p : Program} {l : Launch} {e : Env} {s : State} {m : MethodId} {args : Array Value} {below : List Frame} {meth : Method} {c : Code} {H : Heap} {locs : List Loc} {Q : State → Prop} {ls : Array Slot} {D : va_G} {ca : Nat → ClassId} {A : Nat → Prop} {f kq bb : Nat → Nat} {ad : Nat → Nat → Nat} {g b L i N cells slots : Nat} {xs : Nat → Int32} {q : QS} {ov : Nat → Int64} (hx : p.tables.exec = Jvm.exec) (hb : c.code = cL_law) (hml : c.maxLocals = 8) (hts : ∀ w ∈ wsL_law, w.before args s = true) (hown : s.vm.findClass RL = some m.cls) (hKN : xK D (TY ca) s) (hTZ : TZ A s s.heap) (hNC : NC s) (hA : ∀ q : Nat, s.heap.size ≤ q → A q) (hl9 : l.stackTraces = false) (hX : va_X b L xs s s.heap) (hbl : b < s.heap.size) (hbA : ¬ A b) (hiL : i + 5 ≤ L) (hL : L ≤ 2560) (hN : N ≤ 1000000) (hcl : cells + 3 ≤ 601024) (hsl : slots + 18 ≤ 7293033) (wr : va_W) (j : Nat) (y0 : MS) (hq : WQ q) (hm : isB (xs (i + 1)) 3 = true → xs (i + 1) = nI j ∧ j < 3) (hR : Rel1 N y0 (ab q j)) (hP : va_P D vwCl ((wr ++ (wQ ca bb q)) ++ ((wX ca f kq ad) ++ (wKd kq) ++ (wMp ca kq (ad j) y0) ++ [(g, .inl (ca 1, 1, .inr (.inl ov)))])) H) (hD : va_D A ((wr ++ (wQ ca bb q)) ++ ((wX ca f kq ad) ++ (wKd kq) ++ (wMp ca kq (ad j) y0) ++ [(g, .inl (ca 1, 1, .inr (.inl ov)))]))) (hS : va_S A s.heap H locs) (hl : lv_has ls 8 [(4, .int (nI i)), (3, .ref g), (2, .ref (bb 0)), (1, .ref (f 0)), (0, .ref b)]) (K9 : ∀ (H : Heap) (locs : List Loc) (ls : Array Slot) (u : MO) (q9 : QS), WQ q9 → (∀ i, ¬ i = j → ab q9 i = ab q i) → Rel1 (N + 61) u.1 (ab q9 j) → va_P D vwCl ((wr ++ (wH ca f kq ad j g u)) ++ (wQ ca bb q9)) H → va_D A ((wr ++ (wH ca f kq ad j g u)) ++ (wQ ca bb q9)) → va_S A s.heap H locs → lv_has ls 8 [(4, .int (nI i)), (3, .ref g), (2, .ref (bb 0)), (1, .ref (f 0)), (0, .ref b)] → W p l e room_1 s m args below meth c H locs (cells + 3) (slots + 18) Q (F0 m 1507 ls [])) : W p l e room_1 s m args below meth c H locs cells slots Q (F0 m 1192 ls []) := by
  refine lv_aload_n hx hb dL_law_1192 rfl (lv_at hl 3 rfl) ?_
  refine lv_aload_n hx hb dL_law_1193 rfl (lv_at hl 4 rfl) ?_
  refine lv_iload hx hb dL_law_1194 (lv_at hl 0 rfl) ?_
  refine lv_iconst (v := 1) hx hb dL_law_1196 (by decide) ?_
  refine lv_iadd hx hb dL_law_1197 ?_
  refine xr_top (y := nI (i + 1)) (nI_add i 1) ?_
  refine va_sld hx hb hX hbl hbA hS (vp_in_nI (n := i + 1) (by omega) (by omega)) dL_law_1198 ?_
  refine xr_top (y := xs (i + 1)) (congrArg xs (nI_clamp (by omega))) ?_
  have hP : va_P D vwCl (((wr ++ [(g, .inl (ca 1, 1, .inr (.inl ov)))]) ++ (wQ ca bb q)) ++ ((wX ca f kq ad) ++ (wKd kq) ++ (wMp ca kq (ad j) y0))) H := hP.perm (pm_v (a := wr) (x := (wX ca f kq ad) ++ (wKd kq) ++ (wMp ca kq (ad j) y0)) (o := [(g, .inl (ca 1, 1, .inr (.inl ov)))]) (q := (wQ ca bb q)))
  have hD : va_D A (((wr ++ [(g, .inl (ca 1, 1, .inr (.inl ov)))]) ++ (wQ ca bb q)) ++ ((wX ca f kq ad) ++ (wKd kq) ++ (wMp ca kq (ad j) y0))) := hD.perm (pm_v (a := wr) (x := (wX ca f kq ad) ++ (wKd kq) ++ (wMp ca kq (ad j) y0)) (o := [(g, .inl (ca 1, 1, .inr (.inl ov)))]) (q := (wQ ca bb q)))
  refine xcb_i (mc := 2) (ms := 12) (wr := ((wr ++ [(g, .inl (ca 1, 1, .inr (.inl ov)))]) ++ (wQ ca bb q))) (w0 := (wX ca f kq ad) ++ (wKd kq) ++ (wMp ca kq (ad j) y0)) (vx_runSX (As := [.ref (f 0), .int (xs (i + 1))]) (rest := []) ⟨hx, hb, hml, hown, hts⟩ (c_L_drop l D ca f kq ad _ hl9 j y0 (ab q j) N (xs (i + 1)) hR hN hm) (vx_cwSW 2 hts gL_law_L_drop rfl rfl rfl (by decide +kernel) ⟨(Nat.le_of_ble_eq_true rfl), (Nat.le_of_ble_eq_true rfl)⟩) (xPbS (wr := ((wr ++ [(g, .inl (ca 1, 1, .inr (.inl ov)))]) ++ (wQ ca bb q))) hKN hTZ hNC hP hD hS hA) rfl rfl hl.1 rfl (lv_room (Nat.le_of_ble_eq_true rfl)) dL_law_1199 ⟨Nat.le_trans (m := 601024) (by omega) (Nat.le_of_ble_eq_true rfl), Nat.le_trans (m := 7293033) (by omega) (Nat.le_of_ble_eq_true rfl)⟩) (fun _ _ h => h) hP hD hS hA (fun r1199 u1199 H locs hu1199 hP hD hS => ?_)
  have hP : va_P D vwCl ((wr ++ (wH ca f kq ad j g (u1199, ov))) ++ (wQ ca bb q)) H := hP.perm (pm_w (a := wr) (x := wF1 ca f kq ad j u1199) (o := [(g, .inl (ca 1, 1, .inr (.inl ov)))]) (q := (wQ ca bb q)))
  have hD : va_D A ((wr ++ (wH ca f kq ad j g (u1199, ov))) ++ (wQ ca bb q)) := hD.perm (pm_w (a := wr) (x := wF1 ca f kq ad j u1199) (o := [(g, .inl (ca 1, 1, .inr (.inl ov)))]) (q := (wQ ca bb q)))
  refine lv_istore (lv' := [(5, .int r1199), (4, .int (nI i)), (3, .ref g), (2, .ref (bb 0)), (1, .ref (f 0)), (0, .ref b)]) hx hb dL_law_1202 hl (by decide) rfl (fun ls hl => ?_)
  refine lv_aload_n hx hb dL_law_1204 rfl (lv_at hl 3 rfl) ?_
  refine lv_aload_n hx hb dL_law_1205 rfl (lv_at hl 5 rfl) ?_
  refine lv_iload hx hb dL_law_1206 (lv_at hl 1 rfl) ?_
  refine lv_iconst (v := 1) hx hb dL_law_1208 (by decide) ?_
  refine lv_iadd hx hb dL_law_1209 ?_
  refine xr_top (y := nI (i + 1)) (nI_add i 1) ?_
  refine va_sld hx hb hX hbl hbA hS (vp_in_nI (n := i + 1) (by omega) (by omega)) dL_law_1210 ?_
  refine xr_top (y := xs (i + 1)) (congrArg xs (nI_clamp (by omega))) ?_
  refine xb_v (mc := 0) (ms := 0) (wr := (wr ++ (wH ca f kq ad j g (u1199, ov)))) (w0 := (wQ ca bb q)) (va_runV (As := [.int (xs (i + 1))]) (rest := []) ⟨hx, hb, hml, hown, hts⟩ (c_X11_drop l D ca bb _ q (xs (i + 1)) hq (drop_asks1 hq hR hN hm)) (cwV 1 hts gL_law_X11_drop rfl rfl rfl (by decide +kernel) ⟨(Nat.le_of_ble_eq_true rfl), (Nat.le_of_ble_eq_true rfl)⟩) (xPbV (wr := (wr ++ (wH ca f kq ad j g (u1199, ov)))) hKN hP hD rfl rfl rfl) rfl rfl hl.1 rfl (lv_room (Nat.le_of_ble_eq_true rfl)) dL_law_1211 ⟨Nat.le_trans (m := 601024) (by omega) (Nat.le_of_ble_eq_true rfl), Nat.le_trans (m := 7293033) (by omega) (Nat.le_of_ble_eq_true rfl)⟩) hP hD hS hA (fun u1211 H locs hu1211 hP hD hS => ?_)
  have hP : va_P D vwCl ((wr ++ (wH ca f kq ad j g (u1199, ov))) ++ (wQ ca bb u1211)) H := hP
  have hD : va_D A ((wr ++ (wH ca f kq ad j g (u1199, ov))) ++ (wQ ca bb u1211)) := hD
  obtain ⟨ex9, hR9⟩ := hu1199
  obtain ⟨hW9, er9, ec9, ab9⟩ := po_gg hu1211 hm
  have hco : u1211.co = r1199 := ec9.trans ex9.symm
  have hab : ∀ i, ¬ i = j → ab u1211 i = ab q i := fun i hi => by rw [ab9]; exact vup_ne hi
  have hRj : Rel1 (N + 61) u1199 (ab u1211 j) := by rw [ab9, vup_eq]; exact hR9
  refine lv_aload_n hx hb dL_law_1214 rfl (lv_at hl 3 rfl) ?_
  refine xb_i (mc := 0) (ms := 0) (wr := (wr ++ (wH ca f kq ad j g (u1199, ov)))) (w0 := (wQ ca bb u1211)) (va_runV (As := []) (rest := []) ⟨hx, hb, hml, hown, hts⟩ (c_X11_thrown l D ca bb _ u1211) (cwV 0 hts gL_law_X11_thrown rfl rfl rfl (by decide +kernel) ⟨(Nat.le_of_ble_eq_true rfl), (Nat.le_of_ble_eq_true rfl)⟩) (xPbV (wr := (wr ++ (wH ca f kq ad j g (u1199, ov)))) hKN hP hD rfl rfl rfl) rfl rfl hl.1 rfl (lv_room (Nat.le_of_ble_eq_true rfl)) dL_law_1215 ⟨Nat.le_trans (m := 601024) (by omega) (Nat.le_of_ble_eq_true rfl), Nat.le_trans (m := 7293033) (by omega) (Nat.le_of_ble_eq_true rfl)⟩) hP hD hS hA (fun r1215 u1215 H locs hu1215 hP hD hS => ?_)
  obtain ⟨et1215, eu1215⟩ := hu1215
  have eu1215 := eu1215.symm
  subst eu1215
  refine lv_iload hx hb dL_law_1218 (lv_at hl 0 rfl) ?_
  refine lv_icmp_eq (tgt := 1225) hx hb dL_law_1220 (by decide) (fun c1220 => ?_) (fun c1220 => ?_)
  · skip
    refine lv_goto (tgt := 1507) hx hb dL_law_1225 (by decide) ?_
    exact W.widen (k := cells + 3) (n := slots + 18) (by omega) (by omega) (K9 H locs ls (u1199, ov) u1211 hW9 hab hRj hP hD hS (lv_sub hl [1, 2, 3, 4, 5] rfl))
  · skip
    exact absurd (et1215.trans hco) c1220
set_option maxHeartbeats 4000000 in
set_option maxRecDepth 100000 in
theorem k_join {p : Program} {l : Launch} {e : Env} {s : State} {m : MethodId} {args : Array Value} {below : List Frame} {meth : Method} {c : Code} {H : Heap} {locs : List Loc} {Q : State → Prop} {ls : Array Slot} {D : va_G} {ca : Nat → ClassId} {A : Nat → Prop} {f kq bb : Nat → Nat} {ad : Nat → Nat → Nat} {g b L i N cells slots : Nat} {xs : Nat → Int32} {q : QS} {ov : Nat → Int64} (hx : p.tables.exec = Jvm.exec) (hb : c.code = cL_law) (hml : c.maxLocals = 8) (hts : ∀ w ∈ wsL_law, w.before args s = true) (hown : s.vm.findClass RL = some m.cls) (hKN : xK D (TY ca) s) (hTZ : TZ A s s.heap) (hNC : NC s) (hA : ∀ q : Nat, s.heap.size ≤ q → A q) (hl9 : l.stackTraces = false) (hX : va_X b L xs s s.heap) (hbl : b < s.heap.size) (hbA : ¬ A b) (hiL : i + 5 ≤ L) (hL : L ≤ 2560) (hN : N ≤ 1000000) (hcl : cells + 3 ≤ 601024) (hsl : slots + 18 ≤ 7293033) (wr : va_W) (j j1 : Nat) (y0 y1 : MS) (hq : WQ q) (hm : isB (xs (i + 1)) 3 = true → xs (i + 1) = nI j ∧ j < 3) (hn : isB (xs (i + 2)) 3 = true → xs (i + 2) = nI j1 ∧ j1 < 3) (hne : ¬ j = j1) (hR : Rel1 N y0 (ab q j)) (hR2 : Rel1 N y1 (ab q j1)) (hP : va_P D vwCl ((wr ++ (wQ ca bb q)) ++ ((wX ca f kq ad) ++ (wKd kq) ++ (wMp ca kq (ad j) y0) ++ (wMp ca kq (ad j1) y1) ++ [(g, .inl (ca 1, 1, .inr (.inl ov)))])) H) (hD : va_D A ((wr ++ (wQ ca bb q)) ++ ((wX ca f kq ad) ++ (wKd kq) ++ (wMp ca kq (ad j) y0) ++ (wMp ca kq (ad j1) y1) ++ [(g, .inl (ca 1, 1, .inr (.inl ov)))]))) (hS : va_S A s.heap H locs) (hl : lv_has ls 8 [(4, .int (nI i)), (3, .ref g), (2, .ref (bb 0)), (1, .ref (f 0)), (0, .ref b)]) (K9 : ∀ (H : Heap) (locs : List Loc) (ls : Array Slot) (u : MO2) (q9 : QS), WQ q9 → (∀ i, ¬ i = j → ¬ i = j1 → ab q9 i = ab q i) → Rel1 (N + 61) u.1.1 (ab q9 j) → Rel1 (N + 61) u.1.2 (ab q9 j1) → va_P D vwCl ((wr ++ (wH2 ca f kq ad j j1 g u)) ++ (wQ ca bb q9)) H → va_D A ((wr ++ (wH2 ca f kq ad j j1 g u)) ++ (wQ ca bb q9)) → va_S A s.heap H locs → lv_has ls 8 [(4, .int (nI i)), (3, .ref g), (2, .ref (bb 0)), (1, .ref (f 0)), (0, .ref b)] → W p l e room_1 s m args below meth c H locs (cells + 3) (slots + 18) Q (F0 m 1507 ls [])) : W p l e room_1 s m args below meth c H locs cells slots Q (F0 m 1228 ls []) := by
  refine lv_aload_n hx hb dL_law_1228 rfl (lv_at hl 3 rfl) ?_
  refine lv_aload_n hx hb dL_law_1229 rfl (lv_at hl 4 rfl) ?_
  refine lv_iload hx hb dL_law_1230 (lv_at hl 0 rfl) ?_
  refine lv_iconst (v := 1) hx hb dL_law_1232 (by decide) ?_
  refine lv_iadd hx hb dL_law_1233 ?_
  refine xr_top (y := nI (i + 1)) (nI_add i 1) ?_
  refine va_sld hx hb hX hbl hbA hS (vp_in_nI (n := i + 1) (by omega) (by omega)) dL_law_1234 ?_
  refine xr_top (y := xs (i + 1)) (congrArg xs (nI_clamp (by omega))) ?_
  refine lv_aload_n hx hb dL_law_1235 rfl (lv_at hl 4 rfl) ?_
  refine lv_iload hx hb dL_law_1236 (lv_at hl 0 rfl) ?_
  refine lv_iconst (v := 2) hx hb dL_law_1238 (by decide) ?_
  refine lv_iadd hx hb dL_law_1239 ?_
  refine xr_top (y := nI (i + 2)) (nI_add i 2) ?_
  refine va_sld hx hb hX hbl hbA hS (vp_in_nI (n := i + 2) (by omega) (by omega)) dL_law_1240 ?_
  refine xr_top (y := xs (i + 2)) (congrArg xs (nI_clamp (by omega))) ?_
  refine lv_aload_n hx hb dL_law_1241 rfl (lv_at hl 4 rfl) ?_
  refine lv_iload hx hb dL_law_1242 (lv_at hl 0 rfl) ?_
  refine lv_iconst (v := 3) hx hb dL_law_1244 (by decide) ?_
  refine lv_iadd hx hb dL_law_1245 ?_
  refine xr_top (y := nI (i + 3)) (nI_add i 3) ?_
  refine va_sld hx hb hX hbl hbA hS (vp_in_nI (n := i + 3) (by omega) (by omega)) dL_law_1246 ?_
  refine xr_top (y := xs (i + 3)) (congrArg xs (nI_clamp (by omega))) ?_
  refine lv_aload_n hx hb dL_law_1247 rfl (lv_at hl 1 rfl) ?_
  refine xcb_i (mc := 3) (ms := 18) (wr := (wr ++ (wQ ca bb q))) (w0 := (wX ca f kq ad) ++ (wKd kq) ++ (wMp ca kq (ad j) y0) ++ (wMp ca kq (ad j1) y1) ++ [(g, .inl (ca 1, 1, .inr (.inl ov)))]) (vx_runSX (As := [.ref (f 0), .int (xs (i + 1)), .int (xs (i + 2)), .int (xs (i + 3)), .ref g]) (rest := []) ⟨hx, hb, hml, hown, hts⟩ (c_L_join l D ca f kq ad _ hl9 j j1 g y0 y1 ov (ab q j) (ab q j1) N (xs (i + 1)) (xs (i + 2)) (xs (i + 3)) hR hR2 hN hm hn) (vx_cwSW 5 hts gL_law_L_join rfl rfl rfl (by decide +kernel) ⟨(Nat.le_of_ble_eq_true rfl), (Nat.le_of_ble_eq_true rfl)⟩) (xPbS (wr := (wr ++ (wQ ca bb q))) hKN hTZ hNC hP hD hS hA) rfl rfl hl.1 rfl (lv_room (Nat.le_of_ble_eq_true rfl)) dL_law_1248 ⟨Nat.le_trans (m := 601024) (by omega) (Nat.le_of_ble_eq_true rfl), Nat.le_trans (m := 7293033) (by omega) (Nat.le_of_ble_eq_true rfl)⟩) (fun _ _ h => h) hP hD hS hA (fun r1248 u1248 H locs hu1248 hP hD hS => ?_)
  have hP : va_P D vwCl ((wr ++ (wH2 ca f kq ad j j1 g u1248)) ++ (wQ ca bb q)) H := hP.perm (pm_sw (a := wr) (b := (wQ ca bb q)) (c := wH2 ca f kq ad j j1 g u1248))
  have hD : va_D A ((wr ++ (wH2 ca f kq ad j j1 g u1248)) ++ (wQ ca bb q)) := hD.perm (pm_sw (a := wr) (b := (wQ ca bb q)) (c := wH2 ca f kq ad j j1 g u1248))
  refine lv_istore (lv' := [(5, .int r1248), (4, .int (nI i)), (3, .ref g), (2, .ref (bb 0)), (1, .ref (f 0)), (0, .ref b)]) hx hb dL_law_1251 hl (by decide) rfl (fun ls hl => ?_)
  refine lv_aload_n hx hb dL_law_1253 rfl (lv_at hl 3 rfl) ?_
  refine lv_aload_n hx hb dL_law_1254 rfl (lv_at hl 5 rfl) ?_
  refine lv_iload hx hb dL_law_1255 (lv_at hl 1 rfl) ?_
  refine lv_iconst (v := 1) hx hb dL_law_1257 (by decide) ?_
  refine lv_iadd hx hb dL_law_1258 ?_
  refine xr_top (y := nI (i + 1)) (nI_add i 1) ?_
  refine va_sld hx hb hX hbl hbA hS (vp_in_nI (n := i + 1) (by omega) (by omega)) dL_law_1259 ?_
  refine xr_top (y := xs (i + 1)) (congrArg xs (nI_clamp (by omega))) ?_
  refine lv_aload_n hx hb dL_law_1260 rfl (lv_at hl 5 rfl) ?_
  refine lv_iload hx hb dL_law_1261 (lv_at hl 1 rfl) ?_
  refine lv_iconst (v := 2) hx hb dL_law_1263 (by decide) ?_
  refine lv_iadd hx hb dL_law_1264 ?_
  refine xr_top (y := nI (i + 2)) (nI_add i 2) ?_
  refine va_sld hx hb hX hbl hbA hS (vp_in_nI (n := i + 2) (by omega) (by omega)) dL_law_1265 ?_
  refine xr_top (y := xs (i + 2)) (congrArg xs (nI_clamp (by omega))) ?_
  refine lv_aload_n hx hb dL_law_1266 rfl (lv_at hl 5 rfl) ?_
  refine lv_iload hx hb dL_law_1267 (lv_at hl 1 rfl) ?_
  refine lv_iconst (v := 3) hx hb dL_law_1269 (by decide) ?_
  refine lv_iadd hx hb dL_law_1270 ?_
  refine xr_top (y := nI (i + 3)) (nI_add i 3) ?_
  refine va_sld hx hb hX hbl hbA hS (vp_in_nI (n := i + 3) (by omega) (by omega)) dL_law_1271 ?_
  refine xr_top (y := xs (i + 3)) (congrArg xs (nI_clamp (by omega))) ?_
  refine xb_i (mc := 0) (ms := 0) (wr := (wr ++ (wH2 ca f kq ad j j1 g u1248))) (w0 := (wQ ca bb q)) (va_runV (As := [.int (xs (i + 1)), .int (xs (i + 2)), .int (xs (i + 3))]) (rest := []) ⟨hx, hb, hml, hown, hts⟩ (c_X11_join l D ca bb _ q (xs (i + 1)) (xs (i + 2)) (xs (i + 3)) hq) (cwV 3 hts gL_law_X11_join rfl rfl rfl (by decide +kernel) ⟨(Nat.le_of_ble_eq_true rfl), (Nat.le_of_ble_eq_true rfl)⟩) (xPbV (wr := (wr ++ (wH2 ca f kq ad j j1 g u1248))) hKN hP hD rfl rfl rfl) rfl rfl hl.1 rfl (lv_room (Nat.le_of_ble_eq_true rfl)) dL_law_1272 ⟨Nat.le_trans (m := 601024) (by omega) (Nat.le_of_ble_eq_true rfl), Nat.le_trans (m := 7293033) (by omega) (Nat.le_of_ble_eq_true rfl)⟩) hP hD hS hA (fun r1272 u1272 H locs hu1272 hP hD hS => ?_)
  have hP : va_P D vwCl ((wr ++ (wH2 ca f kq ad j j1 g u1248)) ++ (wQ ca bb u1272)) H := hP
  have hD : va_D A ((wr ++ (wH2 ca f kq ad j j1 g u1248)) ++ (wQ ca bb u1272)) := hD
  obtain ⟨ex9, hR9, hR8, ho9⟩ := hu1248
  obtain ⟨hW9, er9, ec9, ab9⟩ := po2_gj hu1272 hm hn
  have hco : u1272.co = r1248 := ec9.trans ex9.symm
  have hab : ∀ i, ¬ i = j → ¬ i = j1 → ab u1272 i = ab q i := fun i hi _ => by rw [ab9]; exact vup_ne hi
  have hRj : Rel1 (N + 61) u1248.1.1 (ab u1272 j) := by rw [ab9, vup_eq]; exact hR9
  have hRk : Rel1 (N + 61) u1248.1.2 (ab u1272 j1) := by rw [ab9, vup_ne (fun h => hne h.symm)]; exact hR8
  refine lv_istore (lv' := [(6, .int r1272), (5, .int r1248), (4, .int (nI i)), (3, .ref g), (2, .ref (bb 0)), (1, .ref (f 0)), (0, .ref b)]) hx hb dL_law_1275 hl (by decide) rfl (fun ls hl => ?_)
  refine lv_aload_n hx hb dL_law_1277 rfl (lv_at hl 4 rfl) ?_
  refine xb_i (mc := 0) (ms := 0) (wr := (wr ++ (wH2 ca f kq ad j j1 g u1248))) (w0 := (wQ ca bb u1272)) (va_runV (As := []) (rest := []) ⟨hx, hb, hml, hown, hts⟩ (c_X11_thrown l D ca bb _ u1272) (cwV 0 hts gL_law_X11_thrown rfl rfl rfl (by decide +kernel) ⟨(Nat.le_of_ble_eq_true rfl), (Nat.le_of_ble_eq_true rfl)⟩) (xPbV (wr := (wr ++ (wH2 ca f kq ad j j1 g u1248))) hKN hP hD rfl rfl rfl) rfl rfl hl.1 rfl (lv_room (Nat.le_of_ble_eq_true rfl)) dL_law_1278 ⟨Nat.le_trans (m := 601024) (by omega) (Nat.le_of_ble_eq_true rfl), Nat.le_trans (m := 7293033) (by omega) (Nat.le_of_ble_eq_true rfl)⟩) hP hD hS hA (fun r1278 u1278 H locs hu1278 hP hD hS => ?_)
  obtain ⟨et1278, eu1278⟩ := hu1278
  have eu1278 := eu1278.symm
  subst eu1278
  refine lv_iload hx hb dL_law_1281 (lv_at hl 1 rfl) ?_
  refine lv_icmp_eq (tgt := 1288) hx hb dL_law_1283 (by decide) (fun c1283 => ?_) (fun c1283 => ?_)
  · skip
    refine lv_iload hx hb dL_law_1288 (lv_at hl 1 rfl) ?_
    refine lv_if_ne (tgt := 1305) hx hb dL_law_1290 (by decide) (fun c1290 => ?_) (fun c1290 => ?_)
    · skip
      refine lv_goto (tgt := 1507) hx hb dL_law_1305 (by decide) ?_
      exact W.widen (k := cells + 3) (n := slots + 18) (by omega) (by omega) (K9 H locs ls u1248 u1272 hW9 hab hRj hRk hP hD hS (lv_sub hl [2, 3, 4, 5, 6] rfl))
    · skip
      refine lv_aload_n hx hb dL_law_1293 rfl (lv_at hl 3 rfl) ?_
      refine lv_iconst (v := 0) hx hb dL_law_1294 (by decide) ?_
      have hPo : va_P D vwCl ([(g, .inl (ca 1, 1, .inr (.inl ((u1248).2))))] ++ ((wr ++ ((wX ca f kq ad) ++ (wKd kq) ++ (wMp ca kq (ad j) (u1248).1.1) ++ (wMp ca kq (ad j1) (u1248).1.2))) ++ (wQ ca bb u1272))) H := va_P.perm hP (pm_out (a := wr) (h := (wX ca f kq ad) ++ (wKd kq) ++ (wMp ca kq (ad j) (u1248).1.1) ++ (wMp ca kq (ad j1) (u1248).1.2)) (o := [(g, .inl (ca 1, 1, .inr (.inl ((u1248).2))))]) (q := (wQ ca bb u1272)))
      refine xr_lld hx hb hKN.1 hPo 0 1 rfl rfl (j := 0) (by decide) (by decide) dL_law_1295 ?_
      refine lv_iload hx hb dL_law_1296 (lv_at hl 0 rfl) ?_
      refine lv_i2l hx hb dL_law_1298 rfl ?_
      refine W.lcmp hx hb dL_law_1299 ?_
      refine lv_if_eq (tgt := 1305) hx hb dL_law_1300 (by decide) (fun c1300 => ?_) (fun c1300 => ?_)
      · skip
        refine lv_goto (tgt := 1507) hx hb dL_law_1305 (by decide) ?_
        exact W.widen (k := cells + 3) (n := slots + 18) (by omega) (by omega) (K9 H locs ls u1248 u1272 hW9 hab hRj hRk hP hD hS (lv_sub hl [2, 3, 4, 5, 6] rfl))
      · skip
        exact absurd (lgc_0.mpr ((ho9 c1290).trans (congrArg Int32.toInt64 er9.symm))) c1300
  · skip
    exact absurd (et1278.trans hco) c1283
set_option maxHeartbeats 4000000 in
set_option maxRecDepth 100000 in
theorem k_join_a {p : Program} {l : Launch} {e : Env} {s : State} {m : MethodId} {args : Array Value} {below : List Frame} {meth : Method} {c : Code} {H : Heap} {locs : List Loc} {Q : State → Prop} {ls : Array Slot} {D : va_G} {ca : Nat → ClassId} {A : Nat → Prop} {f kq bb : Nat → Nat} {ad : Nat → Nat → Nat} {g b L i N cells slots : Nat} {xs : Nat → Int32} {q : QS} {ov : Nat → Int64} (hx : p.tables.exec = Jvm.exec) (hb : c.code = cL_law) (hml : c.maxLocals = 8) (hts : ∀ w ∈ wsL_law, w.before args s = true) (hown : s.vm.findClass RL = some m.cls) (hKN : xK D (TY ca) s) (hTZ : TZ A s s.heap) (hNC : NC s) (hA : ∀ q : Nat, s.heap.size ≤ q → A q) (hl9 : l.stackTraces = false) (hX : va_X b L xs s s.heap) (hbl : b < s.heap.size) (hbA : ¬ A b) (hiL : i + 5 ≤ L) (hL : L ≤ 2560) (hN : N ≤ 1000000) (hcl : cells + 3 ≤ 601024) (hsl : slots + 18 ≤ 7293033) (wr : va_W) (j : Nat) (y0 : MS) (hq : WQ q) (hj3 : j < 3) (e1 : xs (i + 1) = nI j) (e2 : xs (i + 2) = nI j) (hR : Rel1 N y0 (ab q j)) (hP : va_P D vwCl ((wr ++ (wQ ca bb q)) ++ ((wX ca f kq ad) ++ (wKd kq) ++ (wMp ca kq (ad j) y0) ++ [(g, .inl (ca 1, 1, .inr (.inl ov)))])) H) (hD : va_D A ((wr ++ (wQ ca bb q)) ++ ((wX ca f kq ad) ++ (wKd kq) ++ (wMp ca kq (ad j) y0) ++ [(g, .inl (ca 1, 1, .inr (.inl ov)))]))) (hS : va_S A s.heap H locs) (hl : lv_has ls 8 [(4, .int (nI i)), (3, .ref g), (2, .ref (bb 0)), (1, .ref (f 0)), (0, .ref b)]) (K9 : ∀ (H : Heap) (locs : List Loc) (ls : Array Slot) (u : MO) (q9 : QS), WQ q9 → (∀ i, ¬ i = j → ab q9 i = ab q i) → Rel1 (N + 61) u.1 (ab q9 j) → va_P D vwCl ((wr ++ (wH ca f kq ad j g u)) ++ (wQ ca bb q9)) H → va_D A ((wr ++ (wH ca f kq ad j g u)) ++ (wQ ca bb q9)) → va_S A s.heap H locs → lv_has ls 8 [(4, .int (nI i)), (3, .ref g), (2, .ref (bb 0)), (1, .ref (f 0)), (0, .ref b)] → W p l e room_1 s m args below meth c H locs (cells + 3) (slots + 18) Q (F0 m 1507 ls [])) : W p l e room_1 s m args below meth c H locs cells slots Q (F0 m 1228 ls []) := by
  refine lv_aload_n hx hb dL_law_1228 rfl (lv_at hl 3 rfl) ?_
  refine lv_aload_n hx hb dL_law_1229 rfl (lv_at hl 4 rfl) ?_
  refine lv_iload hx hb dL_law_1230 (lv_at hl 0 rfl) ?_
  refine lv_iconst (v := 1) hx hb dL_law_1232 (by decide) ?_
  refine lv_iadd hx hb dL_law_1233 ?_
  refine xr_top (y := nI (i + 1)) (nI_add i 1) ?_
  refine va_sld hx hb hX hbl hbA hS (vp_in_nI (n := i + 1) (by omega) (by omega)) dL_law_1234 ?_
  refine xr_top (y := nI j) ((congrArg xs (nI_clamp (by omega))).trans e1) ?_
  refine lv_aload_n hx hb dL_law_1235 rfl (lv_at hl 4 rfl) ?_
  refine lv_iload hx hb dL_law_1236 (lv_at hl 0 rfl) ?_
  refine lv_iconst (v := 2) hx hb dL_law_1238 (by decide) ?_
  refine lv_iadd hx hb dL_law_1239 ?_
  refine xr_top (y := nI (i + 2)) (nI_add i 2) ?_
  refine va_sld hx hb hX hbl hbA hS (vp_in_nI (n := i + 2) (by omega) (by omega)) dL_law_1240 ?_
  refine xr_top (y := nI j) ((congrArg xs (nI_clamp (by omega))).trans e2) ?_
  refine lv_aload_n hx hb dL_law_1241 rfl (lv_at hl 4 rfl) ?_
  refine lv_iload hx hb dL_law_1242 (lv_at hl 0 rfl) ?_
  refine lv_iconst (v := 3) hx hb dL_law_1244 (by decide) ?_
  refine lv_iadd hx hb dL_law_1245 ?_
  refine xr_top (y := nI (i + 3)) (nI_add i 3) ?_
  refine va_sld hx hb hX hbl hbA hS (vp_in_nI (n := i + 3) (by omega) (by omega)) dL_law_1246 ?_
  refine xr_top (y := xs (i + 3)) (congrArg xs (nI_clamp (by omega))) ?_
  refine lv_aload_n hx hb dL_law_1247 rfl (lv_at hl 1 rfl) ?_
  refine xcb_i (mc := 3) (ms := 18) (wr := (wr ++ (wQ ca bb q))) (w0 := (wX ca f kq ad) ++ (wKd kq) ++ (wMp ca kq (ad j) y0) ++ [(g, .inl (ca 1, 1, .inr (.inl ov)))]) (vx_runSX (As := [.ref (f 0), .int (nI j), .int (nI j), .int (xs (i + 3)), .ref g]) (rest := []) ⟨hx, hb, hml, hown, hts⟩ (c_L_join_a l D ca f kq ad _ hl9 j g y0 ov (ab q j) N (xs (i + 3)) hR hN hj3 (fun _ => ⟨rfl, hj3⟩)) (vx_cwSW 5 hts gL_law_L_join rfl rfl rfl (by decide +kernel) ⟨(Nat.le_of_ble_eq_true rfl), (Nat.le_of_ble_eq_true rfl)⟩) (xPbS (wr := (wr ++ (wQ ca bb q))) hKN hTZ hNC hP hD hS hA) rfl rfl hl.1 rfl (lv_room (Nat.le_of_ble_eq_true rfl)) dL_law_1248 ⟨Nat.le_trans (m := 601024) (by omega) (Nat.le_of_ble_eq_true rfl), Nat.le_trans (m := 7293033) (by omega) (Nat.le_of_ble_eq_true rfl)⟩) (fun _ _ h => h) hP hD hS hA (fun r1248 u1248 H locs hu1248 hP hD hS => ?_)
  have hP : va_P D vwCl ((wr ++ (wH ca f kq ad j g u1248)) ++ (wQ ca bb q)) H := hP.perm (pm_sw (a := wr) (b := (wQ ca bb q)) (c := wH ca f kq ad j g u1248))
  have hD : va_D A ((wr ++ (wH ca f kq ad j g u1248)) ++ (wQ ca bb q)) := hD.perm (pm_sw (a := wr) (b := (wQ ca bb q)) (c := wH ca f kq ad j g u1248))
  refine lv_istore (lv' := [(5, .int r1248), (4, .int (nI i)), (3, .ref g), (2, .ref (bb 0)), (1, .ref (f 0)), (0, .ref b)]) hx hb dL_law_1251 hl (by decide) rfl (fun ls hl => ?_)
  refine lv_aload_n hx hb dL_law_1253 rfl (lv_at hl 3 rfl) ?_
  refine lv_aload_n hx hb dL_law_1254 rfl (lv_at hl 5 rfl) ?_
  refine lv_iload hx hb dL_law_1255 (lv_at hl 1 rfl) ?_
  refine lv_iconst (v := 1) hx hb dL_law_1257 (by decide) ?_
  refine lv_iadd hx hb dL_law_1258 ?_
  refine xr_top (y := nI (i + 1)) (nI_add i 1) ?_
  refine va_sld hx hb hX hbl hbA hS (vp_in_nI (n := i + 1) (by omega) (by omega)) dL_law_1259 ?_
  refine xr_top (y := nI j) ((congrArg xs (nI_clamp (by omega))).trans e1) ?_
  refine lv_aload_n hx hb dL_law_1260 rfl (lv_at hl 5 rfl) ?_
  refine lv_iload hx hb dL_law_1261 (lv_at hl 1 rfl) ?_
  refine lv_iconst (v := 2) hx hb dL_law_1263 (by decide) ?_
  refine lv_iadd hx hb dL_law_1264 ?_
  refine xr_top (y := nI (i + 2)) (nI_add i 2) ?_
  refine va_sld hx hb hX hbl hbA hS (vp_in_nI (n := i + 2) (by omega) (by omega)) dL_law_1265 ?_
  refine xr_top (y := nI j) ((congrArg xs (nI_clamp (by omega))).trans e2) ?_
  refine lv_aload_n hx hb dL_law_1266 rfl (lv_at hl 5 rfl) ?_
  refine lv_iload hx hb dL_law_1267 (lv_at hl 1 rfl) ?_
  refine lv_iconst (v := 3) hx hb dL_law_1269 (by decide) ?_
  refine lv_iadd hx hb dL_law_1270 ?_
  refine xr_top (y := nI (i + 3)) (nI_add i 3) ?_
  refine va_sld hx hb hX hbl hbA hS (vp_in_nI (n := i + 3) (by omega) (by omega)) dL_law_1271 ?_
  refine xr_top (y := xs (i + 3)) (congrArg xs (nI_clamp (by omega))) ?_
  refine xb_i (mc := 0) (ms := 0) (wr := (wr ++ (wH ca f kq ad j g u1248))) (w0 := (wQ ca bb q)) (va_runV (As := [.int (nI j), .int (nI j), .int (xs (i + 3))]) (rest := []) ⟨hx, hb, hml, hown, hts⟩ (c_X11_join l D ca bb _ q (nI j) (nI j) (xs (i + 3)) hq) (cwV 3 hts gL_law_X11_join rfl rfl rfl (by decide +kernel) ⟨(Nat.le_of_ble_eq_true rfl), (Nat.le_of_ble_eq_true rfl)⟩) (xPbV (wr := (wr ++ (wH ca f kq ad j g u1248))) hKN hP hD rfl rfl rfl) rfl rfl hl.1 rfl (lv_room (Nat.le_of_ble_eq_true rfl)) dL_law_1272 ⟨Nat.le_trans (m := 601024) (by omega) (Nat.le_of_ble_eq_true rfl), Nat.le_trans (m := 7293033) (by omega) (Nat.le_of_ble_eq_true rfl)⟩) hP hD hS hA (fun r1272 u1272 H locs hu1272 hP hD hS => ?_)
  have hP : va_P D vwCl ((wr ++ (wH ca f kq ad j g u1248)) ++ (wQ ca bb u1272)) H := hP
  have hD : va_D A ((wr ++ (wH ca f kq ad j g u1248)) ++ (wQ ca bb u1272)) := hD
  obtain ⟨ex9, hR9, ho9⟩ := hu1248
  obtain ⟨hW9, er9, ec9, ab9⟩ := po2_a hj3 hu1272
  have hco : u1272.co = r1248 := ec9.trans ex9.symm
  have hab : ∀ i, ¬ i = j → ab u1272 i = ab q i := fun i hi => by rw [ab9]; exact vup_ne hi
  have hRj : Rel1 (N + 61) u1248.1 (ab u1272 j) := by rw [ab9, vup_eq]; exact hR9
  refine lv_istore (lv' := [(6, .int r1272), (5, .int r1248), (4, .int (nI i)), (3, .ref g), (2, .ref (bb 0)), (1, .ref (f 0)), (0, .ref b)]) hx hb dL_law_1275 hl (by decide) rfl (fun ls hl => ?_)
  refine lv_aload_n hx hb dL_law_1277 rfl (lv_at hl 4 rfl) ?_
  refine xb_i (mc := 0) (ms := 0) (wr := (wr ++ (wH ca f kq ad j g u1248))) (w0 := (wQ ca bb u1272)) (va_runV (As := []) (rest := []) ⟨hx, hb, hml, hown, hts⟩ (c_X11_thrown l D ca bb _ u1272) (cwV 0 hts gL_law_X11_thrown rfl rfl rfl (by decide +kernel) ⟨(Nat.le_of_ble_eq_true rfl), (Nat.le_of_ble_eq_true rfl)⟩) (xPbV (wr := (wr ++ (wH ca f kq ad j g u1248))) hKN hP hD rfl rfl rfl) rfl rfl hl.1 rfl (lv_room (Nat.le_of_ble_eq_true rfl)) dL_law_1278 ⟨Nat.le_trans (m := 601024) (by omega) (Nat.le_of_ble_eq_true rfl), Nat.le_trans (m := 7293033) (by omega) (Nat.le_of_ble_eq_true rfl)⟩) hP hD hS hA (fun r1278 u1278 H locs hu1278 hP hD hS => ?_)
  obtain ⟨et1278, eu1278⟩ := hu1278
  have eu1278 := eu1278.symm
  subst eu1278
  refine lv_iload hx hb dL_law_1281 (lv_at hl 1 rfl) ?_
  refine lv_icmp_eq (tgt := 1288) hx hb dL_law_1283 (by decide) (fun c1283 => ?_) (fun c1283 => ?_)
  · skip
    refine lv_iload hx hb dL_law_1288 (lv_at hl 1 rfl) ?_
    refine lv_if_ne (tgt := 1305) hx hb dL_law_1290 (by decide) (fun c1290 => ?_) (fun c1290 => ?_)
    · skip
      refine lv_goto (tgt := 1507) hx hb dL_law_1305 (by decide) ?_
      exact W.widen (k := cells + 3) (n := slots + 18) (by omega) (by omega) (K9 H locs ls u1248 u1272 hW9 hab hRj hP hD hS (lv_sub hl [2, 3, 4, 5, 6] rfl))
    · skip
      refine lv_aload_n hx hb dL_law_1293 rfl (lv_at hl 3 rfl) ?_
      refine lv_iconst (v := 0) hx hb dL_law_1294 (by decide) ?_
      have hPo : va_P D vwCl ([(g, .inl (ca 1, 1, .inr (.inl ((u1248).2))))] ++ ((wr ++ ((wX ca f kq ad) ++ (wKd kq) ++ (wMp ca kq (ad j) (u1248).1))) ++ (wQ ca bb u1272))) H := va_P.perm hP (pm_out (a := wr) (h := (wX ca f kq ad) ++ (wKd kq) ++ (wMp ca kq (ad j) (u1248).1)) (o := [(g, .inl (ca 1, 1, .inr (.inl ((u1248).2))))]) (q := (wQ ca bb u1272)))
      refine xr_lld hx hb hKN.1 hPo 0 1 rfl rfl (j := 0) (by decide) (by decide) dL_law_1295 ?_
      refine lv_iload hx hb dL_law_1296 (lv_at hl 0 rfl) ?_
      refine lv_i2l hx hb dL_law_1298 rfl ?_
      refine W.lcmp hx hb dL_law_1299 ?_
      refine lv_if_eq (tgt := 1305) hx hb dL_law_1300 (by decide) (fun c1300 => ?_) (fun c1300 => ?_)
      · skip
        refine lv_goto (tgt := 1507) hx hb dL_law_1305 (by decide) ?_
        exact W.widen (k := cells + 3) (n := slots + 18) (by omega) (by omega) (K9 H locs ls u1248 u1272 hW9 hab hRj hP hD hS (lv_sub hl [2, 3, 4, 5, 6] rfl))
      · skip
        exact absurd (lgc_0.mpr ((ho9 c1290).trans (congrArg Int32.toInt64 er9.symm))) c1300
  · skip
    exact absurd (et1278.trans hco) c1283
set_option maxHeartbeats 4000000 in
set_option maxRecDepth 100000 in
theorem k_split {p : Program} {l : Launch} {e : Env} {s : State} {m : MethodId} {args : Array Value} {below : List Frame} {meth : Method} {c : Code} {H : Heap} {locs : List Loc} {Q : State → Prop} {ls : Array Slot} {D : va_G} {ca : Nat → ClassId} {A : Nat → Prop} {f kq bb : Nat → Nat} {ad : Nat → Nat → Nat} {g b L i N cells slots : Nat} {xs : Nat → Int32} {q : QS} {ov : Nat → Int64} (hx : p.tables.exec = Jvm.exec) (hb : c.code = cL_law) (hml : c.maxLocals = 8) (hts : ∀ w ∈ wsL_law, w.before args s = true) (hown : s.vm.findClass RL = some m.cls) (hKN : xK D (TY ca) s) (hTZ : TZ A s s.heap) (hNC : NC s) (hA : ∀ q : Nat, s.heap.size ≤ q → A q) (hl9 : l.stackTraces = false) (hX : va_X b L xs s s.heap) (hbl : b < s.heap.size) (hbA : ¬ A b) (hiL : i + 5 ≤ L) (hL : L ≤ 2560) (hN : N ≤ 1000000) (hcl : cells + 3 ≤ 601024) (hsl : slots + 18 ≤ 7293033) (wr : va_W) (j j1 : Nat) (y0 y1 : MS) (hq : WQ q) (hm : isB (xs (i + 1)) 3 = true → xs (i + 1) = nI j ∧ j < 3) (hn : isB (xs (i + 3)) 3 = true → xs (i + 3) = nI j1 ∧ j1 < 3) (hne : ¬ j = j1) (hR : Rel1 N y0 (ab q j)) (hR2 : Rel1 N y1 (ab q j1)) (hP : va_P D vwCl ((wr ++ (wQ ca bb q)) ++ ((wX ca f kq ad) ++ (wKd kq) ++ (wMp ca kq (ad j) y0) ++ (wMp ca kq (ad j1) y1) ++ [(g, .inl (ca 1, 1, .inr (.inl ov)))])) H) (hD : va_D A ((wr ++ (wQ ca bb q)) ++ ((wX ca f kq ad) ++ (wKd kq) ++ (wMp ca kq (ad j) y0) ++ (wMp ca kq (ad j1) y1) ++ [(g, .inl (ca 1, 1, .inr (.inl ov)))]))) (hS : va_S A s.heap H locs) (hl : lv_has ls 8 [(4, .int (nI i)), (3, .ref g), (2, .ref (bb 0)), (1, .ref (f 0)), (0, .ref b)]) (K9 : ∀ (H : Heap) (locs : List Loc) (ls : Array Slot) (u : MO2) (q9 : QS), WQ q9 → (∀ i, ¬ i = j → ¬ i = j1 → ab q9 i = ab q i) → Rel1 (N + 61) u.1.1 (ab q9 j) → Rel1 (N + 61) u.1.2 (ab q9 j1) → va_P D vwCl ((wr ++ (wH2 ca f kq ad j j1 g u)) ++ (wQ ca bb q9)) H → va_D A ((wr ++ (wH2 ca f kq ad j j1 g u)) ++ (wQ ca bb q9)) → va_S A s.heap H locs → lv_has ls 8 [(4, .int (nI i)), (3, .ref g), (2, .ref (bb 0)), (1, .ref (f 0)), (0, .ref b)] → W p l e room_1 s m args below meth c H locs (cells + 3) (slots + 18) Q (F0 m 1507 ls [])) : W p l e room_1 s m args below meth c H locs cells slots Q (F0 m 1308 ls []) := by
  refine lv_aload_n hx hb dL_law_1308 rfl (lv_at hl 3 rfl) ?_
  refine lv_aload_n hx hb dL_law_1309 rfl (lv_at hl 4 rfl) ?_
  refine lv_iload hx hb dL_law_1310 (lv_at hl 0 rfl) ?_
  refine lv_iconst (v := 1) hx hb dL_law_1312 (by decide) ?_
  refine lv_iadd hx hb dL_law_1313 ?_
  refine xr_top (y := nI (i + 1)) (nI_add i 1) ?_
  refine va_sld hx hb hX hbl hbA hS (vp_in_nI (n := i + 1) (by omega) (by omega)) dL_law_1314 ?_
  refine xr_top (y := xs (i + 1)) (congrArg xs (nI_clamp (by omega))) ?_
  refine lv_aload_n hx hb dL_law_1315 rfl (lv_at hl 4 rfl) ?_
  refine lv_iload hx hb dL_law_1316 (lv_at hl 0 rfl) ?_
  refine lv_iconst (v := 2) hx hb dL_law_1318 (by decide) ?_
  refine lv_iadd hx hb dL_law_1319 ?_
  refine xr_top (y := nI (i + 2)) (nI_add i 2) ?_
  refine va_sld hx hb hX hbl hbA hS (vp_in_nI (n := i + 2) (by omega) (by omega)) dL_law_1320 ?_
  refine xr_top (y := xs (i + 2)) (congrArg xs (nI_clamp (by omega))) ?_
  refine lv_aload_n hx hb dL_law_1321 rfl (lv_at hl 4 rfl) ?_
  refine lv_iload hx hb dL_law_1322 (lv_at hl 0 rfl) ?_
  refine lv_iconst (v := 3) hx hb dL_law_1324 (by decide) ?_
  refine lv_iadd hx hb dL_law_1325 ?_
  refine xr_top (y := nI (i + 3)) (nI_add i 3) ?_
  refine va_sld hx hb hX hbl hbA hS (vp_in_nI (n := i + 3) (by omega) (by omega)) dL_law_1326 ?_
  refine xr_top (y := xs (i + 3)) (congrArg xs (nI_clamp (by omega))) ?_
  refine lv_aload_n hx hb dL_law_1327 rfl (lv_at hl 1 rfl) ?_
  refine xcb_i (mc := 3) (ms := 18) (wr := (wr ++ (wQ ca bb q))) (w0 := (wX ca f kq ad) ++ (wKd kq) ++ (wMp ca kq (ad j) y0) ++ (wMp ca kq (ad j1) y1) ++ [(g, .inl (ca 1, 1, .inr (.inl ov)))]) (vx_runSX (As := [.ref (f 0), .int (xs (i + 1)), .int (xs (i + 2)), .int (xs (i + 3)), .ref g]) (rest := []) ⟨hx, hb, hml, hown, hts⟩ (c_L_split l D ca f kq ad _ hl9 j j1 g y0 y1 ov (ab q j) (ab q j1) N (xs (i + 1)) (xs (i + 2)) (xs (i + 3)) hR hR2 hN hm hn hne) (vx_cwSW 5 hts gL_law_L_split rfl rfl rfl (by decide +kernel) ⟨(Nat.le_of_ble_eq_true rfl), (Nat.le_of_ble_eq_true rfl)⟩) (xPbS (wr := (wr ++ (wQ ca bb q))) hKN hTZ hNC hP hD hS hA) rfl rfl hl.1 rfl (lv_room (Nat.le_of_ble_eq_true rfl)) dL_law_1328 ⟨Nat.le_trans (m := 601024) (by omega) (Nat.le_of_ble_eq_true rfl), Nat.le_trans (m := 7293033) (by omega) (Nat.le_of_ble_eq_true rfl)⟩) (fun _ _ h => h) hP hD hS hA (fun r1328 u1328 H locs hu1328 hP hD hS => ?_)
  have hP : va_P D vwCl ((wr ++ (wH2 ca f kq ad j j1 g u1328)) ++ (wQ ca bb q)) H := hP.perm (pm_sw (a := wr) (b := (wQ ca bb q)) (c := wH2 ca f kq ad j j1 g u1328))
  have hD : va_D A ((wr ++ (wH2 ca f kq ad j j1 g u1328)) ++ (wQ ca bb q)) := hD.perm (pm_sw (a := wr) (b := (wQ ca bb q)) (c := wH2 ca f kq ad j j1 g u1328))
  refine lv_istore (lv' := [(5, .int r1328), (4, .int (nI i)), (3, .ref g), (2, .ref (bb 0)), (1, .ref (f 0)), (0, .ref b)]) hx hb dL_law_1331 hl (by decide) rfl (fun ls hl => ?_)
  refine lv_aload_n hx hb dL_law_1333 rfl (lv_at hl 3 rfl) ?_
  refine lv_aload_n hx hb dL_law_1334 rfl (lv_at hl 5 rfl) ?_
  refine lv_iload hx hb dL_law_1335 (lv_at hl 1 rfl) ?_
  refine lv_iconst (v := 1) hx hb dL_law_1337 (by decide) ?_
  refine lv_iadd hx hb dL_law_1338 ?_
  refine xr_top (y := nI (i + 1)) (nI_add i 1) ?_
  refine va_sld hx hb hX hbl hbA hS (vp_in_nI (n := i + 1) (by omega) (by omega)) dL_law_1339 ?_
  refine xr_top (y := xs (i + 1)) (congrArg xs (nI_clamp (by omega))) ?_
  refine lv_aload_n hx hb dL_law_1340 rfl (lv_at hl 5 rfl) ?_
  refine lv_iload hx hb dL_law_1341 (lv_at hl 1 rfl) ?_
  refine lv_iconst (v := 2) hx hb dL_law_1343 (by decide) ?_
  refine lv_iadd hx hb dL_law_1344 ?_
  refine xr_top (y := nI (i + 2)) (nI_add i 2) ?_
  refine va_sld hx hb hX hbl hbA hS (vp_in_nI (n := i + 2) (by omega) (by omega)) dL_law_1345 ?_
  refine xr_top (y := xs (i + 2)) (congrArg xs (nI_clamp (by omega))) ?_
  refine lv_aload_n hx hb dL_law_1346 rfl (lv_at hl 5 rfl) ?_
  refine lv_iload hx hb dL_law_1347 (lv_at hl 1 rfl) ?_
  refine lv_iconst (v := 3) hx hb dL_law_1349 (by decide) ?_
  refine lv_iadd hx hb dL_law_1350 ?_
  refine xr_top (y := nI (i + 3)) (nI_add i 3) ?_
  refine va_sld hx hb hX hbl hbA hS (vp_in_nI (n := i + 3) (by omega) (by omega)) dL_law_1351 ?_
  refine xr_top (y := xs (i + 3)) (congrArg xs (nI_clamp (by omega))) ?_
  refine xb_i (mc := 0) (ms := 0) (wr := (wr ++ (wH2 ca f kq ad j j1 g u1328))) (w0 := (wQ ca bb q)) (va_runV (As := [.int (xs (i + 1)), .int (xs (i + 2)), .int (xs (i + 3))]) (rest := []) ⟨hx, hb, hml, hown, hts⟩ (c_X11_split l D ca bb _ q (xs (i + 1)) (xs (i + 2)) (xs (i + 3)) hq) (cwV 3 hts gL_law_X11_split rfl rfl rfl (by decide +kernel) ⟨(Nat.le_of_ble_eq_true rfl), (Nat.le_of_ble_eq_true rfl)⟩) (xPbV (wr := (wr ++ (wH2 ca f kq ad j j1 g u1328))) hKN hP hD rfl rfl rfl) rfl rfl hl.1 rfl (lv_room (Nat.le_of_ble_eq_true rfl)) dL_law_1352 ⟨Nat.le_trans (m := 601024) (by omega) (Nat.le_of_ble_eq_true rfl), Nat.le_trans (m := 7293033) (by omega) (Nat.le_of_ble_eq_true rfl)⟩) hP hD hS hA (fun r1352 u1352 H locs hu1352 hP hD hS => ?_)
  have hP : va_P D vwCl ((wr ++ (wH2 ca f kq ad j j1 g u1328)) ++ (wQ ca bb u1352)) H := hP
  have hD : va_D A ((wr ++ (wH2 ca f kq ad j j1 g u1328)) ++ (wQ ca bb u1352)) := hD
  obtain ⟨hW9, hco, ho9, hab, hRj, hRk⟩ := po3_d hne hm hn hu1352 hu1328
  have er9 : r1352 = r1352 := rfl
  refine lv_istore (lv' := [(6, .int r1352), (5, .int r1328), (4, .int (nI i)), (3, .ref g), (2, .ref (bb 0)), (1, .ref (f 0)), (0, .ref b)]) hx hb dL_law_1355 hl (by decide) rfl (fun ls hl => ?_)
  refine lv_aload_n hx hb dL_law_1357 rfl (lv_at hl 4 rfl) ?_
  refine xb_i (mc := 0) (ms := 0) (wr := (wr ++ (wH2 ca f kq ad j j1 g u1328))) (w0 := (wQ ca bb u1352)) (va_runV (As := []) (rest := []) ⟨hx, hb, hml, hown, hts⟩ (c_X11_thrown l D ca bb _ u1352) (cwV 0 hts gL_law_X11_thrown rfl rfl rfl (by decide +kernel) ⟨(Nat.le_of_ble_eq_true rfl), (Nat.le_of_ble_eq_true rfl)⟩) (xPbV (wr := (wr ++ (wH2 ca f kq ad j j1 g u1328))) hKN hP hD rfl rfl rfl) rfl rfl hl.1 rfl (lv_room (Nat.le_of_ble_eq_true rfl)) dL_law_1358 ⟨Nat.le_trans (m := 601024) (by omega) (Nat.le_of_ble_eq_true rfl), Nat.le_trans (m := 7293033) (by omega) (Nat.le_of_ble_eq_true rfl)⟩) hP hD hS hA (fun r1358 u1358 H locs hu1358 hP hD hS => ?_)
  obtain ⟨et1358, eu1358⟩ := hu1358
  have eu1358 := eu1358.symm
  subst eu1358
  refine lv_iload hx hb dL_law_1361 (lv_at hl 1 rfl) ?_
  refine lv_icmp_eq (tgt := 1368) hx hb dL_law_1363 (by decide) (fun c1363 => ?_) (fun c1363 => ?_)
  · skip
    refine lv_iload hx hb dL_law_1368 (lv_at hl 1 rfl) ?_
    refine lv_if_ne (tgt := 1385) hx hb dL_law_1370 (by decide) (fun c1370 => ?_) (fun c1370 => ?_)
    · skip
      refine lv_goto (tgt := 1507) hx hb dL_law_1385 (by decide) ?_
      exact W.widen (k := cells + 3) (n := slots + 18) (by omega) (by omega) (K9 H locs ls u1328 u1352 hW9 hab hRj hRk hP hD hS (lv_sub hl [2, 3, 4, 5, 6] rfl))
    · skip
      refine lv_aload_n hx hb dL_law_1373 rfl (lv_at hl 3 rfl) ?_
      refine lv_iconst (v := 0) hx hb dL_law_1374 (by decide) ?_
      have hPo : va_P D vwCl ([(g, .inl (ca 1, 1, .inr (.inl ((u1328).2))))] ++ ((wr ++ ((wX ca f kq ad) ++ (wKd kq) ++ (wMp ca kq (ad j) (u1328).1.1) ++ (wMp ca kq (ad j1) (u1328).1.2))) ++ (wQ ca bb u1352))) H := va_P.perm hP (pm_out (a := wr) (h := (wX ca f kq ad) ++ (wKd kq) ++ (wMp ca kq (ad j) (u1328).1.1) ++ (wMp ca kq (ad j1) (u1328).1.2)) (o := [(g, .inl (ca 1, 1, .inr (.inl ((u1328).2))))]) (q := (wQ ca bb u1352)))
      refine xr_lld hx hb hKN.1 hPo 0 1 rfl rfl (j := 0) (by decide) (by decide) dL_law_1375 ?_
      refine lv_iload hx hb dL_law_1376 (lv_at hl 0 rfl) ?_
      refine lv_i2l hx hb dL_law_1378 rfl ?_
      refine W.lcmp hx hb dL_law_1379 ?_
      refine lv_if_eq (tgt := 1385) hx hb dL_law_1380 (by decide) (fun c1380 => ?_) (fun c1380 => ?_)
      · skip
        refine lv_goto (tgt := 1507) hx hb dL_law_1385 (by decide) ?_
        exact W.widen (k := cells + 3) (n := slots + 18) (by omega) (by omega) (K9 H locs ls u1328 u1352 hW9 hab hRj hRk hP hD hS (lv_sub hl [2, 3, 4, 5, 6] rfl))
      · skip
        exact absurd (lgc_0.mpr ((ho9 c1370).trans (congrArg Int32.toInt64 er9.symm))) c1380
  · skip
    exact absurd (et1358.trans hco) c1363
set_option maxHeartbeats 4000000 in
set_option maxRecDepth 100000 in
theorem k_split_a {p : Program} {l : Launch} {e : Env} {s : State} {m : MethodId} {args : Array Value} {below : List Frame} {meth : Method} {c : Code} {H : Heap} {locs : List Loc} {Q : State → Prop} {ls : Array Slot} {D : va_G} {ca : Nat → ClassId} {A : Nat → Prop} {f kq bb : Nat → Nat} {ad : Nat → Nat → Nat} {g b L i N cells slots : Nat} {xs : Nat → Int32} {q : QS} {ov : Nat → Int64} (hx : p.tables.exec = Jvm.exec) (hb : c.code = cL_law) (hml : c.maxLocals = 8) (hts : ∀ w ∈ wsL_law, w.before args s = true) (hown : s.vm.findClass RL = some m.cls) (hKN : xK D (TY ca) s) (hTZ : TZ A s s.heap) (hNC : NC s) (hA : ∀ q : Nat, s.heap.size ≤ q → A q) (hl9 : l.stackTraces = false) (hX : va_X b L xs s s.heap) (hbl : b < s.heap.size) (hbA : ¬ A b) (hiL : i + 5 ≤ L) (hL : L ≤ 2560) (hN : N ≤ 1000000) (hcl : cells + 3 ≤ 601024) (hsl : slots + 18 ≤ 7293033) (wr : va_W) (j : Nat) (y0 : MS) (hq : WQ q) (hj3 : j < 3) (e1 : xs (i + 1) = nI j) (e2 : xs (i + 3) = nI j) (hR : Rel1 N y0 (ab q j)) (hP : va_P D vwCl ((wr ++ (wQ ca bb q)) ++ ((wX ca f kq ad) ++ (wKd kq) ++ (wMp ca kq (ad j) y0) ++ [(g, .inl (ca 1, 1, .inr (.inl ov)))])) H) (hD : va_D A ((wr ++ (wQ ca bb q)) ++ ((wX ca f kq ad) ++ (wKd kq) ++ (wMp ca kq (ad j) y0) ++ [(g, .inl (ca 1, 1, .inr (.inl ov)))]))) (hS : va_S A s.heap H locs) (hl : lv_has ls 8 [(4, .int (nI i)), (3, .ref g), (2, .ref (bb 0)), (1, .ref (f 0)), (0, .ref b)]) (K9 : ∀ (H : Heap) (locs : List Loc) (ls : Array Slot) (u : MO) (q9 : QS), WQ q9 → (∀ i, ¬ i = j → ab q9 i = ab q i) → Rel1 (N + 61) u.1 (ab q9 j) → va_P D vwCl ((wr ++ (wH ca f kq ad j g u)) ++ (wQ ca bb q9)) H → va_D A ((wr ++ (wH ca f kq ad j g u)) ++ (wQ ca bb q9)) → va_S A s.heap H locs → lv_has ls 8 [(4, .int (nI i)), (3, .ref g), (2, .ref (bb 0)), (1, .ref (f 0)), (0, .ref b)] → W p l e room_1 s m args below meth c H locs (cells + 3) (slots + 18) Q (F0 m 1507 ls [])) : W p l e room_1 s m args below meth c H locs cells slots Q (F0 m 1308 ls []) := by
  refine lv_aload_n hx hb dL_law_1308 rfl (lv_at hl 3 rfl) ?_
  refine lv_aload_n hx hb dL_law_1309 rfl (lv_at hl 4 rfl) ?_
  refine lv_iload hx hb dL_law_1310 (lv_at hl 0 rfl) ?_
  refine lv_iconst (v := 1) hx hb dL_law_1312 (by decide) ?_
  refine lv_iadd hx hb dL_law_1313 ?_
  refine xr_top (y := nI (i + 1)) (nI_add i 1) ?_
  refine va_sld hx hb hX hbl hbA hS (vp_in_nI (n := i + 1) (by omega) (by omega)) dL_law_1314 ?_
  refine xr_top (y := nI j) ((congrArg xs (nI_clamp (by omega))).trans e1) ?_
  refine lv_aload_n hx hb dL_law_1315 rfl (lv_at hl 4 rfl) ?_
  refine lv_iload hx hb dL_law_1316 (lv_at hl 0 rfl) ?_
  refine lv_iconst (v := 2) hx hb dL_law_1318 (by decide) ?_
  refine lv_iadd hx hb dL_law_1319 ?_
  refine xr_top (y := nI (i + 2)) (nI_add i 2) ?_
  refine va_sld hx hb hX hbl hbA hS (vp_in_nI (n := i + 2) (by omega) (by omega)) dL_law_1320 ?_
  refine xr_top (y := xs (i + 2)) (congrArg xs (nI_clamp (by omega))) ?_
  refine lv_aload_n hx hb dL_law_1321 rfl (lv_at hl 4 rfl) ?_
  refine lv_iload hx hb dL_law_1322 (lv_at hl 0 rfl) ?_
  refine lv_iconst (v := 3) hx hb dL_law_1324 (by decide) ?_
  refine lv_iadd hx hb dL_law_1325 ?_
  refine xr_top (y := nI (i + 3)) (nI_add i 3) ?_
  refine va_sld hx hb hX hbl hbA hS (vp_in_nI (n := i + 3) (by omega) (by omega)) dL_law_1326 ?_
  refine xr_top (y := nI j) ((congrArg xs (nI_clamp (by omega))).trans e2) ?_
  refine lv_aload_n hx hb dL_law_1327 rfl (lv_at hl 1 rfl) ?_
  refine xcb_i (mc := 3) (ms := 18) (wr := (wr ++ (wQ ca bb q))) (w0 := (wX ca f kq ad) ++ (wKd kq) ++ (wMp ca kq (ad j) y0) ++ [(g, .inl (ca 1, 1, .inr (.inl ov)))]) (vx_runSX (As := [.ref (f 0), .int (nI j), .int (xs (i + 2)), .int (nI j), .ref g]) (rest := []) ⟨hx, hb, hml, hown, hts⟩ (c_L_split_a l D ca f kq ad _ hl9 j g y0 ov (ab q j) N (xs (i + 2)) hR hN hj3 (fun _ => ⟨rfl, hj3⟩)) (vx_cwSW 5 hts gL_law_L_split rfl rfl rfl (by decide +kernel) ⟨(Nat.le_of_ble_eq_true rfl), (Nat.le_of_ble_eq_true rfl)⟩) (xPbS (wr := (wr ++ (wQ ca bb q))) hKN hTZ hNC hP hD hS hA) rfl rfl hl.1 rfl (lv_room (Nat.le_of_ble_eq_true rfl)) dL_law_1328 ⟨Nat.le_trans (m := 601024) (by omega) (Nat.le_of_ble_eq_true rfl), Nat.le_trans (m := 7293033) (by omega) (Nat.le_of_ble_eq_true rfl)⟩) (fun _ _ h => h) hP hD hS hA (fun r1328 u1328 H locs hu1328 hP hD hS => ?_)
  have hP : va_P D vwCl ((wr ++ (wH ca f kq ad j g u1328)) ++ (wQ ca bb q)) H := hP.perm (pm_sw (a := wr) (b := (wQ ca bb q)) (c := wH ca f kq ad j g u1328))
  have hD : va_D A ((wr ++ (wH ca f kq ad j g u1328)) ++ (wQ ca bb q)) := hD.perm (pm_sw (a := wr) (b := (wQ ca bb q)) (c := wH ca f kq ad j g u1328))
  refine lv_istore (lv' := [(5, .int r1328), (4, .int (nI i)), (3, .ref g), (2, .ref (bb 0)), (1, .ref (f 0)), (0, .ref b)]) hx hb dL_law_1331 hl (by decide) rfl (fun ls hl => ?_)
  refine lv_aload_n hx hb dL_law_1333 rfl (lv_at hl 3 rfl) ?_
  refine lv_aload_n hx hb dL_law_1334 rfl (lv_at hl 5 rfl) ?_
  refine lv_iload hx hb dL_law_1335 (lv_at hl 1 rfl) ?_
  refine lv_iconst (v := 1) hx hb dL_law_1337 (by decide) ?_
  refine lv_iadd hx hb dL_law_1338 ?_
  refine xr_top (y := nI (i + 1)) (nI_add i 1) ?_
  refine va_sld hx hb hX hbl hbA hS (vp_in_nI (n := i + 1) (by omega) (by omega)) dL_law_1339 ?_
  refine xr_top (y := nI j) ((congrArg xs (nI_clamp (by omega))).trans e1) ?_
  refine lv_aload_n hx hb dL_law_1340 rfl (lv_at hl 5 rfl) ?_
  refine lv_iload hx hb dL_law_1341 (lv_at hl 1 rfl) ?_
  refine lv_iconst (v := 2) hx hb dL_law_1343 (by decide) ?_
  refine lv_iadd hx hb dL_law_1344 ?_
  refine xr_top (y := nI (i + 2)) (nI_add i 2) ?_
  refine va_sld hx hb hX hbl hbA hS (vp_in_nI (n := i + 2) (by omega) (by omega)) dL_law_1345 ?_
  refine xr_top (y := xs (i + 2)) (congrArg xs (nI_clamp (by omega))) ?_
  refine lv_aload_n hx hb dL_law_1346 rfl (lv_at hl 5 rfl) ?_
  refine lv_iload hx hb dL_law_1347 (lv_at hl 1 rfl) ?_
  refine lv_iconst (v := 3) hx hb dL_law_1349 (by decide) ?_
  refine lv_iadd hx hb dL_law_1350 ?_
  refine xr_top (y := nI (i + 3)) (nI_add i 3) ?_
  refine va_sld hx hb hX hbl hbA hS (vp_in_nI (n := i + 3) (by omega) (by omega)) dL_law_1351 ?_
  refine xr_top (y := nI j) ((congrArg xs (nI_clamp (by omega))).trans e2) ?_
  refine xb_i (mc := 0) (ms := 0) (wr := (wr ++ (wH ca f kq ad j g u1328))) (w0 := (wQ ca bb q)) (va_runV (As := [.int (nI j), .int (xs (i + 2)), .int (nI j)]) (rest := []) ⟨hx, hb, hml, hown, hts⟩ (c_X11_split l D ca bb _ q (nI j) (xs (i + 2)) (nI j) hq) (cwV 3 hts gL_law_X11_split rfl rfl rfl (by decide +kernel) ⟨(Nat.le_of_ble_eq_true rfl), (Nat.le_of_ble_eq_true rfl)⟩) (xPbV (wr := (wr ++ (wH ca f kq ad j g u1328))) hKN hP hD rfl rfl rfl) rfl rfl hl.1 rfl (lv_room (Nat.le_of_ble_eq_true rfl)) dL_law_1352 ⟨Nat.le_trans (m := 601024) (by omega) (Nat.le_of_ble_eq_true rfl), Nat.le_trans (m := 7293033) (by omega) (Nat.le_of_ble_eq_true rfl)⟩) hP hD hS hA (fun r1352 u1352 H locs hu1352 hP hD hS => ?_)
  have hP : va_P D vwCl ((wr ++ (wH ca f kq ad j g u1328)) ++ (wQ ca bb u1352)) H := hP
  have hD : va_D A ((wr ++ (wH ca f kq ad j g u1328)) ++ (wQ ca bb u1352)) := hD
  obtain ⟨hW9, hco, hab, hRj⟩ := po3_a hj3 hu1352 hu1328
  have er9 : r1352 = r1352 := rfl
  have ho9 : r1328 = 0 → u1328.2 0 = r1352.toInt64 := fun h9 => absurd (h9.symm.trans hu1328.1) (by decide)
  refine lv_istore (lv' := [(6, .int r1352), (5, .int r1328), (4, .int (nI i)), (3, .ref g), (2, .ref (bb 0)), (1, .ref (f 0)), (0, .ref b)]) hx hb dL_law_1355 hl (by decide) rfl (fun ls hl => ?_)
  refine lv_aload_n hx hb dL_law_1357 rfl (lv_at hl 4 rfl) ?_
  refine xb_i (mc := 0) (ms := 0) (wr := (wr ++ (wH ca f kq ad j g u1328))) (w0 := (wQ ca bb u1352)) (va_runV (As := []) (rest := []) ⟨hx, hb, hml, hown, hts⟩ (c_X11_thrown l D ca bb _ u1352) (cwV 0 hts gL_law_X11_thrown rfl rfl rfl (by decide +kernel) ⟨(Nat.le_of_ble_eq_true rfl), (Nat.le_of_ble_eq_true rfl)⟩) (xPbV (wr := (wr ++ (wH ca f kq ad j g u1328))) hKN hP hD rfl rfl rfl) rfl rfl hl.1 rfl (lv_room (Nat.le_of_ble_eq_true rfl)) dL_law_1358 ⟨Nat.le_trans (m := 601024) (by omega) (Nat.le_of_ble_eq_true rfl), Nat.le_trans (m := 7293033) (by omega) (Nat.le_of_ble_eq_true rfl)⟩) hP hD hS hA (fun r1358 u1358 H locs hu1358 hP hD hS => ?_)
  obtain ⟨et1358, eu1358⟩ := hu1358
  have eu1358 := eu1358.symm
  subst eu1358
  refine lv_iload hx hb dL_law_1361 (lv_at hl 1 rfl) ?_
  refine lv_icmp_eq (tgt := 1368) hx hb dL_law_1363 (by decide) (fun c1363 => ?_) (fun c1363 => ?_)
  · skip
    refine lv_iload hx hb dL_law_1368 (lv_at hl 1 rfl) ?_
    refine lv_if_ne (tgt := 1385) hx hb dL_law_1370 (by decide) (fun c1370 => ?_) (fun c1370 => ?_)
    · skip
      refine lv_goto (tgt := 1507) hx hb dL_law_1385 (by decide) ?_
      exact W.widen (k := cells + 3) (n := slots + 18) (by omega) (by omega) (K9 H locs ls u1328 u1352 hW9 hab hRj hP hD hS (lv_sub hl [2, 3, 4, 5, 6] rfl))
    · skip
      refine lv_aload_n hx hb dL_law_1373 rfl (lv_at hl 3 rfl) ?_
      refine lv_iconst (v := 0) hx hb dL_law_1374 (by decide) ?_
      have hPo : va_P D vwCl ([(g, .inl (ca 1, 1, .inr (.inl ((u1328).2))))] ++ ((wr ++ ((wX ca f kq ad) ++ (wKd kq) ++ (wMp ca kq (ad j) (u1328).1))) ++ (wQ ca bb u1352))) H := va_P.perm hP (pm_out (a := wr) (h := (wX ca f kq ad) ++ (wKd kq) ++ (wMp ca kq (ad j) (u1328).1)) (o := [(g, .inl (ca 1, 1, .inr (.inl ((u1328).2))))]) (q := (wQ ca bb u1352)))
      refine xr_lld hx hb hKN.1 hPo 0 1 rfl rfl (j := 0) (by decide) (by decide) dL_law_1375 ?_
      refine lv_iload hx hb dL_law_1376 (lv_at hl 0 rfl) ?_
      refine lv_i2l hx hb dL_law_1378 rfl ?_
      refine W.lcmp hx hb dL_law_1379 ?_
      refine lv_if_eq (tgt := 1385) hx hb dL_law_1380 (by decide) (fun c1380 => ?_) (fun c1380 => ?_)
      · skip
        refine lv_goto (tgt := 1507) hx hb dL_law_1385 (by decide) ?_
        exact W.widen (k := cells + 3) (n := slots + 18) (by omega) (by omega) (K9 H locs ls u1328 u1352 hW9 hab hRj hP hD hS (lv_sub hl [2, 3, 4, 5, 6] rfl))
      · skip
        exact absurd (lgc_0.mpr ((ho9 c1370).trans (congrArg Int32.toInt64 er9.symm))) c1380
  · skip
    exact absurd (et1358.trans hco) c1363
set_option maxHeartbeats 4000000 in
set_option maxRecDepth 100000 in
theorem k_changes {p : Program} {l : Launch} {e : Env} {s : State} {m : MethodId} {args : Array Value} {below : List Frame} {meth : Method} {c : Code} {H : Heap} {locs : List Loc} {Q : State → Prop} {ls : Array Slot} {D : va_G} {ca : Nat → ClassId} {A : Nat → Prop} {f kq bb : Nat → Nat} {ad : Nat → Nat → Nat} {g b L i N cells slots : Nat} {xs : Nat → Int32} {q : QS} {ov : Nat → Int64} (hx : p.tables.exec = Jvm.exec) (hb : c.code = cL_law) (hml : c.maxLocals = 8) (hts : ∀ w ∈ wsL_law, w.before args s = true) (hown : s.vm.findClass RL = some m.cls) (hKN : xK D (TY ca) s) (hTZ : TZ A s s.heap) (hNC : NC s) (hA : ∀ q : Nat, s.heap.size ≤ q → A q) (hl9 : l.stackTraces = false) (hX : va_X b L xs s s.heap) (hbl : b < s.heap.size) (hbA : ¬ A b) (hiL : i + 5 ≤ L) (hL : L ≤ 2560) (hN : N ≤ 1000000) (hcl : cells + 3 ≤ 601024) (hsl : slots + 18 ≤ 7293033) (wr : va_W) (j : Nat) (y0 : MS) (hq : WQ q) (hm : isB (xs (i + 1)) 3 = true → xs (i + 1) = nI j ∧ j < 3) (hR : Rel1 N y0 (ab q j)) (hP : va_P D vwCl ((wr ++ (wQ ca bb q)) ++ ((wX ca f kq ad) ++ (wKd kq) ++ (wMp ca kq (ad j) y0) ++ [(g, .inl (ca 1, 1, .inr (.inl ov)))])) H) (hD : va_D A ((wr ++ (wQ ca bb q)) ++ ((wX ca f kq ad) ++ (wKd kq) ++ (wMp ca kq (ad j) y0) ++ [(g, .inl (ca 1, 1, .inr (.inl ov)))]))) (hS : va_S A s.heap H locs) (hl : lv_has ls 8 [(4, .int (nI i)), (3, .ref g), (2, .ref (bb 0)), (1, .ref (f 0)), (0, .ref b)]) (K9 : ∀ (H : Heap) (locs : List Loc) (ls : Array Slot) (u : MO) (q9 : QS), WQ q9 → (∀ i, ¬ i = j → ab q9 i = ab q i) → Rel1 (N + 61) u.1 (ab q9 j) → va_P D vwCl ((wr ++ (wH ca f kq ad j g u)) ++ (wQ ca bb q9)) H → va_D A ((wr ++ (wH ca f kq ad j g u)) ++ (wQ ca bb q9)) → va_S A s.heap H locs → lv_has ls 8 [(4, .int (nI i)), (3, .ref g), (2, .ref (bb 0)), (1, .ref (f 0)), (0, .ref b)] → W p l e room_1 s m args below meth c H locs (cells + 3) (slots + 18) Q (F0 m 1507 ls [])) : W p l e room_1 s m args below meth c H locs cells slots Q (F0 m 1388 ls []) := by
  refine lv_aload_n hx hb dL_law_1388 rfl (lv_at hl 3 rfl) ?_
  refine lv_aload_n hx hb dL_law_1389 rfl (lv_at hl 4 rfl) ?_
  refine lv_iload hx hb dL_law_1390 (lv_at hl 0 rfl) ?_
  refine lv_iconst (v := 1) hx hb dL_law_1392 (by decide) ?_
  refine lv_iadd hx hb dL_law_1393 ?_
  refine xr_top (y := nI (i + 1)) (nI_add i 1) ?_
  refine va_sld hx hb hX hbl hbA hS (vp_in_nI (n := i + 1) (by omega) (by omega)) dL_law_1394 ?_
  refine xr_top (y := xs (i + 1)) (congrArg xs (nI_clamp (by omega))) ?_
  refine lv_aload_n hx hb dL_law_1395 rfl (lv_at hl 1 rfl) ?_
  refine xcb_i (mc := 2) (ms := 12) (wr := (wr ++ (wQ ca bb q))) (w0 := (wX ca f kq ad) ++ (wKd kq) ++ (wMp ca kq (ad j) y0) ++ [(g, .inl (ca 1, 1, .inr (.inl ov)))]) (vx_runSX (As := [.ref (f 0), .int (xs (i + 1)), .ref g]) (rest := []) ⟨hx, hb, hml, hown, hts⟩ (c_L_changes l D ca f kq ad _ hl9 j g y0 ov (ab q j) N (xs (i + 1)) hR hN hm) (vx_cwSW 3 hts gL_law_L_changes rfl rfl rfl (by decide +kernel) ⟨(Nat.le_of_ble_eq_true rfl), (Nat.le_of_ble_eq_true rfl)⟩) (xPbS (wr := (wr ++ (wQ ca bb q))) hKN hTZ hNC hP hD hS hA) rfl rfl hl.1 rfl (lv_room (Nat.le_of_ble_eq_true rfl)) dL_law_1396 ⟨Nat.le_trans (m := 601024) (by omega) (Nat.le_of_ble_eq_true rfl), Nat.le_trans (m := 7293033) (by omega) (Nat.le_of_ble_eq_true rfl)⟩) (fun _ _ h => h) hP hD hS hA (fun r1396 u1396 H locs hu1396 hP hD hS => ?_)
  have hP : va_P D vwCl ((wr ++ (wH ca f kq ad j g u1396)) ++ (wQ ca bb q)) H := hP.perm (pm_sw (a := wr) (b := (wQ ca bb q)) (c := wH ca f kq ad j g u1396))
  have hD : va_D A ((wr ++ (wH ca f kq ad j g u1396)) ++ (wQ ca bb q)) := hD.perm (pm_sw (a := wr) (b := (wQ ca bb q)) (c := wH ca f kq ad j g u1396))
  refine lv_istore (lv' := [(5, .int r1396), (4, .int (nI i)), (3, .ref g), (2, .ref (bb 0)), (1, .ref (f 0)), (0, .ref b)]) hx hb dL_law_1399 hl (by decide) rfl (fun ls hl => ?_)
  refine lv_aload_n hx hb dL_law_1401 rfl (lv_at hl 3 rfl) ?_
  refine lv_aload_n hx hb dL_law_1402 rfl (lv_at hl 5 rfl) ?_
  refine lv_iload hx hb dL_law_1403 (lv_at hl 1 rfl) ?_
  refine lv_iconst (v := 1) hx hb dL_law_1405 (by decide) ?_
  refine lv_iadd hx hb dL_law_1406 ?_
  refine xr_top (y := nI (i + 1)) (nI_add i 1) ?_
  refine va_sld hx hb hX hbl hbA hS (vp_in_nI (n := i + 1) (by omega) (by omega)) dL_law_1407 ?_
  refine xr_top (y := xs (i + 1)) (congrArg xs (nI_clamp (by omega))) ?_
  refine xb_i (mc := 0) (ms := 0) (wr := (wr ++ (wH ca f kq ad j g u1396))) (w0 := (wQ ca bb q)) (va_runV (As := [.int (xs (i + 1))]) (rest := []) ⟨hx, hb, hml, hown, hts⟩ (c_X11_changes l D ca bb _ q (xs (i + 1)) hq) (cwV 1 hts gL_law_X11_changes rfl rfl rfl (by decide +kernel) ⟨(Nat.le_of_ble_eq_true rfl), (Nat.le_of_ble_eq_true rfl)⟩) (xPbV (wr := (wr ++ (wH ca f kq ad j g u1396))) hKN hP hD rfl rfl rfl) rfl rfl hl.1 rfl (lv_room (Nat.le_of_ble_eq_true rfl)) dL_law_1408 ⟨Nat.le_trans (m := 601024) (by omega) (Nat.le_of_ble_eq_true rfl), Nat.le_trans (m := 7293033) (by omega) (Nat.le_of_ble_eq_true rfl)⟩) hP hD hS hA (fun r1408 u1408 H locs hu1408 hP hD hS => ?_)
  have hP : va_P D vwCl ((wr ++ (wH ca f kq ad j g u1396)) ++ (wQ ca bb u1408)) H := hP
  have hD : va_D A ((wr ++ (wH ca f kq ad j g u1396)) ++ (wQ ca bb u1408)) := hD
  obtain ⟨ex9, hR9, ho9⟩ := hu1396
  obtain ⟨hW9, er9, ec9, ab9⟩ := po_gg hu1408 hm
  have hco : u1408.co = r1396 := ec9.trans ex9.symm
  have hab : ∀ i, ¬ i = j → ab u1408 i = ab q i := fun i hi => by rw [ab9]; exact vup_ne hi
  have hRj : Rel1 (N + 61) u1396.1 (ab u1408 j) := by rw [ab9, vup_eq]; exact hR9
  refine lv_istore (lv' := [(6, .int r1408), (5, .int r1396), (4, .int (nI i)), (3, .ref g), (2, .ref (bb 0)), (1, .ref (f 0)), (0, .ref b)]) hx hb dL_law_1411 hl (by decide) rfl (fun ls hl => ?_)
  refine lv_aload_n hx hb dL_law_1413 rfl (lv_at hl 4 rfl) ?_
  refine xb_i (mc := 0) (ms := 0) (wr := (wr ++ (wH ca f kq ad j g u1396))) (w0 := (wQ ca bb u1408)) (va_runV (As := []) (rest := []) ⟨hx, hb, hml, hown, hts⟩ (c_X11_thrown l D ca bb _ u1408) (cwV 0 hts gL_law_X11_thrown rfl rfl rfl (by decide +kernel) ⟨(Nat.le_of_ble_eq_true rfl), (Nat.le_of_ble_eq_true rfl)⟩) (xPbV (wr := (wr ++ (wH ca f kq ad j g u1396))) hKN hP hD rfl rfl rfl) rfl rfl hl.1 rfl (lv_room (Nat.le_of_ble_eq_true rfl)) dL_law_1414 ⟨Nat.le_trans (m := 601024) (by omega) (Nat.le_of_ble_eq_true rfl), Nat.le_trans (m := 7293033) (by omega) (Nat.le_of_ble_eq_true rfl)⟩) hP hD hS hA (fun r1414 u1414 H locs hu1414 hP hD hS => ?_)
  obtain ⟨et1414, eu1414⟩ := hu1414
  have eu1414 := eu1414.symm
  subst eu1414
  refine lv_iload hx hb dL_law_1417 (lv_at hl 1 rfl) ?_
  refine lv_icmp_eq (tgt := 1424) hx hb dL_law_1419 (by decide) (fun c1419 => ?_) (fun c1419 => ?_)
  · skip
    refine lv_iload hx hb dL_law_1424 (lv_at hl 1 rfl) ?_
    refine lv_if_ne (tgt := 1441) hx hb dL_law_1426 (by decide) (fun c1426 => ?_) (fun c1426 => ?_)
    · skip
      refine lv_goto (tgt := 1507) hx hb dL_law_1441 (by decide) ?_
      exact W.widen (k := cells + 3) (n := slots + 18) (by omega) (by omega) (K9 H locs ls u1396 u1408 hW9 hab hRj hP hD hS (lv_sub hl [2, 3, 4, 5, 6] rfl))
    · skip
      refine lv_aload_n hx hb dL_law_1429 rfl (lv_at hl 3 rfl) ?_
      refine lv_iconst (v := 0) hx hb dL_law_1430 (by decide) ?_
      have hPo : va_P D vwCl ([(g, .inl (ca 1, 1, .inr (.inl ((u1396).2))))] ++ ((wr ++ ((wX ca f kq ad) ++ (wKd kq) ++ (wMp ca kq (ad j) (u1396).1))) ++ (wQ ca bb u1408))) H := va_P.perm hP (pm_out (a := wr) (h := (wX ca f kq ad) ++ (wKd kq) ++ (wMp ca kq (ad j) (u1396).1)) (o := [(g, .inl (ca 1, 1, .inr (.inl ((u1396).2))))]) (q := (wQ ca bb u1408)))
      refine xr_lld hx hb hKN.1 hPo 0 1 rfl rfl (j := 0) (by decide) (by decide) dL_law_1431 ?_
      refine lv_iload hx hb dL_law_1432 (lv_at hl 0 rfl) ?_
      refine lv_i2l hx hb dL_law_1434 rfl ?_
      refine W.lcmp hx hb dL_law_1435 ?_
      refine lv_if_eq (tgt := 1441) hx hb dL_law_1436 (by decide) (fun c1436 => ?_) (fun c1436 => ?_)
      · skip
        refine lv_goto (tgt := 1507) hx hb dL_law_1441 (by decide) ?_
        exact W.widen (k := cells + 3) (n := slots + 18) (by omega) (by omega) (K9 H locs ls u1396 u1408 hW9 hab hRj hP hD hS (lv_sub hl [2, 3, 4, 5, 6] rfl))
      · skip
        exact absurd (lgc_0.mpr ((ho9 c1426).trans (congrArg Int32.toInt64 er9.symm))) c1436
  · skip
    exact absurd (et1414.trans hco) c1419
set_option maxHeartbeats 4000000 in
set_option maxRecDepth 100000 in
theorem k_audit {p : Program} {l : Launch} {e : Env} {s : State} {m : MethodId} {args : Array Value} {below : List Frame} {meth : Method} {c : Code} {H : Heap} {locs : List Loc} {Q : State → Prop} {ls : Array Slot} {D : va_G} {ca : Nat → ClassId} {A : Nat → Prop} {f kq bb : Nat → Nat} {ad : Nat → Nat → Nat} {g b L i N cells slots : Nat} {xs : Nat → Int32} {q : QS} {ov : Nat → Int64} (hx : p.tables.exec = Jvm.exec) (hb : c.code = cL_law) (hml : c.maxLocals = 8) (hts : ∀ w ∈ wsL_law, w.before args s = true) (hown : s.vm.findClass RL = some m.cls) (hKN : xK D (TY ca) s) (hTZ : TZ A s s.heap) (hNC : NC s) (hA : ∀ q : Nat, s.heap.size ≤ q → A q) (hl9 : l.stackTraces = false) (hX : va_X b L xs s s.heap) (hbl : b < s.heap.size) (hbA : ¬ A b) (hiL : i + 5 ≤ L) (hL : L ≤ 2560) (hN : N ≤ 1000000) (hcl : cells + 3 ≤ 601024) (hsl : slots + 18 ≤ 7293033) (wr : va_W) (j : Nat) (y0 : MS) (hq : WQ q) (hm : isB (xs (i + 1)) 3 = true → xs (i + 1) = nI j ∧ j < 3) (hR : Rel1 N y0 (ab q j)) (hP : va_P D vwCl ((wr ++ (wQ ca bb q)) ++ ((wX ca f kq ad) ++ (wKd kq) ++ (wMp ca kq (ad j) y0) ++ [(g, .inl (ca 1, 1, .inr (.inl ov)))])) H) (hD : va_D A ((wr ++ (wQ ca bb q)) ++ ((wX ca f kq ad) ++ (wKd kq) ++ (wMp ca kq (ad j) y0) ++ [(g, .inl (ca 1, 1, .inr (.inl ov)))]))) (hS : va_S A s.heap H locs) (hl : lv_has ls 8 [(4, .int (nI i)), (3, .ref g), (2, .ref (bb 0)), (1, .ref (f 0)), (0, .ref b)]) (K9 : ∀ (H : Heap) (locs : List Loc) (ls : Array Slot) (u : MO) (q9 : QS), WQ q9 → (∀ i, ¬ i = j → ab q9 i = ab q i) → Rel1 (N + 61) u.1 (ab q9 j) → va_P D vwCl ((wr ++ (wH ca f kq ad j g u)) ++ (wQ ca bb q9)) H → va_D A ((wr ++ (wH ca f kq ad j g u)) ++ (wQ ca bb q9)) → va_S A s.heap H locs → lv_has ls 8 [(4, .int (nI i)), (3, .ref g), (2, .ref (bb 0)), (1, .ref (f 0)), (0, .ref b)] → W p l e room_1 s m args below meth c H locs (cells + 3) (slots + 18) Q (F0 m 1507 ls [])) : W p l e room_1 s m args below meth c H locs cells slots Q (F0 m 1444 ls []) := by
  refine lv_aload_n hx hb dL_law_1444 rfl (lv_at hl 3 rfl) ?_
  refine lv_aload_n hx hb dL_law_1445 rfl (lv_at hl 4 rfl) ?_
  refine lv_iload hx hb dL_law_1446 (lv_at hl 0 rfl) ?_
  refine lv_iconst (v := 1) hx hb dL_law_1448 (by decide) ?_
  refine lv_iadd hx hb dL_law_1449 ?_
  refine xr_top (y := nI (i + 1)) (nI_add i 1) ?_
  refine va_sld hx hb hX hbl hbA hS (vp_in_nI (n := i + 1) (by omega) (by omega)) dL_law_1450 ?_
  refine xr_top (y := xs (i + 1)) (congrArg xs (nI_clamp (by omega))) ?_
  refine lv_aload_n hx hb dL_law_1451 rfl (lv_at hl 1 rfl) ?_
  refine xcb_i (mc := 2) (ms := 12) (wr := (wr ++ (wQ ca bb q))) (w0 := (wX ca f kq ad) ++ (wKd kq) ++ (wMp ca kq (ad j) y0) ++ [(g, .inl (ca 1, 1, .inr (.inl ov)))]) (vx_runSX (As := [.ref (f 0), .int (xs (i + 1)), .ref g]) (rest := []) ⟨hx, hb, hml, hown, hts⟩ (c_L_audit l D ca f kq ad _ hl9 j g y0 ov (ab q j) N (xs (i + 1)) hR hN hm) (vx_cwSW 3 hts gL_law_L_audit rfl rfl rfl (by decide +kernel) ⟨(Nat.le_of_ble_eq_true rfl), (Nat.le_of_ble_eq_true rfl)⟩) (xPbS (wr := (wr ++ (wQ ca bb q))) hKN hTZ hNC hP hD hS hA) rfl rfl hl.1 rfl (lv_room (Nat.le_of_ble_eq_true rfl)) dL_law_1452 ⟨Nat.le_trans (m := 601024) (by omega) (Nat.le_of_ble_eq_true rfl), Nat.le_trans (m := 7293033) (by omega) (Nat.le_of_ble_eq_true rfl)⟩) (fun _ _ h => h) hP hD hS hA (fun r1452 u1452 H locs hu1452 hP hD hS => ?_)
  have hP : va_P D vwCl ((wr ++ (wH ca f kq ad j g u1452)) ++ (wQ ca bb q)) H := hP.perm (pm_sw (a := wr) (b := (wQ ca bb q)) (c := wH ca f kq ad j g u1452))
  have hD : va_D A ((wr ++ (wH ca f kq ad j g u1452)) ++ (wQ ca bb q)) := hD.perm (pm_sw (a := wr) (b := (wQ ca bb q)) (c := wH ca f kq ad j g u1452))
  refine lv_istore (lv' := [(5, .int r1452), (4, .int (nI i)), (3, .ref g), (2, .ref (bb 0)), (1, .ref (f 0)), (0, .ref b)]) hx hb dL_law_1455 hl (by decide) rfl (fun ls hl => ?_)
  refine lv_aload_n hx hb dL_law_1457 rfl (lv_at hl 3 rfl) ?_
  refine lv_aload_n hx hb dL_law_1458 rfl (lv_at hl 5 rfl) ?_
  refine lv_iload hx hb dL_law_1459 (lv_at hl 1 rfl) ?_
  refine lv_iconst (v := 1) hx hb dL_law_1461 (by decide) ?_
  refine lv_iadd hx hb dL_law_1462 ?_
  refine xr_top (y := nI (i + 1)) (nI_add i 1) ?_
  refine va_sld hx hb hX hbl hbA hS (vp_in_nI (n := i + 1) (by omega) (by omega)) dL_law_1463 ?_
  refine xr_top (y := xs (i + 1)) (congrArg xs (nI_clamp (by omega))) ?_
  refine xb_i (mc := 0) (ms := 0) (wr := (wr ++ (wH ca f kq ad j g u1452))) (w0 := (wQ ca bb q)) (va_runV (As := [.int (xs (i + 1))]) (rest := []) ⟨hx, hb, hml, hown, hts⟩ (c_X11_audit l D ca bb _ q (xs (i + 1)) hq) (cwV 1 hts gL_law_X11_audit rfl rfl rfl (by decide +kernel) ⟨(Nat.le_of_ble_eq_true rfl), (Nat.le_of_ble_eq_true rfl)⟩) (xPbV (wr := (wr ++ (wH ca f kq ad j g u1452))) hKN hP hD rfl rfl rfl) rfl rfl hl.1 rfl (lv_room (Nat.le_of_ble_eq_true rfl)) dL_law_1464 ⟨Nat.le_trans (m := 601024) (by omega) (Nat.le_of_ble_eq_true rfl), Nat.le_trans (m := 7293033) (by omega) (Nat.le_of_ble_eq_true rfl)⟩) hP hD hS hA (fun r1464 u1464 H locs hu1464 hP hD hS => ?_)
  have hP : va_P D vwCl ((wr ++ (wH ca f kq ad j g u1452)) ++ (wQ ca bb u1464)) H := hP
  have hD : va_D A ((wr ++ (wH ca f kq ad j g u1452)) ++ (wQ ca bb u1464)) := hD
  obtain ⟨ex9, hR9, ho9⟩ := hu1452
  obtain ⟨hW9, er9, ec9, ab9⟩ := po_gg hu1464 hm
  have hco : u1464.co = r1452 := ec9.trans ex9.symm
  have hab : ∀ i, ¬ i = j → ab u1464 i = ab q i := fun i hi => by rw [ab9]; exact vup_ne hi
  have hRj : Rel1 (N + 61) u1452.1 (ab u1464 j) := by rw [ab9, vup_eq]; exact hR9
  refine lv_istore (lv' := [(6, .int r1464), (5, .int r1452), (4, .int (nI i)), (3, .ref g), (2, .ref (bb 0)), (1, .ref (f 0)), (0, .ref b)]) hx hb dL_law_1467 hl (by decide) rfl (fun ls hl => ?_)
  refine lv_aload_n hx hb dL_law_1469 rfl (lv_at hl 4 rfl) ?_
  refine xb_i (mc := 0) (ms := 0) (wr := (wr ++ (wH ca f kq ad j g u1452))) (w0 := (wQ ca bb u1464)) (va_runV (As := []) (rest := []) ⟨hx, hb, hml, hown, hts⟩ (c_X11_thrown l D ca bb _ u1464) (cwV 0 hts gL_law_X11_thrown rfl rfl rfl (by decide +kernel) ⟨(Nat.le_of_ble_eq_true rfl), (Nat.le_of_ble_eq_true rfl)⟩) (xPbV (wr := (wr ++ (wH ca f kq ad j g u1452))) hKN hP hD rfl rfl rfl) rfl rfl hl.1 rfl (lv_room (Nat.le_of_ble_eq_true rfl)) dL_law_1470 ⟨Nat.le_trans (m := 601024) (by omega) (Nat.le_of_ble_eq_true rfl), Nat.le_trans (m := 7293033) (by omega) (Nat.le_of_ble_eq_true rfl)⟩) hP hD hS hA (fun r1470 u1470 H locs hu1470 hP hD hS => ?_)
  obtain ⟨et1470, eu1470⟩ := hu1470
  have eu1470 := eu1470.symm
  subst eu1470
  refine lv_iload hx hb dL_law_1473 (lv_at hl 1 rfl) ?_
  refine lv_icmp_eq (tgt := 1480) hx hb dL_law_1475 (by decide) (fun c1475 => ?_) (fun c1475 => ?_)
  · skip
    refine lv_iload hx hb dL_law_1480 (lv_at hl 1 rfl) ?_
    refine lv_if_ne (tgt := 1504) hx hb dL_law_1482 (by decide) (fun c1482 => ?_) (fun c1482 => ?_)
    · skip
      refine lv_goto (tgt := 1507) hx hb dL_law_1504 (by decide) ?_
      exact W.widen (k := cells + 3) (n := slots + 18) (by omega) (by omega) (K9 H locs ls u1452 u1464 hW9 hab hRj hP hD hS (lv_sub hl [2, 3, 4, 5, 6] rfl))
    · skip
      refine lv_aload_n hx hb dL_law_1485 rfl (lv_at hl 3 rfl) ?_
      refine lv_iconst (v := 0) hx hb dL_law_1486 (by decide) ?_
      have hPo : va_P D vwCl ([(g, .inl (ca 1, 1, .inr (.inl ((u1452).2))))] ++ ((wr ++ ((wX ca f kq ad) ++ (wKd kq) ++ (wMp ca kq (ad j) (u1452).1))) ++ (wQ ca bb u1464))) H := va_P.perm hP (pm_out (a := wr) (h := (wX ca f kq ad) ++ (wKd kq) ++ (wMp ca kq (ad j) (u1452).1)) (o := [(g, .inl (ca 1, 1, .inr (.inl ((u1452).2))))]) (q := (wQ ca bb u1464)))
      refine xr_lld hx hb hKN.1 hPo 0 1 rfl rfl (j := 0) (by decide) (by decide) dL_law_1487 ?_
      refine lv_iload hx hb dL_law_1488 (lv_at hl 0 rfl) ?_
      refine lv_if_eq (tgt := 1497) hx hb dL_law_1490 (by decide) (fun c1490 => ?_) (fun c1490 => ?_)
      · skip
        refine lv_lconst (v := 0) hx hb dL_law_1497 (by decide) ?_
        refine W.lcmp hx hb dL_law_1498 ?_
        refine lv_if_eq (tgt := 1504) hx hb dL_law_1499 (by decide) (fun c1499 => ?_) (fun c1499 => ?_)
        · skip
          refine lv_goto (tgt := 1507) hx hb dL_law_1504 (by decide) ?_
          exact W.widen (k := cells + 3) (n := slots + 18) (by omega) (by omega) (K9 H locs ls u1452 u1464 hW9 hab hRj hP hD hS (lv_sub hl [2, 3, 4, 5, 6] rfl))
        · skip
          exact absurd (lgc_0.mpr ((ho9 c1482).trans (if_pos (er9.symm.trans c1490)))) c1499
      · skip
        refine lv_lconst (v := 1) hx hb dL_law_1493 (by decide) ?_
        refine lv_goto (tgt := 1498) hx hb dL_law_1494 (by decide) ?_
        refine W.lcmp hx hb dL_law_1498 ?_
        refine lv_if_eq (tgt := 1504) hx hb dL_law_1499 (by decide) (fun c1499 => ?_) (fun c1499 => ?_)
        · skip
          refine lv_goto (tgt := 1507) hx hb dL_law_1504 (by decide) ?_
          exact W.widen (k := cells + 3) (n := slots + 18) (by omega) (by omega) (K9 H locs ls u1452 u1464 hW9 hab hRj hP hD hS (lv_sub hl [2, 3, 4, 5, 6] rfl))
        · skip
          exact absurd (lgc_0.mpr ((ho9 c1482).trans (if_neg (fun h => c1490 (er9.trans h))))) c1499
  · skip
    exact absurd (et1470.trans hco) c1475
