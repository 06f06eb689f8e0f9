/-! helpers over two maps -/
abbrev MO2 : Type := M2 × (Nat → Int64)
def wH2 (ca : Nat → ClassId) (f kq : Nat → Nat) (ad : Nat → Nat → Nat) (i0 i1 g : Nat) (u : MO2) : va_W := (wX ca f kq ad) ++ (wKd kq) ++ (wMp ca kq (ad i0) u.1.1) ++ (wMp ca kq (ad i1) u.1.2) ++ [(g, .inl (ca 1, 1, .inr (.inl u.2)))]
-- TreeFamilyLaw.join
set_option maxHeartbeats 4000000 in
set_option maxRecDepth 100000 in
theorem c_L_join (l : Launch) (D : va_G) (ca : Nat → ClassId) (f kq : Nat → Nat) (ad : Nat → Nat → Nat) (sz : Nat) (hl9 : l.stackTraces = false) (i0 i1 g : Nat) (m m2 : MS) (ov : Nat → Int64) (r s2 : RW) (N : Nat) (mm nn op : Int32) (hR : Rel1 N m r) (hR2 : Rel1 N m2 s2) (hN : N ≤ 1000000) (hm : isB mm 3 = true → mm = nI i0 ∧ i0 < 3) (hn : isB nn 3 = true → nn = nI i1 ∧ i1 < 3) : vx_Met l yL_join wsL_join ({ frames := 68, cells := 3, slots := 18, locals := 1691 } : Room) (xPcH D (TY ca) [.ref (f 0), .int mm, .int nn, .int op, .ref g] ((wX ca f kq ad) ++ (wKd kq) ++ (wMp ca kq (ad i0) m) ++ (wMp ca kq (ad i1) m2) ++ [(g, .inl (ca 1, 1, .inr (.inl ov)))]) sz) (va_Qi (fun (x : Int32) (u : MO2) => x = (GJ op mm nn r s2).2.1 ∧ Rel1 (N + 61) u.1.1 (GJ op mm nn r s2).2.2 ∧ Rel1 (N + 61) u.1.2 s2 ∧ (x = 0 → u.2 0 = ((GJ op mm nn r s2).1).toInt64)) (xB D (wH2 ca f kq ad i0 i1 g) (va_A ((wX ca f kq ad) ++ (wKd kq) ++ (wMp ca kq (ad i0) m) ++ (wMp ca kq (ad i1) m2) ++ [(g, .inl (ca 1, 1, .inr (.inl ov)))]) sz)) (va_A ((wX ca f kq ad) ++ (wKd kq) ++ (wMp ca kq (ad i0) m) ++ (wMp ca kq (ad i1) m2) ++ [(g, .inl (ca 1, 1, .inr (.inl ov)))]) sz)) (xX D (wH2 ca f kq ad i0 i1 g) (va_A ((wX ca f kq ad) ++ (wKd kq) ++ (wMp ca kq (ad i0) m) ++ (wMp ca kq (ad i1) m2) ++ [(g, .inl (ca 1, 1, .inr (.inl ov)))]) sz) (fun (_ : String) (_ : MO2) => False)) 3 18 (va_A ((wX ca f kq ad) ++ (wKd kq) ++ (wMp ca kq (ad i0) m) ++ (wMp ca kq (ad i1) m2) ++ [(g, .inl (ca 1, 1, .inr (.inl ov)))]) sz) := by
  refine vx_ofWH (cc := cL_join) (maxL := 6) (ret := (some .int)) (by decide) rfl ?_
  intro p e s m9 args below meth c s₁ B hml hv
  obtain ⟨rfl, hsz, hP, hKN, hD0, hTZ, hNC⟩ := hv
  have hx := B.exec
  have hb := B.bytes
  have hr := B.returns
  have hts := atoms_spec (ws := wsL_join) B.pre
  have hown : s.vm.findClass RL = some m9.cls := findClass_of_methodNamed B.named
  have hTab : c.exceptionTable.toList = [(⟨0, 12, 15, 13⟩ : ExceptionTableEntry), (⟨0, 12, 19, 19⟩ : ExceptionTableEntry)] := by
    obtain ⟨m8, meth8, c8, n1, n2, n3, -, -, n6, -⟩ := Cond.codeWith_spec (hts _ List.mem_cons_self)
    cases Option.some.inj (n1.symm.trans B.named)
    cases Option.some.inj (n2.symm.trans B.method)
    cases Option.some.inj (n3.symm.trans (Stand.of_body B).code)
    exact tabEq n6
  have hlocks := B.notSynchronized
  subst hsz
  have hD := hD0.self (sz := s.heap.size)
  generalize hAe : va_A ((wX ca f kq ad) ++ (wKd kq) ++ (wMp ca kq (ad i0) m) ++ (wMp ca kq (ad i1) m2) ++ [(g, .inl (ca 1, 1, .inr (.inl ov)))]) s.heap.size = A at hD hTZ ⊢
  have hA : ∀ q : Nat, s.heap.size ≤ q → A q := fun q h => by rw [← hAe]; exact Or.inr h
  have hS : va_S A s.heap s.heap [] := va_S.rf
  have hl := lv_entry ([.ref (f 0), .int mm, .int nn, .int op, .ref g]) (n := 6) (Nat.le_of_ble_eq_true rfl)
  rw [lg_entry_eq]
  generalize (lg_sl ([.ref (f 0), .int mm, .int nn, .int op, .ref g]) ++ List.replicate (6 - (lg_sl ([.ref (f 0), .int mm, .int nn, .int op, .ref g])).length) Slot.unset).toArray = ls at hl ⊢
  have hl : lv_has ls 6 [(0, .ref (f 0)), (1, .int mm), (2, .int nn), (3, .int op), (4, .ref g)] := hl
  refine lv_aload hx hb dL_join_0 (lv_at hl 4 rfl) ?_
  refine lv_iconst (v := 0) hx hb dL_join_2 (by decide) ?_
  refine lv_aload_n hx hb dL_join_3 rfl (lv_at hl 0 rfl) ?_
  refine lv_iload_n hx hb dL_join_4 rfl (lv_at hl 1 rfl) ?_
  refine lv_iload_n hx hb dL_join_5 rfl (lv_at hl 2 rfl) ?_
  refine lv_iload_n hx hb dL_join_6 rfl (lv_at hl 3 rfl) ?_
  refine xcx_i (wr := [(g, .inl (ca 1, 1, .inr (.inl ov)))]) (vx_runV (As := [.int mm, .int nn, .int op]) (rest := [.int 0, .ref g]) ⟨hx, hb, hml, hown, hts⟩ (c_X10_join l D ca f kq ad _ hl9 i0 i1 m m2 r s2 N mm nn op hR hR2 hN hm hn) (cwV 3 hts gL_join_X10_join rfl rfl rfl (by decide +kernel) ⟨(Nat.le_of_ble_eq_true rfl), (Nat.le_of_ble_eq_true rfl)⟩) (xPreVT hKN hTZ hP hD hS hA [0, 1, 2, 3, 4, 5, 6, 7, 8, 9, 10, 11, 12, 13, 14, 15, 16, 17, 18, 19, 20, 21, 22, 23, 24, 25, 26, 27, 28, 29, 30, 31, 32, 33, 34] (by decide +kernel) rfl (q0 := 0) rfl rfl rfl) rfl rfl hl.1 rfl (lv_room (Nat.le_of_ble_eq_true rfl)) dL_join_7 ⟨(Nat.le_of_ble_eq_true rfl), (Nat.le_of_ble_eq_true rfl)⟩) hP hD hS hA [0, 1, 2, 3, 4, 5, 6, 7, 8, 9, 10, 11, 12, 13, 14, 15, 16, 17, 18, 19, 20, 21, 22, 23, 24, 25, 26, 27, 28, 29, 30, 31, 32, 33, 34] [35] rfl rfl (by decide +kernel) (by decide +kernel) (fun E9 ce9 q9 u7 H locs hu7 hP hD hS h91 h92 h93 => ?_) (fun r7 u7 H locs hu7 hP hD hS => ?_)
  · skip
    have hP : va_P D vwCl ((wX ca f kq ad) ++ (wKd kq) ++ (wMp ca kq (ad i0) u7.1) ++ (wMp ca kq (ad i1) u7.2) ++ [(g, .inl (ca 1, 1, .inr (.inl ov)))]) H := hP.sub (ws' := (wX ca f kq ad) ++ (wKd kq) ++ (wMp ca kq (ad i0) u7.1) ++ (wMp ca kq (ad i1) u7.2) ++ [(g, .inl (ca 1, 1, .inr (.inl ov)))]) [1, 2, 3, 4, 5, 6, 7, 8, 9, 10, 11, 12, 13, 14, 15, 16, 17, 18, 19, 20, 21, 22, 23, 24, 25, 26, 27, 28, 29, 30, 31, 32, 33, 34, 35, 0] rfl
    have hD : va_D A ((wX ca f kq ad) ++ (wKd kq) ++ (wMp ca kq (ad i0) u7.1) ++ (wMp ca kq (ad i1) u7.2) ++ [(g, .inl (ca 1, 1, .inr (.inl ov)))]) := hD.sub (ws' := (wX ca f kq ad) ++ (wKd kq) ++ (wMp ca kq (ad i0) u7.1) ++ (wMp ca kq (ad i1) u7.2) ++ [(g, .inl (ca 1, 1, .inr (.inl ov)))]) [1, 2, 3, 4, 5, 6, 7, 8, 9, 10, 11, 12, 13, 14, 15, 16, 17, 18, 19, 20, 21, 22, 23, 24, 25, 26, 27, 28, 29, 30, 31, 32, 33, 34, 35, 0] (by decide +kernel) rfl
    obtain ⟨eE, hc9, hR9, hR8⟩ := hu7
    rcases co_GJ op mm nn r s2 with hc | hc | hc
    · exact absurd hc hc9
    · rw [hc] at eE
      have eE : E9 = eIA := eE
      subst eE
      refine vx_catch hown [] (⟨0, 12, 15, 13⟩ : ExceptionTableEntry) [(⟨0, 12, 19, 19⟩ : ExceptionTableEntry)] hTab (fun z hz => absurd hz List.not_mem_nil) (by decide) (by show ¬ 13 = 0; decide) (name := eIA) (hts (.classLink RL 13 eIA) (by decide +kernel)) (va_Nw.use rfl (NW.c hKN.2 (by decide +kernel))) h91 h92 h93 ?_
      refine lv_astore (lv' := [(5, .ref q9), (0, .ref (f 0)), (1, .int mm), (2, .int nn), (3, .int op), (4, .ref g)]) hx hb dL_join_15 hl (by decide) rfl (fun ls hl => ?_)
      refine lv_iconst (v := 1) hx hb dL_join_17 (by decide) ?_
      refine W.widen (k := 3) (n := 18) (by omega) (by omega) ?_
      exact vx_ret (W.iret (v := 1) hx hb hr (fun t9 e9 w9 => ⟨⟨_, (u7, ov), rfl, ⟨hc.symm, hR9, hR8, fun q => absurd q (by decide)⟩, by rw [e9]; exact hP, hD⟩, hS.F e9⟩) hS.2.2 dL_join_18)
    · rw [hc] at eE
      have eE : E9 = eIO := eE
      subst eE
      skip
      refine vx_catch hown [(⟨0, 12, 15, 13⟩ : ExceptionTableEntry)] (⟨0, 12, 19, 19⟩ : ExceptionTableEntry) [] hTab (cat_c (Or.inr ⟨(by show ¬ 13 = 0; decide), eIA, hts (.classLink RL 13 eIA) (by decide +kernel), hNC.1⟩) (fun z hz => absurd hz List.not_mem_nil)) (by decide) (by show ¬ 19 = 0; decide) (name := eIO) (hts (.classLink RL 19 eIO) (by decide +kernel)) (va_Nw.use rfl (NW.c hKN.2 (by decide +kernel))) h91 h92 h93 ?_
      refine lv_astore (lv' := [(5, .ref q9), (0, .ref (f 0)), (1, .int mm), (2, .int nn), (3, .int op), (4, .ref g)]) hx hb dL_join_19 hl (by decide) rfl (fun ls hl => ?_)
      refine lv_iconst (v := 2) hx hb dL_join_21 (by decide) ?_
      refine W.widen (k := 3) (n := 18) (by omega) (by omega) ?_
      exact vx_ret (W.iret (v := 2) hx hb hr (fun t9 e9 w9 => ⟨⟨_, (u7, ov), rfl, ⟨hc.symm, hR9, hR8, fun q => absurd q (by decide)⟩, by rw [e9]; exact hP, hD⟩, hS.F e9⟩) hS.2.2 dL_join_22)
  · skip
    have hP : va_P D vwCl ((wX ca f kq ad) ++ (wKd kq) ++ (wMp ca kq (ad i0) u7.1) ++ (wMp ca kq (ad i1) u7.2) ++ [(g, .inl (ca 1, 1, .inr (.inl ov)))]) H := hP.sub (ws' := (wX ca f kq ad) ++ (wKd kq) ++ (wMp ca kq (ad i0) u7.1) ++ (wMp ca kq (ad i1) u7.2) ++ [(g, .inl (ca 1, 1, .inr (.inl ov)))]) [1, 2, 3, 4, 5, 6, 7, 8, 9, 10, 11, 12, 13, 14, 15, 16, 17, 18, 19, 20, 21, 22, 23, 24, 25, 26, 27, 28, 29, 30, 31, 32, 33, 34, 35, 0] rfl
    have hD : va_D A ((wX ca f kq ad) ++ (wKd kq) ++ (wMp ca kq (ad i0) u7.1) ++ (wMp ca kq (ad i1) u7.2) ++ [(g, .inl (ca 1, 1, .inr (.inl ov)))]) := hD.sub (ws' := (wX ca f kq ad) ++ (wKd kq) ++ (wMp ca kq (ad i0) u7.1) ++ (wMp ca kq (ad i1) u7.2) ++ [(g, .inl (ca 1, 1, .inr (.inl ov)))]) [1, 2, 3, 4, 5, 6, 7, 8, 9, 10, 11, 12, 13, 14, 15, 16, 17, 18, 19, 20, 21, 22, 23, 24, 25, 26, 27, 28, 29, 30, 31, 32, 33, 34, 35, 0] (by decide +kernel) rfl
    refine lv_i2l hx hb dL_join_10 rfl ?_
    refine xr_lst hx hb hKN.1 hP hD hS 35 1 rfl rfl (j := 0) (by decide) (by decide) dL_join_11 (fun H locs hP hD hS => ?_)
    have hP : va_P D vwCl ((wX ca f kq ad) ++ (wKd kq) ++ (wMp ca kq (ad i0) u7.1) ++ (wMp ca kq (ad i1) u7.2) ++ [(g, .inl (ca 1, 1, .inr (.inl (vp_updL ov 0 r7.toInt64))))]) H := hP
    have hD : va_D A ((wX ca f kq ad) ++ (wKd kq) ++ (wMp ca kq (ad i0) u7.1) ++ (wMp ca kq (ad i1) u7.2) ++ [(g, .inl (ca 1, 1, .inr (.inl (vp_updL ov 0 r7.toInt64))))]) := hD
    refine lv_goto (tgt := 23) hx hb dL_join_12 (by decide) ?_
    refine lv_iconst (v := 0) hx hb dL_join_23 (by decide) ?_
    refine W.widen (k := 3) (n := 18) (by omega) (by omega) ?_
    exact vx_ret (W.iret (v := 0) hx hb hr (fun t9 e9 w9 => ⟨⟨_, (u7, vp_updL ov 0 r7.toInt64), rfl, (by obtain ⟨h1, h2, h3, hR8⟩ := hu7; exact ⟨h2.symm, h3, hR8, fun _ => (oL_eq ov 0 _).trans (congrArg Int32.toInt64 h1)⟩), by rw [e9]; exact hP, hD⟩, hS.F e9⟩) hS.2.2 dL_join_24)

-- TreeFamilyLaw.join
set_option maxHeartbeats 4000000 in
set_option maxRecDepth 100000 in
theorem c_L_join_a (l : Launch) (D : va_G) (ca : Nat → ClassId) (f kq : Nat → Nat) (ad : Nat → Nat → Nat) (sz : Nat) (hl9 : l.stackTraces = false) (i0 g : Nat) (m : MS) (ov : Nat → Int64) (r : RW) (N : Nat) (op : Int32) (hR : Rel1 N m r) (hN : N ≤ 1000000) (hi0 : i0 < 3) (hm : isB (nI i0) 3 = true → nI i0 = nI i0 ∧ i0 < 3) : vx_Met l yL_join wsL_join ({ frames := 68, cells := 3, slots := 18, locals := 1691 } : Room) (xPcH D (TY ca) [.ref (f 0), .int (nI i0), .int (nI i0), .int op, .ref g] ((wX ca f kq ad) ++ (wKd kq) ++ (wMp ca kq (ad i0) m) ++ [(g, .inl (ca 1, 1, .inr (.inl ov)))]) sz) (va_Qi (fun (x : Int32) (u : MO) => x = (F_join op r r).2.1 ∧ Rel1 (N + 61) u.1 (F_join op r r).2.2 ∧ (x = 0 → u.2 0 = ((F_join op r r).1).toInt64)) (xB D (wH ca f kq ad i0 g) (va_A ((wX ca f kq ad) ++ (wKd kq) ++ (wMp ca kq (ad i0) m) ++ [(g, .inl (ca 1, 1, .inr (.inl ov)))]) sz)) (va_A ((wX ca f kq ad) ++ (wKd kq) ++ (wMp ca kq (ad i0) m) ++ [(g, .inl (ca 1, 1, .inr (.inl ov)))]) sz)) (xX D (wH ca f kq ad i0 g) (va_A ((wX ca f kq ad) ++ (wKd kq) ++ (wMp ca kq (ad i0) m) ++ [(g, .inl (ca 1, 1, .inr (.inl ov)))]) sz) (fun (_ : String) (_ : MO) => False)) 3 18 (va_A ((wX ca f kq ad) ++ (wKd kq) ++ (wMp ca kq (ad i0) m) ++ [(g, .inl (ca 1, 1, .inr (.inl ov)))]) sz) := by
  refine vx_ofWH (cc := cL_join) (maxL := 6) (ret := (some .int)) (by decide) rfl ?_
  intro p e s m9 args below meth c s₁ B hml hv
  obtain ⟨rfl, hsz, hP, hKN, hD0, hTZ, hNC⟩ := hv
  have hx := B.exec
  have hb := B.bytes
  have hr := B.returns
  have hts := atoms_spec (ws := wsL_join) B.pre
  have hown : s.vm.findClass RL = some m9.cls := findClass_of_methodNamed B.named
  have hTab : c.exceptionTable.toList = [(⟨0, 12, 15, 13⟩ : ExceptionTableEntry), (⟨0, 12, 19, 19⟩ : ExceptionTableEntry)] := by
    obtain ⟨m8, meth8, c8, n1, n2, n3, -, -, n6, -⟩ := Cond.codeWith_spec (hts _ List.mem_cons_self)
    cases Option.some.inj (n1.symm.trans B.named)
    cases Option.some.inj (n2.symm.trans B.method)
    cases Option.some.inj (n3.symm.trans (Stand.of_body B).code)
    exact tabEq n6
  have hlocks := B.notSynchronized
  subst hsz
  have hD := hD0.self (sz := s.heap.size)
  generalize hAe : va_A ((wX ca f kq ad) ++ (wKd kq) ++ (wMp ca kq (ad i0) m) ++ [(g, .inl (ca 1, 1, .inr (.inl ov)))]) s.heap.size = A at hD hTZ ⊢
  have hA : ∀ q : Nat, s.heap.size ≤ q → A q := fun q h => by rw [← hAe]; exact Or.inr h
  have hS : va_S A s.heap s.heap [] := va_S.rf
  have hl := lv_entry ([.ref (f 0), .int (nI i0), .int (nI i0), .int op, .ref g]) (n := 6) (Nat.le_of_ble_eq_true rfl)
  rw [lg_entry_eq]
  generalize (lg_sl ([.ref (f 0), .int (nI i0), .int (nI i0), .int op, .ref g]) ++ List.replicate (6 - (lg_sl ([.ref (f 0), .int (nI i0), .int (nI i0), .int op, .ref g])).length) Slot.unset).toArray = ls at hl ⊢
  have hl : lv_has ls 6 [(0, .ref (f 0)), (1, .int (nI i0)), (2, .int (nI i0)), (3, .int op), (4, .ref g)] := hl
  refine lv_aload hx hb dL_join_0 (lv_at hl 4 rfl) ?_
  refine lv_iconst (v := 0) hx hb dL_join_2 (by decide) ?_
  refine lv_aload_n hx hb dL_join_3 rfl (lv_at hl 0 rfl) ?_
  refine lv_iload_n hx hb dL_join_4 rfl (lv_at hl 1 rfl) ?_
  refine lv_iload_n hx hb dL_join_5 rfl (lv_at hl 2 rfl) ?_
  refine lv_iload_n hx hb dL_join_6 rfl (lv_at hl 3 rfl) ?_
  refine xcx_i (wr := [(g, .inl (ca 1, 1, .inr (.inl ov)))]) (vx_runV (As := [.int (nI i0), .int (nI i0), .int op]) (rest := [.int 0, .ref g]) ⟨hx, hb, hml, hown, hts⟩ (c_X10_join_a l D ca f kq ad _ hl9 i0 m r N op hR hN hi0 hm) (cwV 3 hts gL_join_X10_join rfl rfl rfl (by decide +kernel) ⟨(Nat.le_of_ble_eq_true rfl), (Nat.le_of_ble_eq_true rfl)⟩) (xPreVT hKN hTZ hP hD hS hA [0, 1, 2, 3, 4, 5, 6, 7, 8, 9, 10, 11, 12, 13, 14, 15, 16, 17, 18, 19, 20] (by decide +kernel) rfl (q0 := 0) rfl rfl rfl) rfl rfl hl.1 rfl (lv_room (Nat.le_of_ble_eq_true rfl)) dL_join_7 ⟨(Nat.le_of_ble_eq_true rfl), (Nat.le_of_ble_eq_true rfl)⟩) hP hD hS hA [0, 1, 2, 3, 4, 5, 6, 7, 8, 9, 10, 11, 12, 13, 14, 15, 16, 17, 18, 19, 20] [21] rfl rfl (by decide +kernel) (by decide +kernel) (fun E9 ce9 q9 u7 H locs hu7 hP hD hS h91 h92 h93 => ?_) (fun r7 u7 H locs hu7 hP hD hS => ?_)
  · skip
    have hP : va_P D vwCl ((wX ca f kq ad) ++ (wKd kq) ++ (wMp ca kq (ad i0) u7) ++ [(g, .inl (ca 1, 1, .inr (.inl ov)))]) H := hP.sub (ws' := (wX ca f kq ad) ++ (wKd kq) ++ (wMp ca kq (ad i0) u7) ++ [(g, .inl (ca 1, 1, .inr (.inl ov)))]) [1, 2, 3, 4, 5, 6, 7, 8, 9, 10, 11, 12, 13, 14, 15, 16, 17, 18, 19, 20, 21, 0] rfl
    have hD : va_D A ((wX ca f kq ad) ++ (wKd kq) ++ (wMp ca kq (ad i0) u7) ++ [(g, .inl (ca 1, 1, .inr (.inl ov)))]) := hD.sub (ws' := (wX ca f kq ad) ++ (wKd kq) ++ (wMp ca kq (ad i0) u7) ++ [(g, .inl (ca 1, 1, .inr (.inl ov)))]) [1, 2, 3, 4, 5, 6, 7, 8, 9, 10, 11, 12, 13, 14, 15, 16, 17, 18, 19, 20, 21, 0] (by decide +kernel) rfl
    obtain ⟨eE, hc9, hR9⟩ := hu7
    rcases co_join op r r with hc | hc | hc
    · exact absurd hc hc9
    · rw [hc] at eE
      have eE : E9 = eIA := eE
      subst eE
      refine vx_catch hown [] (⟨0, 12, 15, 13⟩ : ExceptionTableEntry) [(⟨0, 12, 19, 19⟩ : ExceptionTableEntry)] hTab (fun z hz => absurd hz List.not_mem_nil) (by decide) (by show ¬ 13 = 0; decide) (name := eIA) (hts (.classLink RL 13 eIA) (by decide +kernel)) (va_Nw.use rfl (NW.c hKN.2 (by decide +kernel))) h91 h92 h93 ?_
      refine lv_astore (lv' := [(5, .ref q9), (0, .ref (f 0)), (1, .int (nI i0)), (2, .int (nI i0)), (3, .int op), (4, .ref g)]) hx hb dL_join_15 hl (by decide) rfl (fun ls hl => ?_)
      refine lv_iconst (v := 1) hx hb dL_join_17 (by decide) ?_
      refine W.widen (k := 3) (n := 18) (by omega) (by omega) ?_
      exact vx_ret (W.iret (v := 1) hx hb hr (fun t9 e9 w9 => ⟨⟨_, (u7, ov), rfl, ⟨hc.symm, hR9, fun q => absurd q (by decide)⟩, by rw [e9]; exact hP, hD⟩, hS.F e9⟩) hS.2.2 dL_join_18)
    · rw [hc] at eE
      have eE : E9 = eIO := eE
      subst eE
      skip
      refine vx_catch hown [(⟨0, 12, 15, 13⟩ : ExceptionTableEntry)] (⟨0, 12, 19, 19⟩ : ExceptionTableEntry) [] hTab (cat_c (Or.inr ⟨(by show ¬ 13 = 0; decide), eIA, hts (.classLink RL 13 eIA) (by decide +kernel), hNC.1⟩) (fun z hz => absurd hz List.not_mem_nil)) (by decide) (by show ¬ 19 = 0; decide) (name := eIO) (hts (.classLink RL 19 eIO) (by decide +kernel)) (va_Nw.use rfl (NW.c hKN.2 (by decide +kernel))) h91 h92 h93 ?_
      refine lv_astore (lv' := [(5, .ref q9), (0, .ref (f 0)), (1, .int (nI i0)), (2, .int (nI i0)), (3, .int op), (4, .ref g)]) hx hb dL_join_19 hl (by decide) rfl (fun ls hl => ?_)
      refine lv_iconst (v := 2) hx hb dL_join_21 (by decide) ?_
      refine W.widen (k := 3) (n := 18) (by omega) (by omega) ?_
      exact vx_ret (W.iret (v := 2) hx hb hr (fun t9 e9 w9 => ⟨⟨_, (u7, ov), rfl, ⟨hc.symm, hR9, fun q => absurd q (by decide)⟩, by rw [e9]; exact hP, hD⟩, hS.F e9⟩) hS.2.2 dL_join_22)
  · skip
    have hP : va_P D vwCl ((wX ca f kq ad) ++ (wKd kq) ++ (wMp ca kq (ad i0) u7) ++ [(g, .inl (ca 1, 1, .inr (.inl ov)))]) H := hP.sub (ws' := (wX ca f kq ad) ++ (wKd kq) ++ (wMp ca kq (ad i0) u7) ++ [(g, .inl (ca 1, 1, .inr (.inl ov)))]) [1, 2, 3, 4, 5, 6, 7, 8, 9, 10, 11, 12, 13, 14, 15, 16, 17, 18, 19, 20, 21, 0] rfl
    have hD : va_D A ((wX ca f kq ad) ++ (wKd kq) ++ (wMp ca kq (ad i0) u7) ++ [(g, .inl (ca 1, 1, .inr (.inl ov)))]) := hD.sub (ws' := (wX ca f kq ad) ++ (wKd kq) ++ (wMp ca kq (ad i0) u7) ++ [(g, .inl (ca 1, 1, .inr (.inl ov)))]) [1, 2, 3, 4, 5, 6, 7, 8, 9, 10, 11, 12, 13, 14, 15, 16, 17, 18, 19, 20, 21, 0] (by decide +kernel) rfl
    refine lv_i2l hx hb dL_join_10 rfl ?_
    refine xr_lst hx hb hKN.1 hP hD hS 21 1 rfl rfl (j := 0) (by decide) (by decide) dL_join_11 (fun H locs hP hD hS => ?_)
    have hP : va_P D vwCl ((wX ca f kq ad) ++ (wKd kq) ++ (wMp ca kq (ad i0) u7) ++ [(g, .inl (ca 1, 1, .inr (.inl (vp_updL ov 0 r7.toInt64))))]) H := hP
    have hD : va_D A ((wX ca f kq ad) ++ (wKd kq) ++ (wMp ca kq (ad i0) u7) ++ [(g, .inl (ca 1, 1, .inr (.inl (vp_updL ov 0 r7.toInt64))))]) := hD
    refine lv_goto (tgt := 23) hx hb dL_join_12 (by decide) ?_
    refine lv_iconst (v := 0) hx hb dL_join_23 (by decide) ?_
    refine W.widen (k := 3) (n := 18) (by omega) (by omega) ?_
    exact vx_ret (W.iret (v := 0) hx hb hr (fun t9 e9 w9 => ⟨⟨_, (u7, vp_updL ov 0 r7.toInt64), rfl, (by obtain ⟨h1, h2, h3⟩ := hu7; exact ⟨h2.symm, h3, fun _ => (oL_eq ov 0 _).trans (congrArg Int32.toInt64 h1)⟩), by rw [e9]; exact hP, hD⟩, hS.F e9⟩) hS.2.2 dL_join_24)

-- TreeFamilyLaw.split
set_option maxHeartbeats 4000000 in
set_option maxRecDepth 100000 in
theorem c_L_split (l : Launch) (D : va_G) (ca : Nat → ClassId) (f kq : Nat → Nat) (ad : Nat → Nat → Nat) (sz : Nat) (hl9 : l.stackTraces = false) (i0 i1 g : Nat) (m m2 : MS) (ov : Nat → Int64) (r s2 : RW) (N : Nat) (mm key nn : Int32) (hR : Rel1 N m r) (hR2 : Rel1 N m2 s2) (hN : N ≤ 1000000) (hm : isB mm 3 = true → mm = nI i0 ∧ i0 < 3) (hn : isB nn 3 = true → nn = nI i1 ∧ i1 < 3) (hne : ¬ i0 = i1) : vx_Met l yL_split wsL_split ({ frames := 68, cells := 3, slots := 18, locals := 1690 } : Room) (xPcH D (TY ca) [.ref (f 0), .int mm, .int key, .int nn, .ref g] ((wX ca f kq ad) ++ (wKd kq) ++ (wMp ca kq (ad i0) m) ++ (wMp ca kq (ad i1) m2) ++ [(g, .inl (ca 1, 1, .inr (.inl ov)))]) sz) (va_Qi (fun (x : Int32) (u : MO2) => (x = 0 ∧ isB mm 3 = true ∧ isB nn 3 = true ∧ u.2 0 = (nI (r.en.length - plE r.od key r.en)).toInt64 ∧ Rel1 (N + 61) u.1.1 (spR key r) ∧ Rel1 (N + 61) u.1.2 (spT key r s2 (r.en.length - plE r.od key r.en))) ∨ (x = 1 ∧ (isB mm 3 = false ∨ isB nn 3 = false) ∧ Rel1 (N + 61) u.1.1 r ∧ Rel1 (N + 61) u.1.2 s2)) (xB D (wH2 ca f kq ad i0 i1 g) (va_A ((wX ca f kq ad) ++ (wKd kq) ++ (wMp ca kq (ad i0) m) ++ (wMp ca kq (ad i1) m2) ++ [(g, .inl (ca 1, 1, .inr (.inl ov)))]) sz)) (va_A ((wX ca f kq ad) ++ (wKd kq) ++ (wMp ca kq (ad i0) m) ++ (wMp ca kq (ad i1) m2) ++ [(g, .inl (ca 1, 1, .inr (.inl ov)))]) sz)) (xX D (wH2 ca f kq ad i0 i1 g) (va_A ((wX ca f kq ad) ++ (wKd kq) ++ (wMp ca kq (ad i0) m) ++ (wMp ca kq (ad i1) m2) ++ [(g, .inl (ca 1, 1, .inr (.inl ov)))]) sz) (fun (_ : String) (_ : MO2) => False)) 3 18 (va_A ((wX ca f kq ad) ++ (wKd kq) ++ (wMp ca kq (ad i0) m) ++ (wMp ca kq (ad i1) m2) ++ [(g, .inl (ca 1, 1, .inr (.inl ov)))]) sz) := by
  refine vx_ofWH (cc := cL_split) (maxL := 6) (ret := (some .int)) (by decide) rfl ?_
  intro p e s m9 args below meth c s₁ B hml hv
  obtain ⟨rfl, hsz, hP, hKN, hD0, hTZ, hNC⟩ := hv
  have hx := B.exec
  have hb := B.bytes
  have hr := B.returns
  have hts := atoms_spec (ws := wsL_split) B.pre
  have hown : s.vm.findClass RL = some m9.cls := findClass_of_methodNamed B.named
  have hTab : c.exceptionTable.toList = [(⟨0, 12, 15, 13⟩ : ExceptionTableEntry)] := by
    obtain ⟨m8, meth8, c8, n1, n2, n3, -, -, n6, -⟩ := Cond.codeWith_spec (hts _ List.mem_cons_self)
    cases Option.some.inj (n1.symm.trans B.named)
    cases Option.some.inj (n2.symm.trans B.method)
    cases Option.some.inj (n3.symm.trans (Stand.of_body B).code)
    exact tabEq n6
  have hlocks := B.notSynchronized
  subst hsz
  have hD := hD0.self (sz := s.heap.size)
  generalize hAe : va_A ((wX ca f kq ad) ++ (wKd kq) ++ (wMp ca kq (ad i0) m) ++ (wMp ca kq (ad i1) m2) ++ [(g, .inl (ca 1, 1, .inr (.inl ov)))]) s.heap.size = A at hD hTZ ⊢
  have hA : ∀ q : Nat, s.heap.size ≤ q → A q := fun q h => by rw [← hAe]; exact Or.inr h
  have hS : va_S A s.heap s.heap [] := va_S.rf
  have hl := lv_entry ([.ref (f 0), .int mm, .int key, .int nn, .ref g]) (n := 6) (Nat.le_of_ble_eq_true rfl)
  rw [lg_entry_eq]
  generalize (lg_sl ([.ref (f 0), .int mm, .int key, .int nn, .ref g]) ++ List.replicate (6 - (lg_sl ([.ref (f 0), .int mm, .int key, .int nn, .ref g])).length) Slot.unset).toArray = ls at hl ⊢
  have hl : lv_has ls 6 [(0, .ref (f 0)), (1, .int mm), (2, .int key), (3, .int nn), (4, .ref g)] := hl
  refine lv_aload hx hb dL_split_0 (lv_at hl 4 rfl) ?_
  refine lv_iconst (v := 0) hx hb dL_split_2 (by decide) ?_
  refine lv_aload_n hx hb dL_split_3 rfl (lv_at hl 0 rfl) ?_
  refine lv_iload_n hx hb dL_split_4 rfl (lv_at hl 1 rfl) ?_
  refine lv_iload_n hx hb dL_split_5 rfl (lv_at hl 2 rfl) ?_
  refine lv_iload_n hx hb dL_split_6 rfl (lv_at hl 3 rfl) ?_
  refine xcx_i (wr := [(g, .inl (ca 1, 1, .inr (.inl ov)))]) (vx_runV (As := [.int mm, .int key, .int nn]) (rest := [.int 0, .ref g]) ⟨hx, hb, hml, hown, hts⟩ (c_X10_split l D ca f kq ad _ hl9 i0 i1 m m2 r s2 N mm key nn hR hR2 hN hm hn hne) (cwV 3 hts gL_split_X10_split rfl rfl rfl (by decide +kernel) ⟨(Nat.le_of_ble_eq_true rfl), (Nat.le_of_ble_eq_true rfl)⟩) (xPreVT hKN hTZ hP hD hS hA [0, 1, 2, 3, 4, 5, 6, 7, 8, 9, 10, 11, 12, 13, 14, 15, 16, 17, 18, 19, 20, 21, 22, 23, 24, 25, 26, 27, 28, 29, 30, 31, 32, 33, 34] (by decide +kernel) rfl (q0 := 0) rfl rfl rfl) rfl rfl hl.1 rfl (lv_room (Nat.le_of_ble_eq_true rfl)) dL_split_7 ⟨(Nat.le_of_ble_eq_true rfl), (Nat.le_of_ble_eq_true rfl)⟩) hP hD hS hA [0, 1, 2, 3, 4, 5, 6, 7, 8, 9, 10, 11, 12, 13, 14, 15, 16, 17, 18, 19, 20, 21, 22, 23, 24, 25, 26, 27, 28, 29, 30, 31, 32, 33, 34] [35] rfl rfl (by decide +kernel) (by decide +kernel) (fun E9 ce9 q9 u7 H locs hu7 hP hD hS h91 h92 h93 => ?_) (fun r7 u7 H locs hu7 hP hD hS => ?_)
  · skip
    have hP : va_P D vwCl ((wX ca f kq ad) ++ (wKd kq) ++ (wMp ca kq (ad i0) u7.1) ++ (wMp ca kq (ad i1) u7.2) ++ [(g, .inl (ca 1, 1, .inr (.inl ov)))]) H := hP.sub (ws' := (wX ca f kq ad) ++ (wKd kq) ++ (wMp ca kq (ad i0) u7.1) ++ (wMp ca kq (ad i1) u7.2) ++ [(g, .inl (ca 1, 1, .inr (.inl ov)))]) [1, 2, 3, 4, 5, 6, 7, 8, 9, 10, 11, 12, 13, 14, 15, 16, 17, 18, 19, 20, 21, 22, 23, 24, 25, 26, 27, 28, 29, 30, 31, 32, 33, 34, 35, 0] rfl
    have hD : va_D A ((wX ca f kq ad) ++ (wKd kq) ++ (wMp ca kq (ad i0) u7.1) ++ (wMp ca kq (ad i1) u7.2) ++ [(g, .inl (ca 1, 1, .inr (.inl ov)))]) := hD.sub (ws' := (wX ca f kq ad) ++ (wKd kq) ++ (wMp ca kq (ad i0) u7.1) ++ (wMp ca kq (ad i1) u7.2) ++ [(g, .inl (ca 1, 1, .inr (.inl ov)))]) [1, 2, 3, 4, 5, 6, 7, 8, 9, 10, 11, 12, 13, 14, 15, 16, 17, 18, 19, 20, 21, 22, 23, 24, 25, 26, 27, 28, 29, 30, 31, 32, 33, 34, 35, 0] (by decide +kernel) rfl
    obtain ⟨eE, hb9, hR9, hR8⟩ := hu7
    · subst eE
      refine vx_catch hown [] (⟨0, 12, 15, 13⟩ : ExceptionTableEntry) [] hTab (fun z hz => absurd hz List.not_mem_nil) (by decide) (by show ¬ 13 = 0; decide) (name := eIA) (hts (.classLink RL 13 eIA) (by decide +kernel)) (va_Nw.use rfl (NW.c hKN.2 (by decide +kernel))) h91 h92 h93 ?_
      refine lv_astore (lv' := [(5, .ref q9), (0, .ref (f 0)), (1, .int mm), (2, .int key), (3, .int nn), (4, .ref g)]) hx hb dL_split_15 hl (by decide) rfl (fun ls hl => ?_)
      refine lv_iconst (v := 1) hx hb dL_split_17 (by decide) ?_
      refine W.widen (k := 3) (n := 18) (by omega) (by omega) ?_
      exact vx_ret (W.iret (v := 1) hx hb hr (fun t9 e9 w9 => ⟨⟨_, (u7, ov), rfl, Or.inr ⟨rfl, hb9, hR9, hR8⟩, by rw [e9]; exact hP, hD⟩, hS.F e9⟩) hS.2.2 dL_split_18)
  · skip
    have hP : va_P D vwCl ((wX ca f kq ad) ++ (wKd kq) ++ (wMp ca kq (ad i0) u7.1) ++ (wMp ca kq (ad i1) u7.2) ++ [(g, .inl (ca 1, 1, .inr (.inl ov)))]) H := hP.sub (ws' := (wX ca f kq ad) ++ (wKd kq) ++ (wMp ca kq (ad i0) u7.1) ++ (wMp ca kq (ad i1) u7.2) ++ [(g, .inl (ca 1, 1, .inr (.inl ov)))]) [1, 2, 3, 4, 5, 6, 7, 8, 9, 10, 11, 12, 13, 14, 15, 16, 17, 18, 19, 20, 21, 22, 23, 24, 25, 26, 27, 28, 29, 30, 31, 32, 33, 34, 35, 0] rfl
    have hD : va_D A ((wX ca f kq ad) ++ (wKd kq) ++ (wMp ca kq (ad i0) u7.1) ++ (wMp ca kq (ad i1) u7.2) ++ [(g, .inl (ca 1, 1, .inr (.inl ov)))]) := hD.sub (ws' := (wX ca f kq ad) ++ (wKd kq) ++ (wMp ca kq (ad i0) u7.1) ++ (wMp ca kq (ad i1) u7.2) ++ [(g, .inl (ca 1, 1, .inr (.inl ov)))]) [1, 2, 3, 4, 5, 6, 7, 8, 9, 10, 11, 12, 13, 14, 15, 16, 17, 18, 19, 20, 21, 22, 23, 24, 25, 26, 27, 28, 29, 30, 31, 32, 33, 34, 35, 0] (by decide +kernel) rfl
    refine lv_i2l hx hb dL_split_10 rfl ?_
    refine xr_lst hx hb hKN.1 hP hD hS 35 1 rfl rfl (j := 0) (by decide) (by decide) dL_split_11 (fun H locs hP hD hS => ?_)
    have hP : va_P D vwCl ((wX ca f kq ad) ++ (wKd kq) ++ (wMp ca kq (ad i0) u7.1) ++ (wMp ca kq (ad i1) u7.2) ++ [(g, .inl (ca 1, 1, .inr (.inl (vp_updL ov 0 r7.toInt64))))]) H := hP
    have hD : va_D A ((wX ca f kq ad) ++ (wKd kq) ++ (wMp ca kq (ad i0) u7.1) ++ (wMp ca kq (ad i1) u7.2) ++ [(g, .inl (ca 1, 1, .inr (.inl (vp_updL ov 0 r7.toInt64))))]) := hD
    refine lv_goto (tgt := 19) hx hb dL_split_12 (by decide) ?_
    refine lv_iconst (v := 0) hx hb dL_split_19 (by decide) ?_
    refine W.widen (k := 3) (n := 18) (by omega) (by omega) ?_
    exact vx_ret (W.iret (v := 0) hx hb hr (fun t9 e9 w9 => ⟨⟨_, (u7, vp_updL ov 0 r7.toInt64), rfl, (by obtain ⟨h1, h2, h3, h4, h5⟩ := hu7; exact Or.inl ⟨rfl, h1, h2, (oL_eq ov 0 _).trans (congrArg Int32.toInt64 h3), h4, h5⟩), by rw [e9]; exact hP, hD⟩, hS.F e9⟩) hS.2.2 dL_split_20)

-- TreeFamilyLaw.split
set_option maxHeartbeats 4000000 in
set_option maxRecDepth 100000 in
theorem c_L_split_a (l : Launch) (D : va_G) (ca : Nat → ClassId) (f kq : Nat → Nat) (ad : Nat → Nat → Nat) (sz : Nat) (hl9 : l.stackTraces = false) (i0 g : Nat) (m : MS) (ov : Nat → Int64) (r : RW) (N : Nat) (key : Int32) (hR : Rel1 N m r) (hN : N ≤ 1000000) (hi0 : i0 < 3) (hm : isB (nI i0) 3 = true → nI i0 = nI i0 ∧ i0 < 3) : vx_Met l yL_split wsL_split ({ frames := 68, cells := 3, slots := 18, locals := 1690 } : Room) (xPcH D (TY ca) [.ref (f 0), .int (nI i0), .int key, .int (nI i0), .ref g] ((wX ca f kq ad) ++ (wKd kq) ++ (wMp ca kq (ad i0) m) ++ [(g, .inl (ca 1, 1, .inr (.inl ov)))]) sz) (va_Qi (fun (x : Int32) (u : MO) => x = 1 ∧ Rel1 (N + 61) u.1 r) (xB D (wH ca f kq ad i0 g) (va_A ((wX ca f kq ad) ++ (wKd kq) ++ (wMp ca kq (ad i0) m) ++ [(g, .inl (ca 1, 1, .inr (.inl ov)))]) sz)) (va_A ((wX ca f kq ad) ++ (wKd kq) ++ (wMp ca kq (ad i0) m) ++ [(g, .inl (ca 1, 1, .inr (.inl ov)))]) sz)) (xX D (wH ca f kq ad i0 g) (va_A ((wX ca f kq ad) ++ (wKd kq) ++ (wMp ca kq (ad i0) m) ++ [(g, .inl (ca 1, 1, .inr (.inl ov)))]) sz) (fun (_ : String) (_ : MO) => False)) 3 18 (va_A ((wX ca f kq ad) ++ (wKd kq) ++ (wMp ca kq (ad i0) m) ++ [(g, .inl (ca 1, 1, .inr (.inl ov)))]) sz) := by
  refine vx_ofWH (cc := cL_split) (maxL := 6) (ret := (some .int)) (by decide) rfl ?_
  intro p e s m9 args below meth c s₁ B hml hv
  obtain ⟨rfl, hsz, hP, hKN, hD0, hTZ, hNC⟩ := hv
  have hx := B.exec
  have hb := B.bytes
  have hr := B.returns
  have hts := atoms_spec (ws := wsL_split) B.pre
  have hown : s.vm.findClass RL = some m9.cls := findClass_of_methodNamed B.named
  have hTab : c.exceptionTable.toList = [(⟨0, 12, 15, 13⟩ : ExceptionTableEntry)] := by
    obtain ⟨m8, meth8, c8, n1, n2, n3, -, -, n6, -⟩ := Cond.codeWith_spec (hts _ List.mem_cons_self)
    cases Option.some.inj (n1.symm.trans B.named)
    cases Option.some.inj (n2.symm.trans B.method)
    cases Option.some.inj (n3.symm.trans (Stand.of_body B).code)
    exact tabEq n6
  have hlocks := B.notSynchronized
  subst hsz
  have hD := hD0.self (sz := s.heap.size)
  generalize hAe : va_A ((wX ca f kq ad) ++ (wKd kq) ++ (wMp ca kq (ad i0) m) ++ [(g, .inl (ca 1, 1, .inr (.inl ov)))]) s.heap.size = A at hD hTZ ⊢
  have hA : ∀ q : Nat, s.heap.size ≤ q → A q := fun q h => by rw [← hAe]; exact Or.inr h
  have hS : va_S A s.heap s.heap [] := va_S.rf
  have hl := lv_entry ([.ref (f 0), .int (nI i0), .int key, .int (nI i0), .ref g]) (n := 6) (Nat.le_of_ble_eq_true rfl)
  rw [lg_entry_eq]
  generalize (lg_sl ([.ref (f 0), .int (nI i0), .int key, .int (nI i0), .ref g]) ++ List.replicate (6 - (lg_sl ([.ref (f 0), .int (nI i0), .int key, .int (nI i0), .ref g])).length) Slot.unset).toArray = ls at hl ⊢
  have hl : lv_has ls 6 [(0, .ref (f 0)), (1, .int (nI i0)), (2, .int key), (3, .int (nI i0)), (4, .ref g)] := hl
  refine lv_aload hx hb dL_split_0 (lv_at hl 4 rfl) ?_
  refine lv_iconst (v := 0) hx hb dL_split_2 (by decide) ?_
  refine lv_aload_n hx hb dL_split_3 rfl (lv_at hl 0 rfl) ?_
  refine lv_iload_n hx hb dL_split_4 rfl (lv_at hl 1 rfl) ?_
  refine lv_iload_n hx hb dL_split_5 rfl (lv_at hl 2 rfl) ?_
  refine lv_iload_n hx hb dL_split_6 rfl (lv_at hl 3 rfl) ?_
  refine xcx_i (wr := [(g, .inl (ca 1, 1, .inr (.inl ov)))]) (vx_runV (As := [.int (nI i0), .int key, .int (nI i0)]) (rest := [.int 0, .ref g]) ⟨hx, hb, hml, hown, hts⟩ (c_X10_split_a l D ca f kq ad _ hl9 i0 m r N key hR hN hi0 hm) (cwV 3 hts gL_split_X10_split rfl rfl rfl (by decide +kernel) ⟨(Nat.le_of_ble_eq_true rfl), (Nat.le_of_ble_eq_true rfl)⟩) (xPreVT hKN hTZ hP hD hS hA [0, 1, 2, 3, 4, 5, 6, 7, 8, 9, 10, 11, 12, 13, 14, 15, 16, 17, 18, 19, 20] (by decide +kernel) rfl (q0 := 0) rfl rfl rfl) rfl rfl hl.1 rfl (lv_room (Nat.le_of_ble_eq_true rfl)) dL_split_7 ⟨(Nat.le_of_ble_eq_true rfl), (Nat.le_of_ble_eq_true rfl)⟩) hP hD hS hA [0, 1, 2, 3, 4, 5, 6, 7, 8, 9, 10, 11, 12, 13, 14, 15, 16, 17, 18, 19, 20] [21] rfl rfl (by decide +kernel) (by decide +kernel) (fun E9 ce9 q9 u7 H locs hu7 hP hD hS h91 h92 h93 => ?_) (fun r7 u7 H locs hu7 hP hD hS => ?_)
  · skip
    have hP : va_P D vwCl ((wX ca f kq ad) ++ (wKd kq) ++ (wMp ca kq (ad i0) u7) ++ [(g, .inl (ca 1, 1, .inr (.inl ov)))]) H := hP.sub (ws' := (wX ca f kq ad) ++ (wKd kq) ++ (wMp ca kq (ad i0) u7) ++ [(g, .inl (ca 1, 1, .inr (.inl ov)))]) [1, 2, 3, 4, 5, 6, 7, 8, 9, 10, 11, 12, 13, 14, 15, 16, 17, 18, 19, 20, 21, 0] rfl
    have hD : va_D A ((wX ca f kq ad) ++ (wKd kq) ++ (wMp ca kq (ad i0) u7) ++ [(g, .inl (ca 1, 1, .inr (.inl ov)))]) := hD.sub (ws' := (wX ca f kq ad) ++ (wKd kq) ++ (wMp ca kq (ad i0) u7) ++ [(g, .inl (ca 1, 1, .inr (.inl ov)))]) [1, 2, 3, 4, 5, 6, 7, 8, 9, 10, 11, 12, 13, 14, 15, 16, 17, 18, 19, 20, 21, 0] (by decide +kernel) rfl
    obtain ⟨eE, hR9⟩ := hu7
    · subst eE
      refine vx_catch hown [] (⟨0, 12, 15, 13⟩ : ExceptionTableEntry) [] hTab (fun z hz => absurd hz List.not_mem_nil) (by decide) (by show ¬ 13 = 0; decide) (name := eIA) (hts (.classLink RL 13 eIA) (by decide +kernel)) (va_Nw.use rfl (NW.c hKN.2 (by decide +kernel))) h91 h92 h93 ?_
      refine lv_astore (lv' := [(5, .ref q9), (0, .ref (f 0)), (1, .int (nI i0)), (2, .int key), (3, .int (nI i0)), (4, .ref g)]) hx hb dL_split_15 hl (by decide) rfl (fun ls hl => ?_)
      refine lv_iconst (v := 1) hx hb dL_split_17 (by decide) ?_
      refine W.widen (k := 3) (n := 18) (by omega) (by omega) ?_
      exact vx_ret (W.iret (v := 1) hx hb hr (fun t9 e9 w9 => ⟨⟨_, (u7, ov), rfl, ⟨rfl, hR9⟩, by rw [e9]; exact hP, hD⟩, hS.F e9⟩) hS.2.2 dL_split_18)
  · skip
    have hP : va_P D vwCl ((wX ca f kq ad) ++ (wKd kq) ++ (wMp ca kq (ad i0) u7) ++ [(g, .inl (ca 1, 1, .inr (.inl ov)))]) H := hP.sub (ws' := (wX ca f kq ad) ++ (wKd kq) ++ (wMp ca kq (ad i0) u7) ++ [(g, .inl (ca 1, 1, .inr (.inl ov)))]) [1, 2, 3, 4, 5, 6, 7, 8, 9, 10, 11, 12, 13, 14, 15, 16, 17, 18, 19, 20, 21, 0] rfl
    have hD : va_D A ((wX ca f kq ad) ++ (wKd kq) ++ (wMp ca kq (ad i0) u7) ++ [(g, .inl (ca 1, 1, .inr (.inl ov)))]) := hD.sub (ws' := (wX ca f kq ad) ++ (wKd kq) ++ (wMp ca kq (ad i0) u7) ++ [(g, .inl (ca 1, 1, .inr (.inl ov)))]) [1, 2, 3, 4, 5, 6, 7, 8, 9, 10, 11, 12, 13, 14, 15, 16, 17, 18, 19, 20, 21, 0] (by decide +kernel) rfl
    refine lv_i2l hx hb dL_split_10 rfl ?_
    refine xr_lst hx hb hKN.1 hP hD hS 21 1 rfl rfl (j := 0) (by decide) (by decide) dL_split_11 (fun H locs hP hD hS => ?_)
    have hP : va_P D vwCl ((wX ca f kq ad) ++ (wKd kq) ++ (wMp ca kq (ad i0) u7) ++ [(g, .inl (ca 1, 1, .inr (.inl (vp_updL ov 0 r7.toInt64))))]) H := hP
    have hD : va_D A ((wX ca f kq ad) ++ (wKd kq) ++ (wMp ca kq (ad i0) u7) ++ [(g, .inl (ca 1, 1, .inr (.inl (vp_updL ov 0 r7.toInt64))))]) := hD
    refine lv_goto (tgt := 19) hx hb dL_split_12 (by decide) ?_
    refine lv_iconst (v := 0) hx hb dL_split_19 (by decide) ?_
    refine W.widen (k := 3) (n := 18) (by omega) (by omega) ?_
    exact vx_ret (W.iret (v := 0) hx hb hr (fun t9 e9 w9 => ⟨⟨_, (u7, vp_updL ov 0 r7.toInt64), rfl, hu7.elim, by rw [e9]; exact hP, hD⟩, hS.F e9⟩) hS.2.2 dL_split_20)
