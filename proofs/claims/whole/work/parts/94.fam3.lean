/-! join, split -/
def wF2 (ca : Nat → ClassId) (f kq : Nat → Nat) (ad : Nat → Nat → Nat) (i0 i1 : Nat) (u : M2) : va_W := (wX ca f kq ad) ++ (wKd kq) ++ (wMp ca kq (ad i0) u.1) ++ (wMp ca kq (ad i1) u.2)
def GJ (op mm nn : Int32) (r s2 : RW) : Int32 × Int32 × RW := if isB mm 3 = true ∧ isB nn 3 = true then F_join op r s2 else (0, 1, r)
def PJR (op mm nn : Int32) (r s2 : RW) (N : Nat) (x : Int32) (u : M2) : Prop := x = (GJ op mm nn r s2).1 ∧ (GJ op mm nn r s2).2.1 = 0 ∧ Rel1 (N + 61) u.1 (GJ op mm nn r s2).2.2 ∧ Rel1 (N + 61) u.2 s2
def PJT (op mm nn : Int32) (r s2 : RW) (N : Nat) (E : String) (u : M2) : Prop := E = xA (GJ op mm nn r s2).2.1 ∧ ¬ (GJ op mm nn r s2).2.1 = 0 ∧ Rel1 (N + 61) u.1 (GJ op mm nn r s2).2.2 ∧ Rel1 (N + 61) u.2 s2
theorem GJ_ok {op mm nn : Int32} {r s2 : RW} (h1 : isB mm 3 = true) (h2 : isB nn 3 = true) : GJ op mm nn r s2 = F_join op r s2 := if_pos ⟨h1, h2⟩
theorem GJ_bad {op mm nn : Int32} {r s2 : RW} (h : isB mm 3 = false ∨ isB nn 3 = false) : GJ op mm nn r s2 = (0, 1, r) := by
  unfold GJ
  refine if_neg (fun q => ?_)
  rcases h with h | h
  · rw [q.1] at h; cases h
  · rw [q.2] at h; cases h
theorem jret {op mm nn x : Int32} {r s2 : RW} {N : Nat} {u : M2} (h1 : isB mm 3 = true) (h2 : isB nn 3 = true) (h : x = (F_join op r s2).1 ∧ (F_join op r s2).2.1 = 0 ∧ Rel1 (N + 61) u.1 (F_join op r s2).2.2 ∧ Rel1 (N + 61) u.2 s2) : PJR op mm nn r s2 N x u := by unfold PJR; rw [GJ_ok h1 h2]; exact h
theorem jthr {op mm nn x c : Int32} {r s2 : RW} {N : Nat} {u : M2} {E : String} (h1 : isB mm 3 = true) (h2 : isB nn 3 = true) (hF : F_join op r s2 = (x, c, r)) (hc : ¬ c = 0) (hE : E = xA c) (ha : Rel1 (N + 61) u.1 r) (hb : Rel1 (N + 61) u.2 s2) : PJT op mm nn r s2 N E u := by unfold PJT; rw [GJ_ok h1 h2, hF]; exact ⟨hE, hc, ha, hb⟩
theorem jbad {op mm nn : Int32} {r s2 : RW} {N : Nat} {u : M2} {E : String} (h : isB mm 3 = false ∨ isB nn 3 = false) (hE : E = xA 1) (ha : Rel1 (N + 61) u.1 r) (hb : Rel1 (N + 61) u.2 s2) : PJT op mm nn r s2 N E u := by unfold PJT; rw [GJ_bad h]; exact ⟨hE, (by show ¬ (1 : Int32) = 0; decide), ha, hb⟩
theorem op_2 {op : Int32} (h : isB op 3 = true) (h0 : ¬ op = 0) (h1 : ¬ op = 1) : op = 2 := by
  obtain ⟨a1, a2⟩ := isB_nN (n := 3) (by decide) h
  have b0 : ¬ iN op = 0 := fun e => h0 (a2.trans (by rw [e]; rfl))
  have b1 : ¬ iN op = 1 := fun e => h1 (a2.trans (by rw [e]; rfl))
  have b2 : iN op = 2 := by omega
  exact a2.trans (by rw [b2]; rfl)
-- TreeFamily.join
theorem inT_X10_join_eIA : ∀ w ∈ (vx_atS RX10 48 eIA eNs).filter goodWord, w ∈ wsX10_join := by decide +kernel
set_option maxHeartbeats 4000000 in
set_option maxRecDepth 100000 in
theorem c_X10_join (l : Launch) (D : va_G) (ca : Nat → ClassId) (f kq : Nat → Nat) (ad : Nat → Nat → Nat) (sz : Nat) (hl9 : l.stackTraces = false) (i0 i1 : Nat) (m m2 : MS) (r s2 : RW) (N : Nat) (mm nn op : Int32) (hR : Rel1 N m r) (hR2 : Rel1 N m2 s2) (hN : N ≤ 1000000) (hm : isB mm 3 = true → mm = nI i0 ∧ i0 < 3) (hn : isB nn 3 = true → nn = nI i1 ∧ i1 < 3) : vx_Met l yX10_join wsX10_join ({ frames := 67, cells := 3, slots := 18, locals := 1666 } : Room) (xPcT D (TY ca) [.ref (f 0), .int mm, .int nn, .int op] ((wX ca f kq ad) ++ (wKd kq) ++ (wMp ca kq (ad i0) m) ++ (wMp ca kq (ad i1) m2)) sz) (va_Qi (fun (x : Int32) (u : M2) => PJR op mm nn r s2 N x u) (xB D (wF2 ca f kq ad i0 i1) (va_A ((wX ca f kq ad) ++ (wKd kq) ++ (wMp ca kq (ad i0) m) ++ (wMp ca kq (ad i1) m2)) sz)) (va_A ((wX ca f kq ad) ++ (wKd kq) ++ (wMp ca kq (ad i0) m) ++ (wMp ca kq (ad i1) m2)) sz)) (xX D (wF2 ca f kq ad i0 i1) (va_A ((wX ca f kq ad) ++ (wKd kq) ++ (wMp ca kq (ad i0) m) ++ (wMp ca kq (ad i1) m2)) sz) (fun (E : String) (u : M2) => PJT op mm nn r s2 N E u)) 3 18 (va_A ((wX ca f kq ad) ++ (wKd kq) ++ (wMp ca kq (ad i0) m) ++ (wMp ca kq (ad i1) m2)) sz) := by
  refine vx_ofW (cc := cX10_join) (maxL := 6) (ret := (some .int)) (by decide) rfl ?_
  intro p e s m9 args below meth c s₁ B hml hno hv
  obtain ⟨rfl, hsz, hP, hKN, hD0, hTZ⟩ := hv
  have hx := B.exec
  have hb := B.bytes
  have hr := B.returns
  have hts := atoms_spec (ws := wsX10_join) B.pre
  have hown : s.vm.findClass RX10 = some m9.cls := findClass_of_methodNamed B.named
  have hlocks := B.notSynchronized
  subst hsz
  have hD := hD0.self (sz := s.heap.size)
  generalize hAe : va_A ((wX ca f kq ad) ++ (wKd kq) ++ (wMp ca kq (ad i0) m) ++ (wMp ca kq (ad i1) m2)) s.heap.size = A at hD hTZ ⊢
  have hA : ∀ q : Nat, s.heap.size ≤ q → A q := fun q h => by rw [← hAe]; exact Or.inr h
  have hS : va_S A s.heap s.heap [] := va_S.rf
  have hl := lv_entry ([.ref (f 0), .int mm, .int nn, .int op]) (n := 6) (Nat.le_of_ble_eq_true rfl)
  rw [lg_entry_eq]
  generalize (lg_sl ([.ref (f 0), .int mm, .int nn, .int op]) ++ List.replicate (6 - (lg_sl ([.ref (f 0), .int mm, .int nn, .int op])).length) Slot.unset).toArray = ls at hl ⊢
  have hl : lv_has ls 6 [(0, .ref (f 0)), (1, .int mm), (2, .int nn), (3, .int op)] := hl
  refine lv_aload_n hx hb dX10_join_0 rfl (lv_at hl 0 rfl) ?_
  refine lv_iload_n hx hb dX10_join_1 rfl (lv_at hl 1 rfl) ?_
  refine xcx_r (wr := (wKd kq) ++ (wMp ca kq (ad i0) m) ++ (wMp ca kq (ad i1) m2)) (vx_runV (As := [.int mm]) (rest := []) ⟨hx, hb, hml, hown, hts⟩ (c_X10_mapAt l D ca f kq ad _ hl9 mm i0 hm) (cwV 1 hts gX10_join_X10_mapAt rfl rfl rfl (by decide +kernel) ⟨(Nat.le_of_ble_eq_true rfl), (Nat.le_of_ble_eq_true rfl)⟩) (xPreVT hKN hTZ hP hD hS hA [0, 1, 2] (by decide +kernel) rfl (q0 := 0) rfl rfl rfl) rfl rfl hl.1 rfl (lv_room (Nat.le_of_ble_eq_true rfl)) dX10_join_2 ⟨(Nat.le_of_ble_eq_true rfl), (Nat.le_of_ble_eq_true rfl)⟩) hP hD hS hA [0, 1, 2] [3, 4, 5, 6, 7, 8, 9, 10, 11, 12, 13, 14, 15, 16, 17, 18, 19, 20, 21, 22, 23, 24, 25, 26, 27, 28, 29, 30, 31, 32, 33, 34] rfl rfl (by decide +kernel) (by decide +kernel) (fun E9 ce9 q9 u2 H locs hu2 hP hD hS h91 h92 h93 => ?_) (fun ra u2 H locs hu2 hra2 hP hD hS => ?_)
  · skip
    obtain ⟨eE, hB2⟩ := hu2
    have hP : va_P D vwCl ((wX ca f kq ad) ++ (wKd kq) ++ (wMp ca kq (ad i0) m) ++ (wMp ca kq (ad i1) m2)) H := hP.sub (ws' := (wX ca f kq ad) ++ (wKd kq) ++ (wMp ca kq (ad i0) m) ++ (wMp ca kq (ad i1) m2)) [32, 33, 34, 0, 1, 2, 3, 4, 5, 6, 7, 8, 9, 10, 11, 12, 13, 14, 15, 16, 17, 18, 19, 20, 21, 22, 23, 24, 25, 26, 27, 28, 29, 30, 31] rfl
    have hD : va_D A ((wX ca f kq ad) ++ (wKd kq) ++ (wMp ca kq (ad i0) m) ++ (wMp ca kq (ad i1) m2)) := hD.sub (ws' := (wX ca f kq ad) ++ (wKd kq) ++ (wMp ca kq (ad i0) m) ++ (wMp ca kq (ad i1) m2)) [32, 33, 34, 0, 1, 2, 3, 4, 5, 6, 7, 8, 9, 10, 11, 12, 13, 14, 15, 16, 17, 18, 19, 20, 21, 22, 23, 24, 25, 26, 27, 28, 29, 30, 31] (by decide +kernel) rfl
    exact vx_out (fun x h => (hno x h).elim) hlocks h91 h92 h93 (fun t9 e9 _ => xX_on (m, m2) (jbad (Or.inl hB2) eE (rel_mono hR (by omega)) (rel_mono hR2 (by omega))) hP hD hS e9) hS.2.2 (by omega) (by omega)
  · skip
    have hP : va_P D vwCl ((wX ca f kq ad) ++ (wKd kq) ++ (wMp ca kq (ad i0) m) ++ (wMp ca kq (ad i1) m2)) H := hP.sub (ws' := (wX ca f kq ad) ++ (wKd kq) ++ (wMp ca kq (ad i0) m) ++ (wMp ca kq (ad i1) m2)) [32, 33, 34, 0, 1, 2, 3, 4, 5, 6, 7, 8, 9, 10, 11, 12, 13, 14, 15, 16, 17, 18, 19, 20, 21, 22, 23, 24, 25, 26, 27, 28, 29, 30, 31] rfl
    have hD : va_D A ((wX ca f kq ad) ++ (wKd kq) ++ (wMp ca kq (ad i0) m) ++ (wMp ca kq (ad i1) m2)) := hD.sub (ws' := (wX ca f kq ad) ++ (wKd kq) ++ (wMp ca kq (ad i0) m) ++ (wMp ca kq (ad i1) m2)) [32, 33, 34, 0, 1, 2, 3, 4, 5, 6, 7, 8, 9, 10, 11, 12, 13, 14, 15, 16, 17, 18, 19, 20, 21, 22, 23, 24, 25, 26, 27, 28, 29, 30, 31] (by decide +kernel) rfl
    obtain ⟨hm2, hB2⟩ := hu2
    subst hra2
    have hi3_2 := (hm hB2).2
    subst hm2
    refine lv_astore (lv' := [(4, .ref (ad i0 11)), (0, .ref (f 0)), (1, .int (nI i0)), (2, .int nn), (3, .int op)]) hx hb dX10_join_5 hl (by decide) rfl (fun ls hl => ?_)
    refine lv_aload_n hx hb dX10_join_7 rfl (lv_at hl 1 rfl) ?_
    refine lv_iload_n hx hb dX10_join_8 rfl (lv_at hl 3 rfl) ?_
    refine xcx_r (wr := (wKd kq) ++ (wMp ca kq (ad i0) m) ++ (wMp ca kq (ad i1) m2)) (vx_runV (As := [.int nn]) (rest := []) ⟨hx, hb, hml, hown, hts⟩ (c_X10_mapAt l D ca f kq ad _ hl9 nn i1 hn) (cwV 1 hts gX10_join_X10_mapAt rfl rfl rfl (by decide +kernel) ⟨(Nat.le_of_ble_eq_true rfl), (Nat.le_of_ble_eq_true rfl)⟩) (xPreVT hKN hTZ hP hD hS hA [0, 1, 2] (by decide +kernel) rfl (q0 := 0) rfl rfl rfl) rfl rfl hl.1 rfl (lv_room (Nat.le_of_ble_eq_true rfl)) dX10_join_9 ⟨(Nat.le_of_ble_eq_true rfl), (Nat.le_of_ble_eq_true rfl)⟩) hP hD hS hA [0, 1, 2] [3, 4, 5, 6, 7, 8, 9, 10, 11, 12, 13, 14, 15, 16, 17, 18, 19, 20, 21, 22, 23, 24, 25, 26, 27, 28, 29, 30, 31, 32, 33, 34] rfl rfl (by decide +kernel) (by decide +kernel) (fun E9 ce9 q9 u9 H locs hu9 hP hD hS h91 h92 h93 => ?_) (fun ra u9 H locs hu9 hra9 hP hD hS => ?_)
    · skip
      obtain ⟨eE, hB9⟩ := hu9
      have hP : va_P D vwCl ((wX ca f kq ad) ++ (wKd kq) ++ (wMp ca kq (ad i0) m) ++ (wMp ca kq (ad i1) m2)) H := hP.sub (ws' := (wX ca f kq ad) ++ (wKd kq) ++ (wMp ca kq (ad i0) m) ++ (wMp ca kq (ad i1) m2)) [32, 33, 34, 0, 1, 2, 3, 4, 5, 6, 7, 8, 9, 10, 11, 12, 13, 14, 15, 16, 17, 18, 19, 20, 21, 22, 23, 24, 25, 26, 27, 28, 29, 30, 31] rfl
      have hD : va_D A ((wX ca f kq ad) ++ (wKd kq) ++ (wMp ca kq (ad i0) m) ++ (wMp ca kq (ad i1) m2)) := hD.sub (ws' := (wX ca f kq ad) ++ (wKd kq) ++ (wMp ca kq (ad i0) m) ++ (wMp ca kq (ad i1) m2)) [32, 33, 34, 0, 1, 2, 3, 4, 5, 6, 7, 8, 9, 10, 11, 12, 13, 14, 15, 16, 17, 18, 19, 20, 21, 22, 23, 24, 25, 26, 27, 28, 29, 30, 31] (by decide +kernel) rfl
      exact vx_out (fun x h => (hno x h).elim) hlocks h91 h92 h93 (fun t9 e9 _ => xX_on (m, m2) (jbad (Or.inr hB9) eE (rel_mono hR (by omega)) (rel_mono hR2 (by omega))) hP hD hS e9) hS.2.2 (by omega) (by omega)
    · skip
      have hP : va_P D vwCl ((wX ca f kq ad) ++ (wKd kq) ++ (wMp ca kq (ad i0) m) ++ (wMp ca kq (ad i1) m2)) H := hP.sub (ws' := (wX ca f kq ad) ++ (wKd kq) ++ (wMp ca kq (ad i0) m) ++ (wMp ca kq (ad i1) m2)) [32, 33, 34, 0, 1, 2, 3, 4, 5, 6, 7, 8, 9, 10, 11, 12, 13, 14, 15, 16, 17, 18, 19, 20, 21, 22, 23, 24, 25, 26, 27, 28, 29, 30, 31] rfl
      have hD : va_D A ((wX ca f kq ad) ++ (wKd kq) ++ (wMp ca kq (ad i0) m) ++ (wMp ca kq (ad i1) m2)) := hD.sub (ws' := (wX ca f kq ad) ++ (wKd kq) ++ (wMp ca kq (ad i0) m) ++ (wMp ca kq (ad i1) m2)) [32, 33, 34, 0, 1, 2, 3, 4, 5, 6, 7, 8, 9, 10, 11, 12, 13, 14, 15, 16, 17, 18, 19, 20, 21, 22, 23, 24, 25, 26, 27, 28, 29, 30, 31] (by decide +kernel) rfl
      obtain ⟨hm9, hB9⟩ := hu9
      subst hra9
      have hi3_9 := (hn hB9).2
      subst hm9
      refine lv_astore (lv' := [(5, .ref (ad i1 11)), (4, .ref (ad i0 11)), (0, .ref (f 0)), (1, .int (nI i0)), (2, .int (nI i1)), (3, .int op)]) hx hb dX10_join_12 hl (by decide) rfl (fun ls hl => ?_)
      refine lv_iload_n hx hb dX10_join_14 rfl (lv_at hl 5 rfl) ?_
      refine lv_iconst (v := 3) hx hb dX10_join_15 (by decide) ?_
      refine xs_i (va_runS (As := [.int op, .int 3]) (rest := []) ⟨hx, hb, hml, hown, hts⟩ (c_X10_isBelow l _ _) (va_cwS 2 hts gX10_join_X10_isBelow rfl rfl rfl (by decide +kernel) ⟨(Nat.le_of_ble_eq_true rfl), (Nat.le_of_ble_eq_true rfl)⟩) xPreT rfl rfl hl.1 rfl (lv_room (Nat.le_of_ble_eq_true rfl)) dX10_join_16 ⟨(Nat.le_of_ble_eq_true rfl), (Nat.le_of_ble_eq_true rfl)⟩) (fun r16 er16 => ?_)
      subst er16
      refine lv_if_eq (tgt := 32) hx hb dX10_join_19 (by decide) (fun c19 => ?_) (fun c19 => ?_)
      · skip
        have c19 := bI_0.mp c19
        obtain ⟨sa9, hsa⟩ := NW.s hKN.2 (a := RX10) (i := 136) (b := "no such operation, or other orders") (by decide +kernel)
        exact vx_throwS (A := A) hx hb hl9 hown (by decide +kernel) hns_X (hts (.classLink RX10 44 eIA) (by decide +kernel)) (hts (.initialized eIA) (by decide +kernel)) hsa (hat_X10_eIA hKN.2 (fun w h => hts w (inT_X10_join_eIA w h))) hgo_X10_eIA_44 hTZ.1 hTZ.2 hS (hl.1.trans hml.symm) dX10_join_32 dX10_join_35 dX10_join_36 dX10_join_38 dX10_join_41 (fun x h => (hno x h).elim) (Nat.le_of_ble_eq_true rfl) (Nat.le_of_ble_eq_true rfl) (Nat.le_of_ble_eq_true rfl) (Nat.le_of_ble_eq_true rfl) hlocks (fun t9 _ hz9 hk9 => xX_of (m, m2) (by first | exact jthr hB2 hB9 (F_join_1 c19) (by decide) rfl (rel_mono hR (by omega)) (rel_mono hR2 (by omega)) | exact jthr hB2 hB9 (F_join_o (of_decide_eq_false c29)) (by decide) rfl (rel_mono hR (by omega)) (rel_mono hR2 (by omega))) hP hD hS hz9 hk9) hS.2.2 (by omega) (by omega)
      · skip
        have c19 := bI_ne.mp c19
        refine lv_aload hx hb dX10_join_22 (lv_at hl 1 rfl) ?_
        refine lv_aload hx hb dX10_join_24 (lv_at hl 0 rfl) ?_
        refine xc_i (wr := wX ca f kq ad) (va_runV (As := [.ref (ad i1 11)]) (rest := []) ⟨hx, hb, hml, hown, hts⟩ (r_X6_hasOrderOf l D ca kq (ad i0) _ (ad i1) m r m2 s2 N hR hR2 hN ) (cwV 1 hts gX10_join_X6_hasOrderOf rfl rfl rfl (by decide +kernel) ⟨(Nat.le_of_ble_eq_true rfl), (Nat.le_of_ble_eq_true rfl)⟩) (xPreV hKN hP hD [3, 4, 5, 6, 7, 8, 9, 10, 11, 12, 13, 14, 15, 16, 17, 18, 19, 20, 21, 22, 23, 24, 25, 26, 27, 28, 29, 30, 31, 32, 33, 34] (by decide +kernel) rfl (q0 := 7) rfl rfl rfl) rfl rfl hl.1 rfl (lv_room (Nat.le_of_ble_eq_true rfl)) dX10_join_26 ⟨(Nat.le_of_ble_eq_true rfl), (Nat.le_of_ble_eq_true rfl)⟩) hP hD hS hA [3, 4, 5, 6, 7, 8, 9, 10, 11, 12, 13, 14, 15, 16, 17, 18, 19, 20, 21, 22, 23, 24, 25, 26, 27, 28, 29, 30, 31, 32, 33, 34] [0, 1, 2] rfl rfl (by decide +kernel) (by decide +kernel) (fun r26 u26 H locs hu26 hP hD hS => ?_)
        have hP : va_P D vwCl ((wX ca f kq ad) ++ (wKd kq) ++ (wMp ca kq (ad i0) u26.1) ++ (wMp ca kq (ad i1) u26.2)) H := hP
        have hD : va_D A ((wX ca f kq ad) ++ (wKd kq) ++ (wMp ca kq (ad i0) u26.1) ++ (wMp ca kq (ad i1) u26.2)) := hD
        obtain ⟨er26, eu26⟩ := hu26
        have eu26 := eu26.symm
        subst eu26
        subst er26
        have hP : va_P D vwCl ((wX ca f kq ad) ++ (wKd kq) ++ (wMp ca kq (ad i0) m) ++ (wMp ca kq (ad i1) m2)) H := hP
        have hD : va_D A ((wX ca f kq ad) ++ (wKd kq) ++ (wMp ca kq (ad i0) m) ++ (wMp ca kq (ad i1) m2)) := hD
        refine lv_if_ne (tgt := 42) hx hb dX10_join_29 (by decide) (fun c29 => ?_) (fun c29 => ?_)
        · skip
          have c29 := bI_ne.mp c29
          have hoe : r.od = s2.od := of_decide_eq_true c29
          refine lv_iload_n hx hb dX10_join_42 rfl (lv_at hl 5 rfl) ?_
          by_cases k43_0 : op = 0
          · refine lv_lookup (tgt := 68) hx hb dX10_join_43 (by decide) (by rw [k43_0] <;> rfl) (by decide) ?_
            subst k43_0
            refine lv_aload hx hb dX10_join_68 (lv_at hl 1 rfl) ?_
            refine lv_aload hx hb dX10_join_70 (lv_at hl 0 rfl) ?_
            refine xcx_i (wr := wX ca f kq ad) (vx_runV (As := [.ref (ad i1 11)]) (rest := []) ⟨hx, hb, hml, hown, hts⟩ (r_X6_unite l D ca kq (ad i0) _ hl9 (ad i1) m r m2 s2 N hR hR2 hN hoe) (cwV 1 hts gX10_join_X6_unite rfl rfl rfl (by decide +kernel) ⟨(Nat.le_of_ble_eq_true rfl), (Nat.le_of_ble_eq_true rfl)⟩) (xPreVT hKN hTZ hP hD hS hA [3, 4, 5, 6, 7, 8, 9, 10, 11, 12, 13, 14, 15, 16, 17, 18, 19, 20, 21, 22, 23, 24, 25, 26, 27, 28, 29, 30, 31, 32, 33, 34] (by decide +kernel) rfl (q0 := 7) rfl rfl rfl) rfl rfl hl.1 rfl (lv_room (Nat.le_of_ble_eq_true rfl)) dX10_join_72 ⟨(Nat.le_of_ble_eq_true rfl), (Nat.le_of_ble_eq_true rfl)⟩) hP hD hS hA [3, 4, 5, 6, 7, 8, 9, 10, 11, 12, 13, 14, 15, 16, 17, 18, 19, 20, 21, 22, 23, 24, 25, 26, 27, 28, 29, 30, 31, 32, 33, 34] [0, 1, 2] rfl rfl (by decide +kernel) (by decide +kernel) (fun E9 ce9 q9 u72 H locs hu72 hP hD hS h91 h92 h93 => ?_) (fun r72 u72 H locs hu72 hP hD hS => ?_)
            · skip
              have hP : va_P D vwCl ((wX ca f kq ad) ++ (wKd kq) ++ (wMp ca kq (ad i0) u72.1) ++ (wMp ca kq (ad i1) u72.2)) H := hP
              have hD : va_D A ((wX ca f kq ad) ++ (wKd kq) ++ (wMp ca kq (ad i0) u72.1) ++ (wMp ca kq (ad i1) u72.2)) := hD
              obtain ⟨eE, x1, x2, x3⟩ := hu72
              exact vx_out (fun x h => (hno x h).elim) hlocks h91 h92 h93 (fun t9 e9 _ => xX_on u72 (jthr hB2 hB9 x1 (by decide) eE x2 x3) hP hD hS e9) hS.2.2 (by omega) (by omega)
            · skip
              have hP : va_P D vwCl ((wX ca f kq ad) ++ (wKd kq) ++ (wMp ca kq (ad i0) u72.1) ++ (wMp ca kq (ad i1) u72.2)) H := hP
              have hD : va_D A ((wX ca f kq ad) ++ (wKd kq) ++ (wMp ca kq (ad i0) u72.1) ++ (wMp ca kq (ad i1) u72.2)) := hD
              refine W.widen (k := 3) (n := 18) (by omega) (by omega) ?_
              exact vx_ret (W.iret (v := r72) hx hb hr (fun t9 e9 w9 => ⟨⟨_, u72, rfl, jret hB2 hB9 hu72, by rw [e9]; exact hP, hD⟩, hS.F e9⟩) hS.2.2 dX10_join_75)
          by_cases k43_1 : op = 1
          · refine lv_lookup (tgt := 76) hx hb dX10_join_43 (by decide) (by rw [k43_1] <;> rfl) (by decide) ?_
            subst k43_1
            refine lv_aload hx hb dX10_join_76 (lv_at hl 1 rfl) ?_
            refine lv_aload hx hb dX10_join_78 (lv_at hl 0 rfl) ?_
            refine xc_i (wr := wX ca f kq ad) (va_runV (As := [.ref (ad i1 11)]) (rest := []) ⟨hx, hb, hml, hown, hts⟩ (r_X6_intersect l D ca kq (ad i0) _ (ad i1) m r m2 s2 N hR hR2 hN hoe) (cwV 1 hts gX10_join_X6_intersect rfl rfl rfl (by decide +kernel) ⟨(Nat.le_of_ble_eq_true rfl), (Nat.le_of_ble_eq_true rfl)⟩) (xPreV hKN hP hD [3, 4, 5, 6, 7, 8, 9, 10, 11, 12, 13, 14, 15, 16, 17, 18, 19, 20, 21, 22, 23, 24, 25, 26, 27, 28, 29, 30, 31, 32, 33, 34] (by decide +kernel) rfl (q0 := 7) rfl rfl rfl) rfl rfl hl.1 rfl (lv_room (Nat.le_of_ble_eq_true rfl)) dX10_join_80 ⟨(Nat.le_of_ble_eq_true rfl), (Nat.le_of_ble_eq_true rfl)⟩) hP hD hS hA [3, 4, 5, 6, 7, 8, 9, 10, 11, 12, 13, 14, 15, 16, 17, 18, 19, 20, 21, 22, 23, 24, 25, 26, 27, 28, 29, 30, 31, 32, 33, 34] [0, 1, 2] rfl rfl (by decide +kernel) (by decide +kernel) (fun r80 u80 H locs hu80 hP hD hS => ?_)
            have hP : va_P D vwCl ((wX ca f kq ad) ++ (wKd kq) ++ (wMp ca kq (ad i0) u80.1) ++ (wMp ca kq (ad i1) u80.2)) H := hP
            have hD : va_D A ((wX ca f kq ad) ++ (wKd kq) ++ (wMp ca kq (ad i0) u80.1) ++ (wMp ca kq (ad i1) u80.2)) := hD
            refine W.widen (k := 3) (n := 18) (by omega) (by omega) ?_
            exact vx_ret (W.iret (v := r80) hx hb hr (fun t9 e9 w9 => ⟨⟨_, u80, rfl, jret hB2 hB9 hu80, by rw [e9]; exact hP, hD⟩, hS.F e9⟩) hS.2.2 dX10_join_83)
          refine lv_lookup (tgt := 84) hx hb dX10_join_43 (by decide) (off := 41) (by rw [lv_osw k43_0 (by decide)]; rw [lv_osw k43_1 (by decide)]; rfl) (by decide) ?_
          obtain rfl := op_2 c19 k43_0 k43_1
          refine lv_aload hx hb dX10_join_84 (lv_at hl 1 rfl) ?_
          refine lv_aload hx hb dX10_join_86 (lv_at hl 0 rfl) ?_
          refine xc_i (wr := wX ca f kq ad) (va_runV (As := [.ref (ad i1 11)]) (rest := []) ⟨hx, hb, hml, hown, hts⟩ (r_X6_subtract l D ca kq (ad i0) _ (ad i1) m r m2 s2 N hR hR2 hN hoe) (cwV 1 hts gX10_join_X6_subtract rfl rfl rfl (by decide +kernel) ⟨(Nat.le_of_ble_eq_true rfl), (Nat.le_of_ble_eq_true rfl)⟩) (xPreV hKN hP hD [3, 4, 5, 6, 7, 8, 9, 10, 11, 12, 13, 14, 15, 16, 17, 18, 19, 20, 21, 22, 23, 24, 25, 26, 27, 28, 29, 30, 31, 32, 33, 34] (by decide +kernel) rfl (q0 := 7) rfl rfl rfl) rfl rfl hl.1 rfl (lv_room (Nat.le_of_ble_eq_true rfl)) dX10_join_88 ⟨(Nat.le_of_ble_eq_true rfl), (Nat.le_of_ble_eq_true rfl)⟩) hP hD hS hA [3, 4, 5, 6, 7, 8, 9, 10, 11, 12, 13, 14, 15, 16, 17, 18, 19, 20, 21, 22, 23, 24, 25, 26, 27, 28, 29, 30, 31, 32, 33, 34] [0, 1, 2] rfl rfl (by decide +kernel) (by decide +kernel) (fun r88 u88 H locs hu88 hP hD hS => ?_)
          have hP : va_P D vwCl ((wX ca f kq ad) ++ (wKd kq) ++ (wMp ca kq (ad i0) u88.1) ++ (wMp ca kq (ad i1) u88.2)) H := hP
          have hD : va_D A ((wX ca f kq ad) ++ (wKd kq) ++ (wMp ca kq (ad i0) u88.1) ++ (wMp ca kq (ad i1) u88.2)) := hD
          refine W.widen (k := 3) (n := 18) (by omega) (by omega) ?_
          exact vx_ret (W.iret (v := r88) hx hb hr (fun t9 e9 w9 => ⟨⟨_, u88, rfl, jret hB2 hB9 hu88, by rw [e9]; exact hP, hD⟩, hS.F e9⟩) hS.2.2 dX10_join_91)
        · skip
          have c29 := bI_0.mp c29
          obtain ⟨sa9, hsa⟩ := NW.s hKN.2 (a := RX10) (i := 136) (b := "no such operation, or other orders") (by decide +kernel)
          exact vx_throwS (A := A) hx hb hl9 hown (by decide +kernel) hns_X (hts (.classLink RX10 44 eIA) (by decide +kernel)) (hts (.initialized eIA) (by decide +kernel)) hsa (hat_X10_eIA hKN.2 (fun w h => hts w (inT_X10_join_eIA w h))) hgo_X10_eIA_44 hTZ.1 hTZ.2 hS (hl.1.trans hml.symm) dX10_join_32 dX10_join_35 dX10_join_36 dX10_join_38 dX10_join_41 (fun x h => (hno x h).elim) (Nat.le_of_ble_eq_true rfl) (Nat.le_of_ble_eq_true rfl) (Nat.le_of_ble_eq_true rfl) (Nat.le_of_ble_eq_true rfl) hlocks (fun t9 _ hz9 hk9 => xX_of (m, m2) (by first | exact jthr hB2 hB9 (F_join_1 c19) (by decide) rfl (rel_mono hR (by omega)) (rel_mono hR2 (by omega)) | exact jthr hB2 hB9 (F_join_o (of_decide_eq_false c29)) (by decide) rfl (rel_mono hR (by omega)) (rel_mono hR2 (by omega))) hP hD hS hz9 hk9) hS.2.2 (by omega) (by omega)

-- TreeFamily.join
set_option maxHeartbeats 4000000 in
set_option maxRecDepth 100000 in
theorem c_X10_join_a (l : Launch) (D : va_G) (ca : Nat → ClassId) (f kq : Nat → Nat) (ad : Nat → Nat → Nat) (sz : Nat) (hl9 : l.stackTraces = false) (i0 : Nat) (m : MS) (r : RW) (N : Nat) (op : Int32) (hR : Rel1 N m r) (hN : N ≤ 1000000) (hi0 : i0 < 3) (hm : isB (nI i0) 3 = true → nI i0 = nI i0 ∧ i0 < 3) : vx_Met l yX10_join wsX10_join ({ frames := 67, cells := 3, slots := 18, locals := 1666 } : Room) (xPcT D (TY ca) [.ref (f 0), .int (nI i0), .int (nI i0), .int op] ((wX ca f kq ad) ++ (wKd kq) ++ (wMp ca kq (ad i0) m)) sz) (va_Qi (fun (x : Int32) (u : MS) => x = (F_join op r r).1 ∧ (F_join op r r).2.1 = 0 ∧ Rel1 (N + 61) u (F_join op r r).2.2) (xB D (wF1 ca f kq ad i0) (va_A ((wX ca f kq ad) ++ (wKd kq) ++ (wMp ca kq (ad i0) m)) sz)) (va_A ((wX ca f kq ad) ++ (wKd kq) ++ (wMp ca kq (ad i0) m)) sz)) (xX D (wF1 ca f kq ad i0) (va_A ((wX ca f kq ad) ++ (wKd kq) ++ (wMp ca kq (ad i0) m)) sz) (fun (E : String) (u : MS) => E = xA (F_join op r r).2.1 ∧ ¬ (F_join op r r).2.1 = 0 ∧ Rel1 (N + 61) u (F_join op r r).2.2)) 3 18 (va_A ((wX ca f kq ad) ++ (wKd kq) ++ (wMp ca kq (ad i0) m)) sz) := by
  refine vx_ofW (cc := cX10_join) (maxL := 6) (ret := (some .int)) (by decide) rfl ?_
  intro p e s m9 args below meth c s₁ B hml hno hv
  obtain ⟨rfl, hsz, hP, hKN, hD0, hTZ⟩ := hv
  have hx := B.exec
  have hb := B.bytes
  have hr := B.returns
  have hts := atoms_spec (ws := wsX10_join) B.pre
  have hown : s.vm.findClass RX10 = some m9.cls := findClass_of_methodNamed B.named
  have hlocks := B.notSynchronized
  subst hsz
  have hD := hD0.self (sz := s.heap.size)
  generalize hAe : va_A ((wX ca f kq ad) ++ (wKd kq) ++ (wMp ca kq (ad i0) m)) s.heap.size = A at hD hTZ ⊢
  have hA : ∀ q : Nat, s.heap.size ≤ q → A q := fun q h => by rw [← hAe]; exact Or.inr h
  have hS : va_S A s.heap s.heap [] := va_S.rf
  have hl := lv_entry ([.ref (f 0), .int (nI i0), .int (nI i0), .int op]) (n := 6) (Nat.le_of_ble_eq_true rfl)
  rw [lg_entry_eq]
  generalize (lg_sl ([.ref (f 0), .int (nI i0), .int (nI i0), .int op]) ++ List.replicate (6 - (lg_sl ([.ref (f 0), .int (nI i0), .int (nI i0), .int op])).length) Slot.unset).toArray = ls at hl ⊢
  have hl : lv_has ls 6 [(0, .ref (f 0)), (1, .int (nI i0)), (2, .int (nI i0)), (3, .int op)] := hl
  refine lv_aload_n hx hb dX10_join_0 rfl (lv_at hl 0 rfl) ?_
  refine lv_iload_n hx hb dX10_join_1 rfl (lv_at hl 1 rfl) ?_
  refine xcx_r (wr := (wKd kq) ++ (wMp ca kq (ad i0) m)) (vx_runV (As := [.int (nI i0)]) (rest := []) ⟨hx, hb, hml, hown, hts⟩ (c_X10_mapAt l D ca f kq ad _ hl9 (nI i0) i0 hm) (cwV 1 hts gX10_join_X10_mapAt rfl rfl rfl (by decide +kernel) ⟨(Nat.le_of_ble_eq_true rfl), (Nat.le_of_ble_eq_true rfl)⟩) (xPreVT hKN hTZ hP hD hS hA [0, 1, 2] (by decide +kernel) rfl (q0 := 0) rfl rfl rfl) rfl rfl hl.1 rfl (lv_room (Nat.le_of_ble_eq_true rfl)) dX10_join_2 ⟨(Nat.le_of_ble_eq_true rfl), (Nat.le_of_ble_eq_true rfl)⟩) hP hD hS hA [0, 1, 2] [3, 4, 5, 6, 7, 8, 9, 10, 11, 12, 13, 14, 15, 16, 17, 18, 19, 20] rfl rfl (by decide +kernel) (by decide +kernel) (fun E9 ce9 q9 u2 H locs hu2 hP hD hS h91 h92 h93 => ?_) (fun ra u2 H locs hu2 hra2 hP hD hS => ?_)
  · skip
    obtain ⟨eE, hB2⟩ := hu2
    have hP : va_P D vwCl ((wX ca f kq ad) ++ (wKd kq) ++ (wMp ca kq (ad i0) m)) H := hP.sub (ws' := (wX ca f kq ad) ++ (wKd kq) ++ (wMp ca kq (ad i0) m)) [18, 19, 20, 0, 1, 2, 3, 4, 5, 6, 7, 8, 9, 10, 11, 12, 13, 14, 15, 16, 17] rfl
    have hD : va_D A ((wX ca f kq ad) ++ (wKd kq) ++ (wMp ca kq (ad i0) m)) := hD.sub (ws' := (wX ca f kq ad) ++ (wKd kq) ++ (wMp ca kq (ad i0) m)) [18, 19, 20, 0, 1, 2, 3, 4, 5, 6, 7, 8, 9, 10, 11, 12, 13, 14, 15, 16, 17] (by decide +kernel) rfl
    exact absurd (hB2.symm.trans (isB3_ok hi0)) (by decide)
  · skip
    have hP : va_P D vwCl ((wX ca f kq ad) ++ (wKd kq) ++ (wMp ca kq (ad i0) m)) H := hP.sub (ws' := (wX ca f kq ad) ++ (wKd kq) ++ (wMp ca kq (ad i0) m)) [18, 19, 20, 0, 1, 2, 3, 4, 5, 6, 7, 8, 9, 10, 11, 12, 13, 14, 15, 16, 17] rfl
    have hD : va_D A ((wX ca f kq ad) ++ (wKd kq) ++ (wMp ca kq (ad i0) m)) := hD.sub (ws' := (wX ca f kq ad) ++ (wKd kq) ++ (wMp ca kq (ad i0) m)) [18, 19, 20, 0, 1, 2, 3, 4, 5, 6, 7, 8, 9, 10, 11, 12, 13, 14, 15, 16, 17] (by decide +kernel) rfl
    obtain ⟨hm2, hB2⟩ := hu2
    subst hra2
    have hi3_2 := (hm hB2).2
    refine lv_astore (lv' := [(4, .ref (ad i0 11)), (0, .ref (f 0)), (1, .int (nI i0)), (2, .int (nI i0)), (3, .int op)]) hx hb dX10_join_5 hl (by decide) rfl (fun ls hl => ?_)
    refine lv_aload_n hx hb dX10_join_7 rfl (lv_at hl 1 rfl) ?_
    refine lv_iload_n hx hb dX10_join_8 rfl (lv_at hl 3 rfl) ?_
    refine xcx_r (wr := (wKd kq) ++ (wMp ca kq (ad i0) m)) (vx_runV (As := [.int (nI i0)]) (rest := []) ⟨hx, hb, hml, hown, hts⟩ (c_X10_mapAt l D ca f kq ad _ hl9 (nI i0) i0 hm) (cwV 1 hts gX10_join_X10_mapAt rfl rfl rfl (by decide +kernel) ⟨(Nat.le_of_ble_eq_true rfl), (Nat.le_of_ble_eq_true rfl)⟩) (xPreVT hKN hTZ hP hD hS hA [0, 1, 2] (by decide +kernel) rfl (q0 := 0) rfl rfl rfl) rfl rfl hl.1 rfl (lv_room (Nat.le_of_ble_eq_true rfl)) dX10_join_9 ⟨(Nat.le_of_ble_eq_true rfl), (Nat.le_of_ble_eq_true rfl)⟩) hP hD hS hA [0, 1, 2] [3, 4, 5, 6, 7, 8, 9, 10, 11, 12, 13, 14, 15, 16, 17, 18, 19, 20] rfl rfl (by decide +kernel) (by decide +kernel) (fun E9 ce9 q9 u9 H locs hu9 hP hD hS h91 h92 h93 => ?_) (fun ra u9 H locs hu9 hra9 hP hD hS => ?_)
    · skip
      obtain ⟨eE, hB9⟩ := hu9
      have hP : va_P D vwCl ((wX ca f kq ad) ++ (wKd kq) ++ (wMp ca kq (ad i0) m)) H := hP.sub (ws' := (wX ca f kq ad) ++ (wKd kq) ++ (wMp ca kq (ad i0) m)) [18, 19, 20, 0, 1, 2, 3, 4, 5, 6, 7, 8, 9, 10, 11, 12, 13, 14, 15, 16, 17] rfl
      have hD : va_D A ((wX ca f kq ad) ++ (wKd kq) ++ (wMp ca kq (ad i0) m)) := hD.sub (ws' := (wX ca f kq ad) ++ (wKd kq) ++ (wMp ca kq (ad i0) m)) [18, 19, 20, 0, 1, 2, 3, 4, 5, 6, 7, 8, 9, 10, 11, 12, 13, 14, 15, 16, 17] (by decide +kernel) rfl
      exact absurd (hB9.symm.trans (isB3_ok hi0)) (by decide)
    · skip
      have hP : va_P D vwCl ((wX ca f kq ad) ++ (wKd kq) ++ (wMp ca kq (ad i0) m)) H := hP.sub (ws' := (wX ca f kq ad) ++ (wKd kq) ++ (wMp ca kq (ad i0) m)) [18, 19, 20, 0, 1, 2, 3, 4, 5, 6, 7, 8, 9, 10, 11, 12, 13, 14, 15, 16, 17] rfl
      have hD : va_D A ((wX ca f kq ad) ++ (wKd kq) ++ (wMp ca kq (ad i0) m)) := hD.sub (ws' := (wX ca f kq ad) ++ (wKd kq) ++ (wMp ca kq (ad i0) m)) [18, 19, 20, 0, 1, 2, 3, 4, 5, 6, 7, 8, 9, 10, 11, 12, 13, 14, 15, 16, 17] (by decide +kernel) rfl
      obtain ⟨hm9, hB9⟩ := hu9
      subst hra9
      have hi3_9 := (hm hB9).2
      refine lv_astore (lv' := [(5, .ref (ad i0 11)), (4, .ref (ad i0 11)), (0, .ref (f 0)), (1, .int (nI i0)), (2, .int (nI i0)), (3, .int op)]) hx hb dX10_join_12 hl (by decide) rfl (fun ls hl => ?_)
      refine lv_iload_n hx hb dX10_join_14 rfl (lv_at hl 5 rfl) ?_
      refine lv_iconst (v := 3) hx hb dX10_join_15 (by decide) ?_
      refine xs_i (va_runS (As := [.int op, .int 3]) (rest := []) ⟨hx, hb, hml, hown, hts⟩ (c_X10_isBelow l _ _) (va_cwS 2 hts gX10_join_X10_isBelow rfl rfl rfl (by decide +kernel) ⟨(Nat.le_of_ble_eq_true rfl), (Nat.le_of_ble_eq_true rfl)⟩) xPreT rfl rfl hl.1 rfl (lv_room (Nat.le_of_ble_eq_true rfl)) dX10_join_16 ⟨(Nat.le_of_ble_eq_true rfl), (Nat.le_of_ble_eq_true rfl)⟩) (fun r16 er16 => ?_)
      subst er16
      refine lv_if_eq (tgt := 32) hx hb dX10_join_19 (by decide) (fun c19 => ?_) (fun c19 => ?_)
      · skip
        have c19 := bI_0.mp c19
        obtain ⟨sa9, hsa⟩ := NW.s hKN.2 (a := RX10) (i := 136) (b := "no such operation, or other orders") (by decide +kernel)
        exact vx_throwS (A := A) hx hb hl9 hown (by decide +kernel) hns_X (hts (.classLink RX10 44 eIA) (by decide +kernel)) (hts (.initialized eIA) (by decide +kernel)) hsa (hat_X10_eIA hKN.2 (fun w h => hts w (inT_X10_join_eIA w h))) hgo_X10_eIA_44 hTZ.1 hTZ.2 hS (hl.1.trans hml.symm) dX10_join_32 dX10_join_35 dX10_join_36 dX10_join_38 dX10_join_41 (fun x h => (hno x h).elim) (Nat.le_of_ble_eq_true rfl) (Nat.le_of_ble_eq_true rfl) (Nat.le_of_ble_eq_true rfl) (Nat.le_of_ble_eq_true rfl) hlocks (fun t9 _ hz9 hk9 => xX_of m (by rw [F_join_1 c19]; exact ⟨rfl, (by show ¬ (1 : Int32) = 0; decide), rel_mono hR (by omega)⟩) hP hD hS hz9 hk9) hS.2.2 (by omega) (by omega)
      · skip
        have c19 := bI_ne.mp c19
        refine lv_aload hx hb dX10_join_22 (lv_at hl 1 rfl) ?_
        refine lv_aload hx hb dX10_join_24 (lv_at hl 0 rfl) ?_
        refine xc_i (wr := wX ca f kq ad) (va_runV (As := [.ref (ad i0 11)]) (rest := []) ⟨hx, hb, hml, hown, hts⟩ (r_X6_hasOrderOf_a l D ca kq (ad i0) _ m r N hR hN ) (cwV 1 hts gX10_join_X6_hasOrderOf rfl rfl rfl (by decide +kernel) ⟨(Nat.le_of_ble_eq_true rfl), (Nat.le_of_ble_eq_true rfl)⟩) (xPreV hKN hP hD [3, 4, 5, 6, 7, 8, 9, 10, 11, 12, 13, 14, 15, 16, 17, 18, 19, 20] (by decide +kernel) rfl (q0 := 7) rfl rfl rfl) rfl rfl hl.1 rfl (lv_room (Nat.le_of_ble_eq_true rfl)) dX10_join_26 ⟨(Nat.le_of_ble_eq_true rfl), (Nat.le_of_ble_eq_true rfl)⟩) hP hD hS hA [3, 4, 5, 6, 7, 8, 9, 10, 11, 12, 13, 14, 15, 16, 17, 18, 19, 20] [0, 1, 2] rfl rfl (by decide +kernel) (by decide +kernel) (fun r26 u26 H locs hu26 hP hD hS => ?_)
        have hP : va_P D vwCl ((wX ca f kq ad) ++ (wKd kq) ++ (wMp ca kq (ad i0) u26)) H := hP
        have hD : va_D A ((wX ca f kq ad) ++ (wKd kq) ++ (wMp ca kq (ad i0) u26)) := hD
        obtain ⟨er26, eu26⟩ := hu26
        have eu26 := eu26.symm
        subst eu26
        subst er26
        have hP : va_P D vwCl ((wX ca f kq ad) ++ (wKd kq) ++ (wMp ca kq (ad i0) m)) H := hP
        have hD : va_D A ((wX ca f kq ad) ++ (wKd kq) ++ (wMp ca kq (ad i0) m)) := hD
        refine lv_if_ne (tgt := 42) hx hb dX10_join_29 (by decide) (fun c29 => ?_) (fun c29 => ?_)
        · skip
          refine lv_iload_n hx hb dX10_join_42 rfl (lv_at hl 5 rfl) ?_
          by_cases k43_0 : op = 0
          · refine lv_lookup (tgt := 68) hx hb dX10_join_43 (by decide) (by rw [k43_0] <;> rfl) (by decide) ?_
            subst k43_0
            refine lv_aload hx hb dX10_join_68 (lv_at hl 1 rfl) ?_
            refine lv_aload hx hb dX10_join_70 (lv_at hl 0 rfl) ?_
            refine xcx_i (wr := wX ca f kq ad) (vx_runV (As := [.ref (ad i0 11)]) (rest := []) ⟨hx, hb, hml, hown, hts⟩ (r_X6_unite_a l D ca kq (ad i0) _ hl9 m r N hR hN ) (cwV 1 hts gX10_join_X6_unite rfl rfl rfl (by decide +kernel) ⟨(Nat.le_of_ble_eq_true rfl), (Nat.le_of_ble_eq_true rfl)⟩) (xPreVT hKN hTZ hP hD hS hA [3, 4, 5, 6, 7, 8, 9, 10, 11, 12, 13, 14, 15, 16, 17, 18, 19, 20] (by decide +kernel) rfl (q0 := 7) rfl rfl rfl) rfl rfl hl.1 rfl (lv_room (Nat.le_of_ble_eq_true rfl)) dX10_join_72 ⟨(Nat.le_of_ble_eq_true rfl), (Nat.le_of_ble_eq_true rfl)⟩) hP hD hS hA [3, 4, 5, 6, 7, 8, 9, 10, 11, 12, 13, 14, 15, 16, 17, 18, 19, 20] [0, 1, 2] rfl rfl (by decide +kernel) (by decide +kernel) (fun E9 ce9 q9 u72 H locs hu72 hP hD hS h91 h92 h93 => ?_) (fun r72 u72 H locs hu72 hP hD hS => ?_)
            · skip
              have hP : va_P D vwCl ((wX ca f kq ad) ++ (wKd kq) ++ (wMp ca kq (ad i0) u72)) H := hP
              have hD : va_D A ((wX ca f kq ad) ++ (wKd kq) ++ (wMp ca kq (ad i0) u72)) := hD
              exact hu72.elim
            · skip
              have hP : va_P D vwCl ((wX ca f kq ad) ++ (wKd kq) ++ (wMp ca kq (ad i0) u72)) H := hP
              have hD : va_D A ((wX ca f kq ad) ++ (wKd kq) ++ (wMp ca kq (ad i0) u72)) := hD
              refine W.widen (k := 3) (n := 18) (by omega) (by omega) ?_
              exact vx_ret (W.iret (v := r72) hx hb hr (fun t9 e9 w9 => ⟨⟨_, u72, rfl, hu72, by rw [e9]; exact hP, hD⟩, hS.F e9⟩) hS.2.2 dX10_join_75)
          by_cases k43_1 : op = 1
          · refine lv_lookup (tgt := 76) hx hb dX10_join_43 (by decide) (by rw [k43_1] <;> rfl) (by decide) ?_
            subst k43_1
            refine lv_aload hx hb dX10_join_76 (lv_at hl 1 rfl) ?_
            refine lv_aload hx hb dX10_join_78 (lv_at hl 0 rfl) ?_
            refine xc_i (wr := wX ca f kq ad) (va_runV (As := [.ref (ad i0 11)]) (rest := []) ⟨hx, hb, hml, hown, hts⟩ (r_X6_intersect_a l D ca kq (ad i0) _ m r N hR hN ) (cwV 1 hts gX10_join_X6_intersect rfl rfl rfl (by decide +kernel) ⟨(Nat.le_of_ble_eq_true rfl), (Nat.le_of_ble_eq_true rfl)⟩) (xPreV hKN hP hD [3, 4, 5, 6, 7, 8, 9, 10, 11, 12, 13, 14, 15, 16, 17, 18, 19, 20] (by decide +kernel) rfl (q0 := 7) rfl rfl rfl) rfl rfl hl.1 rfl (lv_room (Nat.le_of_ble_eq_true rfl)) dX10_join_80 ⟨(Nat.le_of_ble_eq_true rfl), (Nat.le_of_ble_eq_true rfl)⟩) hP hD hS hA [3, 4, 5, 6, 7, 8, 9, 10, 11, 12, 13, 14, 15, 16, 17, 18, 19, 20] [0, 1, 2] rfl rfl (by decide +kernel) (by decide +kernel) (fun r80 u80 H locs hu80 hP hD hS => ?_)
            have hP : va_P D vwCl ((wX ca f kq ad) ++ (wKd kq) ++ (wMp ca kq (ad i0) u80)) H := hP
            have hD : va_D A ((wX ca f kq ad) ++ (wKd kq) ++ (wMp ca kq (ad i0) u80)) := hD
            refine W.widen (k := 3) (n := 18) (by omega) (by omega) ?_
            exact vx_ret (W.iret (v := r80) hx hb hr (fun t9 e9 w9 => ⟨⟨_, u80, rfl, hu80, by rw [e9]; exact hP, hD⟩, hS.F e9⟩) hS.2.2 dX10_join_83)
          refine lv_lookup (tgt := 84) hx hb dX10_join_43 (by decide) (off := 41) (by rw [lv_osw k43_0 (by decide)]; rw [lv_osw k43_1 (by decide)]; rfl) (by decide) ?_
          obtain rfl := op_2 c19 k43_0 k43_1
          refine lv_aload hx hb dX10_join_84 (lv_at hl 1 rfl) ?_
          refine lv_aload hx hb dX10_join_86 (lv_at hl 0 rfl) ?_
          refine xc_i (wr := wX ca f kq ad) (va_runV (As := [.ref (ad i0 11)]) (rest := []) ⟨hx, hb, hml, hown, hts⟩ (r_X6_subtract_a l D ca kq (ad i0) _ m r N hR hN ) (cwV 1 hts gX10_join_X6_subtract rfl rfl rfl (by decide +kernel) ⟨(Nat.le_of_ble_eq_true rfl), (Nat.le_of_ble_eq_true rfl)⟩) (xPreV hKN hP hD [3, 4, 5, 6, 7, 8, 9, 10, 11, 12, 13, 14, 15, 16, 17, 18, 19, 20] (by decide +kernel) rfl (q0 := 7) rfl rfl rfl) rfl rfl hl.1 rfl (lv_room (Nat.le_of_ble_eq_true rfl)) dX10_join_88 ⟨(Nat.le_of_ble_eq_true rfl), (Nat.le_of_ble_eq_true rfl)⟩) hP hD hS hA [3, 4, 5, 6, 7, 8, 9, 10, 11, 12, 13, 14, 15, 16, 17, 18, 19, 20] [0, 1, 2] rfl rfl (by decide +kernel) (by decide +kernel) (fun r88 u88 H locs hu88 hP hD hS => ?_)
          have hP : va_P D vwCl ((wX ca f kq ad) ++ (wKd kq) ++ (wMp ca kq (ad i0) u88)) H := hP
          have hD : va_D A ((wX ca f kq ad) ++ (wKd kq) ++ (wMp ca kq (ad i0) u88)) := hD
          refine W.widen (k := 3) (n := 18) (by omega) (by omega) ?_
          exact vx_ret (W.iret (v := r88) hx hb hr (fun t9 e9 w9 => ⟨⟨_, u88, rfl, hu88, by rw [e9]; exact hP, hD⟩, hS.F e9⟩) hS.2.2 dX10_join_91)
        · skip
          exact absurd c29 (by decide)

-- TreeFamily.split
theorem inT_X10_split_eIA : ∀ w ∈ (vx_atS RX10 48 eIA eNs).filter goodWord, w ∈ wsX10_split := by decide +kernel
set_option maxHeartbeats 4000000 in
set_option maxRecDepth 100000 in
theorem c_X10_split (l : Launch) (D : va_G) (ca : Nat → ClassId) (f kq : Nat → Nat) (ad : Nat → Nat → Nat) (sz : Nat) (hl9 : l.stackTraces = false) (i0 i1 : Nat) (m m2 : MS) (r s2 : RW) (N : Nat) (mm key nn : Int32) (hR : Rel1 N m r) (hR2 : Rel1 N m2 s2) (hN : N ≤ 1000000) (hm : isB mm 3 = true → mm = nI i0 ∧ i0 < 3) (hn : isB nn 3 = true → nn = nI i1 ∧ i1 < 3) (hne : ¬ i0 = i1) : vx_Met l yX10_split wsX10_split ({ frames := 67, cells := 3, slots := 18, locals := 1665 } : Room) (xPcT D (TY ca) [.ref (f 0), .int mm, .int key, .int nn] ((wX ca f kq ad) ++ (wKd kq) ++ (wMp ca kq (ad i0) m) ++ (wMp ca kq (ad i1) m2)) sz) (va_Qi (fun (x : Int32) (u : M2) => isB mm 3 = true ∧ isB nn 3 = true ∧ x = nI (r.en.length - plE r.od key r.en) ∧ Rel1 (N + 61) u.1 (spR key r) ∧ Rel1 (N + 61) u.2 (spT key r s2 (r.en.length - plE r.od key r.en))) (xB D (wF2 ca f kq ad i0 i1) (va_A ((wX ca f kq ad) ++ (wKd kq) ++ (wMp ca kq (ad i0) m) ++ (wMp ca kq (ad i1) m2)) sz)) (va_A ((wX ca f kq ad) ++ (wKd kq) ++ (wMp ca kq (ad i0) m) ++ (wMp ca kq (ad i1) m2)) sz)) (xX D (wF2 ca f kq ad i0 i1) (va_A ((wX ca f kq ad) ++ (wKd kq) ++ (wMp ca kq (ad i0) m) ++ (wMp ca kq (ad i1) m2)) sz) (fun (E : String) (u : M2) => E = eIA ∧ (isB mm 3 = false ∨ isB nn 3 = false) ∧ Rel1 (N + 61) u.1 r ∧ Rel1 (N + 61) u.2 s2)) 3 18 (va_A ((wX ca f kq ad) ++ (wKd kq) ++ (wMp ca kq (ad i0) m) ++ (wMp ca kq (ad i1) m2)) sz) := by
  refine vx_ofW (cc := cX10_split) (maxL := 6) (ret := (some .int)) (by decide) rfl ?_
  intro p e s m9 args below meth c s₁ B hml hno hv
  obtain ⟨rfl, hsz, hP, hKN, hD0, hTZ⟩ := hv
  have hx := B.exec
  have hb := B.bytes
  have hr := B.returns
  have hts := atoms_spec (ws := wsX10_split) B.pre
  have hown : s.vm.findClass RX10 = some m9.cls := findClass_of_methodNamed B.named
  have hlocks := B.notSynchronized
  subst hsz
  have hD := hD0.self (sz := s.heap.size)
  generalize hAe : va_A ((wX ca f kq ad) ++ (wKd kq) ++ (wMp ca kq (ad i0) m) ++ (wMp ca kq (ad i1) m2)) s.heap.size = A at hD hTZ ⊢
  have hA : ∀ q : Nat, s.heap.size ≤ q → A q := fun q h => by rw [← hAe]; exact Or.inr h
  have hS : va_S A s.heap s.heap [] := va_S.rf
  have hl := lv_entry ([.ref (f 0), .int mm, .int key, .int nn]) (n := 6) (Nat.le_of_ble_eq_true rfl)
  rw [lg_entry_eq]
  generalize (lg_sl ([.ref (f 0), .int mm, .int key, .int nn]) ++ List.replicate (6 - (lg_sl ([.ref (f 0), .int mm, .int key, .int nn])).length) Slot.unset).toArray = ls at hl ⊢
  have hl : lv_has ls 6 [(0, .ref (f 0)), (1, .int mm), (2, .int key), (3, .int nn)] := hl
  refine lv_aload_n hx hb dX10_split_0 rfl (lv_at hl 0 rfl) ?_
  refine lv_iload_n hx hb dX10_split_1 rfl (lv_at hl 1 rfl) ?_
  refine xcx_r (wr := (wKd kq) ++ (wMp ca kq (ad i0) m) ++ (wMp ca kq (ad i1) m2)) (vx_runV (As := [.int mm]) (rest := []) ⟨hx, hb, hml, hown, hts⟩ (c_X10_mapAt l D ca f kq ad _ hl9 mm i0 hm) (cwV 1 hts gX10_split_X10_mapAt rfl rfl rfl (by decide +kernel) ⟨(Nat.le_of_ble_eq_true rfl), (Nat.le_of_ble_eq_true rfl)⟩) (xPreVT hKN hTZ hP hD hS hA [0, 1, 2] (by decide +kernel) rfl (q0 := 0) rfl rfl rfl) rfl rfl hl.1 rfl (lv_room (Nat.le_of_ble_eq_true rfl)) dX10_split_2 ⟨(Nat.le_of_ble_eq_true rfl), (Nat.le_of_ble_eq_true rfl)⟩) hP hD hS hA [0, 1, 2] [3, 4, 5, 6, 7, 8, 9, 10, 11, 12, 13, 14, 15, 16, 17, 18, 19, 20, 21, 22, 23, 24, 25, 26, 27, 28, 29, 30, 31, 32, 33, 34] rfl rfl (by decide +kernel) (by decide +kernel) (fun E9 ce9 q9 u2 H locs hu2 hP hD hS h91 h92 h93 => ?_) (fun ra u2 H locs hu2 hra2 hP hD hS => ?_)
  · skip
    obtain ⟨eE, hB2⟩ := hu2
    have hP : va_P D vwCl ((wX ca f kq ad) ++ (wKd kq) ++ (wMp ca kq (ad i0) m) ++ (wMp ca kq (ad i1) m2)) H := hP.sub (ws' := (wX ca f kq ad) ++ (wKd kq) ++ (wMp ca kq (ad i0) m) ++ (wMp ca kq (ad i1) m2)) [32, 33, 34, 0, 1, 2, 3, 4, 5, 6, 7, 8, 9, 10, 11, 12, 13, 14, 15, 16, 17, 18, 19, 20, 21, 22, 23, 24, 25, 26, 27, 28, 29, 30, 31] rfl
    have hD : va_D A ((wX ca f kq ad) ++ (wKd kq) ++ (wMp ca kq (ad i0) m) ++ (wMp ca kq (ad i1) m2)) := hD.sub (ws' := (wX ca f kq ad) ++ (wKd kq) ++ (wMp ca kq (ad i0) m) ++ (wMp ca kq (ad i1) m2)) [32, 33, 34, 0, 1, 2, 3, 4, 5, 6, 7, 8, 9, 10, 11, 12, 13, 14, 15, 16, 17, 18, 19, 20, 21, 22, 23, 24, 25, 26, 27, 28, 29, 30, 31] (by decide +kernel) rfl
    exact vx_out (fun x h => (hno x h).elim) hlocks h91 h92 h93 (fun t9 e9 _ => xX_on (m, m2) ⟨eE, Or.inl hB2, rel_mono hR (by omega), rel_mono hR2 (by omega)⟩ hP hD hS e9) hS.2.2 (by omega) (by omega)
  · skip
    have hP : va_P D vwCl ((wX ca f kq ad) ++ (wKd kq) ++ (wMp ca kq (ad i0) m) ++ (wMp ca kq (ad i1) m2)) H := hP.sub (ws' := (wX ca f kq ad) ++ (wKd kq) ++ (wMp ca kq (ad i0) m) ++ (wMp ca kq (ad i1) m2)) [32, 33, 34, 0, 1, 2, 3, 4, 5, 6, 7, 8, 9, 10, 11, 12, 13, 14, 15, 16, 17, 18, 19, 20, 21, 22, 23, 24, 25, 26, 27, 28, 29, 30, 31] rfl
    have hD : va_D A ((wX ca f kq ad) ++ (wKd kq) ++ (wMp ca kq (ad i0) m) ++ (wMp ca kq (ad i1) m2)) := hD.sub (ws' := (wX ca f kq ad) ++ (wKd kq) ++ (wMp ca kq (ad i0) m) ++ (wMp ca kq (ad i1) m2)) [32, 33, 34, 0, 1, 2, 3, 4, 5, 6, 7, 8, 9, 10, 11, 12, 13, 14, 15, 16, 17, 18, 19, 20, 21, 22, 23, 24, 25, 26, 27, 28, 29, 30, 31] (by decide +kernel) rfl
    obtain ⟨hm2, hB2⟩ := hu2
    subst hra2
    have hi3_2 := (hm hB2).2
    subst hm2
    refine lv_astore (lv' := [(4, .ref (ad i0 11)), (0, .ref (f 0)), (1, .int (nI i0)), (2, .int key), (3, .int nn)]) hx hb dX10_split_5 hl (by decide) rfl (fun ls hl => ?_)
    refine lv_aload_n hx hb dX10_split_7 rfl (lv_at hl 1 rfl) ?_
    refine lv_iload_n hx hb dX10_split_8 rfl (lv_at hl 4 rfl) ?_
    refine xcx_r (wr := (wKd kq) ++ (wMp ca kq (ad i0) m) ++ (wMp ca kq (ad i1) m2)) (vx_runV (As := [.int nn]) (rest := []) ⟨hx, hb, hml, hown, hts⟩ (c_X10_mapAt l D ca f kq ad _ hl9 nn i1 hn) (cwV 1 hts gX10_split_X10_mapAt rfl rfl rfl (by decide +kernel) ⟨(Nat.le_of_ble_eq_true rfl), (Nat.le_of_ble_eq_true rfl)⟩) (xPreVT hKN hTZ hP hD hS hA [0, 1, 2] (by decide +kernel) rfl (q0 := 0) rfl rfl rfl) rfl rfl hl.1 rfl (lv_room (Nat.le_of_ble_eq_true rfl)) dX10_split_9 ⟨(Nat.le_of_ble_eq_true rfl), (Nat.le_of_ble_eq_true rfl)⟩) hP hD hS hA [0, 1, 2] [3, 4, 5, 6, 7, 8, 9, 10, 11, 12, 13, 14, 15, 16, 17, 18, 19, 20, 21, 22, 23, 24, 25, 26, 27, 28, 29, 30, 31, 32, 33, 34] rfl rfl (by decide +kernel) (by decide +kernel) (fun E9 ce9 q9 u9 H locs hu9 hP hD hS h91 h92 h93 => ?_) (fun ra u9 H locs hu9 hra9 hP hD hS => ?_)
    · skip
      obtain ⟨eE, hB9⟩ := hu9
      have hP : va_P D vwCl ((wX ca f kq ad) ++ (wKd kq) ++ (wMp ca kq (ad i0) m) ++ (wMp ca kq (ad i1) m2)) H := hP.sub (ws' := (wX ca f kq ad) ++ (wKd kq) ++ (wMp ca kq (ad i0) m) ++ (wMp ca kq (ad i1) m2)) [32, 33, 34, 0, 1, 2, 3, 4, 5, 6, 7, 8, 9, 10, 11, 12, 13, 14, 15, 16, 17, 18, 19, 20, 21, 22, 23, 24, 25, 26, 27, 28, 29, 30, 31] rfl
      have hD : va_D A ((wX ca f kq ad) ++ (wKd kq) ++ (wMp ca kq (ad i0) m) ++ (wMp ca kq (ad i1) m2)) := hD.sub (ws' := (wX ca f kq ad) ++ (wKd kq) ++ (wMp ca kq (ad i0) m) ++ (wMp ca kq (ad i1) m2)) [32, 33, 34, 0, 1, 2, 3, 4, 5, 6, 7, 8, 9, 10, 11, 12, 13, 14, 15, 16, 17, 18, 19, 20, 21, 22, 23, 24, 25, 26, 27, 28, 29, 30, 31] (by decide +kernel) rfl
      exact vx_out (fun x h => (hno x h).elim) hlocks h91 h92 h93 (fun t9 e9 _ => xX_on (m, m2) ⟨eE, Or.inr hB9, rel_mono hR (by omega), rel_mono hR2 (by omega)⟩ hP hD hS e9) hS.2.2 (by omega) (by omega)
    · skip
      have hP : va_P D vwCl ((wX ca f kq ad) ++ (wKd kq) ++ (wMp ca kq (ad i0) m) ++ (wMp ca kq (ad i1) m2)) H := hP.sub (ws' := (wX ca f kq ad) ++ (wKd kq) ++ (wMp ca kq (ad i0) m) ++ (wMp ca kq (ad i1) m2)) [32, 33, 34, 0, 1, 2, 3, 4, 5, 6, 7, 8, 9, 10, 11, 12, 13, 14, 15, 16, 17, 18, 19, 20, 21, 22, 23, 24, 25, 26, 27, 28, 29, 30, 31] rfl
      have hD : va_D A ((wX ca f kq ad) ++ (wKd kq) ++ (wMp ca kq (ad i0) m) ++ (wMp ca kq (ad i1) m2)) := hD.sub (ws' := (wX ca f kq ad) ++ (wKd kq) ++ (wMp ca kq (ad i0) m) ++ (wMp ca kq (ad i1) m2)) [32, 33, 34, 0, 1, 2, 3, 4, 5, 6, 7, 8, 9, 10, 11, 12, 13, 14, 15, 16, 17, 18, 19, 20, 21, 22, 23, 24, 25, 26, 27, 28, 29, 30, 31] (by decide +kernel) rfl
      obtain ⟨hm9, hB9⟩ := hu9
      subst hra9
      have hi3_9 := (hn hB9).2
      subst hm9
      refine lv_astore (lv' := [(5, .ref (ad i1 11)), (4, .ref (ad i0 11)), (0, .ref (f 0)), (1, .int (nI i0)), (2, .int key), (3, .int (nI i1))]) hx hb dX10_split_12 hl (by decide) rfl (fun ls hl => ?_)
      refine lv_iload_n hx hb dX10_split_14 rfl (lv_at hl 5 rfl) ?_
      refine lv_iload_n hx hb dX10_split_15 rfl (lv_at hl 3 rfl) ?_
      refine lv_icmp_ne (tgt := 29) hx hb dX10_split_16 (by decide) (fun c16 => ?_) (fun c16 => ?_)
      · skip
        refine lv_aload hx hb dX10_split_29 (lv_at hl 1 rfl) ?_
        refine lv_iload_n hx hb dX10_split_31 rfl (lv_at hl 4 rfl) ?_
        refine lv_aload hx hb dX10_split_32 (lv_at hl 0 rfl) ?_
        refine xc_i (wr := wX ca f kq ad) (va_runV (As := [.int key, .ref (ad i1 11)]) (rest := []) ⟨hx, hb, hml, hown, hts⟩ (r_X6_moveBehind l D ca kq (ad i0) _ (ad i1) m r m2 s2 N hR hR2 hN key) (cwV 2 hts gX10_split_X6_moveBehind rfl rfl rfl (by decide +kernel) ⟨(Nat.le_of_ble_eq_true rfl), (Nat.le_of_ble_eq_true rfl)⟩) (xPreV hKN hP hD [3, 4, 5, 6, 7, 8, 9, 10, 11, 12, 13, 14, 15, 16, 17, 18, 19, 20, 21, 22, 23, 24, 25, 26, 27, 28, 29, 30, 31, 32, 33, 34] (by decide +kernel) rfl (q0 := 7) rfl rfl rfl) rfl rfl hl.1 rfl (lv_room (Nat.le_of_ble_eq_true rfl)) dX10_split_34 ⟨(Nat.le_of_ble_eq_true rfl), (Nat.le_of_ble_eq_true rfl)⟩) hP hD hS hA [3, 4, 5, 6, 7, 8, 9, 10, 11, 12, 13, 14, 15, 16, 17, 18, 19, 20, 21, 22, 23, 24, 25, 26, 27, 28, 29, 30, 31, 32, 33, 34] [0, 1, 2] rfl rfl (by decide +kernel) (by decide +kernel) (fun r34 u34 H locs hu34 hP hD hS => ?_)
        have hP : va_P D vwCl ((wX ca f kq ad) ++ (wKd kq) ++ (wMp ca kq (ad i0) u34.1) ++ (wMp ca kq (ad i1) u34.2)) H := hP
        have hD : va_D A ((wX ca f kq ad) ++ (wKd kq) ++ (wMp ca kq (ad i0) u34.1) ++ (wMp ca kq (ad i1) u34.2)) := hD
        refine W.widen (k := 3) (n := 18) (by omega) (by omega) ?_
        exact vx_ret (W.iret (v := r34) hx hb hr (fun t9 e9 w9 => ⟨⟨_, u34, rfl, ⟨hB2, hB9, hu34⟩, by rw [e9]; exact hP, hD⟩, hS.F e9⟩) hS.2.2 dX10_split_37)
      · skip
        exact absurd (nI3 (by omega) (by omega) c16) (fun h9 => hne h9.symm)

-- TreeFamily.split
set_option maxHeartbeats 4000000 in
set_option maxRecDepth 100000 in
theorem c_X10_split_a (l : Launch) (D : va_G) (ca : Nat → ClassId) (f kq : Nat → Nat) (ad : Nat → Nat → Nat) (sz : Nat) (hl9 : l.stackTraces = false) (i0 : Nat) (m : MS) (r : RW) (N : Nat) (key : Int32) (hR : Rel1 N m r) (hN : N ≤ 1000000) (hi0 : i0 < 3) (hm : isB (nI i0) 3 = true → nI i0 = nI i0 ∧ i0 < 3) : vx_Met l yX10_split wsX10_split ({ frames := 67, cells := 3, slots := 18, locals := 1665 } : Room) (xPcT D (TY ca) [.ref (f 0), .int (nI i0), .int key, .int (nI i0)] ((wX ca f kq ad) ++ (wKd kq) ++ (wMp ca kq (ad i0) m)) sz) (va_Qi (fun (x : Int32) (u : MS) => False) (xB D (wF1 ca f kq ad i0) (va_A ((wX ca f kq ad) ++ (wKd kq) ++ (wMp ca kq (ad i0) m)) sz)) (va_A ((wX ca f kq ad) ++ (wKd kq) ++ (wMp ca kq (ad i0) m)) sz)) (xX D (wF1 ca f kq ad i0) (va_A ((wX ca f kq ad) ++ (wKd kq) ++ (wMp ca kq (ad i0) m)) sz) (fun (E : String) (u : MS) => E = eIA ∧ Rel1 (N + 61) u r)) 3 18 (va_A ((wX ca f kq ad) ++ (wKd kq) ++ (wMp ca kq (ad i0) m)) sz) := by
  refine vx_ofW (cc := cX10_split) (maxL := 6) (ret := (some .int)) (by decide) rfl ?_
  intro p e s m9 args below meth c s₁ B hml hno hv
  obtain ⟨rfl, hsz, hP, hKN, hD0, hTZ⟩ := hv
  have hx := B.exec
  have hb := B.bytes
  have hr := B.returns
  have hts := atoms_spec (ws := wsX10_split) B.pre
  have hown : s.vm.findClass RX10 = some m9.cls := findClass_of_methodNamed B.named
  have hlocks := B.notSynchronized
  subst hsz
  have hD := hD0.self (sz := s.heap.size)
  generalize hAe : va_A ((wX ca f kq ad) ++ (wKd kq) ++ (wMp ca kq (ad i0) m)) s.heap.size = A at hD hTZ ⊢
  have hA : ∀ q : Nat, s.heap.size ≤ q → A q := fun q h => by rw [← hAe]; exact Or.inr h
  have hS : va_S A s.heap s.heap [] := va_S.rf
  have hl := lv_entry ([.ref (f 0), .int (nI i0), .int key, .int (nI i0)]) (n := 6) (Nat.le_of_ble_eq_true rfl)
  rw [lg_entry_eq]
  generalize (lg_sl ([.ref (f 0), .int (nI i0), .int key, .int (nI i0)]) ++ List.replicate (6 - (lg_sl ([.ref (f 0), .int (nI i0), .int key, .int (nI i0)])).length) Slot.unset).toArray = ls at hl ⊢
  have hl : lv_has ls 6 [(0, .ref (f 0)), (1, .int (nI i0)), (2, .int key), (3, .int (nI i0))] := hl
  refine lv_aload_n hx hb dX10_split_0 rfl (lv_at hl 0 rfl) ?_
  refine lv_iload_n hx hb dX10_split_1 rfl (lv_at hl 1 rfl) ?_
  refine xcx_r (wr := (wKd kq) ++ (wMp ca kq (ad i0) m)) (vx_runV (As := [.int (nI i0)]) (rest := []) ⟨hx, hb, hml, hown, hts⟩ (c_X10_mapAt l D ca f kq ad _ hl9 (nI i0) i0 hm) (cwV 1 hts gX10_split_X10_mapAt rfl rfl rfl (by decide +kernel) ⟨(Nat.le_of_ble_eq_true rfl), (Nat.le_of_ble_eq_true rfl)⟩) (xPreVT hKN hTZ hP hD hS hA [0, 1, 2] (by decide +kernel) rfl (q0 := 0) rfl rfl rfl) rfl rfl hl.1 rfl (lv_room (Nat.le_of_ble_eq_true rfl)) dX10_split_2 ⟨(Nat.le_of_ble_eq_true rfl), (Nat.le_of_ble_eq_true rfl)⟩) hP hD hS hA [0, 1, 2] [3, 4, 5, 6, 7, 8, 9, 10, 11, 12, 13, 14, 15, 16, 17, 18, 19, 20] rfl rfl (by decide +kernel) (by decide +kernel) (fun E9 ce9 q9 u2 H locs hu2 hP hD hS h91 h92 h93 => ?_) (fun ra u2 H locs hu2 hra2 hP hD hS => ?_)
  · skip
    obtain ⟨eE, hB2⟩ := hu2
    have hP : va_P D vwCl ((wX ca f kq ad) ++ (wKd kq) ++ (wMp ca kq (ad i0) m)) H := hP.sub (ws' := (wX ca f kq ad) ++ (wKd kq) ++ (wMp ca kq (ad i0) m)) [18, 19, 20, 0, 1, 2, 3, 4, 5, 6, 7, 8, 9, 10, 11, 12, 13, 14, 15, 16, 17] rfl
    have hD : va_D A ((wX ca f kq ad) ++ (wKd kq) ++ (wMp ca kq (ad i0) m)) := hD.sub (ws' := (wX ca f kq ad) ++ (wKd kq) ++ (wMp ca kq (ad i0) m)) [18, 19, 20, 0, 1, 2, 3, 4, 5, 6, 7, 8, 9, 10, 11, 12, 13, 14, 15, 16, 17] (by decide +kernel) rfl
    exact absurd (hB2.symm.trans (isB3_ok hi0)) (by decide)
  · skip
    have hP : va_P D vwCl ((wX ca f kq ad) ++ (wKd kq) ++ (wMp ca kq (ad i0) m)) H := hP.sub (ws' := (wX ca f kq ad) ++ (wKd kq) ++ (wMp ca kq (ad i0) m)) [18, 19, 20, 0, 1, 2, 3, 4, 5, 6, 7, 8, 9, 10, 11, 12, 13, 14, 15, 16, 17] rfl
    have hD : va_D A ((wX ca f kq ad) ++ (wKd kq) ++ (wMp ca kq (ad i0) m)) := hD.sub (ws' := (wX ca f kq ad) ++ (wKd kq) ++ (wMp ca kq (ad i0) m)) [18, 19, 20, 0, 1, 2, 3, 4, 5, 6, 7, 8, 9, 10, 11, 12, 13, 14, 15, 16, 17] (by decide +kernel) rfl
    obtain ⟨hm2, hB2⟩ := hu2
    subst hra2
    have hi3_2 := (hm hB2).2
    refine lv_astore (lv' := [(4, .ref (ad i0 11)), (0, .ref (f 0)), (1, .int (nI i0)), (2, .int key), (3, .int (nI i0))]) hx hb dX10_split_5 hl (by decide) rfl (fun ls hl => ?_)
    refine lv_aload_n hx hb dX10_split_7 rfl (lv_at hl 1 rfl) ?_
    refine lv_iload_n hx hb dX10_split_8 rfl (lv_at hl 4 rfl) ?_
    refine xcx_r (wr := (wKd kq) ++ (wMp ca kq (ad i0) m)) (vx_runV (As := [.int (nI i0)]) (rest := []) ⟨hx, hb, hml, hown, hts⟩ (c_X10_mapAt l D ca f kq ad _ hl9 (nI i0) i0 hm) (cwV 1 hts gX10_split_X10_mapAt rfl rfl rfl (by decide +kernel) ⟨(Nat.le_of_ble_eq_true rfl), (Nat.le_of_ble_eq_true rfl)⟩) (xPreVT hKN hTZ hP hD hS hA [0, 1, 2] (by decide +kernel) rfl (q0 := 0) rfl rfl rfl) rfl rfl hl.1 rfl (lv_room (Nat.le_of_ble_eq_true rfl)) dX10_split_9 ⟨(Nat.le_of_ble_eq_true rfl), (Nat.le_of_ble_eq_true rfl)⟩) hP hD hS hA [0, 1, 2] [3, 4, 5, 6, 7, 8, 9, 10, 11, 12, 13, 14, 15, 16, 17, 18, 19, 20] rfl rfl (by decide +kernel) (by decide +kernel) (fun E9 ce9 q9 u9 H locs hu9 hP hD hS h91 h92 h93 => ?_) (fun ra u9 H locs hu9 hra9 hP hD hS => ?_)
    · skip
      obtain ⟨eE, hB9⟩ := hu9
      have hP : va_P D vwCl ((wX ca f kq ad) ++ (wKd kq) ++ (wMp ca kq (ad i0) m)) H := hP.sub (ws' := (wX ca f kq ad) ++ (wKd kq) ++ (wMp ca kq (ad i0) m)) [18, 19, 20, 0, 1, 2, 3, 4, 5, 6, 7, 8, 9, 10, 11, 12, 13, 14, 15, 16, 17] rfl
      have hD : va_D A ((wX ca f kq ad) ++ (wKd kq) ++ (wMp ca kq (ad i0) m)) := hD.sub (ws' := (wX ca f kq ad) ++ (wKd kq) ++ (wMp ca kq (ad i0) m)) [18, 19, 20, 0, 1, 2, 3, 4, 5, 6, 7, 8, 9, 10, 11, 12, 13, 14, 15, 16, 17] (by decide +kernel) rfl
      exact absurd (hB9.symm.trans (isB3_ok hi0)) (by decide)
    · skip
      have hP : va_P D vwCl ((wX ca f kq ad) ++ (wKd kq) ++ (wMp ca kq (ad i0) m)) H := hP.sub (ws' := (wX ca f kq ad) ++ (wKd kq) ++ (wMp ca kq (ad i0) m)) [18, 19, 20, 0, 1, 2, 3, 4, 5, 6, 7, 8, 9, 10, 11, 12, 13, 14, 15, 16, 17] rfl
      have hD : va_D A ((wX ca f kq ad) ++ (wKd kq) ++ (wMp ca kq (ad i0) m)) := hD.sub (ws' := (wX ca f kq ad) ++ (wKd kq) ++ (wMp ca kq (ad i0) m)) [18, 19, 20, 0, 1, 2, 3, 4, 5, 6, 7, 8, 9, 10, 11, 12, 13, 14, 15, 16, 17] (by decide +kernel) rfl
      obtain ⟨hm9, hB9⟩ := hu9
      subst hra9
      have hi3_9 := (hm hB9).2
      refine lv_astore (lv' := [(5, .ref (ad i0 11)), (4, .ref (ad i0 11)), (0, .ref (f 0)), (1, .int (nI i0)), (2, .int key), (3, .int (nI i0))]) hx hb dX10_split_12 hl (by decide) rfl (fun ls hl => ?_)
      refine lv_iload_n hx hb dX10_split_14 rfl (lv_at hl 5 rfl) ?_
      refine lv_iload_n hx hb dX10_split_15 rfl (lv_at hl 3 rfl) ?_
      refine lv_icmp_ne (tgt := 29) hx hb dX10_split_16 (by decide) (fun c16 => ?_) (fun c16 => ?_)
      · skip
        exact absurd rfl c16
      · skip
        obtain ⟨sa9, hsa⟩ := NW.s hKN.2 (a := RX10) (i := 148) (b := "a map is not split into itself") (by decide +kernel)
        exact vx_throwS (A := A) hx hb hl9 hown (by decide +kernel) hns_X (hts (.classLink RX10 44 eIA) (by decide +kernel)) (hts (.initialized eIA) (by decide +kernel)) hsa (hat_X10_eIA hKN.2 (fun w h => hts w (inT_X10_split_eIA w h))) hgo_X10_eIA_44 hTZ.1 hTZ.2 hS (hl.1.trans hml.symm) dX10_split_19 dX10_split_22 dX10_split_23 dX10_split_25 dX10_split_28 (fun x h => (hno x h).elim) (Nat.le_of_ble_eq_true rfl) (Nat.le_of_ble_eq_true rfl) (Nat.le_of_ble_eq_true rfl) (Nat.le_of_ble_eq_true rfl) hlocks (fun t9 _ hz9 hk9 => xX_of m (⟨rfl, rel_mono hR (by omega)⟩) hP hD hS hz9 hk9) hS.2.2 (by omega) (by omega)
