def wF1 (ca : Nat → ClassId) (f kq : Nat → Nat) (ad : Nat → Nat → Nat) (i0 : Nat) (m : MS) : va_W := (wX ca f kq ad) ++ (wKd kq) ++ (wMp ca kq (ad i0) m)
theorem F_enter_nar (key v : Int32) (r : RW) : narrow .boolean (.int (F_enter key v r).1) = .int (F_enter key v r).1 := by
  by_cases h : (F_enter key v r).1 = 0
  · rw [h]; rfl
  · rw [F_enter_1 h]; rfl
theorem F_remove_nar (key : Int32) (r : RW) : narrow .boolean (.int (F_remove key r).1) = .int (F_remove key r).1 := by
  rcases hit_or r.od key r.en with h | h
  · rw [F_remove_1 h]; show narrow .boolean (.int 1) = .int 1; rfl
  · rw [F_remove_0 h]; show narrow .boolean (.int 0) = .int 0; rfl
theorem sel_r {i x : Int32} {r : RW} {k : Nat} (hl : r.en.length ≤ 60) (h1 : k < r.en.length) (h2 : i = nI k) (h3 : x = (r.en.getD k (0, 0)).1) : F_select i r = (x, 0, r) := by
  have hk : iN i = k := by
    rw [h2]
    unfold iN
    rw [show (nI k).toInt = k from Int32.toInt_ofNat_of_lt (by omega)]
    omega
  refine F_select_1 ?_ (by rw [hk]; exact h3.symm)
  rw [h2]
  exact isB_in (fun q => by have := (xn_lt (a := k) (b := 0) (by omega) (by omega)).mp q; omega) (fun q => by have := (xn_le (by omega) (by omega)).mp q; omega)
theorem sel_t {i : Int32} {r : RW} (hl : r.en.length ≤ 60) (h1 : ∀ k, k < r.en.length → i ≠ nI k) : F_select i r = (0, 2, r) := by
  refine F_select_0 ?_
  cases e : isB i (nI r.en.length) with
  | false => rfl
  | true =>
    obtain ⟨a1, a2⟩ := isB_nN (by omega) e
    exact absurd a2 (h1 _ a1)
theorem nk_1 {which : Int32} {p : Nat} {b : Bool} (h : which = 1) : nearK which p b = p + 1 := by unfold nearK; exact if_pos h
theorem nk_2 {which : Int32} {p : Nat} {b : Bool} (h : which = 2) : nearK which p b = p := by subst h; rfl
theorem nk_0 {which : Int32} {p : Nat} {b : Bool} (h : which = 0) : nearK which p b = p + (if b = true then 1 else 0) := by subst h; cases b <;> rfl
theorem nk_3 {which : Int32} {p : Nat} {b : Bool} (h : which = 3) : nearK which p b = p + (if b = true then 1 else 0) + 1 := by subst h; cases b <;> rfl
-- TreeFamily.mapAt
theorem inT_X10_mapAt_eIA : ∀ w ∈ (vx_atS RX10 48 eIA eNs).filter goodWord, w ∈ wsX10_mapAt := by decide +kernel
set_option maxHeartbeats 4000000 in
set_option maxRecDepth 100000 in
theorem c_X10_mapAt (l : Launch) (D : va_G) (ca : Nat → ClassId) (f kq : Nat → Nat) (ad : Nat → Nat → Nat) (sz : Nat) (hl9 : l.stackTraces = false) (mm : Int32) (i0 : Nat) (hm : isB mm 3 = true → mm = nI i0 ∧ i0 < 3) : vx_Met l yX10_mapAt wsX10_mapAt ({ frames := 6, cells := 1, slots := 6, locals := 90 } : Room) (xPcT D (TY ca) [.ref (f 0), .int mm] (wX ca f kq ad) sz) (va_Qr (fun _ : Unit => mm = nI i0 ∧ isB mm 3 = true) (fun u ra t => ra = ad i0 11 ∧ xB D (fun _ : Unit => wX ca f kq ad) (va_A (wX ca f kq ad) sz) u t) (va_A (wX ca f kq ad) sz)) (xX D (fun _ : Unit => wX ca f kq ad) (va_A (wX ca f kq ad) sz) (fun (E : String) (_ : Unit) => E = eIA ∧ isB mm 3 = false)) 1 6 (va_A (wX ca f kq ad) sz) := by
  refine vx_ofW (cc := cX10_mapAt) (maxL := 2) (ret := (some (.object "TreeFamily$OneMap"))) (by decide) rfl ?_
  intro p e s m args below meth c s₁ B hml hno hv
  obtain ⟨rfl, hsz, hP, hKN, hD0, hTZ⟩ := hv
  have hx := B.exec
  have hb := B.bytes
  have hr := B.returns
  have hts := atoms_spec (ws := wsX10_mapAt) B.pre
  have hown : s.vm.findClass RX10 = some m.cls := findClass_of_methodNamed B.named
  have hlocks := B.notSynchronized
  have inX10 : ∀ w ∈ wsX100, w ∈ wsX10_mapAt := by decide +kernel
  subst hsz
  have hD := hD0.self (sz := s.heap.size)
  generalize hAe : va_A (wX ca f kq ad) s.heap.size = A at hD hTZ ⊢
  have hA : ∀ q : Nat, s.heap.size ≤ q → A q := fun q h => by rw [← hAe]; exact Or.inr h
  have hS : va_S A s.heap s.heap [] := va_S.rf
  have hl := lv_entry ([.ref (f 0), .int mm]) (n := 2) (Nat.le_of_ble_eq_true rfl)
  rw [lg_entry_eq]
  generalize (lg_sl ([.ref (f 0), .int mm]) ++ List.replicate (2 - (lg_sl ([.ref (f 0), .int mm])).length) Slot.unset).toArray = ls at hl ⊢
  have hl : lv_has ls 2 [(0, .ref (f 0)), (1, .int mm)] := hl
  refine lv_iload_n hx hb dX10_mapAt_0 rfl (lv_at hl 1 rfl) ?_
  refine lv_iconst (v := 3) hx hb dX10_mapAt_1 (by decide) ?_
  refine xs_i (va_runS (As := [.int mm, .int 3]) (rest := []) ⟨hx, hb, hml, hown, hts⟩ (c_X10_isBelow l _ _) (va_cwS 2 hts gX10_mapAt_X10_isBelow rfl rfl rfl (by decide +kernel) ⟨(Nat.le_of_ble_eq_true rfl), (Nat.le_of_ble_eq_true rfl)⟩) xPreT rfl rfl hl.1 rfl (lv_room (Nat.le_of_ble_eq_true rfl)) dX10_mapAt_2 ⟨(Nat.le_of_ble_eq_true rfl), (Nat.le_of_ble_eq_true rfl)⟩) (fun r2 er2 => ?_)
  subst er2
  refine lv_if_ne (tgt := 18) hx hb dX10_mapAt_5 (by decide) (fun c5 => ?_) (fun c5 => ?_)
  · skip
    have c5 := bI_ne.mp c5
    obtain ⟨hm1, hm2⟩ := hm c5
    subst hm1
    refine lv_aload_n hx hb dX10_mapAt_18 rfl (lv_at hl 0 rfl) ?_
    refine va_get (D := D) (ci := 8) (v := .ref (f 2)) (C := RX10) (T := TX10) (N := 2) hx hb hts inX10 hown hKN.1 hP 0 rfl rfl 1 (by decide) (hts (.fieldLink RX10 29 "TreeFamily" "maps" "[LTreeFamily$OneMap;") (by decide +kernel)) (fun _ h9 => h9) rfl dX10_mapAt_19 ?_
    refine lv_iload_n hx hb dX10_mapAt_22 rfl (lv_at hl 1 rfl) ?_
    refine va_aldq hx hb hKN.1 hP 2 4 rfl rfl (i := nI i0) (vp_in_nI (by omega) (by decide)) dX10_mapAt_23 ?_
    refine xr_topr (y := .ref (ad i0 11)) (by rw [nI_clamp (by omega)]; rfl) ?_
    refine W.widen (k := 1) (n := 6) (by omega) (by omega) ?_
    exact vx_ret (W.aret (v := .ref (ad i0 11)) hx hb hr (Or.inl ⟨_, rfl⟩) (Or.inr ⟨_, rfl⟩) (fun t9 e9 w9 => ⟨⟨(), _, rfl, ⟨rfl, c5⟩, rfl, by rw [e9]; exact hP, hD⟩, hS.F e9⟩) hS.2.2 dX10_mapAt_24)
  · skip
    have c5 := bI_0.mp c5
    obtain ⟨sa9, hsa⟩ := NW.s hKN.2 (a := RX10) (i := 161) (b := "no such map") (by decide +kernel)
    exact vx_throwS (A := A) hx hb hl9 hown (by decide +kernel) hns_X (hts (.classLink RX10 44 eIA) (by decide +kernel)) (hts (.initialized eIA) (by decide +kernel)) hsa (hat_X10_eIA hKN.2 (fun w h => hts w (inT_X10_mapAt_eIA w h))) hgo_X10_eIA_44 hTZ.1 hTZ.2 hS (hl.1.trans hml.symm) dX10_mapAt_8 dX10_mapAt_11 dX10_mapAt_12 dX10_mapAt_14 dX10_mapAt_17 (fun x h => (hno x h).elim) (Nat.le_of_ble_eq_true rfl) (Nat.le_of_ble_eq_true rfl) (Nat.le_of_ble_eq_true rfl) (Nat.le_of_ble_eq_true rfl) hlocks (fun t9 _ hz9 hk9 => xX_of () (⟨rfl, c5⟩) hP hD hS hz9 hk9) hS.2.2 (by omega) (by omega)

-- TreeFamily.put
set_option maxHeartbeats 4000000 in
set_option maxRecDepth 100000 in
theorem c_X10_put (l : Launch) (D : va_G) (ca : Nat → ClassId) (f kq : Nat → Nat) (ad : Nat → Nat → Nat) (sz : Nat) (hl9 : l.stackTraces = false) (i0 : Nat) (m : MS) (r : RW) (N : Nat) (mm : Int32) (key v : Int32) (hR : Rel1 N m r) (hN : N ≤ 1000000) (hm : isB mm 3 = true → mm = nI i0 ∧ i0 < 3) : vx_Met l yX10_put wsX10_put ({ frames := 67, cells := 2, slots := 12, locals := 1661 } : Room) (xPcT D (TY ca) [.ref (f 0), .int mm, .int key, .int v] ((wX ca f kq ad) ++ (wKd kq) ++ (wMp ca kq (ad i0) m)) sz) (va_Qi (fun (x : Int32) (u : MS) => PR 0 (F_enter key v) mm r N x u) (xB D (wF1 ca f kq ad i0) (va_A ((wX ca f kq ad) ++ (wKd kq) ++ (wMp ca kq (ad i0) m)) sz)) (va_A ((wX ca f kq ad) ++ (wKd kq) ++ (wMp ca kq (ad i0) m)) sz)) (xX D (wF1 ca f kq ad i0) (va_A ((wX ca f kq ad) ++ (wKd kq) ++ (wMp ca kq (ad i0) m)) sz) (fun (E : String) (u : MS) => PT xA (0 : Int32) (F_enter key v) mm r N E u)) 2 12 (va_A ((wX ca f kq ad) ++ (wKd kq) ++ (wMp ca kq (ad i0) m)) sz) := by
  refine vx_ofW (cc := cX10_put) (maxL := 4) (ret := (some .boolean)) (by decide) rfl ?_
  intro p e s m9 args below meth c s₁ B hml hno hv
  obtain ⟨rfl, hsz, hP, hKN, hD0, hTZ⟩ := hv
  have hx := B.exec
  have hb := B.bytes
  have hr := B.returns
  have hts := atoms_spec (ws := wsX10_put) B.pre
  have hown : s.vm.findClass RX10 = some m9.cls := findClass_of_methodNamed B.named
  have hlocks := B.notSynchronized
  subst hsz
  have hD := hD0.self (sz := s.heap.size)
  generalize hAe : va_A ((wX ca f kq ad) ++ (wKd kq) ++ (wMp ca kq (ad i0) m)) s.heap.size = A at hD hTZ ⊢
  have hA : ∀ q : Nat, s.heap.size ≤ q → A q := fun q h => by rw [← hAe]; exact Or.inr h
  have hS : va_S A s.heap s.heap [] := va_S.rf
  have hl := lv_entry ([.ref (f 0), .int mm, .int key, .int v]) (n := 4) (Nat.le_of_ble_eq_true rfl)
  rw [lg_entry_eq]
  generalize (lg_sl ([.ref (f 0), .int mm, .int key, .int v]) ++ List.replicate (4 - (lg_sl ([.ref (f 0), .int mm, .int key, .int v])).length) Slot.unset).toArray = ls at hl ⊢
  have hl : lv_has ls 4 [(0, .ref (f 0)), (1, .int mm), (2, .int key), (3, .int v)] := hl
  refine lv_aload_n hx hb dX10_put_0 rfl (lv_at hl 0 rfl) ?_
  refine lv_iload_n hx hb dX10_put_1 rfl (lv_at hl 1 rfl) ?_
  refine xcx_r (wr := (wKd kq) ++ (wMp ca kq (ad i0) m)) (vx_runV (As := [.int mm]) (rest := []) ⟨hx, hb, hml, hown, hts⟩ (c_X10_mapAt l D ca f kq ad _ hl9 mm i0 hm) (cwV 1 hts gX10_put_X10_mapAt rfl rfl rfl (by decide +kernel) ⟨(Nat.le_of_ble_eq_true rfl), (Nat.le_of_ble_eq_true rfl)⟩) (xPreVT hKN hTZ hP hD hS hA [0, 1, 2] (by decide +kernel) rfl (q0 := 0) rfl rfl rfl) rfl rfl hl.1 rfl (lv_room (Nat.le_of_ble_eq_true rfl)) dX10_put_2 ⟨(Nat.le_of_ble_eq_true rfl), (Nat.le_of_ble_eq_true rfl)⟩) hP hD hS hA [0, 1, 2] [3, 4, 5, 6, 7, 8, 9, 10, 11, 12, 13, 14, 15, 16, 17, 18, 19, 20] rfl rfl (by decide +kernel) (by decide +kernel) (fun E9 ce9 q9 u2 H locs hu2 hP hD hS h91 h92 h93 => ?_) (fun ra u2 H locs hu2 hra2 hP hD hS => ?_)
  · skip
    obtain ⟨eE, hB2⟩ := hu2
    have hP : va_P D vwCl ((wX ca f kq ad) ++ (wKd kq) ++ (wMp ca kq (ad i0) m)) H := hP.sub (ws' := (wX ca f kq ad) ++ (wKd kq) ++ (wMp ca kq (ad i0) m)) [18, 19, 20, 0, 1, 2, 3, 4, 5, 6, 7, 8, 9, 10, 11, 12, 13, 14, 15, 16, 17] rfl
    have hD : va_D A ((wX ca f kq ad) ++ (wKd kq) ++ (wMp ca kq (ad i0) m)) := hD.sub (ws' := (wX ca f kq ad) ++ (wKd kq) ++ (wMp ca kq (ad i0) m)) [18, 19, 20, 0, 1, 2, 3, 4, 5, 6, 7, 8, 9, 10, 11, 12, 13, 14, 15, 16, 17] (by decide +kernel) rfl
    exact vx_out (fun x h => (hno x h).elim) hlocks h91 h92 h93 (fun t9 e9 _ => xX_on m (gbad hB2 eE (rel_mono hR (by omega))) hP hD hS e9) hS.2.2 (by omega) (by omega)
  · skip
    have hP : va_P D vwCl ((wX ca f kq ad) ++ (wKd kq) ++ (wMp ca kq (ad i0) m)) H := hP.sub (ws' := (wX ca f kq ad) ++ (wKd kq) ++ (wMp ca kq (ad i0) m)) [18, 19, 20, 0, 1, 2, 3, 4, 5, 6, 7, 8, 9, 10, 11, 12, 13, 14, 15, 16, 17] rfl
    have hD : va_D A ((wX ca f kq ad) ++ (wKd kq) ++ (wMp ca kq (ad i0) m)) := hD.sub (ws' := (wX ca f kq ad) ++ (wKd kq) ++ (wMp ca kq (ad i0) m)) [18, 19, 20, 0, 1, 2, 3, 4, 5, 6, 7, 8, 9, 10, 11, 12, 13, 14, 15, 16, 17] (by decide +kernel) rfl
    obtain ⟨hm2, hB2⟩ := hu2
    subst hra2
    have hi3 := (hm hB2).2
    subst hm2
    refine lv_iload_n hx hb dX10_put_5 rfl (lv_at hl 2 rfl) ?_
    refine lv_iload_n hx hb dX10_put_6 rfl (lv_at hl 3 rfl) ?_
    refine xcx_i (wr := wX ca f kq ad) (vx_runV (As := [.int key, .int v]) (rest := []) ⟨hx, hb, hml, hown, hts⟩ (r_X6_store l D ca kq (ad i0) _ hl9 m r N hR hN key v) (cwV 2 hts gX10_put_X6_store rfl rfl rfl (by decide +kernel) ⟨(Nat.le_of_ble_eq_true rfl), (Nat.le_of_ble_eq_true rfl)⟩) (xPreVT hKN hTZ hP hD hS hA [3, 4, 5, 6, 7, 8, 9, 10, 11, 12, 13, 14, 15, 16, 17, 18, 19, 20] (by decide +kernel) rfl (q0 := 7) rfl rfl rfl) rfl rfl hl.1 rfl (lv_room (Nat.le_of_ble_eq_true rfl)) dX10_put_7 ⟨(Nat.le_of_ble_eq_true rfl), (Nat.le_of_ble_eq_true rfl)⟩) hP hD hS hA [3, 4, 5, 6, 7, 8, 9, 10, 11, 12, 13, 14, 15, 16, 17, 18, 19, 20] [0, 1, 2] rfl rfl (by decide +kernel) (by decide +kernel) (fun E9 ce9 q9 u7 H locs hu7 hP hD hS h91 h92 h93 => ?_) (fun r7 u7 H locs hu7 hP hD hS => ?_)
    · skip
      have hP : va_P D vwCl ((wX ca f kq ad) ++ (wKd kq) ++ (wMp ca kq (ad i0) u7)) H := hP
      have hD : va_D A ((wX ca f kq ad) ++ (wKd kq) ++ (wMp ca kq (ad i0) u7)) := hD
      obtain ⟨eE, x1, x2⟩ := hu7
      exact vx_out (fun x h => (hno x h).elim) hlocks h91 h92 h93 (fun t9 e9 _ => xX_on u7 (gthr hB2 x1 (by decide) eE x2) hP hD hS e9) hS.2.2 (by omega) (by omega)
    · skip
      have hP : va_P D vwCl ((wX ca f kq ad) ++ (wKd kq) ++ (wMp ca kq (ad i0) u7)) H := hP
      have hD : va_D A ((wX ca f kq ad) ++ (wKd kq) ++ (wMp ca kq (ad i0) u7)) := hD
      obtain ⟨er7, ec7, hR7⟩ := hu7
      subst er7
      refine W.widen (k := 2) (n := 12) (by omega) (by omega) ?_
      exact vx_ret (W.zret (v := ((F_enter key v r).1)) hx hb hr (F_enter_nar key v r) (fun t9 e9 w9 => ⟨⟨_, u7, rfl, gret hB2 rfl ec7 hR7, by rw [e9]; exact hP, hD⟩, hS.F e9⟩) hS.2.2 dX10_put_10)

-- TreeFamily.remove
set_option maxHeartbeats 4000000 in
set_option maxRecDepth 100000 in
theorem c_X10_remove (l : Launch) (D : va_G) (ca : Nat → ClassId) (f kq : Nat → Nat) (ad : Nat → Nat → Nat) (sz : Nat) (hl9 : l.stackTraces = false) (i0 : Nat) (m : MS) (r : RW) (N : Nat) (mm : Int32) (key : Int32) (hR : Rel1 N m r) (hN : N ≤ 1000000) (hm : isB mm 3 = true → mm = nI i0 ∧ i0 < 3) : vx_Met l yX10_remove wsX10_remove ({ frames := 67, cells := 2, slots := 12, locals := 1659 } : Room) (xPcT D (TY ca) [.ref (f 0), .int mm, .int key] ((wX ca f kq ad) ++ (wKd kq) ++ (wMp ca kq (ad i0) m)) sz) (va_Qi (fun (x : Int32) (u : MS) => PR 0 (F_remove key) mm r N x u) (xB D (wF1 ca f kq ad i0) (va_A ((wX ca f kq ad) ++ (wKd kq) ++ (wMp ca kq (ad i0) m)) sz)) (va_A ((wX ca f kq ad) ++ (wKd kq) ++ (wMp ca kq (ad i0) m)) sz)) (xX D (wF1 ca f kq ad i0) (va_A ((wX ca f kq ad) ++ (wKd kq) ++ (wMp ca kq (ad i0) m)) sz) (fun (E : String) (u : MS) => PT xA (0 : Int32) (F_remove key) mm r N E u)) 2 12 (va_A ((wX ca f kq ad) ++ (wKd kq) ++ (wMp ca kq (ad i0) m)) sz) := by
  refine vx_ofW (cc := cX10_remove) (maxL := 3) (ret := (some .boolean)) (by decide) rfl ?_
  intro p e s m9 args below meth c s₁ B hml hno hv
  obtain ⟨rfl, hsz, hP, hKN, hD0, hTZ⟩ := hv
  have hx := B.exec
  have hb := B.bytes
  have hr := B.returns
  have hts := atoms_spec (ws := wsX10_remove) B.pre
  have hown : s.vm.findClass RX10 = some m9.cls := findClass_of_methodNamed B.named
  have hlocks := B.notSynchronized
  subst hsz
  have hD := hD0.self (sz := s.heap.size)
  generalize hAe : va_A ((wX ca f kq ad) ++ (wKd kq) ++ (wMp ca kq (ad i0) m)) s.heap.size = A at hD hTZ ⊢
  have hA : ∀ q : Nat, s.heap.size ≤ q → A q := fun q h => by rw [← hAe]; exact Or.inr h
  have hS : va_S A s.heap s.heap [] := va_S.rf
  have hl := lv_entry ([.ref (f 0), .int mm, .int key]) (n := 3) (Nat.le_of_ble_eq_true rfl)
  rw [lg_entry_eq]
  generalize (lg_sl ([.ref (f 0), .int mm, .int key]) ++ List.replicate (3 - (lg_sl ([.ref (f 0), .int mm, .int key])).length) Slot.unset).toArray = ls at hl ⊢
  have hl : lv_has ls 3 [(0, .ref (f 0)), (1, .int mm), (2, .int key)] := hl
  refine lv_aload_n hx hb dX10_remove_0 rfl (lv_at hl 0 rfl) ?_
  refine lv_iload_n hx hb dX10_remove_1 rfl (lv_at hl 1 rfl) ?_
  refine xcx_r (wr := (wKd kq) ++ (wMp ca kq (ad i0) m)) (vx_runV (As := [.int mm]) (rest := []) ⟨hx, hb, hml, hown, hts⟩ (c_X10_mapAt l D ca f kq ad _ hl9 mm i0 hm) (cwV 1 hts gX10_remove_X10_mapAt rfl rfl rfl (by decide +kernel) ⟨(Nat.le_of_ble_eq_true rfl), (Nat.le_of_ble_eq_true rfl)⟩) (xPreVT hKN hTZ hP hD hS hA [0, 1, 2] (by decide +kernel) rfl (q0 := 0) rfl rfl rfl) rfl rfl hl.1 rfl (lv_room (Nat.le_of_ble_eq_true rfl)) dX10_remove_2 ⟨(Nat.le_of_ble_eq_true rfl), (Nat.le_of_ble_eq_true rfl)⟩) hP hD hS hA [0, 1, 2] [3, 4, 5, 6, 7, 8, 9, 10, 11, 12, 13, 14, 15, 16, 17, 18, 19, 20] rfl rfl (by decide +kernel) (by decide +kernel) (fun E9 ce9 q9 u2 H locs hu2 hP hD hS h91 h92 h93 => ?_) (fun ra u2 H locs hu2 hra2 hP hD hS => ?_)
  · skip
    obtain ⟨eE, hB2⟩ := hu2
    have hP : va_P D vwCl ((wX ca f kq ad) ++ (wKd kq) ++ (wMp ca kq (ad i0) m)) H := hP.sub (ws' := (wX ca f kq ad) ++ (wKd kq) ++ (wMp ca kq (ad i0) m)) [18, 19, 20, 0, 1, 2, 3, 4, 5, 6, 7, 8, 9, 10, 11, 12, 13, 14, 15, 16, 17] rfl
    have hD : va_D A ((wX ca f kq ad) ++ (wKd kq) ++ (wMp ca kq (ad i0) m)) := hD.sub (ws' := (wX ca f kq ad) ++ (wKd kq) ++ (wMp ca kq (ad i0) m)) [18, 19, 20, 0, 1, 2, 3, 4, 5, 6, 7, 8, 9, 10, 11, 12, 13, 14, 15, 16, 17] (by decide +kernel) rfl
    exact vx_out (fun x h => (hno x h).elim) hlocks h91 h92 h93 (fun t9 e9 _ => xX_on m (gbad hB2 eE (rel_mono hR (by omega))) hP hD hS e9) hS.2.2 (by omega) (by omega)
  · skip
    have hP : va_P D vwCl ((wX ca f kq ad) ++ (wKd kq) ++ (wMp ca kq (ad i0) m)) H := hP.sub (ws' := (wX ca f kq ad) ++ (wKd kq) ++ (wMp ca kq (ad i0) m)) [18, 19, 20, 0, 1, 2, 3, 4, 5, 6, 7, 8, 9, 10, 11, 12, 13, 14, 15, 16, 17] rfl
    have hD : va_D A ((wX ca f kq ad) ++ (wKd kq) ++ (wMp ca kq (ad i0) m)) := hD.sub (ws' := (wX ca f kq ad) ++ (wKd kq) ++ (wMp ca kq (ad i0) m)) [18, 19, 20, 0, 1, 2, 3, 4, 5, 6, 7, 8, 9, 10, 11, 12, 13, 14, 15, 16, 17] (by decide +kernel) rfl
    obtain ⟨hm2, hB2⟩ := hu2
    subst hra2
    have hi3 := (hm hB2).2
    subst hm2
    refine lv_iload_n hx hb dX10_remove_5 rfl (lv_at hl 2 rfl) ?_
    refine xc_i (wr := wX ca f kq ad) (va_runV (As := [.int key]) (rest := []) ⟨hx, hb, hml, hown, hts⟩ (r_X6_takeOut l D ca kq (ad i0) _ m r N hR hN key) (cwV 1 hts gX10_remove_X6_takeOut rfl rfl rfl (by decide +kernel) ⟨(Nat.le_of_ble_eq_true rfl), (Nat.le_of_ble_eq_true rfl)⟩) (xPreV hKN hP hD [3, 4, 5, 6, 7, 8, 9, 10, 11, 12, 13, 14, 15, 16, 17, 18, 19, 20] (by decide +kernel) rfl (q0 := 7) rfl rfl rfl) rfl rfl hl.1 rfl (lv_room (Nat.le_of_ble_eq_true rfl)) dX10_remove_6 ⟨(Nat.le_of_ble_eq_true rfl), (Nat.le_of_ble_eq_true rfl)⟩) hP hD hS hA [3, 4, 5, 6, 7, 8, 9, 10, 11, 12, 13, 14, 15, 16, 17, 18, 19, 20] [0, 1, 2] rfl rfl (by decide +kernel) (by decide +kernel) (fun r6 u6 H locs hu6 hP hD hS => ?_)
    have hP : va_P D vwCl ((wX ca f kq ad) ++ (wKd kq) ++ (wMp ca kq (ad i0) u6)) H := hP
    have hD : va_D A ((wX ca f kq ad) ++ (wKd kq) ++ (wMp ca kq (ad i0) u6)) := hD
    obtain ⟨er6, ec6, hR6⟩ := hu6
    subst er6
    refine W.widen (k := 2) (n := 12) (by omega) (by omega) ?_
    exact vx_ret (W.zret (v := ((F_remove key r).1)) hx hb hr (F_remove_nar key r) (fun t9 e9 w9 => ⟨⟨_, u6, rfl, gret hB2 rfl ec6 hR6, by rw [e9]; exact hP, hD⟩, hS.F e9⟩) hS.2.2 dX10_remove_9)

-- TreeFamily.get
set_option maxHeartbeats 4000000 in
set_option maxRecDepth 100000 in
theorem c_X10_get (l : Launch) (D : va_G) (ca : Nat → ClassId) (f kq : Nat → Nat) (ad : Nat → Nat → Nat) (sz : Nat) (hl9 : l.stackTraces = false) (i0 : Nat) (m : MS) (r : RW) (N : Nat) (mm : Int32) (key : Int32) (hR : Rel1 N m r) (hN : N ≤ 1000000) (hm : isB mm 3 = true → mm = nI i0 ∧ i0 < 3) : vx_Met l yX10_get wsX10_get ({ frames := 7, cells := 2, slots := 12, locals := 112 } : Room) (xPcT D (TY ca) [.ref (f 0), .int mm, .int key] ((wX ca f kq ad) ++ (wKd kq) ++ (wMp ca kq (ad i0) m)) sz) (va_Qi (fun (x : Int32) (u : MS) => PR 0 (F_get key) mm r N x u) (xB D (wF1 ca f kq ad i0) (va_A ((wX ca f kq ad) ++ (wKd kq) ++ (wMp ca kq (ad i0) m)) sz)) (va_A ((wX ca f kq ad) ++ (wKd kq) ++ (wMp ca kq (ad i0) m)) sz)) (xX D (wF1 ca f kq ad i0) (va_A ((wX ca f kq ad) ++ (wKd kq) ++ (wMp ca kq (ad i0) m)) sz) (fun (E : String) (u : MS) => PT xA (0 : Int32) (F_get key) mm r N E u)) 2 12 (va_A ((wX ca f kq ad) ++ (wKd kq) ++ (wMp ca kq (ad i0) m)) sz) := by
  refine vx_ofW (cc := cX10_get) (maxL := 3) (ret := (some .int)) (by decide) rfl ?_
  intro p e s m9 args below meth c s₁ B hml hno hv
  obtain ⟨rfl, hsz, hP, hKN, hD0, hTZ⟩ := hv
  have hx := B.exec
  have hb := B.bytes
  have hr := B.returns
  have hts := atoms_spec (ws := wsX10_get) B.pre
  have hown : s.vm.findClass RX10 = some m9.cls := findClass_of_methodNamed B.named
  have hlocks := B.notSynchronized
  subst hsz
  have hD := hD0.self (sz := s.heap.size)
  generalize hAe : va_A ((wX ca f kq ad) ++ (wKd kq) ++ (wMp ca kq (ad i0) m)) s.heap.size = A at hD hTZ ⊢
  have hA : ∀ q : Nat, s.heap.size ≤ q → A q := fun q h => by rw [← hAe]; exact Or.inr h
  have hS : va_S A s.heap s.heap [] := va_S.rf
  have hl := lv_entry ([.ref (f 0), .int mm, .int key]) (n := 3) (Nat.le_of_ble_eq_true rfl)
  rw [lg_entry_eq]
  generalize (lg_sl ([.ref (f 0), .int mm, .int key]) ++ List.replicate (3 - (lg_sl ([.ref (f 0), .int mm, .int key])).length) Slot.unset).toArray = ls at hl ⊢
  have hl : lv_has ls 3 [(0, .ref (f 0)), (1, .int mm), (2, .int key)] := hl
  refine lv_aload_n hx hb dX10_get_0 rfl (lv_at hl 0 rfl) ?_
  refine lv_iload_n hx hb dX10_get_1 rfl (lv_at hl 1 rfl) ?_
  refine xcx_r (wr := (wKd kq) ++ (wMp ca kq (ad i0) m)) (vx_runV (As := [.int mm]) (rest := []) ⟨hx, hb, hml, hown, hts⟩ (c_X10_mapAt l D ca f kq ad _ hl9 mm i0 hm) (cwV 1 hts gX10_get_X10_mapAt rfl rfl rfl (by decide +kernel) ⟨(Nat.le_of_ble_eq_true rfl), (Nat.le_of_ble_eq_true rfl)⟩) (xPreVT hKN hTZ hP hD hS hA [0, 1, 2] (by decide +kernel) rfl (q0 := 0) rfl rfl rfl) rfl rfl hl.1 rfl (lv_room (Nat.le_of_ble_eq_true rfl)) dX10_get_2 ⟨(Nat.le_of_ble_eq_true rfl), (Nat.le_of_ble_eq_true rfl)⟩) hP hD hS hA [0, 1, 2] [3, 4, 5, 6, 7, 8, 9, 10, 11, 12, 13, 14, 15, 16, 17, 18, 19, 20] rfl rfl (by decide +kernel) (by decide +kernel) (fun E9 ce9 q9 u2 H locs hu2 hP hD hS h91 h92 h93 => ?_) (fun ra u2 H locs hu2 hra2 hP hD hS => ?_)
  · skip
    obtain ⟨eE, hB2⟩ := hu2
    have hP : va_P D vwCl ((wX ca f kq ad) ++ (wKd kq) ++ (wMp ca kq (ad i0) m)) H := hP.sub (ws' := (wX ca f kq ad) ++ (wKd kq) ++ (wMp ca kq (ad i0) m)) [18, 19, 20, 0, 1, 2, 3, 4, 5, 6, 7, 8, 9, 10, 11, 12, 13, 14, 15, 16, 17] rfl
    have hD : va_D A ((wX ca f kq ad) ++ (wKd kq) ++ (wMp ca kq (ad i0) m)) := hD.sub (ws' := (wX ca f kq ad) ++ (wKd kq) ++ (wMp ca kq (ad i0) m)) [18, 19, 20, 0, 1, 2, 3, 4, 5, 6, 7, 8, 9, 10, 11, 12, 13, 14, 15, 16, 17] (by decide +kernel) rfl
    exact vx_out (fun x h => (hno x h).elim) hlocks h91 h92 h93 (fun t9 e9 _ => xX_on m (gbad hB2 eE (rel_mono hR (by omega))) hP hD hS e9) hS.2.2 (by omega) (by omega)
  · skip
    have hP : va_P D vwCl ((wX ca f kq ad) ++ (wKd kq) ++ (wMp ca kq (ad i0) m)) H := hP.sub (ws' := (wX ca f kq ad) ++ (wKd kq) ++ (wMp ca kq (ad i0) m)) [18, 19, 20, 0, 1, 2, 3, 4, 5, 6, 7, 8, 9, 10, 11, 12, 13, 14, 15, 16, 17] rfl
    have hD : va_D A ((wX ca f kq ad) ++ (wKd kq) ++ (wMp ca kq (ad i0) m)) := hD.sub (ws' := (wX ca f kq ad) ++ (wKd kq) ++ (wMp ca kq (ad i0) m)) [18, 19, 20, 0, 1, 2, 3, 4, 5, 6, 7, 8, 9, 10, 11, 12, 13, 14, 15, 16, 17] (by decide +kernel) rfl
    obtain ⟨hm2, hB2⟩ := hu2
    subst hra2
    have hi3 := (hm hB2).2
    subst hm2
    refine lv_iload_n hx hb dX10_get_5 rfl (lv_at hl 2 rfl) ?_
    refine xcx_i (wr := wX ca f kq ad) (vx_runV (As := [.int key]) (rest := []) ⟨hx, hb, hml, hown, hts⟩ (r_X6_valueOf l D ca kq (ad i0) _ hl9 m r N hR hN key) (cwV 1 hts gX10_get_X6_valueOf rfl rfl rfl (by decide +kernel) ⟨(Nat.le_of_ble_eq_true rfl), (Nat.le_of_ble_eq_true rfl)⟩) (xPreVT hKN hTZ hP hD hS hA [3, 4, 5, 6, 7, 8, 9, 10, 11, 12, 13, 14, 15, 16, 17, 18, 19, 20] (by decide +kernel) rfl (q0 := 7) rfl rfl rfl) rfl rfl hl.1 rfl (lv_room (Nat.le_of_ble_eq_true rfl)) dX10_get_6 ⟨(Nat.le_of_ble_eq_true rfl), (Nat.le_of_ble_eq_true rfl)⟩) hP hD hS hA [3, 4, 5, 6, 7, 8, 9, 10, 11, 12, 13, 14, 15, 16, 17, 18, 19, 20] [0, 1, 2] rfl rfl (by decide +kernel) (by decide +kernel) (fun E9 ce9 q9 u6 H locs hu6 hP hD hS h91 h92 h93 => ?_) (fun r6 u6 H locs hu6 hP hD hS => ?_)
    · skip
      have hP : va_P D vwCl ((wX ca f kq ad) ++ (wKd kq) ++ (wMp ca kq (ad i0) u6)) H := hP
      have hD : va_D A ((wX ca f kq ad) ++ (wKd kq) ++ (wMp ca kq (ad i0) u6)) := hD
      obtain ⟨eE, x1, x2⟩ := hu6
      exact vx_out (fun x h => (hno x h).elim) hlocks h91 h92 h93 (fun t9 e9 _ => xX_on u6 (gthr hB2 x1 (by decide) eE x2) hP hD hS e9) hS.2.2 (by omega) (by omega)
    · skip
      have hP : va_P D vwCl ((wX ca f kq ad) ++ (wKd kq) ++ (wMp ca kq (ad i0) u6)) H := hP
      have hD : va_D A ((wX ca f kq ad) ++ (wKd kq) ++ (wMp ca kq (ad i0) u6)) := hD
      obtain ⟨er6, hR6⟩ := hu6
      refine W.widen (k := 2) (n := 12) (by omega) (by omega) ?_
      exact vx_ret (W.iret (v := r6) hx hb hr (fun t9 e9 w9 => ⟨⟨_, u6, rfl, gretF hB2 er6 hR6, by rw [e9]; exact hP, hD⟩, hS.F e9⟩) hS.2.2 dX10_get_9)

-- TreeFamily.size
set_option maxHeartbeats 4000000 in
set_option maxRecDepth 100000 in
theorem c_X10_size (l : Launch) (D : va_G) (ca : Nat → ClassId) (f kq : Nat → Nat) (ad : Nat → Nat → Nat) (sz : Nat) (hl9 : l.stackTraces = false) (i0 : Nat) (m : MS) (r : RW) (N : Nat) (mm : Int32) (hR : Rel1 N m r) (hN : N ≤ 1000000) (hm : isB mm 3 = true → mm = nI i0 ∧ i0 < 3) : vx_Met l yX10_size wsX10_size ({ frames := 7, cells := 2, slots := 12, locals := 111 } : Room) (xPcT D (TY ca) [.ref (f 0), .int mm] ((wX ca f kq ad) ++ (wKd kq) ++ (wMp ca kq (ad i0) m)) sz) (va_Qi (fun (x : Int32) (u : MS) => PR 0 (F_size) mm r N x u) (xB D (wF1 ca f kq ad i0) (va_A ((wX ca f kq ad) ++ (wKd kq) ++ (wMp ca kq (ad i0) m)) sz)) (va_A ((wX ca f kq ad) ++ (wKd kq) ++ (wMp ca kq (ad i0) m)) sz)) (xX D (wF1 ca f kq ad i0) (va_A ((wX ca f kq ad) ++ (wKd kq) ++ (wMp ca kq (ad i0) m)) sz) (fun (E : String) (u : MS) => PT xA (0 : Int32) (F_size) mm r N E u)) 2 12 (va_A ((wX ca f kq ad) ++ (wKd kq) ++ (wMp ca kq (ad i0) m)) sz) := by
  refine vx_ofW (cc := cX10_size) (maxL := 2) (ret := (some .int)) (by decide) rfl ?_
  intro p e s m9 args below meth c s₁ B hml hno hv
  obtain ⟨rfl, hsz, hP, hKN, hD0, hTZ⟩ := hv
  have hx := B.exec
  have hb := B.bytes
  have hr := B.returns
  have hts := atoms_spec (ws := wsX10_size) B.pre
  have hown : s.vm.findClass RX10 = some m9.cls := findClass_of_methodNamed B.named
  have hlocks := B.notSynchronized
  subst hsz
  have hD := hD0.self (sz := s.heap.size)
  generalize hAe : va_A ((wX ca f kq ad) ++ (wKd kq) ++ (wMp ca kq (ad i0) m)) s.heap.size = A at hD hTZ ⊢
  have hA : ∀ q : Nat, s.heap.size ≤ q → A q := fun q h => by rw [← hAe]; exact Or.inr h
  have hS : va_S A s.heap s.heap [] := va_S.rf
  have hl := lv_entry ([.ref (f 0), .int mm]) (n := 2) (Nat.le_of_ble_eq_true rfl)
  rw [lg_entry_eq]
  generalize (lg_sl ([.ref (f 0), .int mm]) ++ List.replicate (2 - (lg_sl ([.ref (f 0), .int mm])).length) Slot.unset).toArray = ls at hl ⊢
  have hl : lv_has ls 2 [(0, .ref (f 0)), (1, .int mm)] := hl
  refine lv_aload_n hx hb dX10_size_0 rfl (lv_at hl 0 rfl) ?_
  refine lv_iload_n hx hb dX10_size_1 rfl (lv_at hl 1 rfl) ?_
  refine xcx_r (wr := (wKd kq) ++ (wMp ca kq (ad i0) m)) (vx_runV (As := [.int mm]) (rest := []) ⟨hx, hb, hml, hown, hts⟩ (c_X10_mapAt l D ca f kq ad _ hl9 mm i0 hm) (cwV 1 hts gX10_size_X10_mapAt rfl rfl rfl (by decide +kernel) ⟨(Nat.le_of_ble_eq_true rfl), (Nat.le_of_ble_eq_true rfl)⟩) (xPreVT hKN hTZ hP hD hS hA [0, 1, 2] (by decide +kernel) rfl (q0 := 0) rfl rfl rfl) rfl rfl hl.1 rfl (lv_room (Nat.le_of_ble_eq_true rfl)) dX10_size_2 ⟨(Nat.le_of_ble_eq_true rfl), (Nat.le_of_ble_eq_true rfl)⟩) hP hD hS hA [0, 1, 2] [3, 4, 5, 6, 7, 8, 9, 10, 11, 12, 13, 14, 15, 16, 17, 18, 19, 20] rfl rfl (by decide +kernel) (by decide +kernel) (fun E9 ce9 q9 u2 H locs hu2 hP hD hS h91 h92 h93 => ?_) (fun ra u2 H locs hu2 hra2 hP hD hS => ?_)
  · skip
    obtain ⟨eE, hB2⟩ := hu2
    have hP : va_P D vwCl ((wX ca f kq ad) ++ (wKd kq) ++ (wMp ca kq (ad i0) m)) H := hP.sub (ws' := (wX ca f kq ad) ++ (wKd kq) ++ (wMp ca kq (ad i0) m)) [18, 19, 20, 0, 1, 2, 3, 4, 5, 6, 7, 8, 9, 10, 11, 12, 13, 14, 15, 16, 17] rfl
    have hD : va_D A ((wX ca f kq ad) ++ (wKd kq) ++ (wMp ca kq (ad i0) m)) := hD.sub (ws' := (wX ca f kq ad) ++ (wKd kq) ++ (wMp ca kq (ad i0) m)) [18, 19, 20, 0, 1, 2, 3, 4, 5, 6, 7, 8, 9, 10, 11, 12, 13, 14, 15, 16, 17] (by decide +kernel) rfl
    exact vx_out (fun x h => (hno x h).elim) hlocks h91 h92 h93 (fun t9 e9 _ => xX_on m (gbad hB2 eE (rel_mono hR (by omega))) hP hD hS e9) hS.2.2 (by omega) (by omega)
  · skip
    have hP : va_P D vwCl ((wX ca f kq ad) ++ (wKd kq) ++ (wMp ca kq (ad i0) m)) H := hP.sub (ws' := (wX ca f kq ad) ++ (wKd kq) ++ (wMp ca kq (ad i0) m)) [18, 19, 20, 0, 1, 2, 3, 4, 5, 6, 7, 8, 9, 10, 11, 12, 13, 14, 15, 16, 17] rfl
    have hD : va_D A ((wX ca f kq ad) ++ (wKd kq) ++ (wMp ca kq (ad i0) m)) := hD.sub (ws' := (wX ca f kq ad) ++ (wKd kq) ++ (wMp ca kq (ad i0) m)) [18, 19, 20, 0, 1, 2, 3, 4, 5, 6, 7, 8, 9, 10, 11, 12, 13, 14, 15, 16, 17] (by decide +kernel) rfl
    obtain ⟨hm2, hB2⟩ := hu2
    subst hra2
    have hi3 := (hm hB2).2
    subst hm2
    refine xc_i (wr := wX ca f kq ad) (va_runV (As := []) (rest := []) ⟨hx, hb, hml, hown, hts⟩ (r_X6_entryCount l D ca kq (ad i0) _ m r N hR hN ) (cwV 0 hts gX10_size_X6_entryCount rfl rfl rfl (by decide +kernel) ⟨(Nat.le_of_ble_eq_true rfl), (Nat.le_of_ble_eq_true rfl)⟩) (xPreV hKN hP hD [3, 4, 5, 6, 7, 8, 9, 10, 11, 12, 13, 14, 15, 16, 17, 18, 19, 20] (by decide +kernel) rfl (q0 := 7) rfl rfl rfl) rfl rfl hl.1 rfl (lv_room (Nat.le_of_ble_eq_true rfl)) dX10_size_5 ⟨(Nat.le_of_ble_eq_true rfl), (Nat.le_of_ble_eq_true rfl)⟩) hP hD hS hA [3, 4, 5, 6, 7, 8, 9, 10, 11, 12, 13, 14, 15, 16, 17, 18, 19, 20] [0, 1, 2] rfl rfl (by decide +kernel) (by decide +kernel) (fun r5 u5 H locs hu5 hP hD hS => ?_)
    have hP : va_P D vwCl ((wX ca f kq ad) ++ (wKd kq) ++ (wMp ca kq (ad i0) u5)) H := hP
    have hD : va_D A ((wX ca f kq ad) ++ (wKd kq) ++ (wMp ca kq (ad i0) u5)) := hD
    obtain ⟨er5, eu5⟩ := hu5
    have eu5 := eu5.symm
    subst eu5
    subst er5
    have hP : va_P D vwCl ((wX ca f kq ad) ++ (wKd kq) ++ (wMp ca kq (ad i0) m)) H := hP
    have hD : va_D A ((wX ca f kq ad) ++ (wKd kq) ++ (wMp ca kq (ad i0) m)) := hD
    refine W.widen (k := 2) (n := 12) (by omega) (by omega) ?_
    exact vx_ret (W.iret (v := (nI r.en.length)) hx hb hr (fun t9 e9 w9 => ⟨⟨_, m, rfl, gretF hB2 rfl (rel_mono hR (by omega)), by rw [e9]; exact hP, hD⟩, hS.F e9⟩) hS.2.2 dX10_size_8)

-- TreeFamily.rank
set_option maxHeartbeats 4000000 in
set_option maxRecDepth 100000 in
theorem c_X10_rank (l : Launch) (D : va_G) (ca : Nat → ClassId) (f kq : Nat → Nat) (ad : Nat → Nat → Nat) (sz : Nat) (hl9 : l.stackTraces = false) (i0 : Nat) (m : MS) (r : RW) (N : Nat) (mm : Int32) (key : Int32) (hR : Rel1 N m r) (hN : N ≤ 1000000) (hm : isB mm 3 = true → mm = nI i0 ∧ i0 < 3) : vx_Met l yX10_rank wsX10_rank ({ frames := 7, cells := 2, slots := 12, locals := 111 } : Room) (xPcT D (TY ca) [.ref (f 0), .int mm, .int key] ((wX ca f kq ad) ++ (wKd kq) ++ (wMp ca kq (ad i0) m)) sz) (va_Qi (fun (x : Int32) (u : MS) => PR 0 (F_rank key) mm r N x u) (xB D (wF1 ca f kq ad i0) (va_A ((wX ca f kq ad) ++ (wKd kq) ++ (wMp ca kq (ad i0) m)) sz)) (va_A ((wX ca f kq ad) ++ (wKd kq) ++ (wMp ca kq (ad i0) m)) sz)) (xX D (wF1 ca f kq ad i0) (va_A ((wX ca f kq ad) ++ (wKd kq) ++ (wMp ca kq (ad i0) m)) sz) (fun (E : String) (u : MS) => PT xA (0 : Int32) (F_rank key) mm r N E u)) 2 12 (va_A ((wX ca f kq ad) ++ (wKd kq) ++ (wMp ca kq (ad i0) m)) sz) := by
  refine vx_ofW (cc := cX10_rank) (maxL := 3) (ret := (some .int)) (by decide) rfl ?_
  intro p e s m9 args below meth c s₁ B hml hno hv
  obtain ⟨rfl, hsz, hP, hKN, hD0, hTZ⟩ := hv
  have hx := B.exec
  have hb := B.bytes
  have hr := B.returns
  have hts := atoms_spec (ws := wsX10_rank) B.pre
  have hown : s.vm.findClass RX10 = some m9.cls := findClass_of_methodNamed B.named
  have hlocks := B.notSynchronized
  subst hsz
  have hD := hD0.self (sz := s.heap.size)
  generalize hAe : va_A ((wX ca f kq ad) ++ (wKd kq) ++ (wMp ca kq (ad i0) m)) s.heap.size = A at hD hTZ ⊢
  have hA : ∀ q : Nat, s.heap.size ≤ q → A q := fun q h => by rw [← hAe]; exact Or.inr h
  have hS : va_S A s.heap s.heap [] := va_S.rf
  have hl := lv_entry ([.ref (f 0), .int mm, .int key]) (n := 3) (Nat.le_of_ble_eq_true rfl)
  rw [lg_entry_eq]
  generalize (lg_sl ([.ref (f 0), .int mm, .int key]) ++ List.replicate (3 - (lg_sl ([.ref (f 0), .int mm, .int key])).length) Slot.unset).toArray = ls at hl ⊢
  have hl : lv_has ls 3 [(0, .ref (f 0)), (1, .int mm), (2, .int key)] := hl
  refine lv_aload_n hx hb dX10_rank_0 rfl (lv_at hl 0 rfl) ?_
  refine lv_iload_n hx hb dX10_rank_1 rfl (lv_at hl 1 rfl) ?_
  refine xcx_r (wr := (wKd kq) ++ (wMp ca kq (ad i0) m)) (vx_runV (As := [.int mm]) (rest := []) ⟨hx, hb, hml, hown, hts⟩ (c_X10_mapAt l D ca f kq ad _ hl9 mm i0 hm) (cwV 1 hts gX10_rank_X10_mapAt rfl rfl rfl (by decide +kernel) ⟨(Nat.le_of_ble_eq_true rfl), (Nat.le_of_ble_eq_true rfl)⟩) (xPreVT hKN hTZ hP hD hS hA [0, 1, 2] (by decide +kernel) rfl (q0 := 0) rfl rfl rfl) rfl rfl hl.1 rfl (lv_room (Nat.le_of_ble_eq_true rfl)) dX10_rank_2 ⟨(Nat.le_of_ble_eq_true rfl), (Nat.le_of_ble_eq_true rfl)⟩) hP hD hS hA [0, 1, 2] [3, 4, 5, 6, 7, 8, 9, 10, 11, 12, 13, 14, 15, 16, 17, 18, 19, 20] rfl rfl (by decide +kernel) (by decide +kernel) (fun E9 ce9 q9 u2 H locs hu2 hP hD hS h91 h92 h93 => ?_) (fun ra u2 H locs hu2 hra2 hP hD hS => ?_)
  · skip
    obtain ⟨eE, hB2⟩ := hu2
    have hP : va_P D vwCl ((wX ca f kq ad) ++ (wKd kq) ++ (wMp ca kq (ad i0) m)) H := hP.sub (ws' := (wX ca f kq ad) ++ (wKd kq) ++ (wMp ca kq (ad i0) m)) [18, 19, 20, 0, 1, 2, 3, 4, 5, 6, 7, 8, 9, 10, 11, 12, 13, 14, 15, 16, 17] rfl
    have hD : va_D A ((wX ca f kq ad) ++ (wKd kq) ++ (wMp ca kq (ad i0) m)) := hD.sub (ws' := (wX ca f kq ad) ++ (wKd kq) ++ (wMp ca kq (ad i0) m)) [18, 19, 20, 0, 1, 2, 3, 4, 5, 6, 7, 8, 9, 10, 11, 12, 13, 14, 15, 16, 17] (by decide +kernel) rfl
    exact vx_out (fun x h => (hno x h).elim) hlocks h91 h92 h93 (fun t9 e9 _ => xX_on m (gbad hB2 eE (rel_mono hR (by omega))) hP hD hS e9) hS.2.2 (by omega) (by omega)
  · skip
    have hP : va_P D vwCl ((wX ca f kq ad) ++ (wKd kq) ++ (wMp ca kq (ad i0) m)) H := hP.sub (ws' := (wX ca f kq ad) ++ (wKd kq) ++ (wMp ca kq (ad i0) m)) [18, 19, 20, 0, 1, 2, 3, 4, 5, 6, 7, 8, 9, 10, 11, 12, 13, 14, 15, 16, 17] rfl
    have hD : va_D A ((wX ca f kq ad) ++ (wKd kq) ++ (wMp ca kq (ad i0) m)) := hD.sub (ws' := (wX ca f kq ad) ++ (wKd kq) ++ (wMp ca kq (ad i0) m)) [18, 19, 20, 0, 1, 2, 3, 4, 5, 6, 7, 8, 9, 10, 11, 12, 13, 14, 15, 16, 17] (by decide +kernel) rfl
    obtain ⟨hm2, hB2⟩ := hu2
    subst hra2
    have hi3 := (hm hB2).2
    subst hm2
    refine lv_iload_n hx hb dX10_rank_5 rfl (lv_at hl 2 rfl) ?_
    refine xc_i (wr := wX ca f kq ad) (va_runV (As := [.int key]) (rest := []) ⟨hx, hb, hml, hown, hts⟩ (r_X6_countBefore l D ca kq (ad i0) _ m r N hR hN key) (cwV 1 hts gX10_rank_X6_countBefore rfl rfl rfl (by decide +kernel) ⟨(Nat.le_of_ble_eq_true rfl), (Nat.le_of_ble_eq_true rfl)⟩) (xPreV hKN hP hD [3, 4, 5, 6, 7, 8, 9, 10, 11, 12, 13, 14, 15, 16, 17, 18, 19, 20] (by decide +kernel) rfl (q0 := 7) rfl rfl rfl) rfl rfl hl.1 rfl (lv_room (Nat.le_of_ble_eq_true rfl)) dX10_rank_6 ⟨(Nat.le_of_ble_eq_true rfl), (Nat.le_of_ble_eq_true rfl)⟩) hP hD hS hA [3, 4, 5, 6, 7, 8, 9, 10, 11, 12, 13, 14, 15, 16, 17, 18, 19, 20] [0, 1, 2] rfl rfl (by decide +kernel) (by decide +kernel) (fun r6 u6 H locs hu6 hP hD hS => ?_)
    have hP : va_P D vwCl ((wX ca f kq ad) ++ (wKd kq) ++ (wMp ca kq (ad i0) u6)) H := hP
    have hD : va_D A ((wX ca f kq ad) ++ (wKd kq) ++ (wMp ca kq (ad i0) u6)) := hD
    obtain ⟨er6, eu6⟩ := hu6
    have eu6 := eu6.symm
    subst eu6
    subst er6
    have hP : va_P D vwCl ((wX ca f kq ad) ++ (wKd kq) ++ (wMp ca kq (ad i0) m)) H := hP
    have hD : va_D A ((wX ca f kq ad) ++ (wKd kq) ++ (wMp ca kq (ad i0) m)) := hD
    refine W.widen (k := 2) (n := 12) (by omega) (by omega) ?_
    exact vx_ret (W.iret (v := (nI (plE r.od key r.en))) hx hb hr (fun t9 e9 w9 => ⟨⟨_, m, rfl, gretF hB2 rfl (rel_mono hR (by omega)), by rw [e9]; exact hP, hD⟩, hS.F e9⟩) hS.2.2 dX10_rank_9)

-- TreeFamily.sum
set_option maxHeartbeats 4000000 in
set_option maxRecDepth 100000 in
theorem c_X10_sum (l : Launch) (D : va_G) (ca : Nat → ClassId) (f kq : Nat → Nat) (ad : Nat → Nat → Nat) (sz : Nat) (hl9 : l.stackTraces = false) (i0 : Nat) (m : MS) (r : RW) (N : Nat) (mm : Int32) (key : Int32) (hR : Rel1 N m r) (hN : N ≤ 1000000) (hm : isB mm 3 = true → mm = nI i0 ∧ i0 < 3) : vx_Met l yX10_sum wsX10_sum ({ frames := 7, cells := 2, slots := 12, locals := 111 } : Room) (xPcT D (TY ca) [.ref (f 0), .int mm, .int key] ((wX ca f kq ad) ++ (wKd kq) ++ (wMp ca kq (ad i0) m)) sz) (va_Ql (fun (x : Int64) (u : MS) => PR 0 (F_sum key) mm r N x u) (xB D (wF1 ca f kq ad i0) (va_A ((wX ca f kq ad) ++ (wKd kq) ++ (wMp ca kq (ad i0) m)) sz)) (va_A ((wX ca f kq ad) ++ (wKd kq) ++ (wMp ca kq (ad i0) m)) sz)) (xX D (wF1 ca f kq ad i0) (va_A ((wX ca f kq ad) ++ (wKd kq) ++ (wMp ca kq (ad i0) m)) sz) (fun (E : String) (u : MS) => PT xA (0 : Int64) (F_sum key) mm r N E u)) 2 12 (va_A ((wX ca f kq ad) ++ (wKd kq) ++ (wMp ca kq (ad i0) m)) sz) := by
  refine vx_ofW (cc := cX10_sum) (maxL := 3) (ret := (some .long)) (by decide) rfl ?_
  intro p e s m9 args below meth c s₁ B hml hno hv
  obtain ⟨rfl, hsz, hP, hKN, hD0, hTZ⟩ := hv
  have hx := B.exec
  have hb := B.bytes
  have hr := B.returns
  have hts := atoms_spec (ws := wsX10_sum) B.pre
  have hown : s.vm.findClass RX10 = some m9.cls := findClass_of_methodNamed B.named
  have hlocks := B.notSynchronized
  subst hsz
  have hD := hD0.self (sz := s.heap.size)
  generalize hAe : va_A ((wX ca f kq ad) ++ (wKd kq) ++ (wMp ca kq (ad i0) m)) s.heap.size = A at hD hTZ ⊢
  have hA : ∀ q : Nat, s.heap.size ≤ q → A q := fun q h => by rw [← hAe]; exact Or.inr h
  have hS : va_S A s.heap s.heap [] := va_S.rf
  have hl := lv_entry ([.ref (f 0), .int mm, .int key]) (n := 3) (Nat.le_of_ble_eq_true rfl)
  rw [lg_entry_eq]
  generalize (lg_sl ([.ref (f 0), .int mm, .int key]) ++ List.replicate (3 - (lg_sl ([.ref (f 0), .int mm, .int key])).length) Slot.unset).toArray = ls at hl ⊢
  have hl : lv_has ls 3 [(0, .ref (f 0)), (1, .int mm), (2, .int key)] := hl
  refine lv_aload_n hx hb dX10_sum_0 rfl (lv_at hl 0 rfl) ?_
  refine lv_iload_n hx hb dX10_sum_1 rfl (lv_at hl 1 rfl) ?_
  refine xcx_r (wr := (wKd kq) ++ (wMp ca kq (ad i0) m)) (vx_runV (As := [.int mm]) (rest := []) ⟨hx, hb, hml, hown, hts⟩ (c_X10_mapAt l D ca f kq ad _ hl9 mm i0 hm) (cwV 1 hts gX10_sum_X10_mapAt rfl rfl rfl (by decide +kernel) ⟨(Nat.le_of_ble_eq_true rfl), (Nat.le_of_ble_eq_true rfl)⟩) (xPreVT hKN hTZ hP hD hS hA [0, 1, 2] (by decide +kernel) rfl (q0 := 0) rfl rfl rfl) rfl rfl hl.1 rfl (lv_room (Nat.le_of_ble_eq_true rfl)) dX10_sum_2 ⟨(Nat.le_of_ble_eq_true rfl), (Nat.le_of_ble_eq_true rfl)⟩) hP hD hS hA [0, 1, 2] [3, 4, 5, 6, 7, 8, 9, 10, 11, 12, 13, 14, 15, 16, 17, 18, 19, 20] rfl rfl (by decide +kernel) (by decide +kernel) (fun E9 ce9 q9 u2 H locs hu2 hP hD hS h91 h92 h93 => ?_) (fun ra u2 H locs hu2 hra2 hP hD hS => ?_)
  · skip
    obtain ⟨eE, hB2⟩ := hu2
    have hP : va_P D vwCl ((wX ca f kq ad) ++ (wKd kq) ++ (wMp ca kq (ad i0) m)) H := hP.sub (ws' := (wX ca f kq ad) ++ (wKd kq) ++ (wMp ca kq (ad i0) m)) [18, 19, 20, 0, 1, 2, 3, 4, 5, 6, 7, 8, 9, 10, 11, 12, 13, 14, 15, 16, 17] rfl
    have hD : va_D A ((wX ca f kq ad) ++ (wKd kq) ++ (wMp ca kq (ad i0) m)) := hD.sub (ws' := (wX ca f kq ad) ++ (wKd kq) ++ (wMp ca kq (ad i0) m)) [18, 19, 20, 0, 1, 2, 3, 4, 5, 6, 7, 8, 9, 10, 11, 12, 13, 14, 15, 16, 17] (by decide +kernel) rfl
    exact vx_out (fun x h => (hno x h).elim) hlocks h91 h92 h93 (fun t9 e9 _ => xX_on m (gbad hB2 eE (rel_mono hR (by omega))) hP hD hS e9) hS.2.2 (by omega) (by omega)
  · skip
    have hP : va_P D vwCl ((wX ca f kq ad) ++ (wKd kq) ++ (wMp ca kq (ad i0) m)) H := hP.sub (ws' := (wX ca f kq ad) ++ (wKd kq) ++ (wMp ca kq (ad i0) m)) [18, 19, 20, 0, 1, 2, 3, 4, 5, 6, 7, 8, 9, 10, 11, 12, 13, 14, 15, 16, 17] rfl
    have hD : va_D A ((wX ca f kq ad) ++ (wKd kq) ++ (wMp ca kq (ad i0) m)) := hD.sub (ws' := (wX ca f kq ad) ++ (wKd kq) ++ (wMp ca kq (ad i0) m)) [18, 19, 20, 0, 1, 2, 3, 4, 5, 6, 7, 8, 9, 10, 11, 12, 13, 14, 15, 16, 17] (by decide +kernel) rfl
    obtain ⟨hm2, hB2⟩ := hu2
    subst hra2
    have hi3 := (hm hB2).2
    subst hm2
    refine lv_iload_n hx hb dX10_sum_5 rfl (lv_at hl 2 rfl) ?_
    refine xc_l (wr := wX ca f kq ad) (va_runV (As := [.int key]) (rest := []) ⟨hx, hb, hml, hown, hts⟩ (r_X6_totalBefore l D ca kq (ad i0) _ m r N hR hN key) (cwV 1 hts gX10_sum_X6_totalBefore rfl rfl rfl (by decide +kernel) ⟨(Nat.le_of_ble_eq_true rfl), (Nat.le_of_ble_eq_true rfl)⟩) (xPreV hKN hP hD [3, 4, 5, 6, 7, 8, 9, 10, 11, 12, 13, 14, 15, 16, 17, 18, 19, 20] (by decide +kernel) rfl (q0 := 7) rfl rfl rfl) rfl rfl hl.1 rfl (lv_room (Nat.le_of_ble_eq_true rfl)) dX10_sum_6 ⟨(Nat.le_of_ble_eq_true rfl), (Nat.le_of_ble_eq_true rfl)⟩) hP hD hS hA [3, 4, 5, 6, 7, 8, 9, 10, 11, 12, 13, 14, 15, 16, 17, 18, 19, 20] [0, 1, 2] rfl rfl (by decide +kernel) (by decide +kernel) (fun r6 u6 H locs hu6 hP hD hS => ?_)
    have hP : va_P D vwCl ((wX ca f kq ad) ++ (wKd kq) ++ (wMp ca kq (ad i0) u6)) H := hP
    have hD : va_D A ((wX ca f kq ad) ++ (wKd kq) ++ (wMp ca kq (ad i0) u6)) := hD
    obtain ⟨er6, eu6⟩ := hu6
    have eu6 := eu6.symm
    subst eu6
    subst er6
    have hP : va_P D vwCl ((wX ca f kq ad) ++ (wKd kq) ++ (wMp ca kq (ad i0) m)) H := hP
    have hD : va_D A ((wX ca f kq ad) ++ (wKd kq) ++ (wMp ca kq (ad i0) m)) := hD
    refine W.widen (k := 2) (n := 12) (by omega) (by omega) ?_
    exact vx_ret (W.lret (v := (sumE (r.en.take (plE r.od key r.en)))) hx hb hr (fun t9 e9 w9 => ⟨⟨_, m, rfl, gretF hB2 rfl (rel_mono hR (by omega)), by rw [e9]; exact hP, hD⟩, hS.F e9⟩) hS.2.2 dX10_sum_9)

-- TreeFamily.select
set_option maxHeartbeats 4000000 in
set_option maxRecDepth 100000 in
theorem c_X10_select (l : Launch) (D : va_G) (ca : Nat → ClassId) (f kq : Nat → Nat) (ad : Nat → Nat → Nat) (sz : Nat) (hl9 : l.stackTraces = false) (i0 : Nat) (m : MS) (r : RW) (N : Nat) (mm : Int32) (x0 : Int32) (hR : Rel1 N m r) (hN : N ≤ 1000000) (hm : isB mm 3 = true → mm = nI i0 ∧ i0 < 3) : vx_Met l yX10_select wsX10_select ({ frames := 7, cells := 2, slots := 12, locals := 112 } : Room) (xPcT D (TY ca) [.ref (f 0), .int mm, .int x0] ((wX ca f kq ad) ++ (wKd kq) ++ (wMp ca kq (ad i0) m)) sz) (va_Qi (fun (x : Int32) (u : MS) => PR 0 (F_select x0) mm r N x u) (xB D (wF1 ca f kq ad i0) (va_A ((wX ca f kq ad) ++ (wKd kq) ++ (wMp ca kq (ad i0) m)) sz)) (va_A ((wX ca f kq ad) ++ (wKd kq) ++ (wMp ca kq (ad i0) m)) sz)) (xX D (wF1 ca f kq ad i0) (va_A ((wX ca f kq ad) ++ (wKd kq) ++ (wMp ca kq (ad i0) m)) sz) (fun (E : String) (u : MS) => PT xA (0 : Int32) (F_select x0) mm r N E u)) 2 12 (va_A ((wX ca f kq ad) ++ (wKd kq) ++ (wMp ca kq (ad i0) m)) sz) := by
  refine vx_ofW (cc := cX10_select) (maxL := 3) (ret := (some .int)) (by decide) rfl ?_
  intro p e s m9 args below meth c s₁ B hml hno hv
  obtain ⟨rfl, hsz, hP, hKN, hD0, hTZ⟩ := hv
  have hx := B.exec
  have hb := B.bytes
  have hr := B.returns
  have hts := atoms_spec (ws := wsX10_select) B.pre
  have hown : s.vm.findClass RX10 = some m9.cls := findClass_of_methodNamed B.named
  have hlocks := B.notSynchronized
  subst hsz
  have hD := hD0.self (sz := s.heap.size)
  generalize hAe : va_A ((wX ca f kq ad) ++ (wKd kq) ++ (wMp ca kq (ad i0) m)) s.heap.size = A at hD hTZ ⊢
  have hA : ∀ q : Nat, s.heap.size ≤ q → A q := fun q h => by rw [← hAe]; exact Or.inr h
  have hS : va_S A s.heap s.heap [] := va_S.rf
  have hl := lv_entry ([.ref (f 0), .int mm, .int x0]) (n := 3) (Nat.le_of_ble_eq_true rfl)
  rw [lg_entry_eq]
  generalize (lg_sl ([.ref (f 0), .int mm, .int x0]) ++ List.replicate (3 - (lg_sl ([.ref (f 0), .int mm, .int x0])).length) Slot.unset).toArray = ls at hl ⊢
  have hl : lv_has ls 3 [(0, .ref (f 0)), (1, .int mm), (2, .int x0)] := hl
  refine lv_aload_n hx hb dX10_select_0 rfl (lv_at hl 0 rfl) ?_
  refine lv_iload_n hx hb dX10_select_1 rfl (lv_at hl 1 rfl) ?_
  refine xcx_r (wr := (wKd kq) ++ (wMp ca kq (ad i0) m)) (vx_runV (As := [.int mm]) (rest := []) ⟨hx, hb, hml, hown, hts⟩ (c_X10_mapAt l D ca f kq ad _ hl9 mm i0 hm) (cwV 1 hts gX10_select_X10_mapAt rfl rfl rfl (by decide +kernel) ⟨(Nat.le_of_ble_eq_true rfl), (Nat.le_of_ble_eq_true rfl)⟩) (xPreVT hKN hTZ hP hD hS hA [0, 1, 2] (by decide +kernel) rfl (q0 := 0) rfl rfl rfl) rfl rfl hl.1 rfl (lv_room (Nat.le_of_ble_eq_true rfl)) dX10_select_2 ⟨(Nat.le_of_ble_eq_true rfl), (Nat.le_of_ble_eq_true rfl)⟩) hP hD hS hA [0, 1, 2] [3, 4, 5, 6, 7, 8, 9, 10, 11, 12, 13, 14, 15, 16, 17, 18, 19, 20] rfl rfl (by decide +kernel) (by decide +kernel) (fun E9 ce9 q9 u2 H locs hu2 hP hD hS h91 h92 h93 => ?_) (fun ra u2 H locs hu2 hra2 hP hD hS => ?_)
  · skip
    obtain ⟨eE, hB2⟩ := hu2
    have hP : va_P D vwCl ((wX ca f kq ad) ++ (wKd kq) ++ (wMp ca kq (ad i0) m)) H := hP.sub (ws' := (wX ca f kq ad) ++ (wKd kq) ++ (wMp ca kq (ad i0) m)) [18, 19, 20, 0, 1, 2, 3, 4, 5, 6, 7, 8, 9, 10, 11, 12, 13, 14, 15, 16, 17] rfl
    have hD : va_D A ((wX ca f kq ad) ++ (wKd kq) ++ (wMp ca kq (ad i0) m)) := hD.sub (ws' := (wX ca f kq ad) ++ (wKd kq) ++ (wMp ca kq (ad i0) m)) [18, 19, 20, 0, 1, 2, 3, 4, 5, 6, 7, 8, 9, 10, 11, 12, 13, 14, 15, 16, 17] (by decide +kernel) rfl
    exact vx_out (fun x h => (hno x h).elim) hlocks h91 h92 h93 (fun t9 e9 _ => xX_on m (gbad hB2 eE (rel_mono hR (by omega))) hP hD hS e9) hS.2.2 (by omega) (by omega)
  · skip
    have hP : va_P D vwCl ((wX ca f kq ad) ++ (wKd kq) ++ (wMp ca kq (ad i0) m)) H := hP.sub (ws' := (wX ca f kq ad) ++ (wKd kq) ++ (wMp ca kq (ad i0) m)) [18, 19, 20, 0, 1, 2, 3, 4, 5, 6, 7, 8, 9, 10, 11, 12, 13, 14, 15, 16, 17] rfl
    have hD : va_D A ((wX ca f kq ad) ++ (wKd kq) ++ (wMp ca kq (ad i0) m)) := hD.sub (ws' := (wX ca f kq ad) ++ (wKd kq) ++ (wMp ca kq (ad i0) m)) [18, 19, 20, 0, 1, 2, 3, 4, 5, 6, 7, 8, 9, 10, 11, 12, 13, 14, 15, 16, 17] (by decide +kernel) rfl
    obtain ⟨hm2, hB2⟩ := hu2
    subst hra2
    have hi3 := (hm hB2).2
    subst hm2
    refine lv_iload_n hx hb dX10_select_5 rfl (lv_at hl 2 rfl) ?_
    refine xcx_i (wr := wX ca f kq ad) (vx_runV (As := [.int x0]) (rest := []) ⟨hx, hb, hml, hown, hts⟩ (r_X6_keyAt l D ca kq (ad i0) _ hl9 m r N hR hN x0) (cwV 1 hts gX10_select_X6_keyAt rfl rfl rfl (by decide +kernel) ⟨(Nat.le_of_ble_eq_true rfl), (Nat.le_of_ble_eq_true rfl)⟩) (xPreVT hKN hTZ hP hD hS hA [3, 4, 5, 6, 7, 8, 9, 10, 11, 12, 13, 14, 15, 16, 17, 18, 19, 20] (by decide +kernel) rfl (q0 := 7) rfl rfl rfl) rfl rfl hl.1 rfl (lv_room (Nat.le_of_ble_eq_true rfl)) dX10_select_6 ⟨(Nat.le_of_ble_eq_true rfl), (Nat.le_of_ble_eq_true rfl)⟩) hP hD hS hA [3, 4, 5, 6, 7, 8, 9, 10, 11, 12, 13, 14, 15, 16, 17, 18, 19, 20] [0, 1, 2] rfl rfl (by decide +kernel) (by decide +kernel) (fun E9 ce9 q9 u6 H locs hu6 hP hD hS h91 h92 h93 => ?_) (fun r6 u6 H locs hu6 hP hD hS => ?_)
    · skip
      have hP : va_P D vwCl ((wX ca f kq ad) ++ (wKd kq) ++ (wMp ca kq (ad i0) u6)) H := hP
      have hD : va_D A ((wX ca f kq ad) ++ (wKd kq) ++ (wMp ca kq (ad i0) u6)) := hD
      obtain ⟨eE, x1, eu6⟩ := hu6
      have eu6 := eu6.symm
      subst eu6
      exact vx_out (fun x h => (hno x h).elim) hlocks h91 h92 h93 (fun t9 e9 _ => xX_on m (gthr hB2 (sel_t (rel_len hR) x1) (by decide) eE (rel_mono hR (by omega))) hP hD hS e9) hS.2.2 (by omega) (by omega)
    · skip
      have hP : va_P D vwCl ((wX ca f kq ad) ++ (wKd kq) ++ (wMp ca kq (ad i0) u6)) H := hP
      have hD : va_D A ((wX ca f kq ad) ++ (wKd kq) ++ (wMp ca kq (ad i0) u6)) := hD
      obtain ⟨⟨k6, ka6, kb6, kc6⟩, eu6⟩ := hu6
      have eu6 := eu6.symm
      subst eu6
      have hP : va_P D vwCl ((wX ca f kq ad) ++ (wKd kq) ++ (wMp ca kq (ad i0) m)) H := hP
      have hD : va_D A ((wX ca f kq ad) ++ (wKd kq) ++ (wMp ca kq (ad i0) m)) := hD
      refine W.widen (k := 2) (n := 12) (by omega) (by omega) ?_
      exact vx_ret (W.iret (v := r6) hx hb hr (fun t9 e9 w9 => ⟨⟨_, m, rfl, gretF hB2 (sel_r (rel_len hR) ka6 kb6 kc6) (rel_mono hR (by omega)), by rw [e9]; exact hP, hD⟩, hS.F e9⟩) hS.2.2 dX10_select_9)

-- TreeFamily.near
theorem inT_X10_near_eIA : ∀ w ∈ (vx_atS RX10 48 eIA eNs).filter goodWord, w ∈ wsX10_near := by decide +kernel
set_option maxHeartbeats 4000000 in
set_option maxRecDepth 100000 in
theorem c_X10_near (l : Launch) (D : va_G) (ca : Nat → ClassId) (f kq : Nat → Nat) (ad : Nat → Nat → Nat) (sz : Nat) (hl9 : l.stackTraces = false) (i0 : Nat) (m : MS) (r : RW) (N : Nat) (mm : Int32) (which key : Int32) (hR : Rel1 N m r) (hN : N ≤ 1000000) (hm : isB mm 3 = true → mm = nI i0 ∧ i0 < 3) : vx_Met l yX10_near wsX10_near ({ frames := 7, cells := 2, slots := 12, locals := 112 } : Room) (xPcT D (TY ca) [.ref (f 0), .int mm, .int which, .int key] ((wX ca f kq ad) ++ (wKd kq) ++ (wMp ca kq (ad i0) m)) sz) (va_Qi (fun (x : Int32) (u : MS) => PR 0 (F_near which key) mm r N x u) (xB D (wF1 ca f kq ad i0) (va_A ((wX ca f kq ad) ++ (wKd kq) ++ (wMp ca kq (ad i0) m)) sz)) (va_A ((wX ca f kq ad) ++ (wKd kq) ++ (wMp ca kq (ad i0) m)) sz)) (xX D (wF1 ca f kq ad i0) (va_A ((wX ca f kq ad) ++ (wKd kq) ++ (wMp ca kq (ad i0) m)) sz) (fun (E : String) (u : MS) => PT xA (0 : Int32) (F_near which key) mm r N E u)) 2 12 (va_A ((wX ca f kq ad) ++ (wKd kq) ++ (wMp ca kq (ad i0) m)) sz) := by
  refine vx_ofW (cc := cX10_near) (maxL := 5) (ret := (some .int)) (by decide) rfl ?_
  intro p e s m9 args below meth c s₁ B hml hno hv
  obtain ⟨rfl, hsz, hP, hKN, hD0, hTZ⟩ := hv
  have hx := B.exec
  have hb := B.bytes
  have hr := B.returns
  have hts := atoms_spec (ws := wsX10_near) B.pre
  have hown : s.vm.findClass RX10 = some m9.cls := findClass_of_methodNamed B.named
  have hlocks := B.notSynchronized
  subst hsz
  have hD := hD0.self (sz := s.heap.size)
  generalize hAe : va_A ((wX ca f kq ad) ++ (wKd kq) ++ (wMp ca kq (ad i0) m)) s.heap.size = A at hD hTZ ⊢
  have hA : ∀ q : Nat, s.heap.size ≤ q → A q := fun q h => by rw [← hAe]; exact Or.inr h
  have hS : va_S A s.heap s.heap [] := va_S.rf
  have hl := lv_entry ([.ref (f 0), .int mm, .int which, .int key]) (n := 5) (Nat.le_of_ble_eq_true rfl)
  rw [lg_entry_eq]
  generalize (lg_sl ([.ref (f 0), .int mm, .int which, .int key]) ++ List.replicate (5 - (lg_sl ([.ref (f 0), .int mm, .int which, .int key])).length) Slot.unset).toArray = ls at hl ⊢
  have hl : lv_has ls 5 [(0, .ref (f 0)), (1, .int mm), (2, .int which), (3, .int key)] := hl
  refine lv_aload_n hx hb dX10_near_0 rfl (lv_at hl 0 rfl) ?_
  refine lv_iload_n hx hb dX10_near_1 rfl (lv_at hl 1 rfl) ?_
  refine xcx_r (wr := (wKd kq) ++ (wMp ca kq (ad i0) m)) (vx_runV (As := [.int mm]) (rest := []) ⟨hx, hb, hml, hown, hts⟩ (c_X10_mapAt l D ca f kq ad _ hl9 mm i0 hm) (cwV 1 hts gX10_near_X10_mapAt rfl rfl rfl (by decide +kernel) ⟨(Nat.le_of_ble_eq_true rfl), (Nat.le_of_ble_eq_true rfl)⟩) (xPreVT hKN hTZ hP hD hS hA [0, 1, 2] (by decide +kernel) rfl (q0 := 0) rfl rfl rfl) rfl rfl hl.1 rfl (lv_room (Nat.le_of_ble_eq_true rfl)) dX10_near_2 ⟨(Nat.le_of_ble_eq_true rfl), (Nat.le_of_ble_eq_true rfl)⟩) hP hD hS hA [0, 1, 2] [3, 4, 5, 6, 7, 8, 9, 10, 11, 12, 13, 14, 15, 16, 17, 18, 19, 20] rfl rfl (by decide +kernel) (by decide +kernel) (fun E9 ce9 q9 u2 H locs hu2 hP hD hS h91 h92 h93 => ?_) (fun ra u2 H locs hu2 hra2 hP hD hS => ?_)
  · skip
    obtain ⟨eE, hB2⟩ := hu2
    have hP : va_P D vwCl ((wX ca f kq ad) ++ (wKd kq) ++ (wMp ca kq (ad i0) m)) H := hP.sub (ws' := (wX ca f kq ad) ++ (wKd kq) ++ (wMp ca kq (ad i0) m)) [18, 19, 20, 0, 1, 2, 3, 4, 5, 6, 7, 8, 9, 10, 11, 12, 13, 14, 15, 16, 17] rfl
    have hD : va_D A ((wX ca f kq ad) ++ (wKd kq) ++ (wMp ca kq (ad i0) m)) := hD.sub (ws' := (wX ca f kq ad) ++ (wKd kq) ++ (wMp ca kq (ad i0) m)) [18, 19, 20, 0, 1, 2, 3, 4, 5, 6, 7, 8, 9, 10, 11, 12, 13, 14, 15, 16, 17] (by decide +kernel) rfl
    exact vx_out (fun x h => (hno x h).elim) hlocks h91 h92 h93 (fun t9 e9 _ => xX_on m (gbad hB2 eE (rel_mono hR (by omega))) hP hD hS e9) hS.2.2 (by omega) (by omega)
  · skip
    have hP : va_P D vwCl ((wX ca f kq ad) ++ (wKd kq) ++ (wMp ca kq (ad i0) m)) H := hP.sub (ws' := (wX ca f kq ad) ++ (wKd kq) ++ (wMp ca kq (ad i0) m)) [18, 19, 20, 0, 1, 2, 3, 4, 5, 6, 7, 8, 9, 10, 11, 12, 13, 14, 15, 16, 17] rfl
    have hD : va_D A ((wX ca f kq ad) ++ (wKd kq) ++ (wMp ca kq (ad i0) m)) := hD.sub (ws' := (wX ca f kq ad) ++ (wKd kq) ++ (wMp ca kq (ad i0) m)) [18, 19, 20, 0, 1, 2, 3, 4, 5, 6, 7, 8, 9, 10, 11, 12, 13, 14, 15, 16, 17] (by decide +kernel) rfl
    obtain ⟨hm2, hB2⟩ := hu2
    subst hra2
    have hi3 := (hm hB2).2
    subst hm2
    refine lv_astore (lv' := [(4, .ref (ad i0 11)), (0, .ref (f 0)), (1, .int (nI i0)), (2, .int which), (3, .int key)]) hx hb dX10_near_5 hl (by decide) rfl (fun ls hl => ?_)
    refine lv_iload_n hx hb dX10_near_7 rfl (lv_at hl 3 rfl) ?_
    by_cases k8_0 : which = 0
    · refine lv_tableIn (tgt := 40) (off := 32) hx hb dX10_near_8 (by rw [k8_0]; decide) (by rw [k8_0]; decide) (by rw [k8_0]; rfl) (by decide) ?_
      refine lv_aload hx hb dX10_near_40 (lv_at hl 0 rfl) ?_
      refine lv_aload hx hb dX10_near_42 (lv_at hl 0 rfl) ?_
      refine lv_iload_n hx hb dX10_near_44 rfl (lv_at hl 4 rfl) ?_
      refine xc_i (wr := wX ca f kq ad) (va_runV (As := [.int key]) (rest := [.ref (ad i0 11)]) ⟨hx, hb, hml, hown, hts⟩ (r_X6_countUpTo l D ca kq (ad i0) _ m r N hR hN key) (cwV 1 hts gX10_near_X6_countUpTo rfl rfl rfl (by decide +kernel) ⟨(Nat.le_of_ble_eq_true rfl), (Nat.le_of_ble_eq_true rfl)⟩) (xPreV hKN hP hD [3, 4, 5, 6, 7, 8, 9, 10, 11, 12, 13, 14, 15, 16, 17, 18, 19, 20] (by decide +kernel) rfl (q0 := 7) rfl rfl rfl) rfl rfl hl.1 rfl (lv_room (Nat.le_of_ble_eq_true rfl)) dX10_near_45 ⟨(Nat.le_of_ble_eq_true rfl), (Nat.le_of_ble_eq_true rfl)⟩) hP hD hS hA [3, 4, 5, 6, 7, 8, 9, 10, 11, 12, 13, 14, 15, 16, 17, 18, 19, 20] [0, 1, 2] rfl rfl (by decide +kernel) (by decide +kernel) (fun r45 u45 H locs hu45 hP hD hS => ?_)
      have hP : va_P D vwCl ((wX ca f kq ad) ++ (wKd kq) ++ (wMp ca kq (ad i0) u45)) H := hP
      have hD : va_D A ((wX ca f kq ad) ++ (wKd kq) ++ (wMp ca kq (ad i0) u45)) := hD
      obtain ⟨er45, hR45⟩ := hu45
      subst er45
      refine lv_iconst (v := 1) hx hb dX10_near_48 (by decide) ?_
      refine lv_isub hx hb dX10_near_49 ?_
      refine xcx_i (wr := wX ca f kq ad) (vx_runV (As := [.int ((nI (plE r.od key r.en + (if hitE r.od key r.en = true then 1 else 0))) - 1)]) (rest := []) ⟨hx, hb, hml, hown, hts⟩ (r_X6_keyAt l D ca kq (ad i0) _ hl9 u45 r N hR45 hN ((nI (plE r.od key r.en + (if hitE r.od key r.en = true then 1 else 0))) - 1)) (cwV 1 hts gX10_near_X6_keyAt rfl rfl rfl (by decide +kernel) ⟨(Nat.le_of_ble_eq_true rfl), (Nat.le_of_ble_eq_true rfl)⟩) (xPreVT hKN hTZ hP hD hS hA [3, 4, 5, 6, 7, 8, 9, 10, 11, 12, 13, 14, 15, 16, 17, 18, 19, 20] (by decide +kernel) rfl (q0 := 7) rfl rfl rfl) rfl rfl hl.1 rfl (lv_room (Nat.le_of_ble_eq_true rfl)) dX10_near_50 ⟨(Nat.le_of_ble_eq_true rfl), (Nat.le_of_ble_eq_true rfl)⟩) hP hD hS hA [3, 4, 5, 6, 7, 8, 9, 10, 11, 12, 13, 14, 15, 16, 17, 18, 19, 20] [0, 1, 2] rfl rfl (by decide +kernel) (by decide +kernel) (fun E9 ce9 q9 u50 H locs hu50 hP hD hS h91 h92 h93 => ?_) (fun r50 u50 H locs hu50 hP hD hS => ?_)
      · skip
        have hP : va_P D vwCl ((wX ca f kq ad) ++ (wKd kq) ++ (wMp ca kq (ad i0) u50)) H := hP
        have hD : va_D A ((wX ca f kq ad) ++ (wKd kq) ++ (wMp ca kq (ad i0) u50)) := hD
        obtain ⟨eE, x1, eu50⟩ := hu50
        have eu50 := eu50.symm
        subst eu50
        exact vx_out (fun x h => (hno x h).elim) hlocks h91 h92 h93 (fun t9 e9 _ => xX_on u45 (gthr hB2 (near_t (by rw [k8_0]; decide) (nk_0 k8_0) (rel_len hR) rfl x1) (by decide) eE (rel_mono hR45 (by omega))) hP hD hS e9) hS.2.2 (by omega) (by omega)
      · skip
        have hP : va_P D vwCl ((wX ca f kq ad) ++ (wKd kq) ++ (wMp ca kq (ad i0) u50)) H := hP
        have hD : va_D A ((wX ca f kq ad) ++ (wKd kq) ++ (wMp ca kq (ad i0) u50)) := hD
        obtain ⟨⟨k50, ka50, kb50, kc50⟩, eu50⟩ := hu50
        have eu50 := eu50.symm
        subst eu50
        have hP : va_P D vwCl ((wX ca f kq ad) ++ (wKd kq) ++ (wMp ca kq (ad i0) u45)) H := hP
        have hD : va_D A ((wX ca f kq ad) ++ (wKd kq) ++ (wMp ca kq (ad i0) u45)) := hD
        refine W.widen (k := 2) (n := 12) (by omega) (by omega) ?_
        exact vx_ret (W.iret (v := r50) hx hb hr (fun t9 e9 w9 => ⟨⟨_, u45, rfl, gretF hB2 (near_r (by rw [k8_0]; decide) (nk_0 k8_0) (rel_len hR) rfl ka50 kb50 kc50 (by have h9 := plE_le r.od key r.en; have h8 := rel_len hR; split <;> omega)) (rel_mono hR45 (by omega)), by rw [e9]; exact hP, hD⟩, hS.F e9⟩) hS.2.2 dX10_near_53)
    by_cases k8_1 : which = 1
    · refine lv_tableIn (tgt := 54) (off := 46) hx hb dX10_near_8 (by rw [k8_1]; decide) (by rw [k8_1]; decide) (by rw [k8_1]; rfl) (by decide) ?_
      refine lv_aload hx hb dX10_near_54 (lv_at hl 0 rfl) ?_
      refine lv_aload hx hb dX10_near_56 (lv_at hl 0 rfl) ?_
      refine lv_iload_n hx hb dX10_near_58 rfl (lv_at hl 4 rfl) ?_
      refine xc_i (wr := wX ca f kq ad) (va_runV (As := [.int key]) (rest := [.ref (ad i0 11)]) ⟨hx, hb, hml, hown, hts⟩ (r_X6_countBefore l D ca kq (ad i0) _ m r N hR hN key) (cwV 1 hts gX10_near_X6_countBefore rfl rfl rfl (by decide +kernel) ⟨(Nat.le_of_ble_eq_true rfl), (Nat.le_of_ble_eq_true rfl)⟩) (xPreV hKN hP hD [3, 4, 5, 6, 7, 8, 9, 10, 11, 12, 13, 14, 15, 16, 17, 18, 19, 20] (by decide +kernel) rfl (q0 := 7) rfl rfl rfl) rfl rfl hl.1 rfl (lv_room (Nat.le_of_ble_eq_true rfl)) dX10_near_59 ⟨(Nat.le_of_ble_eq_true rfl), (Nat.le_of_ble_eq_true rfl)⟩) hP hD hS hA [3, 4, 5, 6, 7, 8, 9, 10, 11, 12, 13, 14, 15, 16, 17, 18, 19, 20] [0, 1, 2] rfl rfl (by decide +kernel) (by decide +kernel) (fun r59 u59 H locs hu59 hP hD hS => ?_)
      have hP : va_P D vwCl ((wX ca f kq ad) ++ (wKd kq) ++ (wMp ca kq (ad i0) u59)) H := hP
      have hD : va_D A ((wX ca f kq ad) ++ (wKd kq) ++ (wMp ca kq (ad i0) u59)) := hD
      obtain ⟨er59, eu59⟩ := hu59
      have eu59 := eu59.symm
      subst eu59
      subst er59
      have hP : va_P D vwCl ((wX ca f kq ad) ++ (wKd kq) ++ (wMp ca kq (ad i0) m)) H := hP
      have hD : va_D A ((wX ca f kq ad) ++ (wKd kq) ++ (wMp ca kq (ad i0) m)) := hD
      refine xcx_i (wr := wX ca f kq ad) (vx_runV (As := [.int (nI (plE r.od key r.en))]) (rest := []) ⟨hx, hb, hml, hown, hts⟩ (r_X6_keyAt l D ca kq (ad i0) _ hl9 m r N hR hN (nI (plE r.od key r.en))) (cwV 1 hts gX10_near_X6_keyAt rfl rfl rfl (by decide +kernel) ⟨(Nat.le_of_ble_eq_true rfl), (Nat.le_of_ble_eq_true rfl)⟩) (xPreVT hKN hTZ hP hD hS hA [3, 4, 5, 6, 7, 8, 9, 10, 11, 12, 13, 14, 15, 16, 17, 18, 19, 20] (by decide +kernel) rfl (q0 := 7) rfl rfl rfl) rfl rfl hl.1 rfl (lv_room (Nat.le_of_ble_eq_true rfl)) dX10_near_62 ⟨(Nat.le_of_ble_eq_true rfl), (Nat.le_of_ble_eq_true rfl)⟩) hP hD hS hA [3, 4, 5, 6, 7, 8, 9, 10, 11, 12, 13, 14, 15, 16, 17, 18, 19, 20] [0, 1, 2] rfl rfl (by decide +kernel) (by decide +kernel) (fun E9 ce9 q9 u62 H locs hu62 hP hD hS h91 h92 h93 => ?_) (fun r62 u62 H locs hu62 hP hD hS => ?_)
      · skip
        have hP : va_P D vwCl ((wX ca f kq ad) ++ (wKd kq) ++ (wMp ca kq (ad i0) u62)) H := hP
        have hD : va_D A ((wX ca f kq ad) ++ (wKd kq) ++ (wMp ca kq (ad i0) u62)) := hD
        obtain ⟨eE, x1, eu62⟩ := hu62
        have eu62 := eu62.symm
        subst eu62
        exact vx_out (fun x h => (hno x h).elim) hlocks h91 h92 h93 (fun t9 e9 _ => xX_on m (gthr hB2 (near_t (by rw [k8_1]; decide) (nk_1 k8_1) (rel_len hR) (m1_add _) x1) (by decide) eE (rel_mono hR (by omega))) hP hD hS e9) hS.2.2 (by omega) (by omega)
      · skip
        have hP : va_P D vwCl ((wX ca f kq ad) ++ (wKd kq) ++ (wMp ca kq (ad i0) u62)) H := hP
        have hD : va_D A ((wX ca f kq ad) ++ (wKd kq) ++ (wMp ca kq (ad i0) u62)) := hD
        obtain ⟨⟨k62, ka62, kb62, kc62⟩, eu62⟩ := hu62
        have eu62 := eu62.symm
        subst eu62
        have hP : va_P D vwCl ((wX ca f kq ad) ++ (wKd kq) ++ (wMp ca kq (ad i0) m)) H := hP
        have hD : va_D A ((wX ca f kq ad) ++ (wKd kq) ++ (wMp ca kq (ad i0) m)) := hD
        refine W.widen (k := 2) (n := 12) (by omega) (by omega) ?_
        exact vx_ret (W.iret (v := r62) hx hb hr (fun t9 e9 w9 => ⟨⟨_, m, rfl, gretF hB2 (near_r (by rw [k8_1]; decide) (nk_1 k8_1) (rel_len hR) (m1_add _) ka62 kb62 kc62 (by have h9 := plE_le r.od key r.en; have h8 := rel_len hR; omega)) (rel_mono hR (by omega)), by rw [e9]; exact hP, hD⟩, hS.F e9⟩) hS.2.2 dX10_near_65)
    by_cases k8_2 : which = 2
    · refine lv_tableIn (tgt := 66) (off := 58) hx hb dX10_near_8 (by rw [k8_2]; decide) (by rw [k8_2]; decide) (by rw [k8_2]; rfl) (by decide) ?_
      refine lv_aload hx hb dX10_near_66 (lv_at hl 0 rfl) ?_
      refine lv_aload hx hb dX10_near_68 (lv_at hl 0 rfl) ?_
      refine lv_iload_n hx hb dX10_near_70 rfl (lv_at hl 4 rfl) ?_
      refine xc_i (wr := wX ca f kq ad) (va_runV (As := [.int key]) (rest := [.ref (ad i0 11)]) ⟨hx, hb, hml, hown, hts⟩ (r_X6_countBefore l D ca kq (ad i0) _ m r N hR hN key) (cwV 1 hts gX10_near_X6_countBefore rfl rfl rfl (by decide +kernel) ⟨(Nat.le_of_ble_eq_true rfl), (Nat.le_of_ble_eq_true rfl)⟩) (xPreV hKN hP hD [3, 4, 5, 6, 7, 8, 9, 10, 11, 12, 13, 14, 15, 16, 17, 18, 19, 20] (by decide +kernel) rfl (q0 := 7) rfl rfl rfl) rfl rfl hl.1 rfl (lv_room (Nat.le_of_ble_eq_true rfl)) dX10_near_71 ⟨(Nat.le_of_ble_eq_true rfl), (Nat.le_of_ble_eq_true rfl)⟩) hP hD hS hA [3, 4, 5, 6, 7, 8, 9, 10, 11, 12, 13, 14, 15, 16, 17, 18, 19, 20] [0, 1, 2] rfl rfl (by decide +kernel) (by decide +kernel) (fun r71 u71 H locs hu71 hP hD hS => ?_)
      have hP : va_P D vwCl ((wX ca f kq ad) ++ (wKd kq) ++ (wMp ca kq (ad i0) u71)) H := hP
      have hD : va_D A ((wX ca f kq ad) ++ (wKd kq) ++ (wMp ca kq (ad i0) u71)) := hD
      obtain ⟨er71, eu71⟩ := hu71
      have eu71 := eu71.symm
      subst eu71
      subst er71
      have hP : va_P D vwCl ((wX ca f kq ad) ++ (wKd kq) ++ (wMp ca kq (ad i0) m)) H := hP
      have hD : va_D A ((wX ca f kq ad) ++ (wKd kq) ++ (wMp ca kq (ad i0) m)) := hD
      refine lv_iconst (v := 1) hx hb dX10_near_74 (by decide) ?_
      refine lv_isub hx hb dX10_near_75 ?_
      refine xcx_i (wr := wX ca f kq ad) (vx_runV (As := [.int ((nI (plE r.od key r.en)) - 1)]) (rest := []) ⟨hx, hb, hml, hown, hts⟩ (r_X6_keyAt l D ca kq (ad i0) _ hl9 m r N hR hN ((nI (plE r.od key r.en)) - 1)) (cwV 1 hts gX10_near_X6_keyAt rfl rfl rfl (by decide +kernel) ⟨(Nat.le_of_ble_eq_true rfl), (Nat.le_of_ble_eq_true rfl)⟩) (xPreVT hKN hTZ hP hD hS hA [3, 4, 5, 6, 7, 8, 9, 10, 11, 12, 13, 14, 15, 16, 17, 18, 19, 20] (by decide +kernel) rfl (q0 := 7) rfl rfl rfl) rfl rfl hl.1 rfl (lv_room (Nat.le_of_ble_eq_true rfl)) dX10_near_76 ⟨(Nat.le_of_ble_eq_true rfl), (Nat.le_of_ble_eq_true rfl)⟩) hP hD hS hA [3, 4, 5, 6, 7, 8, 9, 10, 11, 12, 13, 14, 15, 16, 17, 18, 19, 20] [0, 1, 2] rfl rfl (by decide +kernel) (by decide +kernel) (fun E9 ce9 q9 u76 H locs hu76 hP hD hS h91 h92 h93 => ?_) (fun r76 u76 H locs hu76 hP hD hS => ?_)
      · skip
        have hP : va_P D vwCl ((wX ca f kq ad) ++ (wKd kq) ++ (wMp ca kq (ad i0) u76)) H := hP
        have hD : va_D A ((wX ca f kq ad) ++ (wKd kq) ++ (wMp ca kq (ad i0) u76)) := hD
        obtain ⟨eE, x1, eu76⟩ := hu76
        have eu76 := eu76.symm
        subst eu76
        exact vx_out (fun x h => (hno x h).elim) hlocks h91 h92 h93 (fun t9 e9 _ => xX_on m (gthr hB2 (near_t (by rw [k8_2]; decide) (nk_2 k8_2) (rel_len hR) rfl x1) (by decide) eE (rel_mono hR (by omega))) hP hD hS e9) hS.2.2 (by omega) (by omega)
      · skip
        have hP : va_P D vwCl ((wX ca f kq ad) ++ (wKd kq) ++ (wMp ca kq (ad i0) u76)) H := hP
        have hD : va_D A ((wX ca f kq ad) ++ (wKd kq) ++ (wMp ca kq (ad i0) u76)) := hD
        obtain ⟨⟨k76, ka76, kb76, kc76⟩, eu76⟩ := hu76
        have eu76 := eu76.symm
        subst eu76
        have hP : va_P D vwCl ((wX ca f kq ad) ++ (wKd kq) ++ (wMp ca kq (ad i0) m)) H := hP
        have hD : va_D A ((wX ca f kq ad) ++ (wKd kq) ++ (wMp ca kq (ad i0) m)) := hD
        refine W.widen (k := 2) (n := 12) (by omega) (by omega) ?_
        exact vx_ret (W.iret (v := r76) hx hb hr (fun t9 e9 w9 => ⟨⟨_, m, rfl, gretF hB2 (near_r (by rw [k8_2]; decide) (nk_2 k8_2) (rel_len hR) rfl ka76 kb76 kc76 (by have h9 := plE_le r.od key r.en; have h8 := rel_len hR; omega)) (rel_mono hR (by omega)), by rw [e9]; exact hP, hD⟩, hS.F e9⟩) hS.2.2 dX10_near_79)
    by_cases k8_3 : which = 3
    · refine lv_tableIn (tgt := 80) (off := 72) hx hb dX10_near_8 (by rw [k8_3]; decide) (by rw [k8_3]; decide) (by rw [k8_3]; rfl) (by decide) ?_
      refine lv_aload hx hb dX10_near_80 (lv_at hl 0 rfl) ?_
      refine lv_aload hx hb dX10_near_82 (lv_at hl 0 rfl) ?_
      refine lv_iload_n hx hb dX10_near_84 rfl (lv_at hl 4 rfl) ?_
      refine xc_i (wr := wX ca f kq ad) (va_runV (As := [.int key]) (rest := [.ref (ad i0 11)]) ⟨hx, hb, hml, hown, hts⟩ (r_X6_countUpTo l D ca kq (ad i0) _ m r N hR hN key) (cwV 1 hts gX10_near_X6_countUpTo rfl rfl rfl (by decide +kernel) ⟨(Nat.le_of_ble_eq_true rfl), (Nat.le_of_ble_eq_true rfl)⟩) (xPreV hKN hP hD [3, 4, 5, 6, 7, 8, 9, 10, 11, 12, 13, 14, 15, 16, 17, 18, 19, 20] (by decide +kernel) rfl (q0 := 7) rfl rfl rfl) rfl rfl hl.1 rfl (lv_room (Nat.le_of_ble_eq_true rfl)) dX10_near_85 ⟨(Nat.le_of_ble_eq_true rfl), (Nat.le_of_ble_eq_true rfl)⟩) hP hD hS hA [3, 4, 5, 6, 7, 8, 9, 10, 11, 12, 13, 14, 15, 16, 17, 18, 19, 20] [0, 1, 2] rfl rfl (by decide +kernel) (by decide +kernel) (fun r85 u85 H locs hu85 hP hD hS => ?_)
      have hP : va_P D vwCl ((wX ca f kq ad) ++ (wKd kq) ++ (wMp ca kq (ad i0) u85)) H := hP
      have hD : va_D A ((wX ca f kq ad) ++ (wKd kq) ++ (wMp ca kq (ad i0) u85)) := hD
      obtain ⟨er85, hR85⟩ := hu85
      subst er85
      refine xcx_i (wr := wX ca f kq ad) (vx_runV (As := [.int (nI (plE r.od key r.en + (if hitE r.od key r.en = true then 1 else 0)))]) (rest := []) ⟨hx, hb, hml, hown, hts⟩ (r_X6_keyAt l D ca kq (ad i0) _ hl9 u85 r N hR85 hN (nI (plE r.od key r.en + (if hitE r.od key r.en = true then 1 else 0)))) (cwV 1 hts gX10_near_X6_keyAt rfl rfl rfl (by decide +kernel) ⟨(Nat.le_of_ble_eq_true rfl), (Nat.le_of_ble_eq_true rfl)⟩) (xPreVT hKN hTZ hP hD hS hA [3, 4, 5, 6, 7, 8, 9, 10, 11, 12, 13, 14, 15, 16, 17, 18, 19, 20] (by decide +kernel) rfl (q0 := 7) rfl rfl rfl) rfl rfl hl.1 rfl (lv_room (Nat.le_of_ble_eq_true rfl)) dX10_near_88 ⟨(Nat.le_of_ble_eq_true rfl), (Nat.le_of_ble_eq_true rfl)⟩) hP hD hS hA [3, 4, 5, 6, 7, 8, 9, 10, 11, 12, 13, 14, 15, 16, 17, 18, 19, 20] [0, 1, 2] rfl rfl (by decide +kernel) (by decide +kernel) (fun E9 ce9 q9 u88 H locs hu88 hP hD hS h91 h92 h93 => ?_) (fun r88 u88 H locs hu88 hP hD hS => ?_)
      · skip
        have hP : va_P D vwCl ((wX ca f kq ad) ++ (wKd kq) ++ (wMp ca kq (ad i0) u88)) H := hP
        have hD : va_D A ((wX ca f kq ad) ++ (wKd kq) ++ (wMp ca kq (ad i0) u88)) := hD
        obtain ⟨eE, x1, eu88⟩ := hu88
        have eu88 := eu88.symm
        subst eu88
        exact vx_out (fun x h => (hno x h).elim) hlocks h91 h92 h93 (fun t9 e9 _ => xX_on u85 (gthr hB2 (near_t (by rw [k8_3]; decide) (nk_3 k8_3) (rel_len hR) (m1_add _) x1) (by decide) eE (rel_mono hR85 (by omega))) hP hD hS e9) hS.2.2 (by omega) (by omega)
      · skip
        have hP : va_P D vwCl ((wX ca f kq ad) ++ (wKd kq) ++ (wMp ca kq (ad i0) u88)) H := hP
        have hD : va_D A ((wX ca f kq ad) ++ (wKd kq) ++ (wMp ca kq (ad i0) u88)) := hD
        obtain ⟨⟨k88, ka88, kb88, kc88⟩, eu88⟩ := hu88
        have eu88 := eu88.symm
        subst eu88
        have hP : va_P D vwCl ((wX ca f kq ad) ++ (wKd kq) ++ (wMp ca kq (ad i0) u85)) H := hP
        have hD : va_D A ((wX ca f kq ad) ++ (wKd kq) ++ (wMp ca kq (ad i0) u85)) := hD
        refine W.widen (k := 2) (n := 12) (by omega) (by omega) ?_
        exact vx_ret (W.iret (v := r88) hx hb hr (fun t9 e9 w9 => ⟨⟨_, u85, rfl, gretF hB2 (near_r (by rw [k8_3]; decide) (nk_3 k8_3) (rel_len hR) (m1_add _) ka88 kb88 kc88 (by have h9 := plE_le r.od key r.en; have h8 := rel_len hR; split <;> omega)) (rel_mono hR85 (by omega)), by rw [e9]; exact hP, hD⟩, hS.F e9⟩) hS.2.2 dX10_near_91)
    refine lv_tableOut (tgt := 92) hx hb dX10_near_8 (tab4 k8_0 k8_1 k8_2 k8_3) (by decide) ?_
    obtain ⟨sa9, hsa⟩ := NW.s hKN.2 (a := RX10) (i := 75) (b := "no such neighbour") (by decide +kernel)
    exact vx_throwS (A := A) hx hb hl9 hown (by decide +kernel) hns_X (hts (.classLink RX10 44 eIA) (by decide +kernel)) (hts (.initialized eIA) (by decide +kernel)) hsa (hat_X10_eIA hKN.2 (fun w h => hts w (inT_X10_near_eIA w h))) hgo_X10_eIA_44 hTZ.1 hTZ.2 hS (hl.1.trans hml.symm) dX10_near_92 dX10_near_95 dX10_near_96 dX10_near_98 dX10_near_101 (fun x h => (hno x h).elim) (Nat.le_of_ble_eq_true rfl) (Nat.le_of_ble_eq_true rfl) (Nat.le_of_ble_eq_true rfl) (Nat.le_of_ble_eq_true rfl) hlocks (fun t9 _ hz9 hk9 => xX_of m (gthr hB2 (F_near_1 (isB_t4 (tab4 k8_0 k8_1 k8_2 k8_3))) (by decide) rfl (rel_mono hR (by omega))) hP hD hS hz9 hk9) hS.2.2 (by omega) (by omega)
