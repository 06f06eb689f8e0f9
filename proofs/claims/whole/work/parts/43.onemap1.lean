-- OneMap.entryCount
set_option maxHeartbeats 4000000 in
set_option maxRecDepth 100000 in
theorem c_X6_entryCount (l : Launch) (D : va_G) (ca : Nat → ClassId) (kq a : Nat → Nat) (sz : Nat) (ky vl : Nat → Int32) (lf rt : Nat → Nat) (ct ht : Nat → Int32) (tt : Nat → Int64) (sp pa ro : Nat → Nat) (ss dp rn : Nat) (od : Int32) (kd : Nat) (h1 h2 : Bool) (f1 f2 : Int32) (on bk gv : Bool) (kn ws9 we9 wp9 : Int32) (ch : Int32) (hlf : ∀ k, lf k ≤ 60) (hrt : ∀ k, rt k ≤ 60) (hsp : ∀ k, sp k ≤ 60) (hpa : ∀ k, pa k ≤ 60) (hro : ∀ k, ro k ≤ 60) (hrn : rn ≤ 60) (hkd : kd < 4): Met l yX6_entryCount wsX6_entryCount ({ frames := 0, cells := 0, slots := 0, locals := 0 } : Room) (xPc D (TY ca) [.ref (a 11)] ((wKd kq) ++ (wMo a ch) ++ (wRg a (h1, h2, f1, f2)) ++ (wWk a (on, bk, gv, kn, ws9, we9, wp9)) ++ (wT ca kq a (ky, vl, lf, rt, ct, ht, tt, sp, pa, ro, ss, dp, rn, od, kd))) sz) (va_Qi (fun (r : Int32) (u : MS) => r = ct rn ∧ u = ((ky, vl, lf, rt, ct, ht, tt, sp, pa, ro, ss, dp, rn, od, kd), (h1, h2, f1, f2), (on, bk, gv, kn, ws9, we9, wp9), ch)) (xB D (wM ca kq a) (va_A ((wKd kq) ++ (wMo a ch) ++ (wRg a (h1, h2, f1, f2)) ++ (wWk a (on, bk, gv, kn, ws9, we9, wp9)) ++ (wT ca kq a (ky, vl, lf, rt, ct, ht, tt, sp, pa, ro, ss, dp, rn, od, kd))) sz)) (va_A ((wKd kq) ++ (wMo a ch) ++ (wRg a (h1, h2, f1, f2)) ++ (wWk a (on, bk, gv, kn, ws9, we9, wp9)) ++ (wT ca kq a (ky, vl, lf, rt, ct, ht, tt, sp, pa, ro, ss, dp, rn, od, kd))) sz)) 0 0 (va_A ((wKd kq) ++ (wMo a ch) ++ (wRg a (h1, h2, f1, f2)) ++ (wWk a (on, bk, gv, kn, ws9, we9, wp9)) ++ (wT ca kq a (ky, vl, lf, rt, ct, ht, tt, sp, pa, ro, ss, dp, rn, od, kd))) sz) := by
  refine Met.ofW (cc := cX6_entryCount) (maxL := 1) (ret := (some .int)) (by decide) rfl ?_
  intro p e s m args below meth c s₁ B hml hv
  obtain ⟨rfl, hsz, hP, hKN, hD0⟩ := hv
  have hx := B.exec
  have hb := B.bytes
  have hr := B.returns
  have hts := atoms_spec (ws := wsX6_entryCount) B.pre
  have hown : s.vm.findClass RX6 = some m.cls := findClass_of_methodNamed B.named
  have hlocks := B.notSynchronized
  have inX6 : ∀ w ∈ wsX60, w ∈ wsX6_entryCount := by decide +kernel
  have inX8 : ∀ w ∈ wsX80, w ∈ wsX6_entryCount := by decide +kernel
  subst hsz
  have hD := hD0.self (sz := s.heap.size)
  generalize hAe : va_A ((wKd kq) ++ (wMo a ch) ++ (wRg a (h1, h2, f1, f2)) ++ (wWk a (on, bk, gv, kn, ws9, we9, wp9)) ++ (wT ca kq a (ky, vl, lf, rt, ct, ht, tt, sp, pa, ro, ss, dp, rn, od, kd))) s.heap.size = A at hD ⊢
  have hA : ∀ q : Nat, s.heap.size ≤ q → A q := fun q h => by rw [← hAe]; exact Or.inr h
  have hS : va_S A s.heap s.heap [] := va_S.rf
  have hl := lv_entry ([.ref (a 11)]) (n := 1) (Nat.le_of_ble_eq_true rfl)
  rw [lg_entry_eq]
  generalize (lg_sl ([.ref (a 11)]) ++ List.replicate (1 - (lg_sl ([.ref (a 11)])).length) Slot.unset).toArray = ls at hl ⊢
  have hl : lv_has ls 1 [(0, .ref (a 11))] := hl
  refine lv_aload_n hx hb dX6_entryCount_0 rfl (lv_at hl 0 rfl) ?_
  refine va_get (D := D) (ci := 4) (v := .ref (a 0)) (C := RX6) (T := TX6) (N := 4) hx hb hts inX6 hown hKN.1 hP 4 rfl rfl 0 (by decide) (hts (.fieldLink RX6 14 "TreeFamily$OneMap" "tree" "LTreeFamily$Tree;") (by decide +kernel)) (fun _ h9 => h9) rfl dX6_entryCount_1 ?_
  refine va_getN (D := D) (ci := 6) (v := .ref (a 5)) (C := RX8) (T := TX8) (N := 15) hx hb hts inX8 hown hKN.1 hP 7 rfl rfl 4 (by decide) (va_Nw.use rfl (NW.f hKN.2 (a := RX6) (i := 93) (b := "TreeFamily$Tree") (n := "counts") (d := "[I") (g := "TreeFamily") (by decide +kernel))) (fun _ h9 => h9) rfl dX6_entryCount_4 ?_
  refine lv_aload_n hx hb dX6_entryCount_7 rfl (lv_at hl 0 rfl) ?_
  refine va_get (D := D) (ci := 4) (v := .ref (a 0)) (C := RX6) (T := TX6) (N := 4) hx hb hts inX6 hown hKN.1 hP 4 rfl rfl 0 (by decide) (hts (.fieldLink RX6 14 "TreeFamily$OneMap" "tree" "LTreeFamily$Tree;") (by decide +kernel)) (fun _ h9 => h9) rfl dX6_entryCount_8 ?_
  refine va_getN (D := D) (ci := 6) (v := .int (nI rn)) (C := RX8) (T := TX8) (N := 15) hx hb hts inX8 hown hKN.1 hP 7 rfl rfl 12 (by decide) (va_Nw.use rfl (NW.f hKN.2 (a := RX6) (i := 81) (b := "TreeFamily$Tree") (n := "root") (d := "I") (g := "TreeFamily") (by decide +kernel))) (fun _ h9 => h9) rfl dX6_entryCount_11 ?_
  refine xr_ild hx hb hKN.1 hP 12 0 rfl rfl (j := rn) (Nat.lt_of_le_of_lt hrn (by decide)) (by decide) dX6_entryCount_14 ?_
  exact W.iret (v := (ct rn)) hx hb hr (fun t9 e9 w9 => ⟨⟨_, ((ky, vl, lf, rt, ct, ht, tt, sp, pa, ro, ss, dp, rn, od, kd), (h1, h2, f1, f2), (on, bk, gv, kn, ws9, we9, wp9), ch), rfl, ⟨rfl, rfl⟩, by rw [e9]; exact hP, hD⟩, hS.F e9⟩) hS.2.2 dX6_entryCount_15

-- OneMap.countBefore
set_option maxHeartbeats 4000000 in
set_option maxRecDepth 100000 in
theorem c_X6_countBefore (l : Launch) (D : va_G) (ca : Nat → ClassId) (kq a : Nat → Nat) (sz : Nat) (ky vl : Nat → Int32) (lf rt : Nat → Nat) (ct ht : Nat → Int32) (tt : Nat → Int64) (sp pa ro : Nat → Nat) (ss dp rn : Nat) (od : Int32) (kd : Nat) (h1 h2 : Bool) (f1 f2 : Int32) (on bk gv : Bool) (kn ws9 we9 wp9 : Int32) (ch : Int32) (key : Int32) (hlf : ∀ k, lf k ≤ 60) (hrt : ∀ k, rt k ≤ 60) (hsp : ∀ k, sp k ≤ 60) (hpa : ∀ k, pa k ≤ 60) (hro : ∀ k, ro k ≤ 60) (hrn : rn ≤ 60) (hkd : kd < 4): Met l yX6_countBefore wsX6_countBefore ({ frames := 3, cells := 0, slots := 0, locals := 68 } : Room) (xPc D (TY ca) [.ref (a 11), .int key] ((wKd kq) ++ (wMo a ch) ++ (wRg a (h1, h2, f1, f2)) ++ (wWk a (on, bk, gv, kn, ws9, we9, wp9)) ++ (wT ca kq a (ky, vl, lf, rt, ct, ht, tt, sp, pa, ro, ss, dp, rn, od, kd))) sz) (va_Qi (fun (r : Int32) (u : MS) => r = f_countBefore (ky, vl, lf, rt, ct, ht, tt, sp, pa, ro, ss, dp, rn, od, kd) key ∧ u = ((ky, vl, lf, rt, ct, ht, tt, sp, pa, ro, ss, dp, rn, od, kd), (h1, h2, f1, f2), (on, bk, gv, kn, ws9, we9, wp9), ch)) (xB D (wM ca kq a) (va_A ((wKd kq) ++ (wMo a ch) ++ (wRg a (h1, h2, f1, f2)) ++ (wWk a (on, bk, gv, kn, ws9, we9, wp9)) ++ (wT ca kq a (ky, vl, lf, rt, ct, ht, tt, sp, pa, ro, ss, dp, rn, od, kd))) sz)) (va_A ((wKd kq) ++ (wMo a ch) ++ (wRg a (h1, h2, f1, f2)) ++ (wWk a (on, bk, gv, kn, ws9, we9, wp9)) ++ (wT ca kq a (ky, vl, lf, rt, ct, ht, tt, sp, pa, ro, ss, dp, rn, od, kd))) sz)) 0 0 (va_A ((wKd kq) ++ (wMo a ch) ++ (wRg a (h1, h2, f1, f2)) ++ (wWk a (on, bk, gv, kn, ws9, we9, wp9)) ++ (wT ca kq a (ky, vl, lf, rt, ct, ht, tt, sp, pa, ro, ss, dp, rn, od, kd))) sz) := by
  refine Met.ofW (cc := cX6_countBefore) (maxL := 2) (ret := (some .int)) (by decide) rfl ?_
  intro p e s m args below meth c s₁ B hml hv
  obtain ⟨rfl, hsz, hP, hKN, hD0⟩ := hv
  have hx := B.exec
  have hb := B.bytes
  have hr := B.returns
  have hts := atoms_spec (ws := wsX6_countBefore) B.pre
  have hown : s.vm.findClass RX6 = some m.cls := findClass_of_methodNamed B.named
  have hlocks := B.notSynchronized
  have inX6 : ∀ w ∈ wsX60, w ∈ wsX6_countBefore := by decide +kernel
  subst hsz
  have hD := hD0.self (sz := s.heap.size)
  generalize hAe : va_A ((wKd kq) ++ (wMo a ch) ++ (wRg a (h1, h2, f1, f2)) ++ (wWk a (on, bk, gv, kn, ws9, we9, wp9)) ++ (wT ca kq a (ky, vl, lf, rt, ct, ht, tt, sp, pa, ro, ss, dp, rn, od, kd))) s.heap.size = A at hD ⊢
  have hA : ∀ q : Nat, s.heap.size ≤ q → A q := fun q h => by rw [← hAe]; exact Or.inr h
  have hS : va_S A s.heap s.heap [] := va_S.rf
  have hl := lv_entry ([.ref (a 11), .int key]) (n := 2) (Nat.le_of_ble_eq_true rfl)
  rw [lg_entry_eq]
  generalize (lg_sl ([.ref (a 11), .int key]) ++ List.replicate (2 - (lg_sl ([.ref (a 11), .int key])).length) Slot.unset).toArray = ls at hl ⊢
  have hl : lv_has ls 2 [(0, .ref (a 11)), (1, .int key)] := hl
  refine lv_aload_n hx hb dX6_countBefore_0 rfl (lv_at hl 0 rfl) ?_
  refine va_get (D := D) (ci := 4) (v := .ref (a 0)) (C := RX6) (T := TX6) (N := 4) hx hb hts inX6 hown hKN.1 hP 4 rfl rfl 0 (by decide) (hts (.fieldLink RX6 14 "TreeFamily$OneMap" "tree" "LTreeFamily$Tree;") (by decide +kernel)) (fun _ h9 => h9) rfl dX6_countBefore_1 ?_
  refine lv_iload_n hx hb dX6_countBefore_4 rfl (lv_at hl 1 rfl) ?_
  refine xc_i (wr := (wKd kq) ++ (wMo a ch) ++ (wRg a (h1, h2, f1, f2)) ++ (wWk a (on, bk, gv, kn, ws9, we9, wp9))) (va_runV (As := [.int key]) (rest := []) ⟨hx, hb, hml, hown, hts⟩ (c_X8_countBefore l D ca kq a _ ky vl lf rt ct ht tt sp pa ro ss dp rn od kd key hlf hrt hsp hpa hro hrn) (cwV 1 hts gX6_countBefore_X8_countBefore rfl rfl rfl (by decide +kernel) ⟨(Nat.le_of_ble_eq_true rfl), (Nat.le_of_ble_eq_true rfl)⟩) (xPreV hKN hP hD [7, 8, 9, 10, 11, 12, 13, 14, 15, 16, 17] (by decide) rfl (q0 := 7) rfl rfl rfl) rfl rfl hl.1 rfl (lv_room (Nat.le_of_ble_eq_true rfl)) dX6_countBefore_5 ⟨(Nat.le_of_ble_eq_true rfl), (Nat.le_of_ble_eq_true rfl)⟩) hP hD hS hA [7, 8, 9, 10, 11, 12, 13, 14, 15, 16, 17] [0, 1, 2, 3, 4, 5, 6] rfl rfl (by decide) (by decide) (fun r5 u5 H locs hu5 hP hD hS => ?_)
  obtain ⟨er5, eu5⟩ := hu5
  subst er5
  subst eu5
  have hP : va_P D vwCl ((wKd kq) ++ (wMo a ch) ++ (wRg a (h1, h2, f1, f2)) ++ (wWk a (on, bk, gv, kn, ws9, we9, wp9)) ++ (wT ca kq a (ky, vl, lf, rt, ct, ht, tt, sp, pa, ro, ss, dp, rn, od, kd))) H := hP
  have hD : va_D A ((wKd kq) ++ (wMo a ch) ++ (wRg a (h1, h2, f1, f2)) ++ (wWk a (on, bk, gv, kn, ws9, we9, wp9)) ++ (wT ca kq a (ky, vl, lf, rt, ct, ht, tt, sp, pa, ro, ss, dp, rn, od, kd))) := hD
  exact W.iret (v := (f_countBefore (ky, vl, lf, rt, ct, ht, tt, sp, pa, ro, ss, dp, rn, od, kd) key)) hx hb hr (fun t9 e9 w9 => ⟨⟨_, ((ky, vl, lf, rt, ct, ht, tt, sp, pa, ro, ss, dp, rn, od, kd), (h1, h2, f1, f2), (on, bk, gv, kn, ws9, we9, wp9), ch), rfl, ⟨rfl, rfl⟩, by rw [e9]; exact hP, hD⟩, hS.F e9⟩) hS.2.2 dX6_countBefore_8

-- OneMap.totalBefore
set_option maxHeartbeats 4000000 in
set_option maxRecDepth 100000 in
theorem c_X6_totalBefore (l : Launch) (D : va_G) (ca : Nat → ClassId) (kq a : Nat → Nat) (sz : Nat) (ky vl : Nat → Int32) (lf rt : Nat → Nat) (ct ht : Nat → Int32) (tt : Nat → Int64) (sp pa ro : Nat → Nat) (ss dp rn : Nat) (od : Int32) (kd : Nat) (h1 h2 : Bool) (f1 f2 : Int32) (on bk gv : Bool) (kn ws9 we9 wp9 : Int32) (ch : Int32) (key : Int32) (hlf : ∀ k, lf k ≤ 60) (hrt : ∀ k, rt k ≤ 60) (hsp : ∀ k, sp k ≤ 60) (hpa : ∀ k, pa k ≤ 60) (hro : ∀ k, ro k ≤ 60) (hrn : rn ≤ 60) (hkd : kd < 4): Met l yX6_totalBefore wsX6_totalBefore ({ frames := 3, cells := 0, slots := 0, locals := 69 } : Room) (xPc D (TY ca) [.ref (a 11), .int key] ((wKd kq) ++ (wMo a ch) ++ (wRg a (h1, h2, f1, f2)) ++ (wWk a (on, bk, gv, kn, ws9, we9, wp9)) ++ (wT ca kq a (ky, vl, lf, rt, ct, ht, tt, sp, pa, ro, ss, dp, rn, od, kd))) sz) (va_Ql (fun (r : Int64) (u : MS) => r = f_totalBefore (ky, vl, lf, rt, ct, ht, tt, sp, pa, ro, ss, dp, rn, od, kd) key ∧ u = ((ky, vl, lf, rt, ct, ht, tt, sp, pa, ro, ss, dp, rn, od, kd), (h1, h2, f1, f2), (on, bk, gv, kn, ws9, we9, wp9), ch)) (xB D (wM ca kq a) (va_A ((wKd kq) ++ (wMo a ch) ++ (wRg a (h1, h2, f1, f2)) ++ (wWk a (on, bk, gv, kn, ws9, we9, wp9)) ++ (wT ca kq a (ky, vl, lf, rt, ct, ht, tt, sp, pa, ro, ss, dp, rn, od, kd))) sz)) (va_A ((wKd kq) ++ (wMo a ch) ++ (wRg a (h1, h2, f1, f2)) ++ (wWk a (on, bk, gv, kn, ws9, we9, wp9)) ++ (wT ca kq a (ky, vl, lf, rt, ct, ht, tt, sp, pa, ro, ss, dp, rn, od, kd))) sz)) 0 0 (va_A ((wKd kq) ++ (wMo a ch) ++ (wRg a (h1, h2, f1, f2)) ++ (wWk a (on, bk, gv, kn, ws9, we9, wp9)) ++ (wT ca kq a (ky, vl, lf, rt, ct, ht, tt, sp, pa, ro, ss, dp, rn, od, kd))) sz) := by
  refine Met.ofW (cc := cX6_totalBefore) (maxL := 2) (ret := (some .long)) (by decide) rfl ?_
  intro p e s m args below meth c s₁ B hml hv
  obtain ⟨rfl, hsz, hP, hKN, hD0⟩ := hv
  have hx := B.exec
  have hb := B.bytes
  have hr := B.returns
  have hts := atoms_spec (ws := wsX6_totalBefore) B.pre
  have hown : s.vm.findClass RX6 = some m.cls := findClass_of_methodNamed B.named
  have hlocks := B.notSynchronized
  have inX6 : ∀ w ∈ wsX60, w ∈ wsX6_totalBefore := by decide +kernel
  subst hsz
  have hD := hD0.self (sz := s.heap.size)
  generalize hAe : va_A ((wKd kq) ++ (wMo a ch) ++ (wRg a (h1, h2, f1, f2)) ++ (wWk a (on, bk, gv, kn, ws9, we9, wp9)) ++ (wT ca kq a (ky, vl, lf, rt, ct, ht, tt, sp, pa, ro, ss, dp, rn, od, kd))) s.heap.size = A at hD ⊢
  have hA : ∀ q : Nat, s.heap.size ≤ q → A q := fun q h => by rw [← hAe]; exact Or.inr h
  have hS : va_S A s.heap s.heap [] := va_S.rf
  have hl := lv_entry ([.ref (a 11), .int key]) (n := 2) (Nat.le_of_ble_eq_true rfl)
  rw [lg_entry_eq]
  generalize (lg_sl ([.ref (a 11), .int key]) ++ List.replicate (2 - (lg_sl ([.ref (a 11), .int key])).length) Slot.unset).toArray = ls at hl ⊢
  have hl : lv_has ls 2 [(0, .ref (a 11)), (1, .int key)] := hl
  refine lv_aload_n hx hb dX6_totalBefore_0 rfl (lv_at hl 0 rfl) ?_
  refine va_get (D := D) (ci := 4) (v := .ref (a 0)) (C := RX6) (T := TX6) (N := 4) hx hb hts inX6 hown hKN.1 hP 4 rfl rfl 0 (by decide) (hts (.fieldLink RX6 14 "TreeFamily$OneMap" "tree" "LTreeFamily$Tree;") (by decide +kernel)) (fun _ h9 => h9) rfl dX6_totalBefore_1 ?_
  refine lv_iload_n hx hb dX6_totalBefore_4 rfl (lv_at hl 1 rfl) ?_
  refine xc_l (wr := (wKd kq) ++ (wMo a ch) ++ (wRg a (h1, h2, f1, f2)) ++ (wWk a (on, bk, gv, kn, ws9, we9, wp9))) (va_runV (As := [.int key]) (rest := []) ⟨hx, hb, hml, hown, hts⟩ (c_X8_totalBefore l D ca kq a _ ky vl lf rt ct ht tt sp pa ro ss dp rn od kd key hlf hrt hsp hpa hro hrn) (cwV 1 hts gX6_totalBefore_X8_totalBefore rfl rfl rfl (by decide +kernel) ⟨(Nat.le_of_ble_eq_true rfl), (Nat.le_of_ble_eq_true rfl)⟩) (xPreV hKN hP hD [7, 8, 9, 10, 11, 12, 13, 14, 15, 16, 17] (by decide) rfl (q0 := 7) rfl rfl rfl) rfl rfl hl.1 rfl (lv_room (Nat.le_of_ble_eq_true rfl)) dX6_totalBefore_5 ⟨(Nat.le_of_ble_eq_true rfl), (Nat.le_of_ble_eq_true rfl)⟩) hP hD hS hA [7, 8, 9, 10, 11, 12, 13, 14, 15, 16, 17] [0, 1, 2, 3, 4, 5, 6] rfl rfl (by decide) (by decide) (fun r5 u5 H locs hu5 hP hD hS => ?_)
  obtain ⟨er5, eu5⟩ := hu5
  subst er5
  subst eu5
  have hP : va_P D vwCl ((wKd kq) ++ (wMo a ch) ++ (wRg a (h1, h2, f1, f2)) ++ (wWk a (on, bk, gv, kn, ws9, we9, wp9)) ++ (wT ca kq a (ky, vl, lf, rt, ct, ht, tt, sp, pa, ro, ss, dp, rn, od, kd))) H := hP
  have hD : va_D A ((wKd kq) ++ (wMo a ch) ++ (wRg a (h1, h2, f1, f2)) ++ (wWk a (on, bk, gv, kn, ws9, we9, wp9)) ++ (wT ca kq a (ky, vl, lf, rt, ct, ht, tt, sp, pa, ro, ss, dp, rn, od, kd))) := hD
  exact W.lret (v := (f_totalBefore (ky, vl, lf, rt, ct, ht, tt, sp, pa, ro, ss, dp, rn, od, kd) key)) hx hb hr (fun t9 e9 w9 => ⟨⟨_, ((ky, vl, lf, rt, ct, ht, tt, sp, pa, ro, ss, dp, rn, od, kd), (h1, h2, f1, f2), (on, bk, gv, kn, ws9, we9, wp9), ch), rfl, ⟨rfl, rfl⟩, by rw [e9]; exact hP, hD⟩, hS.F e9⟩) hS.2.2 dX6_totalBefore_8

-- OneMap.countUpTo
set_option maxHeartbeats 4000000 in
set_option maxRecDepth 100000 in
theorem c_X6_countUpTo (l : Launch) (D : va_G) (ca : Nat → ClassId) (kq a : Nat → Nat) (sz : Nat) (ky vl : Nat → Int32) (lf rt : Nat → Nat) (ct ht : Nat → Int32) (tt : Nat → Int64) (sp pa ro : Nat → Nat) (ss dp rn : Nat) (od : Int32) (kd : Nat) (h1 h2 : Bool) (f1 f2 : Int32) (on bk gv : Bool) (kn ws9 we9 wp9 : Int32) (ch : Int32) (key : Int32) (hlf : ∀ k, lf k ≤ 60) (hrt : ∀ k, rt k ≤ 60) (hsp : ∀ k, sp k ≤ 60) (hpa : ∀ k, pa k ≤ 60) (hro : ∀ k, ro k ≤ 60) (hrn : rn ≤ 60) (hkd : kd < 4): Met l yX6_countUpTo wsX6_countUpTo ({ frames := 3, cells := 0, slots := 0, locals := 68 } : Room) (xPc D (TY ca) [.ref (a 11), .int key] ((wKd kq) ++ (wMo a ch) ++ (wRg a (h1, h2, f1, f2)) ++ (wWk a (on, bk, gv, kn, ws9, we9, wp9)) ++ (wT ca kq a (ky, vl, lf, rt, ct, ht, tt, sp, pa, ro, ss, dp, rn, od, kd))) sz) (va_Qi (fun (r : Int32) (u : MS) => r = f_countUpTo (ky, vl, lf, rt, ct, ht, tt, sp, pa, ro, ss, dp, rn, od, kd) key ∧ u = ((f_trace (ky, vl, lf, rt, ct, ht, tt, sp, pa, ro, ss, dp, rn, od, kd) key).2, (h1, h2, f1, f2), (on, bk, gv, kn, ws9, we9, wp9), ch)) (xB D (wM ca kq a) (va_A ((wKd kq) ++ (wMo a ch) ++ (wRg a (h1, h2, f1, f2)) ++ (wWk a (on, bk, gv, kn, ws9, we9, wp9)) ++ (wT ca kq a (ky, vl, lf, rt, ct, ht, tt, sp, pa, ro, ss, dp, rn, od, kd))) sz)) (va_A ((wKd kq) ++ (wMo a ch) ++ (wRg a (h1, h2, f1, f2)) ++ (wWk a (on, bk, gv, kn, ws9, we9, wp9)) ++ (wT ca kq a (ky, vl, lf, rt, ct, ht, tt, sp, pa, ro, ss, dp, rn, od, kd))) sz)) 0 0 (va_A ((wKd kq) ++ (wMo a ch) ++ (wRg a (h1, h2, f1, f2)) ++ (wWk a (on, bk, gv, kn, ws9, we9, wp9)) ++ (wT ca kq a (ky, vl, lf, rt, ct, ht, tt, sp, pa, ro, ss, dp, rn, od, kd))) sz) := by
  refine Met.ofW (cc := cX6_countUpTo) (maxL := 2) (ret := (some .int)) (by decide) rfl ?_
  intro p e s m args below meth c s₁ B hml hv
  obtain ⟨rfl, hsz, hP, hKN, hD0⟩ := hv
  have hx := B.exec
  have hb := B.bytes
  have hr := B.returns
  have hts := atoms_spec (ws := wsX6_countUpTo) B.pre
  have hown : s.vm.findClass RX6 = some m.cls := findClass_of_methodNamed B.named
  have hlocks := B.notSynchronized
  have inX6 : ∀ w ∈ wsX60, w ∈ wsX6_countUpTo := by decide +kernel
  subst hsz
  have hD := hD0.self (sz := s.heap.size)
  generalize hAe : va_A ((wKd kq) ++ (wMo a ch) ++ (wRg a (h1, h2, f1, f2)) ++ (wWk a (on, bk, gv, kn, ws9, we9, wp9)) ++ (wT ca kq a (ky, vl, lf, rt, ct, ht, tt, sp, pa, ro, ss, dp, rn, od, kd))) s.heap.size = A at hD ⊢
  have hA : ∀ q : Nat, s.heap.size ≤ q → A q := fun q h => by rw [← hAe]; exact Or.inr h
  have hS : va_S A s.heap s.heap [] := va_S.rf
  have hl := lv_entry ([.ref (a 11), .int key]) (n := 2) (Nat.le_of_ble_eq_true rfl)
  rw [lg_entry_eq]
  generalize (lg_sl ([.ref (a 11), .int key]) ++ List.replicate (2 - (lg_sl ([.ref (a 11), .int key])).length) Slot.unset).toArray = ls at hl ⊢
  have hl : lv_has ls 2 [(0, .ref (a 11)), (1, .int key)] := hl
  refine lv_aload_n hx hb dX6_countUpTo_0 rfl (lv_at hl 0 rfl) ?_
  refine va_get (D := D) (ci := 4) (v := .ref (a 0)) (C := RX6) (T := TX6) (N := 4) hx hb hts inX6 hown hKN.1 hP 4 rfl rfl 0 (by decide) (hts (.fieldLink RX6 14 "TreeFamily$OneMap" "tree" "LTreeFamily$Tree;") (by decide +kernel)) (fun _ h9 => h9) rfl dX6_countUpTo_1 ?_
  refine lv_iload_n hx hb dX6_countUpTo_4 rfl (lv_at hl 1 rfl) ?_
  refine xc_i (wr := (wKd kq) ++ (wMo a ch) ++ (wRg a (h1, h2, f1, f2)) ++ (wWk a (on, bk, gv, kn, ws9, we9, wp9))) (va_runV (As := [.int key]) (rest := []) ⟨hx, hb, hml, hown, hts⟩ (c_X8_countBefore l D ca kq a _ ky vl lf rt ct ht tt sp pa ro ss dp rn od kd key hlf hrt hsp hpa hro hrn) (cwV 1 hts gX6_countUpTo_X8_countBefore rfl rfl rfl (by decide +kernel) ⟨(Nat.le_of_ble_eq_true rfl), (Nat.le_of_ble_eq_true rfl)⟩) (xPreV hKN hP hD [7, 8, 9, 10, 11, 12, 13, 14, 15, 16, 17] (by decide) rfl (q0 := 7) rfl rfl rfl) rfl rfl hl.1 rfl (lv_room (Nat.le_of_ble_eq_true rfl)) dX6_countUpTo_5 ⟨(Nat.le_of_ble_eq_true rfl), (Nat.le_of_ble_eq_true rfl)⟩) hP hD hS hA [7, 8, 9, 10, 11, 12, 13, 14, 15, 16, 17] [0, 1, 2, 3, 4, 5, 6] rfl rfl (by decide) (by decide) (fun r5 u5 H locs hu5 hP hD hS => ?_)
  obtain ⟨er5, eu5⟩ := hu5
  subst er5
  subst eu5
  have hP : va_P D vwCl ((wKd kq) ++ (wMo a ch) ++ (wRg a (h1, h2, f1, f2)) ++ (wWk a (on, bk, gv, kn, ws9, we9, wp9)) ++ (wT ca kq a (ky, vl, lf, rt, ct, ht, tt, sp, pa, ro, ss, dp, rn, od, kd))) H := hP
  have hD : va_D A ((wKd kq) ++ (wMo a ch) ++ (wRg a (h1, h2, f1, f2)) ++ (wWk a (on, bk, gv, kn, ws9, we9, wp9)) ++ (wT ca kq a (ky, vl, lf, rt, ct, ht, tt, sp, pa, ro, ss, dp, rn, od, kd))) := hD
  refine lv_aload_n hx hb dX6_countUpTo_8 rfl (lv_at hl 0 rfl) ?_
  refine va_get (D := D) (ci := 4) (v := .ref (a 0)) (C := RX6) (T := TX6) (N := 4) hx hb hts inX6 hown hKN.1 hP 4 rfl rfl 0 (by decide) (hts (.fieldLink RX6 14 "TreeFamily$OneMap" "tree" "LTreeFamily$Tree;") (by decide +kernel)) (fun _ h9 => h9) rfl dX6_countUpTo_9 ?_
  refine lv_iload_n hx hb dX6_countUpTo_12 rfl (lv_at hl 1 rfl) ?_
  refine xc_i (wr := (wKd kq) ++ (wMo a ch) ++ (wRg a (h1, h2, f1, f2)) ++ (wWk a (on, bk, gv, kn, ws9, we9, wp9))) (va_runV (As := [.int key]) (rest := [.int (f_countBefore (ky, vl, lf, rt, ct, ht, tt, sp, pa, ro, ss, dp, rn, od, kd) key)]) ⟨hx, hb, hml, hown, hts⟩ (c_X8_trace l D ca kq a _ ky vl lf rt ct ht tt sp pa ro ss dp rn od kd key hlf hrt hsp hpa hro hrn) (cwV 1 hts gX6_countUpTo_X8_trace rfl rfl rfl (by decide +kernel) ⟨(Nat.le_of_ble_eq_true rfl), (Nat.le_of_ble_eq_true rfl)⟩) (xPreV hKN hP hD [7, 8, 9, 10, 11, 12, 13, 14, 15, 16, 17] (by decide) rfl (q0 := 7) rfl rfl rfl) rfl rfl hl.1 rfl (lv_room (Nat.le_of_ble_eq_true rfl)) dX6_countUpTo_13 ⟨(Nat.le_of_ble_eq_true rfl), (Nat.le_of_ble_eq_true rfl)⟩) hP hD hS hA [7, 8, 9, 10, 11, 12, 13, 14, 15, 16, 17] [0, 1, 2, 3, 4, 5, 6] rfl rfl (by decide) (by decide) (fun r13 u13 H locs hu13 hP hD hS => ?_)
  obtain ⟨er13, eu13⟩ := hu13
  obtain ⟨y13, ey13⟩ : ∃ z, z = (f_trace (ky, vl, lf, rt, ct, ht, tt, sp, pa, ro, ss, dp, rn, od, kd) key).1 := ⟨_, rfl⟩
  rw [← ey13] at er13
  subst er13
  have hy13 : y13 ≤ 60 := by rw [ey13]; exact (wf_trace (⟨hlf, hrt, hsp, hpa, hro, hrn, hkd⟩ : WF (ky, vl, lf, rt, ct, ht, tt, sp, pa, ro, ss, dp, rn, od, kd)) key).1
  obtain ⟨ky_13, vl_13, lf_13, rt_13, ct_13, ht_13, tt_13, sp_13, pa_13, ro_13, ss_13, dp_13, rn_13, od_13, kd_13⟩ := u13
  obtain ⟨hlf_13, hrt_13, hsp_13, hpa_13, hro_13, hrn_13, hkd_13⟩ : WF (ky_13, vl_13, lf_13, rt_13, ct_13, ht_13, tt_13, sp_13, pa_13, ro_13, ss_13, dp_13, rn_13, od_13, kd_13) := by rw [eu13]; exact (wf_trace (⟨hlf, hrt, hsp, hpa, hro, hrn, hkd⟩ : WF (ky, vl, lf, rt, ct, ht, tt, sp, pa, ro, ss, dp, rn, od, kd)) key).2
  have hP : va_P D vwCl ((wKd kq) ++ (wMo a ch) ++ (wRg a (h1, h2, f1, f2)) ++ (wWk a (on, bk, gv, kn, ws9, we9, wp9)) ++ (wT ca kq a (ky_13, vl_13, lf_13, rt_13, ct_13, ht_13, tt_13, sp_13, pa_13, ro_13, ss_13, dp_13, rn_13, od_13, kd_13))) H := hP
  have hD : va_D A ((wKd kq) ++ (wMo a ch) ++ (wRg a (h1, h2, f1, f2)) ++ (wWk a (on, bk, gv, kn, ws9, we9, wp9)) ++ (wT ca kq a (ky_13, vl_13, lf_13, rt_13, ct_13, ht_13, tt_13, sp_13, pa_13, ro_13, ss_13, dp_13, rn_13, od_13, kd_13))) := hD
  refine lv_if_ne (tgt := 23) hx hb dX6_countUpTo_16 (by decide) (fun c16 => ?_) (fun c16 => ?_)
  · skip
    have c16 : ¬ y13 = 0 := fun h9 => c16 ((xn_eq (a := y13) (b := 0) (Nat.lt_of_le_of_lt hy13 (by decide)) (by decide)).mpr h9)
    refine lv_iconst (v := 1) hx hb dX6_countUpTo_23 (by decide) ?_
    refine xr_top (y := (if (f_trace (ky, vl, lf, rt, ct, ht, tt, sp, pa, ro, ss, dp, rn, od, kd) key).1 = 0 then 0 else 1)) (by first | exact (if_pos (by rw [← ey13]; exact c16)).symm | exact (if_neg (by rw [← ey13]; exact c16)).symm) ?_
    refine lv_iadd hx hb dX6_countUpTo_24 ?_
    exact W.iret (v := ((f_countBefore (ky, vl, lf, rt, ct, ht, tt, sp, pa, ro, ss, dp, rn, od, kd) key) + (if (f_trace (ky, vl, lf, rt, ct, ht, tt, sp, pa, ro, ss, dp, rn, od, kd) key).1 = 0 then 0 else 1))) hx hb hr (fun t9 e9 w9 => ⟨⟨_, ((ky_13, vl_13, lf_13, rt_13, ct_13, ht_13, tt_13, sp_13, pa_13, ro_13, ss_13, dp_13, rn_13, od_13, kd_13), (h1, h2, f1, f2), (on, bk, gv, kn, ws9, we9, wp9), ch), rfl, ⟨rfl, by rw [← eu13]⟩, by rw [e9]; exact hP, hD⟩, hS.F e9⟩) hS.2.2 dX6_countUpTo_25
  · skip
    have c16 : y13 = 0 := (xn_eq (a := y13) (b := 0) (Nat.lt_of_le_of_lt hy13 (by decide)) (by decide)).mp c16
    refine lv_iconst (v := 0) hx hb dX6_countUpTo_19 (by decide) ?_
    refine lv_goto (tgt := 24) hx hb dX6_countUpTo_20 (by decide) ?_
    refine xr_top (y := (if (f_trace (ky, vl, lf, rt, ct, ht, tt, sp, pa, ro, ss, dp, rn, od, kd) key).1 = 0 then 0 else 1)) (by first | exact (if_pos (by rw [← ey13]; exact c16)).symm | exact (if_neg (by rw [← ey13]; exact c16)).symm) ?_
    refine lv_iadd hx hb dX6_countUpTo_24 ?_
    exact W.iret (v := ((f_countBefore (ky, vl, lf, rt, ct, ht, tt, sp, pa, ro, ss, dp, rn, od, kd) key) + (if (f_trace (ky, vl, lf, rt, ct, ht, tt, sp, pa, ro, ss, dp, rn, od, kd) key).1 = 0 then 0 else 1))) hx hb hr (fun t9 e9 w9 => ⟨⟨_, ((ky_13, vl_13, lf_13, rt_13, ct_13, ht_13, tt_13, sp_13, pa_13, ro_13, ss_13, dp_13, rn_13, od_13, kd_13), (h1, h2, f1, f2), (on, bk, gv, kn, ws9, we9, wp9), ch), rfl, ⟨rfl, by rw [← eu13]⟩, by rw [e9]; exact hP, hD⟩, hS.F e9⟩) hS.2.2 dX6_countUpTo_25

-- OneMap.putsBefore
set_option maxHeartbeats 4000000 in
set_option maxRecDepth 100000 in
theorem c_X6_putsBefore (l : Launch) (D : va_G) (ca : Nat → ClassId) (kq a : Nat → Nat) (sz : Nat) (ky vl : Nat → Int32) (lf rt : Nat → Nat) (ct ht : Nat → Int32) (tt : Nat → Int64) (sp pa ro : Nat → Nat) (ss dp rn : Nat) (od : Int32) (kd : Nat) (h1 h2 : Bool) (f1 f2 : Int32) (on bk gv : Bool) (kn ws9 we9 wp9 : Int32) (ch : Int32) (x1 x2 : Int32) (hlf : ∀ k, lf k ≤ 60) (hrt : ∀ k, rt k ≤ 60) (hsp : ∀ k, sp k ≤ 60) (hpa : ∀ k, pa k ≤ 60) (hro : ∀ k, ro k ≤ 60) (hrn : rn ≤ 60) (hkd : kd < 4): Met l yX6_putsBefore wsX6_putsBefore ({ frames := 2, cells := 0, slots := 0, locals := 44 } : Room) (xPc D (TY ca) [.ref (a 11), .int x1, .int x2] ((wKd kq) ++ (wMo a ch) ++ (wRg a (h1, h2, f1, f2)) ++ (wWk a (on, bk, gv, kn, ws9, we9, wp9)) ++ (wT ca kq a (ky, vl, lf, rt, ct, ht, tt, sp, pa, ro, ss, dp, rn, od, kd))) sz) (va_Qi (fun (r : Int32) (u : MS) => r = bI (gB od x1 x2) ∧ u = ((ky, vl, lf, rt, ct, ht, tt, sp, pa, ro, ss, dp, rn, od, kd), (h1, h2, f1, f2), (on, bk, gv, kn, ws9, we9, wp9), ch)) (xB D (wM ca kq a) (va_A ((wKd kq) ++ (wMo a ch) ++ (wRg a (h1, h2, f1, f2)) ++ (wWk a (on, bk, gv, kn, ws9, we9, wp9)) ++ (wT ca kq a (ky, vl, lf, rt, ct, ht, tt, sp, pa, ro, ss, dp, rn, od, kd))) sz)) (va_A ((wKd kq) ++ (wMo a ch) ++ (wRg a (h1, h2, f1, f2)) ++ (wWk a (on, bk, gv, kn, ws9, we9, wp9)) ++ (wT ca kq a (ky, vl, lf, rt, ct, ht, tt, sp, pa, ro, ss, dp, rn, od, kd))) sz)) 0 0 (va_A ((wKd kq) ++ (wMo a ch) ++ (wRg a (h1, h2, f1, f2)) ++ (wWk a (on, bk, gv, kn, ws9, we9, wp9)) ++ (wT ca kq a (ky, vl, lf, rt, ct, ht, tt, sp, pa, ro, ss, dp, rn, od, kd))) sz) := by
  refine Met.ofW (cc := cX6_putsBefore) (maxL := 3) (ret := (some .boolean)) (by decide) rfl ?_
  intro p e s m args below meth c s₁ B hml hv
  obtain ⟨rfl, hsz, hP, hKN, hD0⟩ := hv
  have hx := B.exec
  have hb := B.bytes
  have hr := B.returns
  have hts := atoms_spec (ws := wsX6_putsBefore) B.pre
  have hown : s.vm.findClass RX6 = some m.cls := findClass_of_methodNamed B.named
  have hlocks := B.notSynchronized
  have inX6 : ∀ w ∈ wsX60, w ∈ wsX6_putsBefore := by decide +kernel
  have inX8 : ∀ w ∈ wsX80, w ∈ wsX6_putsBefore := by decide +kernel
  subst hsz
  have hD := hD0.self (sz := s.heap.size)
  generalize hAe : va_A ((wKd kq) ++ (wMo a ch) ++ (wRg a (h1, h2, f1, f2)) ++ (wWk a (on, bk, gv, kn, ws9, we9, wp9)) ++ (wT ca kq a (ky, vl, lf, rt, ct, ht, tt, sp, pa, ro, ss, dp, rn, od, kd))) s.heap.size = A at hD ⊢
  have hA : ∀ q : Nat, s.heap.size ≤ q → A q := fun q h => by rw [← hAe]; exact Or.inr h
  have hS : va_S A s.heap s.heap [] := va_S.rf
  have hl := lv_entry ([.ref (a 11), .int x1, .int x2]) (n := 3) (Nat.le_of_ble_eq_true rfl)
  rw [lg_entry_eq]
  generalize (lg_sl ([.ref (a 11), .int x1, .int x2]) ++ List.replicate (3 - (lg_sl ([.ref (a 11), .int x1, .int x2])).length) Slot.unset).toArray = ls at hl ⊢
  have hl : lv_has ls 3 [(0, .ref (a 11)), (1, .int x1), (2, .int x2)] := hl
  refine lv_aload_n hx hb dX6_putsBefore_0 rfl (lv_at hl 0 rfl) ?_
  refine va_get (D := D) (ci := 4) (v := .ref (a 0)) (C := RX6) (T := TX6) (N := 4) hx hb hts inX6 hown hKN.1 hP 4 rfl rfl 0 (by decide) (hts (.fieldLink RX6 14 "TreeFamily$OneMap" "tree" "LTreeFamily$Tree;") (by decide +kernel)) (fun _ h9 => h9) rfl dX6_putsBefore_1 ?_
  refine va_getN (D := D) (ci := 6) (v := .int od) (C := RX8) (T := TX8) (N := 15) hx hb hts inX8 hown hKN.1 hP 7 rfl rfl 13 (by decide) (va_Nw.use rfl (NW.f hKN.2 (a := RX6) (i := 103) (b := "TreeFamily$Tree") (n := "order") (d := "I") (g := "TreeFamily") (by decide +kernel))) (fun _ h9 => h9) rfl dX6_putsBefore_4 ?_
  refine lv_iload_n hx hb dX6_putsBefore_7 rfl (lv_at hl 1 rfl) ?_
  refine lv_iload_n hx hb dX6_putsBefore_8 rfl (lv_at hl 2 rfl) ?_
  refine xs_i (va_runSN (As := [.int od, .int x1, .int x2]) (rest := []) ⟨hx, hb, hml, hown, hts⟩ (c_X10_goesBefore l _ _ _) ⟨va_cnB 3 hts gX6_putsBefore_X10_goesBefore_n106 rfl rfl rfl (NW.m hKN.2 (a := RX6) (i := 106) (x := yX10_goesBefore) (g := "TreeFamily") (by decide +kernel)) (hts _ (List.mem_of_elem_eq_true (by decide +kernel) : Cond.initialized yX10_goesBefore.cls ∈ wsX6_putsBefore)) (by decide +kernel) ⟨(Nat.le_of_ble_eq_true rfl), (Nat.le_of_ble_eq_true rfl)⟩, hts (.static yX10_goesBefore) (by decide +kernel), trivial⟩ xPreT rfl rfl hl.1 rfl (lv_room (Nat.le_of_ble_eq_true rfl)) dX6_putsBefore_9 ⟨(Nat.le_of_ble_eq_true rfl), (Nat.le_of_ble_eq_true rfl)⟩) (fun r9 er9 => ?_)
  subst er9
  exact W.zret (v := (bI (gB od x1 x2))) hx hb hr (bI_nar _) (fun t9 e9 w9 => ⟨⟨_, ((ky, vl, lf, rt, ct, ht, tt, sp, pa, ro, ss, dp, rn, od, kd), (h1, h2, f1, f2), (on, bk, gv, kn, ws9, we9, wp9), ch), rfl, ⟨rfl, rfl⟩, by rw [e9]; exact hP, hD⟩, hS.F e9⟩) hS.2.2 dX6_putsBefore_12

-- OneMap.narrow
set_option maxHeartbeats 4000000 in
set_option maxRecDepth 100000 in
theorem c_X6_narrow (l : Launch) (D : va_G) (ca : Nat → ClassId) (kq a : Nat → Nat) (sz : Nat) (ky vl : Nat → Int32) (lf rt : Nat → Nat) (ct ht : Nat → Int32) (tt : Nat → Int64) (sp pa ro : Nat → Nat) (ss dp rn : Nat) (od : Int32) (kd : Nat) (h1 h2 : Bool) (f1 f2 : Int32) (on bk gv : Bool) (kn ws9 we9 wp9 : Int32) (ch : Int32) (how g1 g2 : Int32) (hlf : ∀ k, lf k ≤ 60) (hrt : ∀ k, rt k ≤ 60) (hsp : ∀ k, sp k ≤ 60) (hpa : ∀ k, pa k ≤ 60) (hro : ∀ k, ro k ≤ 60) (hrn : rn ≤ 60) (hkd : kd < 4): Met l yX6_narrow wsX6_narrow ({ frames := 0, cells := 0, slots := 0, locals := 0 } : Room) (xPc D (TY ca) [.ref (a 11), .int how, .int g1, .int g2] ((wKd kq) ++ (wMo a ch) ++ (wRg a (h1, h2, f1, f2)) ++ (wWk a (on, bk, gv, kn, ws9, we9, wp9)) ++ (wT ca kq a (ky, vl, lf, rt, ct, ht, tt, sp, pa, ro, ss, dp, rn, od, kd))) sz) (va_Qv (fun u : MS => u = ((ky, vl, lf, rt, ct, ht, tt, sp, pa, ro, ss, dp, rn, od, kd), f_narrow how g1 g2, (on, bk, gv, kn, ws9, we9, wp9), ch)) (xB D (wM ca kq a) (va_A ((wKd kq) ++ (wMo a ch) ++ (wRg a (h1, h2, f1, f2)) ++ (wWk a (on, bk, gv, kn, ws9, we9, wp9)) ++ (wT ca kq a (ky, vl, lf, rt, ct, ht, tt, sp, pa, ro, ss, dp, rn, od, kd))) sz)) (va_A ((wKd kq) ++ (wMo a ch) ++ (wRg a (h1, h2, f1, f2)) ++ (wWk a (on, bk, gv, kn, ws9, we9, wp9)) ++ (wT ca kq a (ky, vl, lf, rt, ct, ht, tt, sp, pa, ro, ss, dp, rn, od, kd))) sz)) 0 0 (va_A ((wKd kq) ++ (wMo a ch) ++ (wRg a (h1, h2, f1, f2)) ++ (wWk a (on, bk, gv, kn, ws9, we9, wp9)) ++ (wT ca kq a (ky, vl, lf, rt, ct, ht, tt, sp, pa, ro, ss, dp, rn, od, kd))) sz) := by
  refine Met.ofW (cc := cX6_narrow) (maxL := 4) (ret := none) (by decide) rfl ?_
  intro p e s m args below meth c s₁ B hml hv
  obtain ⟨rfl, hsz, hP, hKN, hD0⟩ := hv
  have hx := B.exec
  have hb := B.bytes
  have hr := B.returns
  have hts := atoms_spec (ws := wsX6_narrow) B.pre
  have hown : s.vm.findClass RX6 = some m.cls := findClass_of_methodNamed B.named
  have hlocks := B.notSynchronized
  have inX6 : ∀ w ∈ wsX60, w ∈ wsX6_narrow := by decide +kernel
  have inX7 : ∀ w ∈ wsX70, w ∈ wsX6_narrow := by decide +kernel
  subst hsz
  have hD := hD0.self (sz := s.heap.size)
  generalize hAe : va_A ((wKd kq) ++ (wMo a ch) ++ (wRg a (h1, h2, f1, f2)) ++ (wWk a (on, bk, gv, kn, ws9, we9, wp9)) ++ (wT ca kq a (ky, vl, lf, rt, ct, ht, tt, sp, pa, ro, ss, dp, rn, od, kd))) s.heap.size = A at hD ⊢
  have hA : ∀ q : Nat, s.heap.size ≤ q → A q := fun q h => by rw [← hAe]; exact Or.inr h
  have hS : va_S A s.heap s.heap [] := va_S.rf
  have hl := lv_entry ([.ref (a 11), .int how, .int g1, .int g2]) (n := 4) (Nat.le_of_ble_eq_true rfl)
  rw [lg_entry_eq]
  generalize (lg_sl ([.ref (a 11), .int how, .int g1, .int g2]) ++ List.replicate (4 - (lg_sl ([.ref (a 11), .int how, .int g1, .int g2])).length) Slot.unset).toArray = ls at hl ⊢
  have hl : lv_has ls 4 [(0, .ref (a 11)), (1, .int how), (2, .int g1), (3, .int g2)] := hl
  refine lv_aload_n hx hb dX6_narrow_0 rfl (lv_at hl 0 rfl) ?_
  refine va_get (D := D) (ci := 4) (v := .ref (a 12)) (C := RX6) (T := TX6) (N := 4) hx hb hts inX6 hown hKN.1 hP 4 rfl rfl 1 (by decide) (hts (.fieldLink RX6 23 "TreeFamily$OneMap" "range" "LTreeFamily$Range;") (by decide +kernel)) (fun _ h9 => h9) rfl dX6_narrow_1 ?_
  refine lv_iload_n hx hb dX6_narrow_4 rfl (lv_at hl 1 rfl) ?_
  refine lv_iconst (v := 1) hx hb dX6_narrow_5 (by decide) ?_
  refine lv_iand hx hb dX6_narrow_6 ?_
  refine lv_if_eq (tgt := 14) hx hb dX6_narrow_7 (by decide) (fun c7 => ?_) (fun c7 => ?_)
  · skip
    refine lv_iconst (v := 0) hx hb dX6_narrow_14 (by decide) ?_
    refine va_putN (D := D) (ci := 5) (v := .int 0) (ty := .boolean) (C := RX7) (T := TX7) (N := 4) hx hb hts inX7 tyX7 tyX7_ok nmX7 hown hKN.1 hP hD hS 5 rfl rfl 0 (by decide) (va_Nw.use rfl (NW.f hKN.2 (a := RX6) (i := 42) (b := "TreeFamily$Range") (n := "hasFirst") (d := "Z") (g := "TreeFamily") (by decide +kernel))) (fun _ h9 => h9) rfl (by decide +kernel) rfl rfl (Nat.le_of_ble_eq_true rfl) dX6_narrow_15 (fun H locs hP hD hS => ?_)
    have hP : va_P D vwCl ((wKd kq) ++ (wMo a ch) ++ (wRg a (false, h2, f1, f2)) ++ (wWk a (on, bk, gv, kn, ws9, we9, wp9)) ++ (wT ca kq a (ky, vl, lf, rt, ct, ht, tt, sp, pa, ro, ss, dp, rn, od, kd))) H := hP
    have hD : va_D A ((wKd kq) ++ (wMo a ch) ++ (wRg a (false, h2, f1, f2)) ++ (wWk a (on, bk, gv, kn, ws9, we9, wp9)) ++ (wT ca kq a (ky, vl, lf, rt, ct, ht, tt, sp, pa, ro, ss, dp, rn, od, kd))) := hD
    refine lv_aload_n hx hb dX6_narrow_18 rfl (lv_at hl 0 rfl) ?_
    refine va_get (D := D) (ci := 4) (v := .ref (a 12)) (C := RX6) (T := TX6) (N := 4) hx hb hts inX6 hown hKN.1 hP 4 rfl rfl 1 (by decide) (hts (.fieldLink RX6 23 "TreeFamily$OneMap" "range" "LTreeFamily$Range;") (by decide +kernel)) (fun _ h9 => h9) rfl dX6_narrow_19 ?_
    refine lv_iload_n hx hb dX6_narrow_22 rfl (lv_at hl 1 rfl) ?_
    refine lv_iconst (v := 2) hx hb dX6_narrow_23 (by decide) ?_
    refine lv_iand hx hb dX6_narrow_24 ?_
    refine lv_if_eq (tgt := 32) hx hb dX6_narrow_25 (by decide) (fun c25 => ?_) (fun c25 => ?_)
    · skip
      refine lv_iconst (v := 0) hx hb dX6_narrow_32 (by decide) ?_
      refine va_putN (D := D) (ci := 5) (v := .int 0) (ty := .boolean) (C := RX7) (T := TX7) (N := 4) hx hb hts inX7 tyX7 tyX7_ok nmX7 hown hKN.1 hP hD hS 5 rfl rfl 1 (by decide) (va_Nw.use rfl (NW.f hKN.2 (a := RX6) (i := 46) (b := "TreeFamily$Range") (n := "hasSecond") (d := "Z") (g := "TreeFamily") (by decide +kernel))) (fun _ h9 => h9) rfl (by decide +kernel) rfl rfl (Nat.le_of_ble_eq_true rfl) dX6_narrow_33 (fun H locs hP hD hS => ?_)
      have hP : va_P D vwCl ((wKd kq) ++ (wMo a ch) ++ (wRg a (false, false, f1, f2)) ++ (wWk a (on, bk, gv, kn, ws9, we9, wp9)) ++ (wT ca kq a (ky, vl, lf, rt, ct, ht, tt, sp, pa, ro, ss, dp, rn, od, kd))) H := hP
      have hD : va_D A ((wKd kq) ++ (wMo a ch) ++ (wRg a (false, false, f1, f2)) ++ (wWk a (on, bk, gv, kn, ws9, we9, wp9)) ++ (wT ca kq a (ky, vl, lf, rt, ct, ht, tt, sp, pa, ro, ss, dp, rn, od, kd))) := hD
      refine lv_aload_n hx hb dX6_narrow_36 rfl (lv_at hl 0 rfl) ?_
      refine va_get (D := D) (ci := 4) (v := .ref (a 12)) (C := RX6) (T := TX6) (N := 4) hx hb hts inX6 hown hKN.1 hP 4 rfl rfl 1 (by decide) (hts (.fieldLink RX6 23 "TreeFamily$OneMap" "range" "LTreeFamily$Range;") (by decide +kernel)) (fun _ h9 => h9) rfl dX6_narrow_37 ?_
      refine lv_iload_n hx hb dX6_narrow_40 rfl (lv_at hl 2 rfl) ?_
      refine va_putN (D := D) (ci := 5) (v := .int g1) (ty := .int) (C := RX7) (T := TX7) (N := 4) hx hb hts inX7 tyX7 tyX7_ok nmX7 hown hKN.1 hP hD hS 5 rfl rfl 2 (by decide) (va_Nw.use rfl (NW.f hKN.2 (a := RX6) (i := 110) (b := "TreeFamily$Range") (n := "first") (d := "I") (g := "TreeFamily") (by decide +kernel))) (fun _ h9 => h9) rfl (by decide +kernel) rfl rfl (Nat.le_of_ble_eq_true rfl) dX6_narrow_41 (fun H locs hP hD hS => ?_)
      have hP : va_P D vwCl ((wKd kq) ++ (wMo a ch) ++ (wRg a (false, false, g1, f2)) ++ (wWk a (on, bk, gv, kn, ws9, we9, wp9)) ++ (wT ca kq a (ky, vl, lf, rt, ct, ht, tt, sp, pa, ro, ss, dp, rn, od, kd))) H := hP
      have hD : va_D A ((wKd kq) ++ (wMo a ch) ++ (wRg a (false, false, g1, f2)) ++ (wWk a (on, bk, gv, kn, ws9, we9, wp9)) ++ (wT ca kq a (ky, vl, lf, rt, ct, ht, tt, sp, pa, ro, ss, dp, rn, od, kd))) := hD
      refine lv_aload_n hx hb dX6_narrow_44 rfl (lv_at hl 0 rfl) ?_
      refine va_get (D := D) (ci := 4) (v := .ref (a 12)) (C := RX6) (T := TX6) (N := 4) hx hb hts inX6 hown hKN.1 hP 4 rfl rfl 1 (by decide) (hts (.fieldLink RX6 23 "TreeFamily$OneMap" "range" "LTreeFamily$Range;") (by decide +kernel)) (fun _ h9 => h9) rfl dX6_narrow_45 ?_
      refine lv_iload_n hx hb dX6_narrow_48 rfl (lv_at hl 3 rfl) ?_
      refine va_putN (D := D) (ci := 5) (v := .int g2) (ty := .int) (C := RX7) (T := TX7) (N := 4) hx hb hts inX7 tyX7 tyX7_ok nmX7 hown hKN.1 hP hD hS 5 rfl rfl 3 (by decide) (va_Nw.use rfl (NW.f hKN.2 (a := RX6) (i := 113) (b := "TreeFamily$Range") (n := "second") (d := "I") (g := "TreeFamily") (by decide +kernel))) (fun _ h9 => h9) rfl (by decide +kernel) rfl rfl (Nat.le_of_ble_eq_true rfl) dX6_narrow_49 (fun H locs hP hD hS => ?_)
      have hP : va_P D vwCl ((wKd kq) ++ (wMo a ch) ++ (wRg a (false, false, g1, g2)) ++ (wWk a (on, bk, gv, kn, ws9, we9, wp9)) ++ (wT ca kq a (ky, vl, lf, rt, ct, ht, tt, sp, pa, ro, ss, dp, rn, od, kd))) H := hP
      have hD : va_D A ((wKd kq) ++ (wMo a ch) ++ (wRg a (false, false, g1, g2)) ++ (wWk a (on, bk, gv, kn, ws9, we9, wp9)) ++ (wT ca kq a (ky, vl, lf, rt, ct, ht, tt, sp, pa, ro, ss, dp, rn, od, kd))) := hD
      exact W.vret hx hb hr (fun t9 e9 w9 => ⟨⟨((ky, vl, lf, rt, ct, ht, tt, sp, pa, ro, ss, dp, rn, od, kd), (false, false, g1, g2), (on, bk, gv, kn, ws9, we9, wp9), ch), rfl, by unfold f_narrow; first | rw [if_pos c7, if_pos c25] | rw [if_pos c7, if_neg c25] | rw [if_neg c7, if_pos c25] | rw [if_neg c7, if_neg c25], by rw [e9]; exact hP, hD⟩, hS.F e9⟩) hS.2.2 dX6_narrow_52
    · skip
      refine lv_iconst (v := 1) hx hb dX6_narrow_28 (by decide) ?_
      refine lv_goto (tgt := 33) hx hb dX6_narrow_29 (by decide) ?_
      refine va_putN (D := D) (ci := 5) (v := .int 1) (ty := .boolean) (C := RX7) (T := TX7) (N := 4) hx hb hts inX7 tyX7 tyX7_ok nmX7 hown hKN.1 hP hD hS 5 rfl rfl 1 (by decide) (va_Nw.use rfl (NW.f hKN.2 (a := RX6) (i := 46) (b := "TreeFamily$Range") (n := "hasSecond") (d := "Z") (g := "TreeFamily") (by decide +kernel))) (fun _ h9 => h9) rfl (by decide +kernel) rfl rfl (Nat.le_of_ble_eq_true rfl) dX6_narrow_33 (fun H locs hP hD hS => ?_)
      have hP : va_P D vwCl ((wKd kq) ++ (wMo a ch) ++ (wRg a (false, true, f1, f2)) ++ (wWk a (on, bk, gv, kn, ws9, we9, wp9)) ++ (wT ca kq a (ky, vl, lf, rt, ct, ht, tt, sp, pa, ro, ss, dp, rn, od, kd))) H := hP
      have hD : va_D A ((wKd kq) ++ (wMo a ch) ++ (wRg a (false, true, f1, f2)) ++ (wWk a (on, bk, gv, kn, ws9, we9, wp9)) ++ (wT ca kq a (ky, vl, lf, rt, ct, ht, tt, sp, pa, ro, ss, dp, rn, od, kd))) := hD
      refine lv_aload_n hx hb dX6_narrow_36 rfl (lv_at hl 0 rfl) ?_
      refine va_get (D := D) (ci := 4) (v := .ref (a 12)) (C := RX6) (T := TX6) (N := 4) hx hb hts inX6 hown hKN.1 hP 4 rfl rfl 1 (by decide) (hts (.fieldLink RX6 23 "TreeFamily$OneMap" "range" "LTreeFamily$Range;") (by decide +kernel)) (fun _ h9 => h9) rfl dX6_narrow_37 ?_
      refine lv_iload_n hx hb dX6_narrow_40 rfl (lv_at hl 2 rfl) ?_
      refine va_putN (D := D) (ci := 5) (v := .int g1) (ty := .int) (C := RX7) (T := TX7) (N := 4) hx hb hts inX7 tyX7 tyX7_ok nmX7 hown hKN.1 hP hD hS 5 rfl rfl 2 (by decide) (va_Nw.use rfl (NW.f hKN.2 (a := RX6) (i := 110) (b := "TreeFamily$Range") (n := "first") (d := "I") (g := "TreeFamily") (by decide +kernel))) (fun _ h9 => h9) rfl (by decide +kernel) rfl rfl (Nat.le_of_ble_eq_true rfl) dX6_narrow_41 (fun H locs hP hD hS => ?_)
      have hP : va_P D vwCl ((wKd kq) ++ (wMo a ch) ++ (wRg a (false, true, g1, f2)) ++ (wWk a (on, bk, gv, kn, ws9, we9, wp9)) ++ (wT ca kq a (ky, vl, lf, rt, ct, ht, tt, sp, pa, ro, ss, dp, rn, od, kd))) H := hP
      have hD : va_D A ((wKd kq) ++ (wMo a ch) ++ (wRg a (false, true, g1, f2)) ++ (wWk a (on, bk, gv, kn, ws9, we9, wp9)) ++ (wT ca kq a (ky, vl, lf, rt, ct, ht, tt, sp, pa, ro, ss, dp, rn, od, kd))) := hD
      refine lv_aload_n hx hb dX6_narrow_44 rfl (lv_at hl 0 rfl) ?_
      refine va_get (D := D) (ci := 4) (v := .ref (a 12)) (C := RX6) (T := TX6) (N := 4) hx hb hts inX6 hown hKN.1 hP 4 rfl rfl 1 (by decide) (hts (.fieldLink RX6 23 "TreeFamily$OneMap" "range" "LTreeFamily$Range;") (by decide +kernel)) (fun _ h9 => h9) rfl dX6_narrow_45 ?_
      refine lv_iload_n hx hb dX6_narrow_48 rfl (lv_at hl 3 rfl) ?_
      refine va_putN (D := D) (ci := 5) (v := .int g2) (ty := .int) (C := RX7) (T := TX7) (N := 4) hx hb hts inX7 tyX7 tyX7_ok nmX7 hown hKN.1 hP hD hS 5 rfl rfl 3 (by decide) (va_Nw.use rfl (NW.f hKN.2 (a := RX6) (i := 113) (b := "TreeFamily$Range") (n := "second") (d := "I") (g := "TreeFamily") (by decide +kernel))) (fun _ h9 => h9) rfl (by decide +kernel) rfl rfl (Nat.le_of_ble_eq_true rfl) dX6_narrow_49 (fun H locs hP hD hS => ?_)
      have hP : va_P D vwCl ((wKd kq) ++ (wMo a ch) ++ (wRg a (false, true, g1, g2)) ++ (wWk a (on, bk, gv, kn, ws9, we9, wp9)) ++ (wT ca kq a (ky, vl, lf, rt, ct, ht, tt, sp, pa, ro, ss, dp, rn, od, kd))) H := hP
      have hD : va_D A ((wKd kq) ++ (wMo a ch) ++ (wRg a (false, true, g1, g2)) ++ (wWk a (on, bk, gv, kn, ws9, we9, wp9)) ++ (wT ca kq a (ky, vl, lf, rt, ct, ht, tt, sp, pa, ro, ss, dp, rn, od, kd))) := hD
      exact W.vret hx hb hr (fun t9 e9 w9 => ⟨⟨((ky, vl, lf, rt, ct, ht, tt, sp, pa, ro, ss, dp, rn, od, kd), (false, true, g1, g2), (on, bk, gv, kn, ws9, we9, wp9), ch), rfl, by unfold f_narrow; first | rw [if_pos c7, if_pos c25] | rw [if_pos c7, if_neg c25] | rw [if_neg c7, if_pos c25] | rw [if_neg c7, if_neg c25], by rw [e9]; exact hP, hD⟩, hS.F e9⟩) hS.2.2 dX6_narrow_52
  · skip
    refine lv_iconst (v := 1) hx hb dX6_narrow_10 (by decide) ?_
    refine lv_goto (tgt := 15) hx hb dX6_narrow_11 (by decide) ?_
    refine va_putN (D := D) (ci := 5) (v := .int 1) (ty := .boolean) (C := RX7) (T := TX7) (N := 4) hx hb hts inX7 tyX7 tyX7_ok nmX7 hown hKN.1 hP hD hS 5 rfl rfl 0 (by decide) (va_Nw.use rfl (NW.f hKN.2 (a := RX6) (i := 42) (b := "TreeFamily$Range") (n := "hasFirst") (d := "Z") (g := "TreeFamily") (by decide +kernel))) (fun _ h9 => h9) rfl (by decide +kernel) rfl rfl (Nat.le_of_ble_eq_true rfl) dX6_narrow_15 (fun H locs hP hD hS => ?_)
    have hP : va_P D vwCl ((wKd kq) ++ (wMo a ch) ++ (wRg a (true, h2, f1, f2)) ++ (wWk a (on, bk, gv, kn, ws9, we9, wp9)) ++ (wT ca kq a (ky, vl, lf, rt, ct, ht, tt, sp, pa, ro, ss, dp, rn, od, kd))) H := hP
    have hD : va_D A ((wKd kq) ++ (wMo a ch) ++ (wRg a (true, h2, f1, f2)) ++ (wWk a (on, bk, gv, kn, ws9, we9, wp9)) ++ (wT ca kq a (ky, vl, lf, rt, ct, ht, tt, sp, pa, ro, ss, dp, rn, od, kd))) := hD
    refine lv_aload_n hx hb dX6_narrow_18 rfl (lv_at hl 0 rfl) ?_
    refine va_get (D := D) (ci := 4) (v := .ref (a 12)) (C := RX6) (T := TX6) (N := 4) hx hb hts inX6 hown hKN.1 hP 4 rfl rfl 1 (by decide) (hts (.fieldLink RX6 23 "TreeFamily$OneMap" "range" "LTreeFamily$Range;") (by decide +kernel)) (fun _ h9 => h9) rfl dX6_narrow_19 ?_
    refine lv_iload_n hx hb dX6_narrow_22 rfl (lv_at hl 1 rfl) ?_
    refine lv_iconst (v := 2) hx hb dX6_narrow_23 (by decide) ?_
    refine lv_iand hx hb dX6_narrow_24 ?_
    refine lv_if_eq (tgt := 32) hx hb dX6_narrow_25 (by decide) (fun c25 => ?_) (fun c25 => ?_)
    · skip
      refine lv_iconst (v := 0) hx hb dX6_narrow_32 (by decide) ?_
      refine va_putN (D := D) (ci := 5) (v := .int 0) (ty := .boolean) (C := RX7) (T := TX7) (N := 4) hx hb hts inX7 tyX7 tyX7_ok nmX7 hown hKN.1 hP hD hS 5 rfl rfl 1 (by decide) (va_Nw.use rfl (NW.f hKN.2 (a := RX6) (i := 46) (b := "TreeFamily$Range") (n := "hasSecond") (d := "Z") (g := "TreeFamily") (by decide +kernel))) (fun _ h9 => h9) rfl (by decide +kernel) rfl rfl (Nat.le_of_ble_eq_true rfl) dX6_narrow_33 (fun H locs hP hD hS => ?_)
      have hP : va_P D vwCl ((wKd kq) ++ (wMo a ch) ++ (wRg a (true, false, f1, f2)) ++ (wWk a (on, bk, gv, kn, ws9, we9, wp9)) ++ (wT ca kq a (ky, vl, lf, rt, ct, ht, tt, sp, pa, ro, ss, dp, rn, od, kd))) H := hP
      have hD : va_D A ((wKd kq) ++ (wMo a ch) ++ (wRg a (true, false, f1, f2)) ++ (wWk a (on, bk, gv, kn, ws9, we9, wp9)) ++ (wT ca kq a (ky, vl, lf, rt, ct, ht, tt, sp, pa, ro, ss, dp, rn, od, kd))) := hD
      refine lv_aload_n hx hb dX6_narrow_36 rfl (lv_at hl 0 rfl) ?_
      refine va_get (D := D) (ci := 4) (v := .ref (a 12)) (C := RX6) (T := TX6) (N := 4) hx hb hts inX6 hown hKN.1 hP 4 rfl rfl 1 (by decide) (hts (.fieldLink RX6 23 "TreeFamily$OneMap" "range" "LTreeFamily$Range;") (by decide +kernel)) (fun _ h9 => h9) rfl dX6_narrow_37 ?_
      refine lv_iload_n hx hb dX6_narrow_40 rfl (lv_at hl 2 rfl) ?_
      refine va_putN (D := D) (ci := 5) (v := .int g1) (ty := .int) (C := RX7) (T := TX7) (N := 4) hx hb hts inX7 tyX7 tyX7_ok nmX7 hown hKN.1 hP hD hS 5 rfl rfl 2 (by decide) (va_Nw.use rfl (NW.f hKN.2 (a := RX6) (i := 110) (b := "TreeFamily$Range") (n := "first") (d := "I") (g := "TreeFamily") (by decide +kernel))) (fun _ h9 => h9) rfl (by decide +kernel) rfl rfl (Nat.le_of_ble_eq_true rfl) dX6_narrow_41 (fun H locs hP hD hS => ?_)
      have hP : va_P D vwCl ((wKd kq) ++ (wMo a ch) ++ (wRg a (true, false, g1, f2)) ++ (wWk a (on, bk, gv, kn, ws9, we9, wp9)) ++ (wT ca kq a (ky, vl, lf, rt, ct, ht, tt, sp, pa, ro, ss, dp, rn, od, kd))) H := hP
      have hD : va_D A ((wKd kq) ++ (wMo a ch) ++ (wRg a (true, false, g1, f2)) ++ (wWk a (on, bk, gv, kn, ws9, we9, wp9)) ++ (wT ca kq a (ky, vl, lf, rt, ct, ht, tt, sp, pa, ro, ss, dp, rn, od, kd))) := hD
      refine lv_aload_n hx hb dX6_narrow_44 rfl (lv_at hl 0 rfl) ?_
      refine va_get (D := D) (ci := 4) (v := .ref (a 12)) (C := RX6) (T := TX6) (N := 4) hx hb hts inX6 hown hKN.1 hP 4 rfl rfl 1 (by decide) (hts (.fieldLink RX6 23 "TreeFamily$OneMap" "range" "LTreeFamily$Range;") (by decide +kernel)) (fun _ h9 => h9) rfl dX6_narrow_45 ?_
      refine lv_iload_n hx hb dX6_narrow_48 rfl (lv_at hl 3 rfl) ?_
      refine va_putN (D := D) (ci := 5) (v := .int g2) (ty := .int) (C := RX7) (T := TX7) (N := 4) hx hb hts inX7 tyX7 tyX7_ok nmX7 hown hKN.1 hP hD hS 5 rfl rfl 3 (by decide) (va_Nw.use rfl (NW.f hKN.2 (a := RX6) (i := 113) (b := "TreeFamily$Range") (n := "second") (d := "I") (g := "TreeFamily") (by decide +kernel))) (fun _ h9 => h9) rfl (by decide +kernel) rfl rfl (Nat.le_of_ble_eq_true rfl) dX6_narrow_49 (fun H locs hP hD hS => ?_)
      have hP : va_P D vwCl ((wKd kq) ++ (wMo a ch) ++ (wRg a (true, false, g1, g2)) ++ (wWk a (on, bk, gv, kn, ws9, we9, wp9)) ++ (wT ca kq a (ky, vl, lf, rt, ct, ht, tt, sp, pa, ro, ss, dp, rn, od, kd))) H := hP
      have hD : va_D A ((wKd kq) ++ (wMo a ch) ++ (wRg a (true, false, g1, g2)) ++ (wWk a (on, bk, gv, kn, ws9, we9, wp9)) ++ (wT ca kq a (ky, vl, lf, rt, ct, ht, tt, sp, pa, ro, ss, dp, rn, od, kd))) := hD
      exact W.vret hx hb hr (fun t9 e9 w9 => ⟨⟨((ky, vl, lf, rt, ct, ht, tt, sp, pa, ro, ss, dp, rn, od, kd), (true, false, g1, g2), (on, bk, gv, kn, ws9, we9, wp9), ch), rfl, by unfold f_narrow; first | rw [if_pos c7, if_pos c25] | rw [if_pos c7, if_neg c25] | rw [if_neg c7, if_pos c25] | rw [if_neg c7, if_neg c25], by rw [e9]; exact hP, hD⟩, hS.F e9⟩) hS.2.2 dX6_narrow_52
    · skip
      refine lv_iconst (v := 1) hx hb dX6_narrow_28 (by decide) ?_
      refine lv_goto (tgt := 33) hx hb dX6_narrow_29 (by decide) ?_
      refine va_putN (D := D) (ci := 5) (v := .int 1) (ty := .boolean) (C := RX7) (T := TX7) (N := 4) hx hb hts inX7 tyX7 tyX7_ok nmX7 hown hKN.1 hP hD hS 5 rfl rfl 1 (by decide) (va_Nw.use rfl (NW.f hKN.2 (a := RX6) (i := 46) (b := "TreeFamily$Range") (n := "hasSecond") (d := "Z") (g := "TreeFamily") (by decide +kernel))) (fun _ h9 => h9) rfl (by decide +kernel) rfl rfl (Nat.le_of_ble_eq_true rfl) dX6_narrow_33 (fun H locs hP hD hS => ?_)
      have hP : va_P D vwCl ((wKd kq) ++ (wMo a ch) ++ (wRg a (true, true, f1, f2)) ++ (wWk a (on, bk, gv, kn, ws9, we9, wp9)) ++ (wT ca kq a (ky, vl, lf, rt, ct, ht, tt, sp, pa, ro, ss, dp, rn, od, kd))) H := hP
      have hD : va_D A ((wKd kq) ++ (wMo a ch) ++ (wRg a (true, true, f1, f2)) ++ (wWk a (on, bk, gv, kn, ws9, we9, wp9)) ++ (wT ca kq a (ky, vl, lf, rt, ct, ht, tt, sp, pa, ro, ss, dp, rn, od, kd))) := hD
      refine lv_aload_n hx hb dX6_narrow_36 rfl (lv_at hl 0 rfl) ?_
      refine va_get (D := D) (ci := 4) (v := .ref (a 12)) (C := RX6) (T := TX6) (N := 4) hx hb hts inX6 hown hKN.1 hP 4 rfl rfl 1 (by decide) (hts (.fieldLink RX6 23 "TreeFamily$OneMap" "range" "LTreeFamily$Range;") (by decide +kernel)) (fun _ h9 => h9) rfl dX6_narrow_37 ?_
      refine lv_iload_n hx hb dX6_narrow_40 rfl (lv_at hl 2 rfl) ?_
      refine va_putN (D := D) (ci := 5) (v := .int g1) (ty := .int) (C := RX7) (T := TX7) (N := 4) hx hb hts inX7 tyX7 tyX7_ok nmX7 hown hKN.1 hP hD hS 5 rfl rfl 2 (by decide) (va_Nw.use rfl (NW.f hKN.2 (a := RX6) (i := 110) (b := "TreeFamily$Range") (n := "first") (d := "I") (g := "TreeFamily") (by decide +kernel))) (fun _ h9 => h9) rfl (by decide +kernel) rfl rfl (Nat.le_of_ble_eq_true rfl) dX6_narrow_41 (fun H locs hP hD hS => ?_)
      have hP : va_P D vwCl ((wKd kq) ++ (wMo a ch) ++ (wRg a (true, true, g1, f2)) ++ (wWk a (on, bk, gv, kn, ws9, we9, wp9)) ++ (wT ca kq a (ky, vl, lf, rt, ct, ht, tt, sp, pa, ro, ss, dp, rn, od, kd))) H := hP
      have hD : va_D A ((wKd kq) ++ (wMo a ch) ++ (wRg a (true, true, g1, f2)) ++ (wWk a (on, bk, gv, kn, ws9, we9, wp9)) ++ (wT ca kq a (ky, vl, lf, rt, ct, ht, tt, sp, pa, ro, ss, dp, rn, od, kd))) := hD
      refine lv_aload_n hx hb dX6_narrow_44 rfl (lv_at hl 0 rfl) ?_
      refine va_get (D := D) (ci := 4) (v := .ref (a 12)) (C := RX6) (T := TX6) (N := 4) hx hb hts inX6 hown hKN.1 hP 4 rfl rfl 1 (by decide) (hts (.fieldLink RX6 23 "TreeFamily$OneMap" "range" "LTreeFamily$Range;") (by decide +kernel)) (fun _ h9 => h9) rfl dX6_narrow_45 ?_
      refine lv_iload_n hx hb dX6_narrow_48 rfl (lv_at hl 3 rfl) ?_
      refine va_putN (D := D) (ci := 5) (v := .int g2) (ty := .int) (C := RX7) (T := TX7) (N := 4) hx hb hts inX7 tyX7 tyX7_ok nmX7 hown hKN.1 hP hD hS 5 rfl rfl 3 (by decide) (va_Nw.use rfl (NW.f hKN.2 (a := RX6) (i := 113) (b := "TreeFamily$Range") (n := "second") (d := "I") (g := "TreeFamily") (by decide +kernel))) (fun _ h9 => h9) rfl (by decide +kernel) rfl rfl (Nat.le_of_ble_eq_true rfl) dX6_narrow_49 (fun H locs hP hD hS => ?_)
      have hP : va_P D vwCl ((wKd kq) ++ (wMo a ch) ++ (wRg a (true, true, g1, g2)) ++ (wWk a (on, bk, gv, kn, ws9, we9, wp9)) ++ (wT ca kq a (ky, vl, lf, rt, ct, ht, tt, sp, pa, ro, ss, dp, rn, od, kd))) H := hP
      have hD : va_D A ((wKd kq) ++ (wMo a ch) ++ (wRg a (true, true, g1, g2)) ++ (wWk a (on, bk, gv, kn, ws9, we9, wp9)) ++ (wT ca kq a (ky, vl, lf, rt, ct, ht, tt, sp, pa, ro, ss, dp, rn, od, kd))) := hD
      exact W.vret hx hb hr (fun t9 e9 w9 => ⟨⟨((ky, vl, lf, rt, ct, ht, tt, sp, pa, ro, ss, dp, rn, od, kd), (true, true, g1, g2), (on, bk, gv, kn, ws9, we9, wp9), ch), rfl, by unfold f_narrow; first | rw [if_pos c7, if_pos c25] | rw [if_pos c7, if_neg c25] | rw [if_neg c7, if_pos c25] | rw [if_neg c7, if_neg c25], by rw [e9]; exact hP, hD⟩, hS.F e9⟩) hS.2.2 dX6_narrow_52

-- OneMap.isInRange
set_option maxHeartbeats 4000000 in
set_option maxRecDepth 100000 in
theorem c_X6_isInRange (l : Launch) (D : va_G) (ca : Nat → ClassId) (kq a : Nat → Nat) (sz : Nat) (ky vl : Nat → Int32) (lf rt : Nat → Nat) (ct ht : Nat → Int32) (tt : Nat → Int64) (sp pa ro : Nat → Nat) (ss dp rn : Nat) (od : Int32) (kd : Nat) (h1 h2 : Bool) (f1 f2 : Int32) (on bk gv : Bool) (kn ws9 we9 wp9 : Int32) (ch : Int32) (key : Int32) (hlf : ∀ k, lf k ≤ 60) (hrt : ∀ k, rt k ≤ 60) (hsp : ∀ k, sp k ≤ 60) (hpa : ∀ k, pa k ≤ 60) (hro : ∀ k, ro k ≤ 60) (hrn : rn ≤ 60) (hkd : kd < 4): Met l yX6_isInRange wsX6_isInRange ({ frames := 3, cells := 0, slots := 0, locals := 68 } : Room) (xPc D (TY ca) [.ref (a 11), .int key] ((wKd kq) ++ (wMo a ch) ++ (wRg a (h1, h2, f1, f2)) ++ (wWk a (on, bk, gv, kn, ws9, we9, wp9)) ++ (wT ca kq a (ky, vl, lf, rt, ct, ht, tt, sp, pa, ro, ss, dp, rn, od, kd))) sz) (va_Qi (fun (r : Int32) (u : MS) => r = bI (f_holds (h1, h2, f1, f2) od key) ∧ u = ((ky, vl, lf, rt, ct, ht, tt, sp, pa, ro, ss, dp, rn, od, kd), (h1, h2, f1, f2), (on, bk, gv, kn, ws9, we9, wp9), ch)) (xB D (wM ca kq a) (va_A ((wKd kq) ++ (wMo a ch) ++ (wRg a (h1, h2, f1, f2)) ++ (wWk a (on, bk, gv, kn, ws9, we9, wp9)) ++ (wT ca kq a (ky, vl, lf, rt, ct, ht, tt, sp, pa, ro, ss, dp, rn, od, kd))) sz)) (va_A ((wKd kq) ++ (wMo a ch) ++ (wRg a (h1, h2, f1, f2)) ++ (wWk a (on, bk, gv, kn, ws9, we9, wp9)) ++ (wT ca kq a (ky, vl, lf, rt, ct, ht, tt, sp, pa, ro, ss, dp, rn, od, kd))) sz)) 0 0 (va_A ((wKd kq) ++ (wMo a ch) ++ (wRg a (h1, h2, f1, f2)) ++ (wWk a (on, bk, gv, kn, ws9, we9, wp9)) ++ (wT ca kq a (ky, vl, lf, rt, ct, ht, tt, sp, pa, ro, ss, dp, rn, od, kd))) sz) := by
  refine Met.ofW (cc := cX6_isInRange) (maxL := 2) (ret := (some .boolean)) (by decide) rfl ?_
  intro p e s m args below meth c s₁ B hml hv
  obtain ⟨rfl, hsz, hP, hKN, hD0⟩ := hv
  have hx := B.exec
  have hb := B.bytes
  have hr := B.returns
  have hts := atoms_spec (ws := wsX6_isInRange) B.pre
  have hown : s.vm.findClass RX6 = some m.cls := findClass_of_methodNamed B.named
  have hlocks := B.notSynchronized
  have inX6 : ∀ w ∈ wsX60, w ∈ wsX6_isInRange := by decide +kernel
  have inX8 : ∀ w ∈ wsX80, w ∈ wsX6_isInRange := by decide +kernel
  subst hsz
  have hD := hD0.self (sz := s.heap.size)
  generalize hAe : va_A ((wKd kq) ++ (wMo a ch) ++ (wRg a (h1, h2, f1, f2)) ++ (wWk a (on, bk, gv, kn, ws9, we9, wp9)) ++ (wT ca kq a (ky, vl, lf, rt, ct, ht, tt, sp, pa, ro, ss, dp, rn, od, kd))) s.heap.size = A at hD ⊢
  have hA : ∀ q : Nat, s.heap.size ≤ q → A q := fun q h => by rw [← hAe]; exact Or.inr h
  have hS : va_S A s.heap s.heap [] := va_S.rf
  have hl := lv_entry ([.ref (a 11), .int key]) (n := 2) (Nat.le_of_ble_eq_true rfl)
  rw [lg_entry_eq]
  generalize (lg_sl ([.ref (a 11), .int key]) ++ List.replicate (2 - (lg_sl ([.ref (a 11), .int key])).length) Slot.unset).toArray = ls at hl ⊢
  have hl : lv_has ls 2 [(0, .ref (a 11)), (1, .int key)] := hl
  refine lv_aload_n hx hb dX6_isInRange_0 rfl (lv_at hl 0 rfl) ?_
  refine va_get (D := D) (ci := 4) (v := .ref (a 12)) (C := RX6) (T := TX6) (N := 4) hx hb hts inX6 hown hKN.1 hP 4 rfl rfl 1 (by decide) (hts (.fieldLink RX6 23 "TreeFamily$OneMap" "range" "LTreeFamily$Range;") (by decide +kernel)) (fun _ h9 => h9) rfl dX6_isInRange_1 ?_
  refine lv_aload_n hx hb dX6_isInRange_4 rfl (lv_at hl 0 rfl) ?_
  refine va_get (D := D) (ci := 4) (v := .ref (a 0)) (C := RX6) (T := TX6) (N := 4) hx hb hts inX6 hown hKN.1 hP 4 rfl rfl 0 (by decide) (hts (.fieldLink RX6 14 "TreeFamily$OneMap" "tree" "LTreeFamily$Tree;") (by decide +kernel)) (fun _ h9 => h9) rfl dX6_isInRange_5 ?_
  refine va_getN (D := D) (ci := 6) (v := .int od) (C := RX8) (T := TX8) (N := 15) hx hb hts inX8 hown hKN.1 hP 7 rfl rfl 13 (by decide) (va_Nw.use rfl (NW.f hKN.2 (a := RX6) (i := 103) (b := "TreeFamily$Tree") (n := "order") (d := "I") (g := "TreeFamily") (by decide +kernel))) (fun _ h9 => h9) rfl dX6_isInRange_8 ?_
  refine lv_iload_n hx hb dX6_isInRange_11 rfl (lv_at hl 1 rfl) ?_
  refine xc_i (wr := (wKd kq) ++ (wMo a ch) ++ (wWk a (on, bk, gv, kn, ws9, we9, wp9)) ++ (wT ca kq a (ky, vl, lf, rt, ct, ht, tt, sp, pa, ro, ss, dp, rn, od, kd))) (va_runV (As := [.int od, .int key]) (rest := []) ⟨hx, hb, hml, hown, hts⟩ (c_X7_holds l D ca kq a _ h1 h2 f1 f2 od key) (cwV 2 hts gX6_isInRange_X7_holds rfl rfl rfl (by decide +kernel) ⟨(Nat.le_of_ble_eq_true rfl), (Nat.le_of_ble_eq_true rfl)⟩) (xPreV hKN hP hD [5] (by decide) rfl (q0 := 5) rfl rfl rfl) rfl rfl hl.1 rfl (lv_room (Nat.le_of_ble_eq_true rfl)) dX6_isInRange_12 ⟨(Nat.le_of_ble_eq_true rfl), (Nat.le_of_ble_eq_true rfl)⟩) hP hD hS hA [5] [0, 1, 2, 3, 4, 6, 7, 8, 9, 10, 11, 12, 13, 14, 15, 16, 17] rfl rfl (by decide) (by decide) (fun r12 u12 H locs hu12 hP hD hS => ?_)
  obtain ⟨er12, eu12⟩ := hu12
  subst er12
  subst eu12
  have hP : va_P D vwCl ((wKd kq) ++ (wMo a ch) ++ (wRg a (h1, h2, f1, f2)) ++ (wWk a (on, bk, gv, kn, ws9, we9, wp9)) ++ (wT ca kq a (ky, vl, lf, rt, ct, ht, tt, sp, pa, ro, ss, dp, rn, od, kd))) H := hP.sub (ws' := (wKd kq) ++ (wMo a ch) ++ (wRg a (h1, h2, f1, f2)) ++ (wWk a (on, bk, gv, kn, ws9, we9, wp9)) ++ (wT ca kq a (ky, vl, lf, rt, ct, ht, tt, sp, pa, ro, ss, dp, rn, od, kd))) [0, 1, 2, 3, 4, 17, 5, 6, 7, 8, 9, 10, 11, 12, 13, 14, 15, 16] rfl
  have hD : va_D A ((wKd kq) ++ (wMo a ch) ++ (wRg a (h1, h2, f1, f2)) ++ (wWk a (on, bk, gv, kn, ws9, we9, wp9)) ++ (wT ca kq a (ky, vl, lf, rt, ct, ht, tt, sp, pa, ro, ss, dp, rn, od, kd))) := hD.sub (ws' := (wKd kq) ++ (wMo a ch) ++ (wRg a (h1, h2, f1, f2)) ++ (wWk a (on, bk, gv, kn, ws9, we9, wp9)) ++ (wT ca kq a (ky, vl, lf, rt, ct, ht, tt, sp, pa, ro, ss, dp, rn, od, kd))) [0, 1, 2, 3, 4, 17, 5, 6, 7, 8, 9, 10, 11, 12, 13, 14, 15, 16] (by decide) rfl
  exact W.zret (v := (bI (f_holds (h1, h2, f1, f2) od key))) hx hb hr (bI_nar _) (fun t9 e9 w9 => ⟨⟨_, ((ky, vl, lf, rt, ct, ht, tt, sp, pa, ro, ss, dp, rn, od, kd), (h1, h2, f1, f2), (on, bk, gv, kn, ws9, we9, wp9), ch), rfl, ⟨rfl, rfl⟩, by rw [e9]; exact hP, hD⟩, hS.F e9⟩) hS.2.2 dX6_isInRange_15

-- OneMap.countInRange
set_option maxHeartbeats 4000000 in
set_option maxRecDepth 100000 in
theorem c_X6_countInRange (l : Launch) (D : va_G) (ca : Nat → ClassId) (kq a : Nat → Nat) (sz : Nat) (ky vl : Nat → Int32) (lf rt : Nat → Nat) (ct ht : Nat → Int32) (tt : Nat → Int64) (sp pa ro : Nat → Nat) (ss dp rn : Nat) (od : Int32) (kd : Nat) (h1 h2 : Bool) (f1 f2 : Int32) (on bk gv : Bool) (kn ws9 we9 wp9 : Int32) (ch : Int32) (hlf : ∀ k, lf k ≤ 60) (hrt : ∀ k, rt k ≤ 60) (hsp : ∀ k, sp k ≤ 60) (hpa : ∀ k, pa k ≤ 60) (hro : ∀ k, ro k ≤ 60) (hrn : rn ≤ 60) (hkd : kd < 4): Met l yX6_countInRange wsX6_countInRange ({ frames := 4, cells := 0, slots := 0, locals := 89 } : Room) (xPc D (TY ca) [.ref (a 11)] ((wKd kq) ++ (wMo a ch) ++ (wRg a (h1, h2, f1, f2)) ++ (wWk a (on, bk, gv, kn, ws9, we9, wp9)) ++ (wT ca kq a (ky, vl, lf, rt, ct, ht, tt, sp, pa, ro, ss, dp, rn, od, kd))) sz) (va_Qi (fun (r : Int32) (u : MS) => r = f_end (h1, h2, f1, f2) (ky, vl, lf, rt, ct, ht, tt, sp, pa, ro, ss, dp, rn, od, kd) - f_start (h1, h2, f1, f2) (ky, vl, lf, rt, ct, ht, tt, sp, pa, ro, ss, dp, rn, od, kd) ∧ u = ((ky, vl, lf, rt, ct, ht, tt, sp, pa, ro, ss, dp, rn, od, kd), (h1, h2, f1, f2), (on, bk, gv, kn, ws9, we9, wp9), ch)) (xB D (wM ca kq a) (va_A ((wKd kq) ++ (wMo a ch) ++ (wRg a (h1, h2, f1, f2)) ++ (wWk a (on, bk, gv, kn, ws9, we9, wp9)) ++ (wT ca kq a (ky, vl, lf, rt, ct, ht, tt, sp, pa, ro, ss, dp, rn, od, kd))) sz)) (va_A ((wKd kq) ++ (wMo a ch) ++ (wRg a (h1, h2, f1, f2)) ++ (wWk a (on, bk, gv, kn, ws9, we9, wp9)) ++ (wT ca kq a (ky, vl, lf, rt, ct, ht, tt, sp, pa, ro, ss, dp, rn, od, kd))) sz)) 0 0 (va_A ((wKd kq) ++ (wMo a ch) ++ (wRg a (h1, h2, f1, f2)) ++ (wWk a (on, bk, gv, kn, ws9, we9, wp9)) ++ (wT ca kq a (ky, vl, lf, rt, ct, ht, tt, sp, pa, ro, ss, dp, rn, od, kd))) sz) := by
  refine Met.ofW (cc := cX6_countInRange) (maxL := 1) (ret := (some .int)) (by decide) rfl ?_
  intro p e s m args below meth c s₁ B hml hv
  obtain ⟨rfl, hsz, hP, hKN, hD0⟩ := hv
  have hx := B.exec
  have hb := B.bytes
  have hr := B.returns
  have hts := atoms_spec (ws := wsX6_countInRange) B.pre
  have hown : s.vm.findClass RX6 = some m.cls := findClass_of_methodNamed B.named
  have hlocks := B.notSynchronized
  have inX6 : ∀ w ∈ wsX60, w ∈ wsX6_countInRange := by decide +kernel
  subst hsz
  have hD := hD0.self (sz := s.heap.size)
  generalize hAe : va_A ((wKd kq) ++ (wMo a ch) ++ (wRg a (h1, h2, f1, f2)) ++ (wWk a (on, bk, gv, kn, ws9, we9, wp9)) ++ (wT ca kq a (ky, vl, lf, rt, ct, ht, tt, sp, pa, ro, ss, dp, rn, od, kd))) s.heap.size = A at hD ⊢
  have hA : ∀ q : Nat, s.heap.size ≤ q → A q := fun q h => by rw [← hAe]; exact Or.inr h
  have hS : va_S A s.heap s.heap [] := va_S.rf
  have hl := lv_entry ([.ref (a 11)]) (n := 1) (Nat.le_of_ble_eq_true rfl)
  rw [lg_entry_eq]
  generalize (lg_sl ([.ref (a 11)]) ++ List.replicate (1 - (lg_sl ([.ref (a 11)])).length) Slot.unset).toArray = ls at hl ⊢
  have hl : lv_has ls 1 [(0, .ref (a 11))] := hl
  refine lv_aload_n hx hb dX6_countInRange_0 rfl (lv_at hl 0 rfl) ?_
  refine va_get (D := D) (ci := 4) (v := .ref (a 12)) (C := RX6) (T := TX6) (N := 4) hx hb hts inX6 hown hKN.1 hP 4 rfl rfl 1 (by decide) (hts (.fieldLink RX6 23 "TreeFamily$OneMap" "range" "LTreeFamily$Range;") (by decide +kernel)) (fun _ h9 => h9) rfl dX6_countInRange_1 ?_
  refine lv_aload_n hx hb dX6_countInRange_4 rfl (lv_at hl 0 rfl) ?_
  refine va_get (D := D) (ci := 4) (v := .ref (a 0)) (C := RX6) (T := TX6) (N := 4) hx hb hts inX6 hown hKN.1 hP 4 rfl rfl 0 (by decide) (hts (.fieldLink RX6 14 "TreeFamily$OneMap" "tree" "LTreeFamily$Tree;") (by decide +kernel)) (fun _ h9 => h9) rfl dX6_countInRange_5 ?_
  refine xc_i (wr := (wKd kq) ++ (wMo a ch) ++ (wWk a (on, bk, gv, kn, ws9, we9, wp9))) (va_runV (As := [.ref (a 0)]) (rest := []) ⟨hx, hb, hml, hown, hts⟩ (c_X7_end l D ca kq a _ h1 h2 f1 f2 ky vl lf rt ct ht tt sp pa ro ss dp rn od kd hlf hrt hsp hpa hro hrn) (cwV 1 hts gX6_countInRange_X7_end rfl rfl rfl (by decide +kernel) ⟨(Nat.le_of_ble_eq_true rfl), (Nat.le_of_ble_eq_true rfl)⟩) (xPreV hKN hP hD [5, 7, 8, 9, 10, 11, 12, 13, 14, 15, 16, 17] (by decide) rfl (q0 := 5) rfl rfl rfl) rfl rfl hl.1 rfl (lv_room (Nat.le_of_ble_eq_true rfl)) dX6_countInRange_8 ⟨(Nat.le_of_ble_eq_true rfl), (Nat.le_of_ble_eq_true rfl)⟩) hP hD hS hA [5, 7, 8, 9, 10, 11, 12, 13, 14, 15, 16, 17] [0, 1, 2, 3, 4, 6] rfl rfl (by decide) (by decide) (fun r8 u8 H locs hu8 hP hD hS => ?_)
  obtain ⟨er8, eu8⟩ := hu8
  subst er8
  subst eu8
  have hP : va_P D vwCl ((wKd kq) ++ (wMo a ch) ++ (wRg a (h1, h2, f1, f2)) ++ (wWk a (on, bk, gv, kn, ws9, we9, wp9)) ++ (wT ca kq a (ky, vl, lf, rt, ct, ht, tt, sp, pa, ro, ss, dp, rn, od, kd))) H := hP.sub (ws' := (wKd kq) ++ (wMo a ch) ++ (wRg a (h1, h2, f1, f2)) ++ (wWk a (on, bk, gv, kn, ws9, we9, wp9)) ++ (wT ca kq a (ky, vl, lf, rt, ct, ht, tt, sp, pa, ro, ss, dp, rn, od, kd))) [0, 1, 2, 3, 4, 6, 5, 7, 8, 9, 10, 11, 12, 13, 14, 15, 16, 17] rfl
  have hD : va_D A ((wKd kq) ++ (wMo a ch) ++ (wRg a (h1, h2, f1, f2)) ++ (wWk a (on, bk, gv, kn, ws9, we9, wp9)) ++ (wT ca kq a (ky, vl, lf, rt, ct, ht, tt, sp, pa, ro, ss, dp, rn, od, kd))) := hD.sub (ws' := (wKd kq) ++ (wMo a ch) ++ (wRg a (h1, h2, f1, f2)) ++ (wWk a (on, bk, gv, kn, ws9, we9, wp9)) ++ (wT ca kq a (ky, vl, lf, rt, ct, ht, tt, sp, pa, ro, ss, dp, rn, od, kd))) [0, 1, 2, 3, 4, 6, 5, 7, 8, 9, 10, 11, 12, 13, 14, 15, 16, 17] (by decide) rfl
  refine lv_aload_n hx hb dX6_countInRange_11 rfl (lv_at hl 0 rfl) ?_
  refine va_get (D := D) (ci := 4) (v := .ref (a 12)) (C := RX6) (T := TX6) (N := 4) hx hb hts inX6 hown hKN.1 hP 4 rfl rfl 1 (by decide) (hts (.fieldLink RX6 23 "TreeFamily$OneMap" "range" "LTreeFamily$Range;") (by decide +kernel)) (fun _ h9 => h9) rfl dX6_countInRange_12 ?_
  refine lv_aload_n hx hb dX6_countInRange_15 rfl (lv_at hl 0 rfl) ?_
  refine va_get (D := D) (ci := 4) (v := .ref (a 0)) (C := RX6) (T := TX6) (N := 4) hx hb hts inX6 hown hKN.1 hP 4 rfl rfl 0 (by decide) (hts (.fieldLink RX6 14 "TreeFamily$OneMap" "tree" "LTreeFamily$Tree;") (by decide +kernel)) (fun _ h9 => h9) rfl dX6_countInRange_16 ?_
  refine xc_i (wr := (wKd kq) ++ (wMo a ch) ++ (wWk a (on, bk, gv, kn, ws9, we9, wp9))) (va_runV (As := [.ref (a 0)]) (rest := [.int (f_end (h1, h2, f1, f2) (ky, vl, lf, rt, ct, ht, tt, sp, pa, ro, ss, dp, rn, od, kd))]) ⟨hx, hb, hml, hown, hts⟩ (c_X7_start l D ca kq a _ h1 h2 f1 f2 ky vl lf rt ct ht tt sp pa ro ss dp rn od kd hlf hrt hsp hpa hro hrn) (cwV 1 hts gX6_countInRange_X7_start rfl rfl rfl (by decide +kernel) ⟨(Nat.le_of_ble_eq_true rfl), (Nat.le_of_ble_eq_true rfl)⟩) (xPreV hKN hP hD [5, 7, 8, 9, 10, 11, 12, 13, 14, 15, 16, 17] (by decide) rfl (q0 := 5) rfl rfl rfl) rfl rfl hl.1 rfl (lv_room (Nat.le_of_ble_eq_true rfl)) dX6_countInRange_19 ⟨(Nat.le_of_ble_eq_true rfl), (Nat.le_of_ble_eq_true rfl)⟩) hP hD hS hA [5, 7, 8, 9, 10, 11, 12, 13, 14, 15, 16, 17] [0, 1, 2, 3, 4, 6] rfl rfl (by decide) (by decide) (fun r19 u19 H locs hu19 hP hD hS => ?_)
  obtain ⟨er19, eu19⟩ := hu19
  subst er19
  subst eu19
  have hP : va_P D vwCl ((wKd kq) ++ (wMo a ch) ++ (wRg a (h1, h2, f1, f2)) ++ (wWk a (on, bk, gv, kn, ws9, we9, wp9)) ++ (wT ca kq a (ky, vl, lf, rt, ct, ht, tt, sp, pa, ro, ss, dp, rn, od, kd))) H := hP.sub (ws' := (wKd kq) ++ (wMo a ch) ++ (wRg a (h1, h2, f1, f2)) ++ (wWk a (on, bk, gv, kn, ws9, we9, wp9)) ++ (wT ca kq a (ky, vl, lf, rt, ct, ht, tt, sp, pa, ro, ss, dp, rn, od, kd))) [0, 1, 2, 3, 4, 6, 5, 7, 8, 9, 10, 11, 12, 13, 14, 15, 16, 17] rfl
  have hD : va_D A ((wKd kq) ++ (wMo a ch) ++ (wRg a (h1, h2, f1, f2)) ++ (wWk a (on, bk, gv, kn, ws9, we9, wp9)) ++ (wT ca kq a (ky, vl, lf, rt, ct, ht, tt, sp, pa, ro, ss, dp, rn, od, kd))) := hD.sub (ws' := (wKd kq) ++ (wMo a ch) ++ (wRg a (h1, h2, f1, f2)) ++ (wWk a (on, bk, gv, kn, ws9, we9, wp9)) ++ (wT ca kq a (ky, vl, lf, rt, ct, ht, tt, sp, pa, ro, ss, dp, rn, od, kd))) [0, 1, 2, 3, 4, 6, 5, 7, 8, 9, 10, 11, 12, 13, 14, 15, 16, 17] (by decide) rfl
  refine lv_isub hx hb dX6_countInRange_22 ?_
  exact W.iret (v := ((f_end (h1, h2, f1, f2) (ky, vl, lf, rt, ct, ht, tt, sp, pa, ro, ss, dp, rn, od, kd)) - (f_start (h1, h2, f1, f2) (ky, vl, lf, rt, ct, ht, tt, sp, pa, ro, ss, dp, rn, od, kd)))) hx hb hr (fun t9 e9 w9 => ⟨⟨_, ((ky, vl, lf, rt, ct, ht, tt, sp, pa, ro, ss, dp, rn, od, kd), (h1, h2, f1, f2), (on, bk, gv, kn, ws9, we9, wp9), ch), rfl, ⟨rfl, rfl⟩, by rw [e9]; exact hP, hD⟩, hS.F e9⟩) hS.2.2 dX6_countInRange_23

-- OneMap.endOfRange
set_option maxHeartbeats 4000000 in
set_option maxRecDepth 100000 in
theorem c_X6_endOfRange (l : Launch) (D : va_G) (ca : Nat → ClassId) (kq a : Nat → Nat) (sz : Nat) (ky vl : Nat → Int32) (lf rt : Nat → Nat) (ct ht : Nat → Int32) (tt : Nat → Int64) (sp pa ro : Nat → Nat) (ss dp rn : Nat) (od : Int32) (kd : Nat) (h1 h2 : Bool) (f1 f2 : Int32) (on bk gv : Bool) (kn ws9 we9 wp9 : Int32) (ch : Int32) (b : Bool) (hlf : ∀ k, lf k ≤ 60) (hrt : ∀ k, rt k ≤ 60) (hsp : ∀ k, sp k ≤ 60) (hpa : ∀ k, pa k ≤ 60) (hro : ∀ k, ro k ≤ 60) (hrn : rn ≤ 60) (hkd : kd < 4): Met l yX6_endOfRange wsX6_endOfRange ({ frames := 4, cells := 0, slots := 0, locals := 89 } : Room) (xPc D (TY ca) [.ref (a 11), .int (bI b)] ((wKd kq) ++ (wMo a ch) ++ (wRg a (h1, h2, f1, f2)) ++ (wWk a (on, bk, gv, kn, ws9, we9, wp9)) ++ (wT ca kq a (ky, vl, lf, rt, ct, ht, tt, sp, pa, ro, ss, dp, rn, od, kd))) sz) (va_Qi (fun (r : Int32) (u : MS) => r = f_eor (h1, h2, f1, f2) (ky, vl, lf, rt, ct, ht, tt, sp, pa, ro, ss, dp, rn, od, kd) b ∧ u = ((ky, vl, lf, rt, ct, ht, tt, sp, pa, ro, ss, dp, rn, od, kd), (h1, h2, f1, f2), (on, bk, gv, kn, ws9, we9, wp9), ch)) (xB D (wM ca kq a) (va_A ((wKd kq) ++ (wMo a ch) ++ (wRg a (h1, h2, f1, f2)) ++ (wWk a (on, bk, gv, kn, ws9, we9, wp9)) ++ (wT ca kq a (ky, vl, lf, rt, ct, ht, tt, sp, pa, ro, ss, dp, rn, od, kd))) sz)) (va_A ((wKd kq) ++ (wMo a ch) ++ (wRg a (h1, h2, f1, f2)) ++ (wWk a (on, bk, gv, kn, ws9, we9, wp9)) ++ (wT ca kq a (ky, vl, lf, rt, ct, ht, tt, sp, pa, ro, ss, dp, rn, od, kd))) sz)) 0 0 (va_A ((wKd kq) ++ (wMo a ch) ++ (wRg a (h1, h2, f1, f2)) ++ (wWk a (on, bk, gv, kn, ws9, we9, wp9)) ++ (wT ca kq a (ky, vl, lf, rt, ct, ht, tt, sp, pa, ro, ss, dp, rn, od, kd))) sz) := by
  refine Met.ofW (cc := cX6_endOfRange) (maxL := 4) (ret := (some .int)) (by decide) rfl ?_
  intro p e s m args below meth c s₁ B hml hv
  obtain ⟨rfl, hsz, hP, hKN, hD0⟩ := hv
  have hx := B.exec
  have hb := B.bytes
  have hr := B.returns
  have hts := atoms_spec (ws := wsX6_endOfRange) B.pre
  have hown : s.vm.findClass RX6 = some m.cls := findClass_of_methodNamed B.named
  have hlocks := B.notSynchronized
  have inX6 : ∀ w ∈ wsX60, w ∈ wsX6_endOfRange := by decide +kernel
  subst hsz
  have hD := hD0.self (sz := s.heap.size)
  generalize hAe : va_A ((wKd kq) ++ (wMo a ch) ++ (wRg a (h1, h2, f1, f2)) ++ (wWk a (on, bk, gv, kn, ws9, we9, wp9)) ++ (wT ca kq a (ky, vl, lf, rt, ct, ht, tt, sp, pa, ro, ss, dp, rn, od, kd))) s.heap.size = A at hD ⊢
  have hA : ∀ q : Nat, s.heap.size ≤ q → A q := fun q h => by rw [← hAe]; exact Or.inr h
  have hS : va_S A s.heap s.heap [] := va_S.rf
  have hl := lv_entry ([.ref (a 11), .int (bI b)]) (n := 4) (Nat.le_of_ble_eq_true rfl)
  rw [lg_entry_eq]
  generalize (lg_sl ([.ref (a 11), .int (bI b)]) ++ List.replicate (4 - (lg_sl ([.ref (a 11), .int (bI b)])).length) Slot.unset).toArray = ls at hl ⊢
  have hl : lv_has ls 4 [(0, .ref (a 11)), (1, .int (bI b))] := hl
  refine lv_aload_n hx hb dX6_endOfRange_0 rfl (lv_at hl 0 rfl) ?_
  refine va_get (D := D) (ci := 4) (v := .ref (a 12)) (C := RX6) (T := TX6) (N := 4) hx hb hts inX6 hown hKN.1 hP 4 rfl rfl 1 (by decide) (hts (.fieldLink RX6 23 "TreeFamily$OneMap" "range" "LTreeFamily$Range;") (by decide +kernel)) (fun _ h9 => h9) rfl dX6_endOfRange_1 ?_
  refine lv_aload_n hx hb dX6_endOfRange_4 rfl (lv_at hl 0 rfl) ?_
  refine va_get (D := D) (ci := 4) (v := .ref (a 0)) (C := RX6) (T := TX6) (N := 4) hx hb hts inX6 hown hKN.1 hP 4 rfl rfl 0 (by decide) (hts (.fieldLink RX6 14 "TreeFamily$OneMap" "tree" "LTreeFamily$Tree;") (by decide +kernel)) (fun _ h9 => h9) rfl dX6_endOfRange_5 ?_
  refine xc_i (wr := (wKd kq) ++ (wMo a ch) ++ (wWk a (on, bk, gv, kn, ws9, we9, wp9))) (va_runV (As := [.ref (a 0)]) (rest := []) ⟨hx, hb, hml, hown, hts⟩ (c_X7_start l D ca kq a _ h1 h2 f1 f2 ky vl lf rt ct ht tt sp pa ro ss dp rn od kd hlf hrt hsp hpa hro hrn) (cwV 1 hts gX6_endOfRange_X7_start rfl rfl rfl (by decide +kernel) ⟨(Nat.le_of_ble_eq_true rfl), (Nat.le_of_ble_eq_true rfl)⟩) (xPreV hKN hP hD [5, 7, 8, 9, 10, 11, 12, 13, 14, 15, 16, 17] (by decide) rfl (q0 := 5) rfl rfl rfl) rfl rfl hl.1 rfl (lv_room (Nat.le_of_ble_eq_true rfl)) dX6_endOfRange_8 ⟨(Nat.le_of_ble_eq_true rfl), (Nat.le_of_ble_eq_true rfl)⟩) hP hD hS hA [5, 7, 8, 9, 10, 11, 12, 13, 14, 15, 16, 17] [0, 1, 2, 3, 4, 6] rfl rfl (by decide) (by decide) (fun r8 u8 H locs hu8 hP hD hS => ?_)
  obtain ⟨er8, eu8⟩ := hu8
  subst er8
  subst eu8
  have hP : va_P D vwCl ((wKd kq) ++ (wMo a ch) ++ (wRg a (h1, h2, f1, f2)) ++ (wWk a (on, bk, gv, kn, ws9, we9, wp9)) ++ (wT ca kq a (ky, vl, lf, rt, ct, ht, tt, sp, pa, ro, ss, dp, rn, od, kd))) H := hP.sub (ws' := (wKd kq) ++ (wMo a ch) ++ (wRg a (h1, h2, f1, f2)) ++ (wWk a (on, bk, gv, kn, ws9, we9, wp9)) ++ (wT ca kq a (ky, vl, lf, rt, ct, ht, tt, sp, pa, ro, ss, dp, rn, od, kd))) [0, 1, 2, 3, 4, 6, 5, 7, 8, 9, 10, 11, 12, 13, 14, 15, 16, 17] rfl
  have hD : va_D A ((wKd kq) ++ (wMo a ch) ++ (wRg a (h1, h2, f1, f2)) ++ (wWk a (on, bk, gv, kn, ws9, we9, wp9)) ++ (wT ca kq a (ky, vl, lf, rt, ct, ht, tt, sp, pa, ro, ss, dp, rn, od, kd))) := hD.sub (ws' := (wKd kq) ++ (wMo a ch) ++ (wRg a (h1, h2, f1, f2)) ++ (wWk a (on, bk, gv, kn, ws9, we9, wp9)) ++ (wT ca kq a (ky, vl, lf, rt, ct, ht, tt, sp, pa, ro, ss, dp, rn, od, kd))) [0, 1, 2, 3, 4, 6, 5, 7, 8, 9, 10, 11, 12, 13, 14, 15, 16, 17] (by decide) rfl
  refine lv_istore_n (lv' := [(2, .int (f_start (h1, h2, f1, f2) (ky, vl, lf, rt, ct, ht, tt, sp, pa, ro, ss, dp, rn, od, kd))), (0, .ref (a 11)), (1, .int (bI b))]) hx hb dX6_endOfRange_11 rfl hl (by decide) rfl (fun ls hl => ?_)
  refine lv_aload_n hx hb dX6_endOfRange_12 rfl (lv_at hl 1 rfl) ?_
  refine va_get (D := D) (ci := 4) (v := .ref (a 12)) (C := RX6) (T := TX6) (N := 4) hx hb hts inX6 hown hKN.1 hP 4 rfl rfl 1 (by decide) (hts (.fieldLink RX6 23 "TreeFamily$OneMap" "range" "LTreeFamily$Range;") (by decide +kernel)) (fun _ h9 => h9) rfl dX6_endOfRange_13 ?_
  refine lv_aload_n hx hb dX6_endOfRange_16 rfl (lv_at hl 1 rfl) ?_
  refine va_get (D := D) (ci := 4) (v := .ref (a 0)) (C := RX6) (T := TX6) (N := 4) hx hb hts inX6 hown hKN.1 hP 4 rfl rfl 0 (by decide) (hts (.fieldLink RX6 14 "TreeFamily$OneMap" "tree" "LTreeFamily$Tree;") (by decide +kernel)) (fun _ h9 => h9) rfl dX6_endOfRange_17 ?_
  refine xc_i (wr := (wKd kq) ++ (wMo a ch) ++ (wWk a (on, bk, gv, kn, ws9, we9, wp9))) (va_runV (As := [.ref (a 0)]) (rest := []) ⟨hx, hb, hml, hown, hts⟩ (c_X7_end l D ca kq a _ h1 h2 f1 f2 ky vl lf rt ct ht tt sp pa ro ss dp rn od kd hlf hrt hsp hpa hro hrn) (cwV 1 hts gX6_endOfRange_X7_end rfl rfl rfl (by decide +kernel) ⟨(Nat.le_of_ble_eq_true rfl), (Nat.le_of_ble_eq_true rfl)⟩) (xPreV hKN hP hD [5, 7, 8, 9, 10, 11, 12, 13, 14, 15, 16, 17] (by decide) rfl (q0 := 5) rfl rfl rfl) rfl rfl hl.1 rfl (lv_room (Nat.le_of_ble_eq_true rfl)) dX6_endOfRange_20 ⟨(Nat.le_of_ble_eq_true rfl), (Nat.le_of_ble_eq_true rfl)⟩) hP hD hS hA [5, 7, 8, 9, 10, 11, 12, 13, 14, 15, 16, 17] [0, 1, 2, 3, 4, 6] rfl rfl (by decide) (by decide) (fun r20 u20 H locs hu20 hP hD hS => ?_)
  obtain ⟨er20, eu20⟩ := hu20
  subst er20
  subst eu20
  have hP : va_P D vwCl ((wKd kq) ++ (wMo a ch) ++ (wRg a (h1, h2, f1, f2)) ++ (wWk a (on, bk, gv, kn, ws9, we9, wp9)) ++ (wT ca kq a (ky, vl, lf, rt, ct, ht, tt, sp, pa, ro, ss, dp, rn, od, kd))) H := hP.sub (ws' := (wKd kq) ++ (wMo a ch) ++ (wRg a (h1, h2, f1, f2)) ++ (wWk a (on, bk, gv, kn, ws9, we9, wp9)) ++ (wT ca kq a (ky, vl, lf, rt, ct, ht, tt, sp, pa, ro, ss, dp, rn, od, kd))) [0, 1, 2, 3, 4, 6, 5, 7, 8, 9, 10, 11, 12, 13, 14, 15, 16, 17] rfl
  have hD : va_D A ((wKd kq) ++ (wMo a ch) ++ (wRg a (h1, h2, f1, f2)) ++ (wWk a (on, bk, gv, kn, ws9, we9, wp9)) ++ (wT ca kq a (ky, vl, lf, rt, ct, ht, tt, sp, pa, ro, ss, dp, rn, od, kd))) := hD.sub (ws' := (wKd kq) ++ (wMo a ch) ++ (wRg a (h1, h2, f1, f2)) ++ (wWk a (on, bk, gv, kn, ws9, we9, wp9)) ++ (wT ca kq a (ky, vl, lf, rt, ct, ht, tt, sp, pa, ro, ss, dp, rn, od, kd))) [0, 1, 2, 3, 4, 6, 5, 7, 8, 9, 10, 11, 12, 13, 14, 15, 16, 17] (by decide) rfl
  refine lv_istore_n (lv' := [(3, .int (f_end (h1, h2, f1, f2) (ky, vl, lf, rt, ct, ht, tt, sp, pa, ro, ss, dp, rn, od, kd))), (2, .int (f_start (h1, h2, f1, f2) (ky, vl, lf, rt, ct, ht, tt, sp, pa, ro, ss, dp, rn, od, kd))), (0, .ref (a 11)), (1, .int (bI b))]) hx hb dX6_endOfRange_23 rfl hl (by decide) rfl (fun ls hl => ?_)
  refine lv_iload_n hx hb dX6_endOfRange_24 rfl (lv_at hl 1 rfl) ?_
  refine lv_iload_n hx hb dX6_endOfRange_25 rfl (lv_at hl 0 rfl) ?_
  refine lv_icmp_lt (tgt := 31) hx hb dX6_endOfRange_26 (by decide) (fun c26 => ?_) (fun c26 => ?_)
  · skip
    refine lv_iload_n hx hb dX6_endOfRange_31 rfl (lv_at hl 3 rfl) ?_
    refine lv_if_eq (tgt := 41) hx hb dX6_endOfRange_32 (by decide) (fun c32 => ?_) (fun c32 => ?_)
    · skip
      have c32 := bI_0.mp c32
      refine lv_iload_n hx hb dX6_endOfRange_41 rfl (lv_at hl 1 rfl) ?_
      exact W.iret (v := (f_start (h1, h2, f1, f2) (ky, vl, lf, rt, ct, ht, tt, sp, pa, ro, ss, dp, rn, od, kd))) hx hb hr (fun t9 e9 w9 => ⟨⟨_, ((ky, vl, lf, rt, ct, ht, tt, sp, pa, ro, ss, dp, rn, od, kd), (h1, h2, f1, f2), (on, bk, gv, kn, ws9, we9, wp9), ch), rfl, ⟨by unfold f_eor; first | exact (if_neg c26).symm | exact ((if_pos c26).trans (if_pos c32)).symm | exact ((if_pos c26).trans (if_neg (by rw [c32]; decide))).symm, rfl⟩, by rw [e9]; exact hP, hD⟩, hS.F e9⟩) hS.2.2 dX6_endOfRange_42
    · skip
      have c32 := bI_ne.mp c32
      refine lv_iload_n hx hb dX6_endOfRange_35 rfl (lv_at hl 0 rfl) ?_
      refine lv_iconst (v := 1) hx hb dX6_endOfRange_36 (by decide) ?_
      refine lv_isub hx hb dX6_endOfRange_37 ?_
      refine lv_goto (tgt := 42) hx hb dX6_endOfRange_38 (by decide) ?_
      exact W.iret (v := ((f_end (h1, h2, f1, f2) (ky, vl, lf, rt, ct, ht, tt, sp, pa, ro, ss, dp, rn, od, kd)) - 1)) hx hb hr (fun t9 e9 w9 => ⟨⟨_, ((ky, vl, lf, rt, ct, ht, tt, sp, pa, ro, ss, dp, rn, od, kd), (h1, h2, f1, f2), (on, bk, gv, kn, ws9, we9, wp9), ch), rfl, ⟨by unfold f_eor; first | exact (if_neg c26).symm | exact ((if_pos c26).trans (if_pos c32)).symm | exact ((if_pos c26).trans (if_neg (by rw [c32]; decide))).symm, rfl⟩, by rw [e9]; exact hP, hD⟩, hS.F e9⟩) hS.2.2 dX6_endOfRange_42
  · skip
    refine lv_iconst (v := (-1)) hx hb dX6_endOfRange_29 (by decide) ?_
    exact W.iret (v := (-1)) hx hb hr (fun t9 e9 w9 => ⟨⟨_, ((ky, vl, lf, rt, ct, ht, tt, sp, pa, ro, ss, dp, rn, od, kd), (h1, h2, f1, f2), (on, bk, gv, kn, ws9, we9, wp9), ch), rfl, ⟨by unfold f_eor; first | exact (if_neg c26).symm | exact ((if_pos c26).trans (if_pos c32)).symm | exact ((if_pos c26).trans (if_neg (by rw [c32]; decide))).symm, rfl⟩, by rw [e9]; exact hP, hD⟩, hS.F e9⟩) hS.2.2 dX6_endOfRange_30

-- OneMap.startWalk
set_option maxHeartbeats 4000000 in
set_option maxRecDepth 100000 in
theorem c_X6_startWalk (l : Launch) (D : va_G) (ca : Nat → ClassId) (kq a : Nat → Nat) (sz : Nat) (ky vl : Nat → Int32) (lf rt : Nat → Nat) (ct ht : Nat → Int32) (tt : Nat → Int64) (sp pa ro : Nat → Nat) (ss dp rn : Nat) (od : Int32) (kd : Nat) (h1 h2 : Bool) (f1 f2 : Int32) (on bk gv : Bool) (kn ws9 we9 wp9 : Int32) (ch : Int32) (b : Bool) (hlf : ∀ k, lf k ≤ 60) (hrt : ∀ k, rt k ≤ 60) (hsp : ∀ k, sp k ≤ 60) (hpa : ∀ k, pa k ≤ 60) (hro : ∀ k, ro k ≤ 60) (hrn : rn ≤ 60) (hkd : kd < 4): Met l yX6_startWalk wsX6_startWalk ({ frames := 4, cells := 0, slots := 0, locals := 89 } : Room) (xPc D (TY ca) [.ref (a 11), .int (bI b)] ((wKd kq) ++ (wMo a ch) ++ (wRg a (h1, h2, f1, f2)) ++ (wWk a (on, bk, gv, kn, ws9, we9, wp9)) ++ (wT ca kq a (ky, vl, lf, rt, ct, ht, tt, sp, pa, ro, ss, dp, rn, od, kd))) sz) (va_Qv (fun u : MS => u = ((ky, vl, lf, rt, ct, ht, tt, sp, pa, ro, ss, dp, rn, od, kd), (h1, h2, f1, f2), f_startWalk (on, bk, gv, kn, ws9, we9, wp9) (f_start (h1, h2, f1, f2) (ky, vl, lf, rt, ct, ht, tt, sp, pa, ro, ss, dp, rn, od, kd)) (f_end (h1, h2, f1, f2) (ky, vl, lf, rt, ct, ht, tt, sp, pa, ro, ss, dp, rn, od, kd)) b ch, ch)) (xB D (wM ca kq a) (va_A ((wKd kq) ++ (wMo a ch) ++ (wRg a (h1, h2, f1, f2)) ++ (wWk a (on, bk, gv, kn, ws9, we9, wp9)) ++ (wT ca kq a (ky, vl, lf, rt, ct, ht, tt, sp, pa, ro, ss, dp, rn, od, kd))) sz)) (va_A ((wKd kq) ++ (wMo a ch) ++ (wRg a (h1, h2, f1, f2)) ++ (wWk a (on, bk, gv, kn, ws9, we9, wp9)) ++ (wT ca kq a (ky, vl, lf, rt, ct, ht, tt, sp, pa, ro, ss, dp, rn, od, kd))) sz)) 0 0 (va_A ((wKd kq) ++ (wMo a ch) ++ (wRg a (h1, h2, f1, f2)) ++ (wWk a (on, bk, gv, kn, ws9, we9, wp9)) ++ (wT ca kq a (ky, vl, lf, rt, ct, ht, tt, sp, pa, ro, ss, dp, rn, od, kd))) sz) := by
  refine Met.ofW (cc := cX6_startWalk) (maxL := 2) (ret := none) (by decide) rfl ?_
  intro p e s m args below meth c s₁ B hml hv
  obtain ⟨rfl, hsz, hP, hKN, hD0⟩ := hv
  have hx := B.exec
  have hb := B.bytes
  have hr := B.returns
  have hts := atoms_spec (ws := wsX6_startWalk) B.pre
  have hown : s.vm.findClass RX6 = some m.cls := findClass_of_methodNamed B.named
  have hlocks := B.notSynchronized
  have inX6 : ∀ w ∈ wsX60, w ∈ wsX6_startWalk := by decide +kernel
  have inX9 : ∀ w ∈ wsX90, w ∈ wsX6_startWalk := by decide +kernel
  subst hsz
  have hD := hD0.self (sz := s.heap.size)
  generalize hAe : va_A ((wKd kq) ++ (wMo a ch) ++ (wRg a (h1, h2, f1, f2)) ++ (wWk a (on, bk, gv, kn, ws9, we9, wp9)) ++ (wT ca kq a (ky, vl, lf, rt, ct, ht, tt, sp, pa, ro, ss, dp, rn, od, kd))) s.heap.size = A at hD ⊢
  have hA : ∀ q : Nat, s.heap.size ≤ q → A q := fun q h => by rw [← hAe]; exact Or.inr h
  have hS : va_S A s.heap s.heap [] := va_S.rf
  have hl := lv_entry ([.ref (a 11), .int (bI b)]) (n := 2) (Nat.le_of_ble_eq_true rfl)
  rw [lg_entry_eq]
  generalize (lg_sl ([.ref (a 11), .int (bI b)]) ++ List.replicate (2 - (lg_sl ([.ref (a 11), .int (bI b)])).length) Slot.unset).toArray = ls at hl ⊢
  have hl : lv_has ls 2 [(0, .ref (a 11)), (1, .int (bI b))] := hl
  refine lv_aload_n hx hb dX6_startWalk_0 rfl (lv_at hl 0 rfl) ?_
  refine va_get (D := D) (ci := 4) (v := .ref (a 13)) (C := RX6) (T := TX6) (N := 4) hx hb hts inX6 hown hKN.1 hP 4 rfl rfl 2 (by decide) (hts (.fieldLink RX6 30 "TreeFamily$OneMap" "walk" "LTreeFamily$Walk;") (by decide +kernel)) (fun _ h9 => h9) rfl dX6_startWalk_1 ?_
  refine lv_aload_n hx hb dX6_startWalk_4 rfl (lv_at hl 0 rfl) ?_
  refine va_get (D := D) (ci := 4) (v := .ref (a 12)) (C := RX6) (T := TX6) (N := 4) hx hb hts inX6 hown hKN.1 hP 4 rfl rfl 1 (by decide) (hts (.fieldLink RX6 23 "TreeFamily$OneMap" "range" "LTreeFamily$Range;") (by decide +kernel)) (fun _ h9 => h9) rfl dX6_startWalk_5 ?_
  refine lv_aload_n hx hb dX6_startWalk_8 rfl (lv_at hl 0 rfl) ?_
  refine va_get (D := D) (ci := 4) (v := .ref (a 0)) (C := RX6) (T := TX6) (N := 4) hx hb hts inX6 hown hKN.1 hP 4 rfl rfl 0 (by decide) (hts (.fieldLink RX6 14 "TreeFamily$OneMap" "tree" "LTreeFamily$Tree;") (by decide +kernel)) (fun _ h9 => h9) rfl dX6_startWalk_9 ?_
  refine xc_i (wr := (wKd kq) ++ (wMo a ch) ++ (wWk a (on, bk, gv, kn, ws9, we9, wp9))) (va_runV (As := [.ref (a 0)]) (rest := [.ref (a 13)]) ⟨hx, hb, hml, hown, hts⟩ (c_X7_start l D ca kq a _ h1 h2 f1 f2 ky vl lf rt ct ht tt sp pa ro ss dp rn od kd hlf hrt hsp hpa hro hrn) (cwV 1 hts gX6_startWalk_X7_start rfl rfl rfl (by decide +kernel) ⟨(Nat.le_of_ble_eq_true rfl), (Nat.le_of_ble_eq_true rfl)⟩) (xPreV hKN hP hD [5, 7, 8, 9, 10, 11, 12, 13, 14, 15, 16, 17] (by decide) rfl (q0 := 5) rfl rfl rfl) rfl rfl hl.1 rfl (lv_room (Nat.le_of_ble_eq_true rfl)) dX6_startWalk_12 ⟨(Nat.le_of_ble_eq_true rfl), (Nat.le_of_ble_eq_true rfl)⟩) hP hD hS hA [5, 7, 8, 9, 10, 11, 12, 13, 14, 15, 16, 17] [0, 1, 2, 3, 4, 6] rfl rfl (by decide) (by decide) (fun r12 u12 H locs hu12 hP hD hS => ?_)
  obtain ⟨er12, eu12⟩ := hu12
  subst er12
  subst eu12
  have hP : va_P D vwCl ((wKd kq) ++ (wMo a ch) ++ (wRg a (h1, h2, f1, f2)) ++ (wWk a (on, bk, gv, kn, ws9, we9, wp9)) ++ (wT ca kq a (ky, vl, lf, rt, ct, ht, tt, sp, pa, ro, ss, dp, rn, od, kd))) H := hP.sub (ws' := (wKd kq) ++ (wMo a ch) ++ (wRg a (h1, h2, f1, f2)) ++ (wWk a (on, bk, gv, kn, ws9, we9, wp9)) ++ (wT ca kq a (ky, vl, lf, rt, ct, ht, tt, sp, pa, ro, ss, dp, rn, od, kd))) [0, 1, 2, 3, 4, 6, 5, 7, 8, 9, 10, 11, 12, 13, 14, 15, 16, 17] rfl
  have hD : va_D A ((wKd kq) ++ (wMo a ch) ++ (wRg a (h1, h2, f1, f2)) ++ (wWk a (on, bk, gv, kn, ws9, we9, wp9)) ++ (wT ca kq a (ky, vl, lf, rt, ct, ht, tt, sp, pa, ro, ss, dp, rn, od, kd))) := hD.sub (ws' := (wKd kq) ++ (wMo a ch) ++ (wRg a (h1, h2, f1, f2)) ++ (wWk a (on, bk, gv, kn, ws9, we9, wp9)) ++ (wT ca kq a (ky, vl, lf, rt, ct, ht, tt, sp, pa, ro, ss, dp, rn, od, kd))) [0, 1, 2, 3, 4, 6, 5, 7, 8, 9, 10, 11, 12, 13, 14, 15, 16, 17] (by decide) rfl
  refine lv_aload_n hx hb dX6_startWalk_15 rfl (lv_at hl 0 rfl) ?_
  refine va_get (D := D) (ci := 4) (v := .ref (a 12)) (C := RX6) (T := TX6) (N := 4) hx hb hts inX6 hown hKN.1 hP 4 rfl rfl 1 (by decide) (hts (.fieldLink RX6 23 "TreeFamily$OneMap" "range" "LTreeFamily$Range;") (by decide +kernel)) (fun _ h9 => h9) rfl dX6_startWalk_16 ?_
  refine lv_aload_n hx hb dX6_startWalk_19 rfl (lv_at hl 0 rfl) ?_
  refine va_get (D := D) (ci := 4) (v := .ref (a 0)) (C := RX6) (T := TX6) (N := 4) hx hb hts inX6 hown hKN.1 hP 4 rfl rfl 0 (by decide) (hts (.fieldLink RX6 14 "TreeFamily$OneMap" "tree" "LTreeFamily$Tree;") (by decide +kernel)) (fun _ h9 => h9) rfl dX6_startWalk_20 ?_
  refine xc_i (wr := (wKd kq) ++ (wMo a ch) ++ (wWk a (on, bk, gv, kn, ws9, we9, wp9))) (va_runV (As := [.ref (a 0)]) (rest := [.int (f_start (h1, h2, f1, f2) (ky, vl, lf, rt, ct, ht, tt, sp, pa, ro, ss, dp, rn, od, kd)), .ref (a 13)]) ⟨hx, hb, hml, hown, hts⟩ (c_X7_end l D ca kq a _ h1 h2 f1 f2 ky vl lf rt ct ht tt sp pa ro ss dp rn od kd hlf hrt hsp hpa hro hrn) (cwV 1 hts gX6_startWalk_X7_end rfl rfl rfl (by decide +kernel) ⟨(Nat.le_of_ble_eq_true rfl), (Nat.le_of_ble_eq_true rfl)⟩) (xPreV hKN hP hD [5, 7, 8, 9, 10, 11, 12, 13, 14, 15, 16, 17] (by decide) rfl (q0 := 5) rfl rfl rfl) rfl rfl hl.1 rfl (lv_room (Nat.le_of_ble_eq_true rfl)) dX6_startWalk_23 ⟨(Nat.le_of_ble_eq_true rfl), (Nat.le_of_ble_eq_true rfl)⟩) hP hD hS hA [5, 7, 8, 9, 10, 11, 12, 13, 14, 15, 16, 17] [0, 1, 2, 3, 4, 6] rfl rfl (by decide) (by decide) (fun r23 u23 H locs hu23 hP hD hS => ?_)
  obtain ⟨er23, eu23⟩ := hu23
  subst er23
  subst eu23
  have hP : va_P D vwCl ((wKd kq) ++ (wMo a ch) ++ (wRg a (h1, h2, f1, f2)) ++ (wWk a (on, bk, gv, kn, ws9, we9, wp9)) ++ (wT ca kq a (ky, vl, lf, rt, ct, ht, tt, sp, pa, ro, ss, dp, rn, od, kd))) H := hP.sub (ws' := (wKd kq) ++ (wMo a ch) ++ (wRg a (h1, h2, f1, f2)) ++ (wWk a (on, bk, gv, kn, ws9, we9, wp9)) ++ (wT ca kq a (ky, vl, lf, rt, ct, ht, tt, sp, pa, ro, ss, dp, rn, od, kd))) [0, 1, 2, 3, 4, 6, 5, 7, 8, 9, 10, 11, 12, 13, 14, 15, 16, 17] rfl
  have hD : va_D A ((wKd kq) ++ (wMo a ch) ++ (wRg a (h1, h2, f1, f2)) ++ (wWk a (on, bk, gv, kn, ws9, we9, wp9)) ++ (wT ca kq a (ky, vl, lf, rt, ct, ht, tt, sp, pa, ro, ss, dp, rn, od, kd))) := hD.sub (ws' := (wKd kq) ++ (wMo a ch) ++ (wRg a (h1, h2, f1, f2)) ++ (wWk a (on, bk, gv, kn, ws9, we9, wp9)) ++ (wT ca kq a (ky, vl, lf, rt, ct, ht, tt, sp, pa, ro, ss, dp, rn, od, kd))) [0, 1, 2, 3, 4, 6, 5, 7, 8, 9, 10, 11, 12, 13, 14, 15, 16, 17] (by decide) rfl
  refine lv_iload_n hx hb dX6_startWalk_26 rfl (lv_at hl 1 rfl) ?_
  refine xc_v (wr := (wKd kq) ++ (wMo a ch) ++ (wRg a (h1, h2, f1, f2)) ++ (wT ca kq a (ky, vl, lf, rt, ct, ht, tt, sp, pa, ro, ss, dp, rn, od, kd))) (va_runV (As := [.int (f_start (h1, h2, f1, f2) (ky, vl, lf, rt, ct, ht, tt, sp, pa, ro, ss, dp, rn, od, kd)), .int (f_end (h1, h2, f1, f2) (ky, vl, lf, rt, ct, ht, tt, sp, pa, ro, ss, dp, rn, od, kd)), .int (bI b)]) (rest := []) ⟨hx, hb, hml, hown, hts⟩ (c_X9_begin l D ca kq a _ on bk gv kn ws9 we9 wp9 (f_start (h1, h2, f1, f2) (ky, vl, lf, rt, ct, ht, tt, sp, pa, ro, ss, dp, rn, od, kd)) (f_end (h1, h2, f1, f2) (ky, vl, lf, rt, ct, ht, tt, sp, pa, ro, ss, dp, rn, od, kd)) b) (cwV 3 hts gX6_startWalk_X9_begin rfl rfl rfl (by decide +kernel) ⟨(Nat.le_of_ble_eq_true rfl), (Nat.le_of_ble_eq_true rfl)⟩) (xPreV hKN hP hD [6] (by decide) rfl (q0 := 6) rfl rfl rfl) rfl rfl hl.1 rfl (lv_room (Nat.le_of_ble_eq_true rfl)) dX6_startWalk_27 ⟨(Nat.le_of_ble_eq_true rfl), (Nat.le_of_ble_eq_true rfl)⟩) hP hD hS hA [6] [0, 1, 2, 3, 4, 5, 7, 8, 9, 10, 11, 12, 13, 14, 15, 16, 17] rfl rfl (by decide) (by decide) (fun u27 H locs hu27 hP hD hS => ?_)
  subst hu27
  have hP : va_P D vwCl ((wKd kq) ++ (wMo a ch) ++ (wRg a (h1, h2, f1, f2)) ++ (wWk a (true, b, false, kn, (f_start (h1, h2, f1, f2) (ky, vl, lf, rt, ct, ht, tt, sp, pa, ro, ss, dp, rn, od, kd)), (f_end (h1, h2, f1, f2) (ky, vl, lf, rt, ct, ht, tt, sp, pa, ro, ss, dp, rn, od, kd)), (if b = true then f_end (h1, h2, f1, f2) (ky, vl, lf, rt, ct, ht, tt, sp, pa, ro, ss, dp, rn, od, kd) else f_start (h1, h2, f1, f2) (ky, vl, lf, rt, ct, ht, tt, sp, pa, ro, ss, dp, rn, od, kd)))) ++ (wT ca kq a (ky, vl, lf, rt, ct, ht, tt, sp, pa, ro, ss, dp, rn, od, kd))) H := hP.sub (ws' := (wKd kq) ++ (wMo a ch) ++ (wRg a (h1, h2, f1, f2)) ++ (wWk a (true, b, false, kn, (f_start (h1, h2, f1, f2) (ky, vl, lf, rt, ct, ht, tt, sp, pa, ro, ss, dp, rn, od, kd)), (f_end (h1, h2, f1, f2) (ky, vl, lf, rt, ct, ht, tt, sp, pa, ro, ss, dp, rn, od, kd)), (if b = true then f_end (h1, h2, f1, f2) (ky, vl, lf, rt, ct, ht, tt, sp, pa, ro, ss, dp, rn, od, kd) else f_start (h1, h2, f1, f2) (ky, vl, lf, rt, ct, ht, tt, sp, pa, ro, ss, dp, rn, od, kd)))) ++ (wT ca kq a (ky, vl, lf, rt, ct, ht, tt, sp, pa, ro, ss, dp, rn, od, kd))) [0, 1, 2, 3, 4, 5, 17, 6, 7, 8, 9, 10, 11, 12, 13, 14, 15, 16] rfl
  have hD : va_D A ((wKd kq) ++ (wMo a ch) ++ (wRg a (h1, h2, f1, f2)) ++ (wWk a (true, b, false, kn, (f_start (h1, h2, f1, f2) (ky, vl, lf, rt, ct, ht, tt, sp, pa, ro, ss, dp, rn, od, kd)), (f_end (h1, h2, f1, f2) (ky, vl, lf, rt, ct, ht, tt, sp, pa, ro, ss, dp, rn, od, kd)), (if b = true then f_end (h1, h2, f1, f2) (ky, vl, lf, rt, ct, ht, tt, sp, pa, ro, ss, dp, rn, od, kd) else f_start (h1, h2, f1, f2) (ky, vl, lf, rt, ct, ht, tt, sp, pa, ro, ss, dp, rn, od, kd)))) ++ (wT ca kq a (ky, vl, lf, rt, ct, ht, tt, sp, pa, ro, ss, dp, rn, od, kd))) := hD.sub (ws' := (wKd kq) ++ (wMo a ch) ++ (wRg a (h1, h2, f1, f2)) ++ (wWk a (true, b, false, kn, (f_start (h1, h2, f1, f2) (ky, vl, lf, rt, ct, ht, tt, sp, pa, ro, ss, dp, rn, od, kd)), (f_end (h1, h2, f1, f2) (ky, vl, lf, rt, ct, ht, tt, sp, pa, ro, ss, dp, rn, od, kd)), (if b = true then f_end (h1, h2, f1, f2) (ky, vl, lf, rt, ct, ht, tt, sp, pa, ro, ss, dp, rn, od, kd) else f_start (h1, h2, f1, f2) (ky, vl, lf, rt, ct, ht, tt, sp, pa, ro, ss, dp, rn, od, kd)))) ++ (wT ca kq a (ky, vl, lf, rt, ct, ht, tt, sp, pa, ro, ss, dp, rn, od, kd))) [0, 1, 2, 3, 4, 5, 17, 6, 7, 8, 9, 10, 11, 12, 13, 14, 15, 16] (by decide) rfl
  refine lv_aload_n hx hb dX6_startWalk_30 rfl (lv_at hl 0 rfl) ?_
  refine va_get (D := D) (ci := 4) (v := .ref (a 13)) (C := RX6) (T := TX6) (N := 4) hx hb hts inX6 hown hKN.1 hP 4 rfl rfl 2 (by decide) (hts (.fieldLink RX6 30 "TreeFamily$OneMap" "walk" "LTreeFamily$Walk;") (by decide +kernel)) (fun _ h9 => h9) rfl dX6_startWalk_31 ?_
  refine lv_aload_n hx hb dX6_startWalk_34 rfl (lv_at hl 0 rfl) ?_
  refine va_get (D := D) (ci := 4) (v := .int ch) (C := RX6) (T := TX6) (N := 4) hx hb hts inX6 hown hKN.1 hP 4 rfl rfl 3 (by decide) (hts (.fieldLink RX6 34 "TreeFamily$OneMap" "changes" "I") (by decide +kernel)) (fun _ h9 => h9) rfl dX6_startWalk_35 ?_
  refine va_putN (D := D) (ci := 7) (v := .int ch) (ty := .int) (C := RX9) (T := TX9) (N := 7) hx hb hts inX9 tyX9 tyX9_ok nmX9 hown hKN.1 hP hD hS 6 rfl rfl 3 (by decide) (va_Nw.use rfl (NW.f hKN.2 (a := RX6) (i := 130) (b := "TreeFamily$Walk") (n := "known") (d := "I") (g := "TreeFamily") (by decide +kernel))) (fun _ h9 => h9) rfl (by decide +kernel) rfl rfl (Nat.le_of_ble_eq_true rfl) dX6_startWalk_38 (fun H locs hP hD hS => ?_)
  have hP : va_P D vwCl ((wKd kq) ++ (wMo a ch) ++ (wRg a (h1, h2, f1, f2)) ++ (wWk a (true, b, false, ch, (f_start (h1, h2, f1, f2) (ky, vl, lf, rt, ct, ht, tt, sp, pa, ro, ss, dp, rn, od, kd)), (f_end (h1, h2, f1, f2) (ky, vl, lf, rt, ct, ht, tt, sp, pa, ro, ss, dp, rn, od, kd)), (if b = true then f_end (h1, h2, f1, f2) (ky, vl, lf, rt, ct, ht, tt, sp, pa, ro, ss, dp, rn, od, kd) else f_start (h1, h2, f1, f2) (ky, vl, lf, rt, ct, ht, tt, sp, pa, ro, ss, dp, rn, od, kd)))) ++ (wT ca kq a (ky, vl, lf, rt, ct, ht, tt, sp, pa, ro, ss, dp, rn, od, kd))) H := hP
  have hD : va_D A ((wKd kq) ++ (wMo a ch) ++ (wRg a (h1, h2, f1, f2)) ++ (wWk a (true, b, false, ch, (f_start (h1, h2, f1, f2) (ky, vl, lf, rt, ct, ht, tt, sp, pa, ro, ss, dp, rn, od, kd)), (f_end (h1, h2, f1, f2) (ky, vl, lf, rt, ct, ht, tt, sp, pa, ro, ss, dp, rn, od, kd)), (if b = true then f_end (h1, h2, f1, f2) (ky, vl, lf, rt, ct, ht, tt, sp, pa, ro, ss, dp, rn, od, kd) else f_start (h1, h2, f1, f2) (ky, vl, lf, rt, ct, ht, tt, sp, pa, ro, ss, dp, rn, od, kd)))) ++ (wT ca kq a (ky, vl, lf, rt, ct, ht, tt, sp, pa, ro, ss, dp, rn, od, kd))) := hD
  exact W.vret hx hb hr (fun t9 e9 w9 => ⟨⟨((ky, vl, lf, rt, ct, ht, tt, sp, pa, ro, ss, dp, rn, od, kd), (h1, h2, f1, f2), (true, b, false, ch, (f_start (h1, h2, f1, f2) (ky, vl, lf, rt, ct, ht, tt, sp, pa, ro, ss, dp, rn, od, kd)), (f_end (h1, h2, f1, f2) (ky, vl, lf, rt, ct, ht, tt, sp, pa, ro, ss, dp, rn, od, kd)), (if b = true then f_end (h1, h2, f1, f2) (ky, vl, lf, rt, ct, ht, tt, sp, pa, ro, ss, dp, rn, od, kd) else f_start (h1, h2, f1, f2) (ky, vl, lf, rt, ct, ht, tt, sp, pa, ro, ss, dp, rn, od, kd))), ch), rfl, rfl, by rw [e9]; exact hP, hD⟩, hS.F e9⟩) hS.2.2 dX6_startWalk_41

-- OneMap.canWalk
set_option maxHeartbeats 4000000 in
set_option maxRecDepth 100000 in
theorem c_X6_canWalk (l : Launch) (D : va_G) (ca : Nat → ClassId) (kq a : Nat → Nat) (sz : Nat) (ky vl : Nat → Int32) (lf rt : Nat → Nat) (ct ht : Nat → Int32) (tt : Nat → Int64) (sp pa ro : Nat → Nat) (ss dp rn : Nat) (od : Int32) (kd : Nat) (h1 h2 : Bool) (f1 f2 : Int32) (on bk gv : Bool) (kn ws9 we9 wp9 : Int32) (ch : Int32) (hlf : ∀ k, lf k ≤ 60) (hrt : ∀ k, rt k ≤ 60) (hsp : ∀ k, sp k ≤ 60) (hpa : ∀ k, pa k ≤ 60) (hro : ∀ k, ro k ≤ 60) (hrn : rn ≤ 60) (hkd : kd < 4): Met l yX6_canWalk wsX6_canWalk ({ frames := 0, cells := 0, slots := 0, locals := 0 } : Room) (xPc D (TY ca) [.ref (a 11)] ((wKd kq) ++ (wMo a ch) ++ (wRg a (h1, h2, f1, f2)) ++ (wWk a (on, bk, gv, kn, ws9, we9, wp9)) ++ (wT ca kq a (ky, vl, lf, rt, ct, ht, tt, sp, pa, ro, ss, dp, rn, od, kd))) sz) (va_Qi (fun (r : Int32) (u : MS) => r = bI (f_canWalk (on, bk, gv, kn, ws9, we9, wp9) ch) ∧ u = ((ky, vl, lf, rt, ct, ht, tt, sp, pa, ro, ss, dp, rn, od, kd), (h1, h2, f1, f2), (on, bk, gv, kn, ws9, we9, wp9), ch)) (xB D (wM ca kq a) (va_A ((wKd kq) ++ (wMo a ch) ++ (wRg a (h1, h2, f1, f2)) ++ (wWk a (on, bk, gv, kn, ws9, we9, wp9)) ++ (wT ca kq a (ky, vl, lf, rt, ct, ht, tt, sp, pa, ro, ss, dp, rn, od, kd))) sz)) (va_A ((wKd kq) ++ (wMo a ch) ++ (wRg a (h1, h2, f1, f2)) ++ (wWk a (on, bk, gv, kn, ws9, we9, wp9)) ++ (wT ca kq a (ky, vl, lf, rt, ct, ht, tt, sp, pa, ro, ss, dp, rn, od, kd))) sz)) 0 0 (va_A ((wKd kq) ++ (wMo a ch) ++ (wRg a (h1, h2, f1, f2)) ++ (wWk a (on, bk, gv, kn, ws9, we9, wp9)) ++ (wT ca kq a (ky, vl, lf, rt, ct, ht, tt, sp, pa, ro, ss, dp, rn, od, kd))) sz) := by
  refine Met.ofW (cc := cX6_canWalk) (maxL := 1) (ret := (some .boolean)) (by decide) rfl ?_
  intro p e s m args below meth c s₁ B hml hv
  obtain ⟨rfl, hsz, hP, hKN, hD0⟩ := hv
  have hx := B.exec
  have hb := B.bytes
  have hr := B.returns
  have hts := atoms_spec (ws := wsX6_canWalk) B.pre
  have hown : s.vm.findClass RX6 = some m.cls := findClass_of_methodNamed B.named
  have hlocks := B.notSynchronized
  have inX6 : ∀ w ∈ wsX60, w ∈ wsX6_canWalk := by decide +kernel
  have inX9 : ∀ w ∈ wsX90, w ∈ wsX6_canWalk := by decide +kernel
  subst hsz
  have hD := hD0.self (sz := s.heap.size)
  generalize hAe : va_A ((wKd kq) ++ (wMo a ch) ++ (wRg a (h1, h2, f1, f2)) ++ (wWk a (on, bk, gv, kn, ws9, we9, wp9)) ++ (wT ca kq a (ky, vl, lf, rt, ct, ht, tt, sp, pa, ro, ss, dp, rn, od, kd))) s.heap.size = A at hD ⊢
  have hA : ∀ q : Nat, s.heap.size ≤ q → A q := fun q h => by rw [← hAe]; exact Or.inr h
  have hS : va_S A s.heap s.heap [] := va_S.rf
  have hl := lv_entry ([.ref (a 11)]) (n := 1) (Nat.le_of_ble_eq_true rfl)
  rw [lg_entry_eq]
  generalize (lg_sl ([.ref (a 11)]) ++ List.replicate (1 - (lg_sl ([.ref (a 11)])).length) Slot.unset).toArray = ls at hl ⊢
  have hl : lv_has ls 1 [(0, .ref (a 11))] := hl
  refine lv_aload_n hx hb dX6_canWalk_0 rfl (lv_at hl 0 rfl) ?_
  refine va_get (D := D) (ci := 4) (v := .ref (a 13)) (C := RX6) (T := TX6) (N := 4) hx hb hts inX6 hown hKN.1 hP 4 rfl rfl 2 (by decide) (hts (.fieldLink RX6 30 "TreeFamily$OneMap" "walk" "LTreeFamily$Walk;") (by decide +kernel)) (fun _ h9 => h9) rfl dX6_canWalk_1 ?_
  refine va_getN (D := D) (ci := 7) (v := .int (bI on)) (C := RX9) (T := TX9) (N := 7) hx hb hts inX9 hown hKN.1 hP 6 rfl rfl 0 (by decide) (va_Nw.use rfl (NW.f hKN.2 (a := RX6) (i := 49) (b := "TreeFamily$Walk") (n := "isOn") (d := "Z") (g := "TreeFamily") (by decide +kernel))) (fun _ h9 => h9) rfl dX6_canWalk_4 ?_
  refine lv_if_eq (tgt := 28) hx hb dX6_canWalk_7 (by decide) (fun c7 => ?_) (fun c7 => ?_)
  · skip
    have c7 := bI_0.mp c7
    refine lv_iconst (v := 0) hx hb dX6_canWalk_28 (by decide) ?_
    exact W.zret (v := 0) hx hb hr (by decide) (fun t9 e9 w9 => ⟨⟨_, ((ky, vl, lf, rt, ct, ht, tt, sp, pa, ro, ss, dp, rn, od, kd), (h1, h2, f1, f2), (on, bk, gv, kn, ws9, we9, wp9), ch), rfl, ⟨by unfold f_canWalk; first | exact bI_of (c := false) (if_neg (fun h9 => absurd (c7.symm.trans h9) (by decide))) rfl | exact bI_of (c := true) ((if_pos c7).trans (if_pos c21)) rfl | exact bI_of (c := false) ((if_pos c7).trans (if_neg c21)) rfl, rfl⟩, by rw [e9]; exact hP, hD⟩, hS.F e9⟩) hS.2.2 dX6_canWalk_29
  · skip
    have c7 := bI_ne.mp c7
    refine lv_aload_n hx hb dX6_canWalk_10 rfl (lv_at hl 0 rfl) ?_
    refine va_get (D := D) (ci := 4) (v := .ref (a 13)) (C := RX6) (T := TX6) (N := 4) hx hb hts inX6 hown hKN.1 hP 4 rfl rfl 2 (by decide) (hts (.fieldLink RX6 30 "TreeFamily$OneMap" "walk" "LTreeFamily$Walk;") (by decide +kernel)) (fun _ h9 => h9) rfl dX6_canWalk_11 ?_
    refine va_getN (D := D) (ci := 7) (v := .int kn) (C := RX9) (T := TX9) (N := 7) hx hb hts inX9 hown hKN.1 hP 6 rfl rfl 3 (by decide) (va_Nw.use rfl (NW.f hKN.2 (a := RX6) (i := 130) (b := "TreeFamily$Walk") (n := "known") (d := "I") (g := "TreeFamily") (by decide +kernel))) (fun _ h9 => h9) rfl dX6_canWalk_14 ?_
    refine lv_aload_n hx hb dX6_canWalk_17 rfl (lv_at hl 0 rfl) ?_
    refine va_get (D := D) (ci := 4) (v := .int ch) (C := RX6) (T := TX6) (N := 4) hx hb hts inX6 hown hKN.1 hP 4 rfl rfl 3 (by decide) (hts (.fieldLink RX6 34 "TreeFamily$OneMap" "changes" "I") (by decide +kernel)) (fun _ h9 => h9) rfl dX6_canWalk_18 ?_
    refine lv_icmp_ne (tgt := 28) hx hb dX6_canWalk_21 (by decide) (fun c21 => ?_) (fun c21 => ?_)
    · skip
      refine lv_iconst (v := 0) hx hb dX6_canWalk_28 (by decide) ?_
      exact W.zret (v := 0) hx hb hr (by decide) (fun t9 e9 w9 => ⟨⟨_, ((ky, vl, lf, rt, ct, ht, tt, sp, pa, ro, ss, dp, rn, od, kd), (h1, h2, f1, f2), (on, bk, gv, kn, ws9, we9, wp9), ch), rfl, ⟨by unfold f_canWalk; first | exact bI_of (c := false) (if_neg (fun h9 => absurd (c7.symm.trans h9) (by decide))) rfl | exact bI_of (c := true) ((if_pos c7).trans (if_pos c21)) rfl | exact bI_of (c := false) ((if_pos c7).trans (if_neg c21)) rfl, rfl⟩, by rw [e9]; exact hP, hD⟩, hS.F e9⟩) hS.2.2 dX6_canWalk_29
    · skip
      refine lv_iconst (v := 1) hx hb dX6_canWalk_24 (by decide) ?_
      refine lv_goto (tgt := 29) hx hb dX6_canWalk_25 (by decide) ?_
      exact W.zret (v := 1) hx hb hr (by decide) (fun t9 e9 w9 => ⟨⟨_, ((ky, vl, lf, rt, ct, ht, tt, sp, pa, ro, ss, dp, rn, od, kd), (h1, h2, f1, f2), (on, bk, gv, kn, ws9, we9, wp9), ch), rfl, ⟨by unfold f_canWalk; first | exact bI_of (c := false) (if_neg (fun h9 => absurd (c7.symm.trans h9) (by decide))) rfl | exact bI_of (c := true) ((if_pos c7).trans (if_pos c21)) rfl | exact bI_of (c := false) ((if_pos c7).trans (if_neg c21)) rfl, rfl⟩, by rw [e9]; exact hP, hD⟩, hS.F e9⟩) hS.2.2 dX6_canWalk_29

-- OneMap.canDrop
set_option maxHeartbeats 4000000 in
set_option maxRecDepth 100000 in
theorem c_X6_canDrop (l : Launch) (D : va_G) (ca : Nat → ClassId) (kq a : Nat → Nat) (sz : Nat) (ky vl : Nat → Int32) (lf rt : Nat → Nat) (ct ht : Nat → Int32) (tt : Nat → Int64) (sp pa ro : Nat → Nat) (ss dp rn : Nat) (od : Int32) (kd : Nat) (h1 h2 : Bool) (f1 f2 : Int32) (on bk gv : Bool) (kn ws9 we9 wp9 : Int32) (ch : Int32) (hlf : ∀ k, lf k ≤ 60) (hrt : ∀ k, rt k ≤ 60) (hsp : ∀ k, sp k ≤ 60) (hpa : ∀ k, pa k ≤ 60) (hro : ∀ k, ro k ≤ 60) (hrn : rn ≤ 60) (hkd : kd < 4): Met l yX6_canDrop wsX6_canDrop ({ frames := 1, cells := 0, slots := 0, locals := 20 } : Room) (xPc D (TY ca) [.ref (a 11)] ((wKd kq) ++ (wMo a ch) ++ (wRg a (h1, h2, f1, f2)) ++ (wWk a (on, bk, gv, kn, ws9, we9, wp9)) ++ (wT ca kq a (ky, vl, lf, rt, ct, ht, tt, sp, pa, ro, ss, dp, rn, od, kd))) sz) (va_Qi (fun (r : Int32) (u : MS) => r = bI (f_canDrop (on, bk, gv, kn, ws9, we9, wp9) ch) ∧ u = ((ky, vl, lf, rt, ct, ht, tt, sp, pa, ro, ss, dp, rn, od, kd), (h1, h2, f1, f2), (on, bk, gv, kn, ws9, we9, wp9), ch)) (xB D (wM ca kq a) (va_A ((wKd kq) ++ (wMo a ch) ++ (wRg a (h1, h2, f1, f2)) ++ (wWk a (on, bk, gv, kn, ws9, we9, wp9)) ++ (wT ca kq a (ky, vl, lf, rt, ct, ht, tt, sp, pa, ro, ss, dp, rn, od, kd))) sz)) (va_A ((wKd kq) ++ (wMo a ch) ++ (wRg a (h1, h2, f1, f2)) ++ (wWk a (on, bk, gv, kn, ws9, we9, wp9)) ++ (wT ca kq a (ky, vl, lf, rt, ct, ht, tt, sp, pa, ro, ss, dp, rn, od, kd))) sz)) 0 0 (va_A ((wKd kq) ++ (wMo a ch) ++ (wRg a (h1, h2, f1, f2)) ++ (wWk a (on, bk, gv, kn, ws9, we9, wp9)) ++ (wT ca kq a (ky, vl, lf, rt, ct, ht, tt, sp, pa, ro, ss, dp, rn, od, kd))) sz) := by
  refine Met.ofW (cc := cX6_canDrop) (maxL := 1) (ret := (some .boolean)) (by decide) rfl ?_
  intro p e s m args below meth c s₁ B hml hv
  obtain ⟨rfl, hsz, hP, hKN, hD0⟩ := hv
  have hx := B.exec
  have hb := B.bytes
  have hr := B.returns
  have hts := atoms_spec (ws := wsX6_canDrop) B.pre
  have hown : s.vm.findClass RX6 = some m.cls := findClass_of_methodNamed B.named
  have hlocks := B.notSynchronized
  have inX6 : ∀ w ∈ wsX60, w ∈ wsX6_canDrop := by decide +kernel
  have inX9 : ∀ w ∈ wsX90, w ∈ wsX6_canDrop := by decide +kernel
  subst hsz
  have hD := hD0.self (sz := s.heap.size)
  generalize hAe : va_A ((wKd kq) ++ (wMo a ch) ++ (wRg a (h1, h2, f1, f2)) ++ (wWk a (on, bk, gv, kn, ws9, we9, wp9)) ++ (wT ca kq a (ky, vl, lf, rt, ct, ht, tt, sp, pa, ro, ss, dp, rn, od, kd))) s.heap.size = A at hD ⊢
  have hA : ∀ q : Nat, s.heap.size ≤ q → A q := fun q h => by rw [← hAe]; exact Or.inr h
  have hS : va_S A s.heap s.heap [] := va_S.rf
  have hl := lv_entry ([.ref (a 11)]) (n := 1) (Nat.le_of_ble_eq_true rfl)
  rw [lg_entry_eq]
  generalize (lg_sl ([.ref (a 11)]) ++ List.replicate (1 - (lg_sl ([.ref (a 11)])).length) Slot.unset).toArray = ls at hl ⊢
  have hl : lv_has ls 1 [(0, .ref (a 11))] := hl
  refine lv_aload_n hx hb dX6_canDrop_0 rfl (lv_at hl 0 rfl) ?_
  refine xc_i (wr := []) (va_runV (As := []) (rest := []) ⟨hx, hb, hml, hown, hts⟩ (c_X6_canWalk l D ca kq a _ ky vl lf rt ct ht tt sp pa ro ss dp rn od kd h1 h2 f1 f2 on bk gv kn ws9 we9 wp9 ch hlf hrt hsp hpa hro hrn hkd) (cwV 0 hts gX6_canDrop_X6_canWalk rfl rfl rfl (by decide +kernel) ⟨(Nat.le_of_ble_eq_true rfl), (Nat.le_of_ble_eq_true rfl)⟩) (xPreV hKN hP hD [0, 1, 2, 3, 4, 5, 6, 7, 8, 9, 10, 11, 12, 13, 14, 15, 16, 17] (by decide) rfl (q0 := 4) rfl rfl rfl) rfl rfl hl.1 rfl (lv_room (Nat.le_of_ble_eq_true rfl)) dX6_canDrop_1 ⟨(Nat.le_of_ble_eq_true rfl), (Nat.le_of_ble_eq_true rfl)⟩) hP hD hS hA [0, 1, 2, 3, 4, 5, 6, 7, 8, 9, 10, 11, 12, 13, 14, 15, 16, 17] [] rfl rfl (by decide) (by decide) (fun r1 u1 H locs hu1 hP hD hS => ?_)
  obtain ⟨er1, eu1⟩ := hu1
  subst er1
  subst eu1
  have hP : va_P D vwCl ((wKd kq) ++ (wMo a ch) ++ (wRg a (h1, h2, f1, f2)) ++ (wWk a (on, bk, gv, kn, ws9, we9, wp9)) ++ (wT ca kq a (ky, vl, lf, rt, ct, ht, tt, sp, pa, ro, ss, dp, rn, od, kd))) H := hP
  have hD : va_D A ((wKd kq) ++ (wMo a ch) ++ (wRg a (h1, h2, f1, f2)) ++ (wWk a (on, bk, gv, kn, ws9, we9, wp9)) ++ (wT ca kq a (ky, vl, lf, rt, ct, ht, tt, sp, pa, ro, ss, dp, rn, od, kd))) := hD
  refine lv_if_eq (tgt := 21) hx hb dX6_canDrop_4 (by decide) (fun c4 => ?_) (fun c4 => ?_)
  · skip
    have c4 := bI_0.mp c4
    refine lv_iconst (v := 0) hx hb dX6_canDrop_21 (by decide) ?_
    exact W.zret (v := 0) hx hb hr (by decide) (fun t9 e9 w9 => ⟨⟨_, ((ky, vl, lf, rt, ct, ht, tt, sp, pa, ro, ss, dp, rn, od, kd), (h1, h2, f1, f2), (on, bk, gv, kn, ws9, we9, wp9), ch), rfl, ⟨by unfold f_canDrop; first | exact bI_of (c := false) (if_neg (by rw [c4]; decide)) rfl | exact bI_of (c := true) ((if_pos c4).trans c14) rfl | exact bI_of (c := false) ((if_pos c4).trans c14) rfl, rfl⟩, by rw [e9]; exact hP, hD⟩, hS.F e9⟩) hS.2.2 dX6_canDrop_22
  · skip
    have c4 := bI_ne.mp c4
    refine lv_aload_n hx hb dX6_canDrop_7 rfl (lv_at hl 0 rfl) ?_
    refine va_get (D := D) (ci := 4) (v := .ref (a 13)) (C := RX6) (T := TX6) (N := 4) hx hb hts inX6 hown hKN.1 hP 4 rfl rfl 2 (by decide) (hts (.fieldLink RX6 30 "TreeFamily$OneMap" "walk" "LTreeFamily$Walk;") (by decide +kernel)) (fun _ h9 => h9) rfl dX6_canDrop_8 ?_
    refine va_getN (D := D) (ci := 7) (v := .int (bI gv)) (C := RX9) (T := TX9) (N := 7) hx hb hts inX9 hown hKN.1 hP 6 rfl rfl 2 (by decide) (va_Nw.use rfl (NW.f hKN.2 (a := RX6) (i := 146) (b := "TreeFamily$Walk") (n := "hasGiven") (d := "Z") (g := "TreeFamily") (by decide +kernel))) (fun _ h9 => h9) rfl dX6_canDrop_11 ?_
    refine lv_if_eq (tgt := 21) hx hb dX6_canDrop_14 (by decide) (fun c14 => ?_) (fun c14 => ?_)
    · skip
      have c14 := bI_0.mp c14
      refine lv_iconst (v := 0) hx hb dX6_canDrop_21 (by decide) ?_
      exact W.zret (v := 0) hx hb hr (by decide) (fun t9 e9 w9 => ⟨⟨_, ((ky, vl, lf, rt, ct, ht, tt, sp, pa, ro, ss, dp, rn, od, kd), (h1, h2, f1, f2), (on, bk, gv, kn, ws9, we9, wp9), ch), rfl, ⟨by unfold f_canDrop; first | exact bI_of (c := false) (if_neg (by rw [c4]; decide)) rfl | exact bI_of (c := true) ((if_pos c4).trans c14) rfl | exact bI_of (c := false) ((if_pos c4).trans c14) rfl, rfl⟩, by rw [e9]; exact hP, hD⟩, hS.F e9⟩) hS.2.2 dX6_canDrop_22
    · skip
      have c14 := bI_ne.mp c14
      refine lv_iconst (v := 1) hx hb dX6_canDrop_17 (by decide) ?_
      refine lv_goto (tgt := 22) hx hb dX6_canDrop_18 (by decide) ?_
      exact W.zret (v := 1) hx hb hr (by decide) (fun t9 e9 w9 => ⟨⟨_, ((ky, vl, lf, rt, ct, ht, tt, sp, pa, ro, ss, dp, rn, od, kd), (h1, h2, f1, f2), (on, bk, gv, kn, ws9, we9, wp9), ch), rfl, ⟨by unfold f_canDrop; first | exact bI_of (c := false) (if_neg (by rw [c4]; decide)) rfl | exact bI_of (c := true) ((if_pos c4).trans c14) rfl | exact bI_of (c := false) ((if_pos c4).trans c14) rfl, rfl⟩, by rw [e9]; exact hP, hD⟩, hS.F e9⟩) hS.2.2 dX6_canDrop_22

-- OneMap.countGone
set_option maxHeartbeats 4000000 in
set_option maxRecDepth 100000 in
theorem c_X6_countGone (l : Launch) (D : va_G) (ca : Nat → ClassId) (kq a : Nat → Nat) (sz : Nat) (ky vl : Nat → Int32) (lf rt : Nat → Nat) (ct ht : Nat → Int32) (tt : Nat → Int64) (sp pa ro : Nat → Nat) (ss dp rn : Nat) (od : Int32) (kd : Nat) (h1 h2 : Bool) (f1 f2 : Int32) (on bk gv : Bool) (kn ws9 we9 wp9 : Int32) (ch : Int32) (x1 : Int32) (hlf : ∀ k, lf k ≤ 60) (hrt : ∀ k, rt k ≤ 60) (hsp : ∀ k, sp k ≤ 60) (hpa : ∀ k, pa k ≤ 60) (hro : ∀ k, ro k ≤ 60) (hrn : rn ≤ 60) (hkd : kd < 4): Met l yX6_countGone wsX6_countGone ({ frames := 1, cells := 0, slots := 0, locals := 20 } : Room) (xPc D (TY ca) [.ref (a 11), .int x1] ((wKd kq) ++ (wMo a ch) ++ (wRg a (h1, h2, f1, f2)) ++ (wWk a (on, bk, gv, kn, ws9, we9, wp9)) ++ (wT ca kq a (ky, vl, lf, rt, ct, ht, tt, sp, pa, ro, ss, dp, rn, od, kd))) sz) (va_Qi (fun (r : Int32) (u : MS) => r = x1 - ct rn ∧ u = ((ky, vl, lf, rt, ct, ht, tt, sp, pa, ro, ss, dp, rn, od, kd), (h1, h2, f1, f2), (on, bk, gv, kn, ws9, we9, wp9), ch + (x1 - ct rn))) (xB D (wM ca kq a) (va_A ((wKd kq) ++ (wMo a ch) ++ (wRg a (h1, h2, f1, f2)) ++ (wWk a (on, bk, gv, kn, ws9, we9, wp9)) ++ (wT ca kq a (ky, vl, lf, rt, ct, ht, tt, sp, pa, ro, ss, dp, rn, od, kd))) sz)) (va_A ((wKd kq) ++ (wMo a ch) ++ (wRg a (h1, h2, f1, f2)) ++ (wWk a (on, bk, gv, kn, ws9, we9, wp9)) ++ (wT ca kq a (ky, vl, lf, rt, ct, ht, tt, sp, pa, ro, ss, dp, rn, od, kd))) sz)) 0 0 (va_A ((wKd kq) ++ (wMo a ch) ++ (wRg a (h1, h2, f1, f2)) ++ (wWk a (on, bk, gv, kn, ws9, we9, wp9)) ++ (wT ca kq a (ky, vl, lf, rt, ct, ht, tt, sp, pa, ro, ss, dp, rn, od, kd))) sz) := by
  refine Met.ofW (cc := cX6_countGone) (maxL := 3) (ret := (some .int)) (by decide) rfl ?_
  intro p e s m args below meth c s₁ B hml hv
  obtain ⟨rfl, hsz, hP, hKN, hD0⟩ := hv
  have hx := B.exec
  have hb := B.bytes
  have hr := B.returns
  have hts := atoms_spec (ws := wsX6_countGone) B.pre
  have hown : s.vm.findClass RX6 = some m.cls := findClass_of_methodNamed B.named
  have hlocks := B.notSynchronized
  have inX6 : ∀ w ∈ wsX60, w ∈ wsX6_countGone := by decide +kernel
  subst hsz
  have hD := hD0.self (sz := s.heap.size)
  generalize hAe : va_A ((wKd kq) ++ (wMo a ch) ++ (wRg a (h1, h2, f1, f2)) ++ (wWk a (on, bk, gv, kn, ws9, we9, wp9)) ++ (wT ca kq a (ky, vl, lf, rt, ct, ht, tt, sp, pa, ro, ss, dp, rn, od, kd))) s.heap.size = A at hD ⊢
  have hA : ∀ q : Nat, s.heap.size ≤ q → A q := fun q h => by rw [← hAe]; exact Or.inr h
  have hS : va_S A s.heap s.heap [] := va_S.rf
  have hl := lv_entry ([.ref (a 11), .int x1]) (n := 3) (Nat.le_of_ble_eq_true rfl)
  rw [lg_entry_eq]
  generalize (lg_sl ([.ref (a 11), .int x1]) ++ List.replicate (3 - (lg_sl ([.ref (a 11), .int x1])).length) Slot.unset).toArray = ls at hl ⊢
  have hl : lv_has ls 3 [(0, .ref (a 11)), (1, .int x1)] := hl
  refine lv_iload_n hx hb dX6_countGone_0 rfl (lv_at hl 1 rfl) ?_
  refine lv_aload_n hx hb dX6_countGone_1 rfl (lv_at hl 0 rfl) ?_
  refine xc_i (wr := []) (va_runV (As := []) (rest := [.int x1]) ⟨hx, hb, hml, hown, hts⟩ (c_X6_entryCount l D ca kq a _ ky vl lf rt ct ht tt sp pa ro ss dp rn od kd h1 h2 f1 f2 on bk gv kn ws9 we9 wp9 ch hlf hrt hsp hpa hro hrn hkd) (cwV 0 hts gX6_countGone_X6_entryCount rfl rfl rfl (by decide +kernel) ⟨(Nat.le_of_ble_eq_true rfl), (Nat.le_of_ble_eq_true rfl)⟩) (xPreV hKN hP hD [0, 1, 2, 3, 4, 5, 6, 7, 8, 9, 10, 11, 12, 13, 14, 15, 16, 17] (by decide) rfl (q0 := 4) rfl rfl rfl) rfl rfl hl.1 rfl (lv_room (Nat.le_of_ble_eq_true rfl)) dX6_countGone_2 ⟨(Nat.le_of_ble_eq_true rfl), (Nat.le_of_ble_eq_true rfl)⟩) hP hD hS hA [0, 1, 2, 3, 4, 5, 6, 7, 8, 9, 10, 11, 12, 13, 14, 15, 16, 17] [] rfl rfl (by decide) (by decide) (fun r2 u2 H locs hu2 hP hD hS => ?_)
  obtain ⟨er2, eu2⟩ := hu2
  subst er2
  subst eu2
  have hP : va_P D vwCl ((wKd kq) ++ (wMo a ch) ++ (wRg a (h1, h2, f1, f2)) ++ (wWk a (on, bk, gv, kn, ws9, we9, wp9)) ++ (wT ca kq a (ky, vl, lf, rt, ct, ht, tt, sp, pa, ro, ss, dp, rn, od, kd))) H := hP
  have hD : va_D A ((wKd kq) ++ (wMo a ch) ++ (wRg a (h1, h2, f1, f2)) ++ (wWk a (on, bk, gv, kn, ws9, we9, wp9)) ++ (wT ca kq a (ky, vl, lf, rt, ct, ht, tt, sp, pa, ro, ss, dp, rn, od, kd))) := hD
  refine lv_isub hx hb dX6_countGone_5 ?_
  refine lv_istore_n (lv' := [(2, .int (x1 - (ct rn))), (0, .ref (a 11)), (1, .int x1)]) hx hb dX6_countGone_6 rfl hl (by decide) rfl (fun ls hl => ?_)
  refine lv_aload_n hx hb dX6_countGone_7 rfl (lv_at hl 1 rfl) ?_
  refine lv_dup hx hb dX6_countGone_8 rfl ?_
  refine va_get (D := D) (ci := 4) (v := .int ch) (C := RX6) (T := TX6) (N := 4) hx hb hts inX6 hown hKN.1 hP 4 rfl rfl 3 (by decide) (hts (.fieldLink RX6 34 "TreeFamily$OneMap" "changes" "I") (by decide +kernel)) (fun _ h9 => h9) rfl dX6_countGone_9 ?_
  refine lv_iload_n hx hb dX6_countGone_12 rfl (lv_at hl 0 rfl) ?_
  refine lv_iadd hx hb dX6_countGone_13 ?_
  refine va_put (D := D) (ci := 4) (v := .int (ch + (x1 - (ct rn)))) (ty := .int) (C := RX6) (T := TX6) (N := 4) hx hb hts inX6 tyX6 tyX6_ok nmX6 hown hKN.1 hP hD hS 4 rfl rfl 3 (by decide) (hts (.fieldLink RX6 34 "TreeFamily$OneMap" "changes" "I") (by decide +kernel)) (fun _ h9 => h9) rfl (by decide +kernel) rfl rfl (Nat.le_of_ble_eq_true rfl) dX6_countGone_14 (fun H locs hP hD hS => ?_)
  have hP : va_P D vwCl ((wKd kq) ++ (wMo a (ch + (x1 - (ct rn)))) ++ (wRg a (h1, h2, f1, f2)) ++ (wWk a (on, bk, gv, kn, ws9, we9, wp9)) ++ (wT ca kq a (ky, vl, lf, rt, ct, ht, tt, sp, pa, ro, ss, dp, rn, od, kd))) H := hP
  have hD : va_D A ((wKd kq) ++ (wMo a (ch + (x1 - (ct rn)))) ++ (wRg a (h1, h2, f1, f2)) ++ (wWk a (on, bk, gv, kn, ws9, we9, wp9)) ++ (wT ca kq a (ky, vl, lf, rt, ct, ht, tt, sp, pa, ro, ss, dp, rn, od, kd))) := hD
  refine lv_iload_n hx hb dX6_countGone_17 rfl (lv_at hl 0 rfl) ?_
  exact W.iret (v := (x1 - (ct rn))) hx hb hr (fun t9 e9 w9 => ⟨⟨_, ((ky, vl, lf, rt, ct, ht, tt, sp, pa, ro, ss, dp, rn, od, kd), (h1, h2, f1, f2), (on, bk, gv, kn, ws9, we9, wp9), (ch + (x1 - (ct rn)))), rfl, ⟨rfl, rfl⟩, by rw [e9]; exact hP, hD⟩, hS.F e9⟩) hS.2.2 dX6_countGone_18

-- OneMap.isSound
set_option maxHeartbeats 4000000 in
set_option maxRecDepth 100000 in
theorem c_X6_isSound (l : Launch) (D : va_G) (ca : Nat → ClassId) (kq a : Nat → Nat) (sz : Nat) (ky vl : Nat → Int32) (lf rt : Nat → Nat) (ct ht : Nat → Int32) (tt : Nat → Int64) (sp pa ro : Nat → Nat) (ss dp rn : Nat) (od : Int32) (kd : Nat) (h1 h2 : Bool) (f1 f2 : Int32) (on bk gv : Bool) (kn ws9 we9 wp9 : Int32) (ch : Int32) (c9 : Nat) (hlf : ∀ k, lf k ≤ 60) (hrt : ∀ k, rt k ≤ 60) (hsp : ∀ k, sp k ≤ 60) (hpa : ∀ k, pa k ≤ 60) (hro : ∀ k, ro k ≤ 60) (hrn : rn ≤ 60) (hkd : kd < 4) (hc : ct rn = nI c9) (hc60 : c9 ≤ 60): Met l yX6_isSound wsX6_isSound ({ frames := 4, cells := 0, slots := 0, locals := 90 } : Room) (xPc D (TY ca) [.ref (a 11)] ((wKd kq) ++ (wMo a ch) ++ (wRg a (h1, h2, f1, f2)) ++ (wWk a (on, bk, gv, kn, ws9, we9, wp9)) ++ (wT ca kq a (ky, vl, lf, rt, ct, ht, tt, sp, pa, ro, ss, dp, rn, od, kd))) sz) (va_Qi (fun (r : Int32) (u : MS) => r = bI (f_isSound (ky, vl, lf, rt, ct, ht, tt, sp, pa, ro, ss, dp, rn, od, kd) c9) ∧ u = ((ky, vl, lf, rt, ct, ht, tt, sp, pa, ro, ss, dp, rn, od, kd), (h1, h2, f1, f2), (on, bk, gv, kn, ws9, we9, wp9), ch)) (xB D (wM ca kq a) (va_A ((wKd kq) ++ (wMo a ch) ++ (wRg a (h1, h2, f1, f2)) ++ (wWk a (on, bk, gv, kn, ws9, we9, wp9)) ++ (wT ca kq a (ky, vl, lf, rt, ct, ht, tt, sp, pa, ro, ss, dp, rn, od, kd))) sz)) (va_A ((wKd kq) ++ (wMo a ch) ++ (wRg a (h1, h2, f1, f2)) ++ (wWk a (on, bk, gv, kn, ws9, we9, wp9)) ++ (wT ca kq a (ky, vl, lf, rt, ct, ht, tt, sp, pa, ro, ss, dp, rn, od, kd))) sz)) 0 0 (va_A ((wKd kq) ++ (wMo a ch) ++ (wRg a (h1, h2, f1, f2)) ++ (wWk a (on, bk, gv, kn, ws9, we9, wp9)) ++ (wT ca kq a (ky, vl, lf, rt, ct, ht, tt, sp, pa, ro, ss, dp, rn, od, kd))) sz) := by
  refine Met.ofW (cc := cX6_isSound) (maxL := 1) (ret := (some .boolean)) (by decide) rfl ?_
  intro p e s m args below meth c s₁ B hml hv
  obtain ⟨rfl, hsz, hP, hKN, hD0⟩ := hv
  have hx := B.exec
  have hb := B.bytes
  have hr := B.returns
  have hts := atoms_spec (ws := wsX6_isSound) B.pre
  have hown : s.vm.findClass RX6 = some m.cls := findClass_of_methodNamed B.named
  have hlocks := B.notSynchronized
  have inX6 : ∀ w ∈ wsX60, w ∈ wsX6_isSound := by decide +kernel
  subst hsz
  have hD := hD0.self (sz := s.heap.size)
  generalize hAe : va_A ((wKd kq) ++ (wMo a ch) ++ (wRg a (h1, h2, f1, f2)) ++ (wWk a (on, bk, gv, kn, ws9, we9, wp9)) ++ (wT ca kq a (ky, vl, lf, rt, ct, ht, tt, sp, pa, ro, ss, dp, rn, od, kd))) s.heap.size = A at hD ⊢
  have hA : ∀ q : Nat, s.heap.size ≤ q → A q := fun q h => by rw [← hAe]; exact Or.inr h
  have hS : va_S A s.heap s.heap [] := va_S.rf
  have hl := lv_entry ([.ref (a 11)]) (n := 1) (Nat.le_of_ble_eq_true rfl)
  rw [lg_entry_eq]
  generalize (lg_sl ([.ref (a 11)]) ++ List.replicate (1 - (lg_sl ([.ref (a 11)])).length) Slot.unset).toArray = ls at hl ⊢
  have hl : lv_has ls 1 [(0, .ref (a 11))] := hl
  refine lv_aload_n hx hb dX6_isSound_0 rfl (lv_at hl 0 rfl) ?_
  refine va_get (D := D) (ci := 4) (v := .ref (a 0)) (C := RX6) (T := TX6) (N := 4) hx hb hts inX6 hown hKN.1 hP 4 rfl rfl 0 (by decide) (hts (.fieldLink RX6 14 "TreeFamily$OneMap" "tree" "LTreeFamily$Tree;") (by decide +kernel)) (fun _ h9 => h9) rfl dX6_isSound_1 ?_
  refine xc_i (wr := (wMo a ch) ++ (wRg a (h1, h2, f1, f2)) ++ (wWk a (on, bk, gv, kn, ws9, we9, wp9))) (va_runV (As := []) (rest := []) ⟨hx, hb, hml, hown, hts⟩ (c_X8_isSound l D ca kq a _ ky vl lf rt ct ht tt sp pa ro ss dp rn od kd c9 hlf hrt hsp hpa hro hrn hkd hc hc60) (cwV 0 hts gX6_isSound_X8_isSound rfl rfl rfl (by decide +kernel) ⟨(Nat.le_of_ble_eq_true rfl), (Nat.le_of_ble_eq_true rfl)⟩) (xPreV hKN hP hD [0, 1, 2, 3, 7, 8, 9, 10, 11, 12, 13, 14, 15, 16, 17] (by decide) rfl (q0 := 7) rfl rfl rfl) rfl rfl hl.1 rfl (lv_room (Nat.le_of_ble_eq_true rfl)) dX6_isSound_4 ⟨(Nat.le_of_ble_eq_true rfl), (Nat.le_of_ble_eq_true rfl)⟩) hP hD hS hA [0, 1, 2, 3, 7, 8, 9, 10, 11, 12, 13, 14, 15, 16, 17] [4, 5, 6] rfl rfl (by decide) (by decide) (fun r4 u4 H locs hu4 hP hD hS => ?_)
  obtain ⟨er4, eu4⟩ := hu4
  subst er4
  subst eu4
  have hP : va_P D vwCl ((wKd kq) ++ (wMo a ch) ++ (wRg a (h1, h2, f1, f2)) ++ (wWk a (on, bk, gv, kn, ws9, we9, wp9)) ++ (wT ca kq a (ky, vl, lf, rt, ct, ht, tt, sp, pa, ro, ss, dp, rn, od, kd))) H := hP.sub (ws' := (wKd kq) ++ (wMo a ch) ++ (wRg a (h1, h2, f1, f2)) ++ (wWk a (on, bk, gv, kn, ws9, we9, wp9)) ++ (wT ca kq a (ky, vl, lf, rt, ct, ht, tt, sp, pa, ro, ss, dp, rn, od, kd))) [3, 4, 5, 6, 0, 1, 2, 7, 8, 9, 10, 11, 12, 13, 14, 15, 16, 17] rfl
  have hD : va_D A ((wKd kq) ++ (wMo a ch) ++ (wRg a (h1, h2, f1, f2)) ++ (wWk a (on, bk, gv, kn, ws9, we9, wp9)) ++ (wT ca kq a (ky, vl, lf, rt, ct, ht, tt, sp, pa, ro, ss, dp, rn, od, kd))) := hD.sub (ws' := (wKd kq) ++ (wMo a ch) ++ (wRg a (h1, h2, f1, f2)) ++ (wWk a (on, bk, gv, kn, ws9, we9, wp9)) ++ (wT ca kq a (ky, vl, lf, rt, ct, ht, tt, sp, pa, ro, ss, dp, rn, od, kd))) [3, 4, 5, 6, 0, 1, 2, 7, 8, 9, 10, 11, 12, 13, 14, 15, 16, 17] (by decide) rfl
  exact W.zret (v := (bI (f_isSound (ky, vl, lf, rt, ct, ht, tt, sp, pa, ro, ss, dp, rn, od, kd) c9))) hx hb hr (bI_nar _) (fun t9 e9 w9 => ⟨⟨_, ((ky, vl, lf, rt, ct, ht, tt, sp, pa, ro, ss, dp, rn, od, kd), (h1, h2, f1, f2), (on, bk, gv, kn, ws9, we9, wp9), ch), rfl, ⟨rfl, rfl⟩, by rw [e9]; exact hP, hD⟩, hS.F e9⟩) hS.2.2 dX6_isSound_7

-- OneMap.beginAnew
set_option maxHeartbeats 4000000 in
set_option maxRecDepth 100000 in
theorem c_X6_beginAnew (l : Launch) (D : va_G) (ca : Nat → ClassId) (kq a : Nat → Nat) (sz : Nat) (ky vl : Nat → Int32) (lf rt : Nat → Nat) (ct ht : Nat → Int32) (tt : Nat → Int64) (sp pa ro : Nat → Nat) (ss dp rn : Nat) (od : Int32) (kd : Nat) (h1 h2 : Bool) (f1 f2 : Int32) (on bk gv : Bool) (kn ws9 we9 wp9 : Int32) (ch : Int32) (k2 : Nat) (o2 : Int32) (hlf : ∀ k, lf k ≤ 60) (hrt : ∀ k, rt k ≤ 60) (hsp : ∀ k, sp k ≤ 60) (hpa : ∀ k, pa k ≤ 60) (hro : ∀ k, ro k ≤ 60) (hrn : rn ≤ 60) (hkd : kd < 4): Met l yX6_beginAnew wsX6_beginAnew ({ frames := 1, cells := 0, slots := 0, locals := 23 } : Room) (xPc D (TY ca) [.ref (a 11), .ref (kq k2), .int o2] ((wKd kq) ++ (wMo a ch) ++ (wRg a (h1, h2, f1, f2)) ++ (wWk a (on, bk, gv, kn, ws9, we9, wp9)) ++ (wT ca kq a (ky, vl, lf, rt, ct, ht, tt, sp, pa, ro, ss, dp, rn, od, kd))) sz) (va_Qv (fun u : MS => u = (f_clear (ky, vl, lf, rt, ct, ht, tt, sp, pa, ro, ss, dp, rn, od, kd) k2 o2, (false, false, f1, f2), (false, bk, gv, kn, ws9, we9, wp9), ch + 1)) (xB D (wM ca kq a) (va_A ((wKd kq) ++ (wMo a ch) ++ (wRg a (h1, h2, f1, f2)) ++ (wWk a (on, bk, gv, kn, ws9, we9, wp9)) ++ (wT ca kq a (ky, vl, lf, rt, ct, ht, tt, sp, pa, ro, ss, dp, rn, od, kd))) sz)) (va_A ((wKd kq) ++ (wMo a ch) ++ (wRg a (h1, h2, f1, f2)) ++ (wWk a (on, bk, gv, kn, ws9, we9, wp9)) ++ (wT ca kq a (ky, vl, lf, rt, ct, ht, tt, sp, pa, ro, ss, dp, rn, od, kd))) sz)) 0 0 (va_A ((wKd kq) ++ (wMo a ch) ++ (wRg a (h1, h2, f1, f2)) ++ (wWk a (on, bk, gv, kn, ws9, we9, wp9)) ++ (wT ca kq a (ky, vl, lf, rt, ct, ht, tt, sp, pa, ro, ss, dp, rn, od, kd))) sz) := by
  refine Met.ofW (cc := cX6_beginAnew) (maxL := 3) (ret := none) (by decide) rfl ?_
  intro p e s m args below meth c s₁ B hml hv
  obtain ⟨rfl, hsz, hP, hKN, hD0⟩ := hv
  have hx := B.exec
  have hb := B.bytes
  have hr := B.returns
  have hts := atoms_spec (ws := wsX6_beginAnew) B.pre
  have hown : s.vm.findClass RX6 = some m.cls := findClass_of_methodNamed B.named
  have hlocks := B.notSynchronized
  have inX6 : ∀ w ∈ wsX60, w ∈ wsX6_beginAnew := by decide +kernel
  have inX7 : ∀ w ∈ wsX70, w ∈ wsX6_beginAnew := by decide +kernel
  have inX9 : ∀ w ∈ wsX90, w ∈ wsX6_beginAnew := by decide +kernel
  subst hsz
  have hD := hD0.self (sz := s.heap.size)
  generalize hAe : va_A ((wKd kq) ++ (wMo a ch) ++ (wRg a (h1, h2, f1, f2)) ++ (wWk a (on, bk, gv, kn, ws9, we9, wp9)) ++ (wT ca kq a (ky, vl, lf, rt, ct, ht, tt, sp, pa, ro, ss, dp, rn, od, kd))) s.heap.size = A at hD ⊢
  have hA : ∀ q : Nat, s.heap.size ≤ q → A q := fun q h => by rw [← hAe]; exact Or.inr h
  have hS : va_S A s.heap s.heap [] := va_S.rf
  have hl := lv_entry ([.ref (a 11), .ref (kq k2), .int o2]) (n := 3) (Nat.le_of_ble_eq_true rfl)
  rw [lg_entry_eq]
  generalize (lg_sl ([.ref (a 11), .ref (kq k2), .int o2]) ++ List.replicate (3 - (lg_sl ([.ref (a 11), .ref (kq k2), .int o2])).length) Slot.unset).toArray = ls at hl ⊢
  have hl : lv_has ls 3 [(0, .ref (a 11)), (1, .ref (kq k2)), (2, .int o2)] := hl
  refine lv_aload_n hx hb dX6_beginAnew_0 rfl (lv_at hl 0 rfl) ?_
  refine va_get (D := D) (ci := 4) (v := .ref (a 0)) (C := RX6) (T := TX6) (N := 4) hx hb hts inX6 hown hKN.1 hP 4 rfl rfl 0 (by decide) (hts (.fieldLink RX6 14 "TreeFamily$OneMap" "tree" "LTreeFamily$Tree;") (by decide +kernel)) (fun _ h9 => h9) rfl dX6_beginAnew_1 ?_
  refine lv_aload_n hx hb dX6_beginAnew_4 rfl (lv_at hl 1 rfl) ?_
  refine lv_iload_n hx hb dX6_beginAnew_5 rfl (lv_at hl 2 rfl) ?_
  refine xc_v (wr := (wKd kq) ++ (wMo a ch) ++ (wRg a (h1, h2, f1, f2)) ++ (wWk a (on, bk, gv, kn, ws9, we9, wp9))) (va_runV (As := [.ref (kq k2), .int o2]) (rest := []) ⟨hx, hb, hml, hown, hts⟩ (c_X8_clear l D ca kq a _ ky vl lf rt ct ht tt sp pa ro ss dp rn od kd k2 o2 hlf hrt hsp hpa hro hrn) (cwV 2 hts gX6_beginAnew_X8_clear rfl rfl rfl (by decide +kernel) ⟨(Nat.le_of_ble_eq_true rfl), (Nat.le_of_ble_eq_true rfl)⟩) (xPreV hKN hP hD [7, 8, 9, 10, 11, 12, 13, 14, 15, 16, 17] (by decide) rfl (q0 := 7) rfl rfl rfl) rfl rfl hl.1 rfl (lv_room (Nat.le_of_ble_eq_true rfl)) dX6_beginAnew_6 ⟨(Nat.le_of_ble_eq_true rfl), (Nat.le_of_ble_eq_true rfl)⟩) hP hD hS hA [7, 8, 9, 10, 11, 12, 13, 14, 15, 16, 17] [0, 1, 2, 3, 4, 5, 6] rfl rfl (by decide) (by decide) (fun u6 H locs hu6 hP hD hS => ?_)
  have hP : va_P D vwCl ((wKd kq) ++ (wMo a ch) ++ (wRg a (h1, h2, f1, f2)) ++ (wWk a (on, bk, gv, kn, ws9, we9, wp9)) ++ (wT ca kq a u6)) H := hP
  have hD : va_D A ((wKd kq) ++ (wMo a ch) ++ (wRg a (h1, h2, f1, f2)) ++ (wWk a (on, bk, gv, kn, ws9, we9, wp9)) ++ (wT ca kq a u6)) := hD
  refine lv_aload_n hx hb dX6_beginAnew_9 rfl (lv_at hl 0 rfl) ?_
  refine va_get (D := D) (ci := 4) (v := .ref (a 12)) (C := RX6) (T := TX6) (N := 4) hx hb hts inX6 hown hKN.1 hP 4 rfl rfl 1 (by decide) (hts (.fieldLink RX6 23 "TreeFamily$OneMap" "range" "LTreeFamily$Range;") (by decide +kernel)) (fun _ h9 => h9) rfl dX6_beginAnew_10 ?_
  refine lv_iconst (v := 0) hx hb dX6_beginAnew_13 (by decide) ?_
  refine va_putN (D := D) (ci := 5) (v := .int 0) (ty := .boolean) (C := RX7) (T := TX7) (N := 4) hx hb hts inX7 tyX7 tyX7_ok nmX7 hown hKN.1 hP hD hS 5 rfl rfl 0 (by decide) (va_Nw.use rfl (NW.f hKN.2 (a := RX6) (i := 42) (b := "TreeFamily$Range") (n := "hasFirst") (d := "Z") (g := "TreeFamily") (by decide +kernel))) (fun _ h9 => h9) rfl (by decide +kernel) rfl rfl (Nat.le_of_ble_eq_true rfl) dX6_beginAnew_14 (fun H locs hP hD hS => ?_)
  have hP : va_P D vwCl ((wKd kq) ++ (wMo a ch) ++ (wRg a (false, h2, f1, f2)) ++ (wWk a (on, bk, gv, kn, ws9, we9, wp9)) ++ (wT ca kq a u6)) H := hP
  have hD : va_D A ((wKd kq) ++ (wMo a ch) ++ (wRg a (false, h2, f1, f2)) ++ (wWk a (on, bk, gv, kn, ws9, we9, wp9)) ++ (wT ca kq a u6)) := hD
  refine lv_aload_n hx hb dX6_beginAnew_17 rfl (lv_at hl 0 rfl) ?_
  refine va_get (D := D) (ci := 4) (v := .ref (a 12)) (C := RX6) (T := TX6) (N := 4) hx hb hts inX6 hown hKN.1 hP 4 rfl rfl 1 (by decide) (hts (.fieldLink RX6 23 "TreeFamily$OneMap" "range" "LTreeFamily$Range;") (by decide +kernel)) (fun _ h9 => h9) rfl dX6_beginAnew_18 ?_
  refine lv_iconst (v := 0) hx hb dX6_beginAnew_21 (by decide) ?_
  refine va_putN (D := D) (ci := 5) (v := .int 0) (ty := .boolean) (C := RX7) (T := TX7) (N := 4) hx hb hts inX7 tyX7 tyX7_ok nmX7 hown hKN.1 hP hD hS 5 rfl rfl 1 (by decide) (va_Nw.use rfl (NW.f hKN.2 (a := RX6) (i := 46) (b := "TreeFamily$Range") (n := "hasSecond") (d := "Z") (g := "TreeFamily") (by decide +kernel))) (fun _ h9 => h9) rfl (by decide +kernel) rfl rfl (Nat.le_of_ble_eq_true rfl) dX6_beginAnew_22 (fun H locs hP hD hS => ?_)
  have hP : va_P D vwCl ((wKd kq) ++ (wMo a ch) ++ (wRg a (false, false, f1, f2)) ++ (wWk a (on, bk, gv, kn, ws9, we9, wp9)) ++ (wT ca kq a u6)) H := hP
  have hD : va_D A ((wKd kq) ++ (wMo a ch) ++ (wRg a (false, false, f1, f2)) ++ (wWk a (on, bk, gv, kn, ws9, we9, wp9)) ++ (wT ca kq a u6)) := hD
  refine lv_aload_n hx hb dX6_beginAnew_25 rfl (lv_at hl 0 rfl) ?_
  refine va_get (D := D) (ci := 4) (v := .ref (a 13)) (C := RX6) (T := TX6) (N := 4) hx hb hts inX6 hown hKN.1 hP 4 rfl rfl 2 (by decide) (hts (.fieldLink RX6 30 "TreeFamily$OneMap" "walk" "LTreeFamily$Walk;") (by decide +kernel)) (fun _ h9 => h9) rfl dX6_beginAnew_26 ?_
  refine lv_iconst (v := 0) hx hb dX6_beginAnew_29 (by decide) ?_
  refine va_putN (D := D) (ci := 7) (v := .int 0) (ty := .boolean) (C := RX9) (T := TX9) (N := 7) hx hb hts inX9 tyX9 tyX9_ok nmX9 hown hKN.1 hP hD hS 6 rfl rfl 0 (by decide) (va_Nw.use rfl (NW.f hKN.2 (a := RX6) (i := 49) (b := "TreeFamily$Walk") (n := "isOn") (d := "Z") (g := "TreeFamily") (by decide +kernel))) (fun _ h9 => h9) rfl (by decide +kernel) rfl rfl (Nat.le_of_ble_eq_true rfl) dX6_beginAnew_30 (fun H locs hP hD hS => ?_)
  have hP : va_P D vwCl ((wKd kq) ++ (wMo a ch) ++ (wRg a (false, false, f1, f2)) ++ (wWk a (false, bk, gv, kn, ws9, we9, wp9)) ++ (wT ca kq a u6)) H := hP
  have hD : va_D A ((wKd kq) ++ (wMo a ch) ++ (wRg a (false, false, f1, f2)) ++ (wWk a (false, bk, gv, kn, ws9, we9, wp9)) ++ (wT ca kq a u6)) := hD
  refine lv_aload_n hx hb dX6_beginAnew_33 rfl (lv_at hl 0 rfl) ?_
  refine lv_dup hx hb dX6_beginAnew_34 rfl ?_
  refine va_get (D := D) (ci := 4) (v := .int ch) (C := RX6) (T := TX6) (N := 4) hx hb hts inX6 hown hKN.1 hP 4 rfl rfl 3 (by decide) (hts (.fieldLink RX6 34 "TreeFamily$OneMap" "changes" "I") (by decide +kernel)) (fun _ h9 => h9) rfl dX6_beginAnew_35 ?_
  refine lv_iconst (v := 1) hx hb dX6_beginAnew_38 (by decide) ?_
  refine lv_iadd hx hb dX6_beginAnew_39 ?_
  refine va_put (D := D) (ci := 4) (v := .int (ch + 1)) (ty := .int) (C := RX6) (T := TX6) (N := 4) hx hb hts inX6 tyX6 tyX6_ok nmX6 hown hKN.1 hP hD hS 4 rfl rfl 3 (by decide) (hts (.fieldLink RX6 34 "TreeFamily$OneMap" "changes" "I") (by decide +kernel)) (fun _ h9 => h9) rfl (by decide +kernel) rfl rfl (Nat.le_of_ble_eq_true rfl) dX6_beginAnew_40 (fun H locs hP hD hS => ?_)
  have hP : va_P D vwCl ((wKd kq) ++ (wMo a (ch + 1)) ++ (wRg a (false, false, f1, f2)) ++ (wWk a (false, bk, gv, kn, ws9, we9, wp9)) ++ (wT ca kq a u6)) H := hP
  have hD : va_D A ((wKd kq) ++ (wMo a (ch + 1)) ++ (wRg a (false, false, f1, f2)) ++ (wWk a (false, bk, gv, kn, ws9, we9, wp9)) ++ (wT ca kq a u6)) := hD
  exact W.vret hx hb hr (fun t9 e9 w9 => ⟨⟨(u6, (false, false, f1, f2), (false, bk, gv, kn, ws9, we9, wp9), (ch + 1)), rfl, by rw [hu6], by rw [e9]; exact hP, hD⟩, hS.F e9⟩) hS.2.2 dX6_beginAnew_43

-- OneMap.takeOut
set_option maxHeartbeats 4000000 in
set_option maxRecDepth 100000 in
theorem c_X6_takeOut (l : Launch) (D : va_G) (ca : Nat → ClassId) (kq a : Nat → Nat) (sz : Nat) (ky vl : Nat → Int32) (lf rt : Nat → Nat) (ct ht : Nat → Int32) (tt : Nat → Int64) (sp pa ro : Nat → Nat) (ss dp rn : Nat) (od : Int32) (kd : Nat) (h1 h2 : Bool) (f1 f2 : Int32) (on bk gv : Bool) (kn ws9 we9 wp9 : Int32) (ch : Int32) (key : Int32) (hlf : ∀ k, lf k ≤ 60) (hrt : ∀ k, rt k ≤ 60) (hsp : ∀ k, sp k ≤ 60) (hpa : ∀ k, pa k ≤ 60) (hro : ∀ k, ro k ≤ 60) (hrn : rn ≤ 60) (hkd : kd < 4) (hok : okDelete (ky, vl, lf, rt, ct, ht, tt, sp, pa, ro, ss, dp, rn, od, kd) key): Met l yX6_takeOut wsX6_takeOut ({ frames := 66, cells := 0, slots := 0, locals := 1637 } : Room) (xPc D (TY ca) [.ref (a 11), .int key] ((wKd kq) ++ (wMo a ch) ++ (wRg a (h1, h2, f1, f2)) ++ (wWk a (on, bk, gv, kn, ws9, we9, wp9)) ++ (wT ca kq a (ky, vl, lf, rt, ct, ht, tt, sp, pa, ro, ss, dp, rn, od, kd))) sz) (va_Qi (fun (r : Int32) (u : MS) => r = bI (f_delete (ky, vl, lf, rt, ct, ht, tt, sp, pa, ro, ss, dp, rn, od, kd) key).1 ∧ u = ((f_delete (ky, vl, lf, rt, ct, ht, tt, sp, pa, ro, ss, dp, rn, od, kd) key).2, (h1, h2, f1, f2), (on, bk, gv, kn, ws9, we9, wp9), if (f_delete (ky, vl, lf, rt, ct, ht, tt, sp, pa, ro, ss, dp, rn, od, kd) key).1 = true then ch + 1 else ch)) (xB D (wM ca kq a) (va_A ((wKd kq) ++ (wMo a ch) ++ (wRg a (h1, h2, f1, f2)) ++ (wWk a (on, bk, gv, kn, ws9, we9, wp9)) ++ (wT ca kq a (ky, vl, lf, rt, ct, ht, tt, sp, pa, ro, ss, dp, rn, od, kd))) sz)) (va_A ((wKd kq) ++ (wMo a ch) ++ (wRg a (h1, h2, f1, f2)) ++ (wWk a (on, bk, gv, kn, ws9, we9, wp9)) ++ (wT ca kq a (ky, vl, lf, rt, ct, ht, tt, sp, pa, ro, ss, dp, rn, od, kd))) sz)) 0 0 (va_A ((wKd kq) ++ (wMo a ch) ++ (wRg a (h1, h2, f1, f2)) ++ (wWk a (on, bk, gv, kn, ws9, we9, wp9)) ++ (wT ca kq a (ky, vl, lf, rt, ct, ht, tt, sp, pa, ro, ss, dp, rn, od, kd))) sz) := by
  refine Met.ofW (cc := cX6_takeOut) (maxL := 3) (ret := (some .boolean)) (by decide) rfl ?_
  intro p e s m args below meth c s₁ B hml hv
  obtain ⟨rfl, hsz, hP, hKN, hD0⟩ := hv
  have hx := B.exec
  have hb := B.bytes
  have hr := B.returns
  have hts := atoms_spec (ws := wsX6_takeOut) B.pre
  have hown : s.vm.findClass RX6 = some m.cls := findClass_of_methodNamed B.named
  have hlocks := B.notSynchronized
  have inX6 : ∀ w ∈ wsX60, w ∈ wsX6_takeOut := by decide +kernel
  subst hsz
  have hD := hD0.self (sz := s.heap.size)
  generalize hAe : va_A ((wKd kq) ++ (wMo a ch) ++ (wRg a (h1, h2, f1, f2)) ++ (wWk a (on, bk, gv, kn, ws9, we9, wp9)) ++ (wT ca kq a (ky, vl, lf, rt, ct, ht, tt, sp, pa, ro, ss, dp, rn, od, kd))) s.heap.size = A at hD ⊢
  have hA : ∀ q : Nat, s.heap.size ≤ q → A q := fun q h => by rw [← hAe]; exact Or.inr h
  have hS : va_S A s.heap s.heap [] := va_S.rf
  have hl := lv_entry ([.ref (a 11), .int key]) (n := 3) (Nat.le_of_ble_eq_true rfl)
  rw [lg_entry_eq]
  generalize (lg_sl ([.ref (a 11), .int key]) ++ List.replicate (3 - (lg_sl ([.ref (a 11), .int key])).length) Slot.unset).toArray = ls at hl ⊢
  have hl : lv_has ls 3 [(0, .ref (a 11)), (1, .int key)] := hl
  refine lv_aload_n hx hb dX6_takeOut_0 rfl (lv_at hl 0 rfl) ?_
  refine va_get (D := D) (ci := 4) (v := .ref (a 0)) (C := RX6) (T := TX6) (N := 4) hx hb hts inX6 hown hKN.1 hP 4 rfl rfl 0 (by decide) (hts (.fieldLink RX6 14 "TreeFamily$OneMap" "tree" "LTreeFamily$Tree;") (by decide +kernel)) (fun _ h9 => h9) rfl dX6_takeOut_1 ?_
  refine lv_iload_n hx hb dX6_takeOut_4 rfl (lv_at hl 1 rfl) ?_
  refine xc_i (wr := (wMo a ch) ++ (wRg a (h1, h2, f1, f2)) ++ (wWk a (on, bk, gv, kn, ws9, we9, wp9))) (va_runV (As := [.int key]) (rest := []) ⟨hx, hb, hml, hown, hts⟩ (c_X8_delete l D ca kq a _ ky vl lf rt ct ht tt sp pa ro ss dp rn od kd key hlf hrt hsp hpa hro hrn hkd hok) (cwV 1 hts gX6_takeOut_X8_delete rfl rfl rfl (by decide +kernel) ⟨(Nat.le_of_ble_eq_true rfl), (Nat.le_of_ble_eq_true rfl)⟩) (xPreV hKN hP hD [0, 1, 2, 3, 7, 8, 9, 10, 11, 12, 13, 14, 15, 16, 17] (by decide) rfl (q0 := 7) rfl rfl rfl) rfl rfl hl.1 rfl (lv_room (Nat.le_of_ble_eq_true rfl)) dX6_takeOut_5 ⟨(Nat.le_of_ble_eq_true rfl), (Nat.le_of_ble_eq_true rfl)⟩) hP hD hS hA [0, 1, 2, 3, 7, 8, 9, 10, 11, 12, 13, 14, 15, 16, 17] [4, 5, 6] rfl rfl (by decide) (by decide) (fun r5 u5 H locs hu5 hP hD hS => ?_)
  obtain ⟨er5, eu5⟩ := hu5
  subst er5
  have hP : va_P D vwCl ((wKd kq) ++ (wMo a ch) ++ (wRg a (h1, h2, f1, f2)) ++ (wWk a (on, bk, gv, kn, ws9, we9, wp9)) ++ (wT ca kq a u5)) H := hP.sub (ws' := (wKd kq) ++ (wMo a ch) ++ (wRg a (h1, h2, f1, f2)) ++ (wWk a (on, bk, gv, kn, ws9, we9, wp9)) ++ (wT ca kq a u5)) [3, 4, 5, 6, 0, 1, 2, 7, 8, 9, 10, 11, 12, 13, 14, 15, 16, 17] rfl
  have hD : va_D A ((wKd kq) ++ (wMo a ch) ++ (wRg a (h1, h2, f1, f2)) ++ (wWk a (on, bk, gv, kn, ws9, we9, wp9)) ++ (wT ca kq a u5)) := hD.sub (ws' := (wKd kq) ++ (wMo a ch) ++ (wRg a (h1, h2, f1, f2)) ++ (wWk a (on, bk, gv, kn, ws9, we9, wp9)) ++ (wT ca kq a u5)) [3, 4, 5, 6, 0, 1, 2, 7, 8, 9, 10, 11, 12, 13, 14, 15, 16, 17] (by decide) rfl
  refine lv_istore_n (lv' := [(2, .int (bI (f_delete (ky, vl, lf, rt, ct, ht, tt, sp, pa, ro, ss, dp, rn, od, kd) key).1)), (0, .ref (a 11)), (1, .int key)]) hx hb dX6_takeOut_8 rfl hl (by decide) rfl (fun ls hl => ?_)
  refine lv_iload_n hx hb dX6_takeOut_9 rfl (lv_at hl 0 rfl) ?_
  refine lv_if_eq (tgt := 23) hx hb dX6_takeOut_10 (by decide) (fun c10 => ?_) (fun c10 => ?_)
  · skip
    have c10 := bI_0.mp c10
    refine lv_iload_n hx hb dX6_takeOut_23 rfl (lv_at hl 0 rfl) ?_
    exact W.zret (v := (bI (f_delete (ky, vl, lf, rt, ct, ht, tt, sp, pa, ro, ss, dp, rn, od, kd) key).1)) hx hb hr (bI_nar _) (fun t9 e9 w9 => ⟨⟨_, (u5, (h1, h2, f1, f2), (on, bk, gv, kn, ws9, we9, wp9), ch), rfl, ⟨rfl, by rw [eu5]; first | rw [if_pos c10] | rw [if_neg (by rw [c10]; decide)]⟩, by rw [e9]; exact hP, hD⟩, hS.F e9⟩) hS.2.2 dX6_takeOut_24
  · skip
    have c10 := bI_ne.mp c10
    refine lv_aload_n hx hb dX6_takeOut_13 rfl (lv_at hl 1 rfl) ?_
    refine lv_dup hx hb dX6_takeOut_14 rfl ?_
    refine va_get (D := D) (ci := 4) (v := .int ch) (C := RX6) (T := TX6) (N := 4) hx hb hts inX6 hown hKN.1 hP 4 rfl rfl 3 (by decide) (hts (.fieldLink RX6 34 "TreeFamily$OneMap" "changes" "I") (by decide +kernel)) (fun _ h9 => h9) rfl dX6_takeOut_15 ?_
    refine lv_iconst (v := 1) hx hb dX6_takeOut_18 (by decide) ?_
    refine lv_iadd hx hb dX6_takeOut_19 ?_
    refine va_put (D := D) (ci := 4) (v := .int (ch + 1)) (ty := .int) (C := RX6) (T := TX6) (N := 4) hx hb hts inX6 tyX6 tyX6_ok nmX6 hown hKN.1 hP hD hS 4 rfl rfl 3 (by decide) (hts (.fieldLink RX6 34 "TreeFamily$OneMap" "changes" "I") (by decide +kernel)) (fun _ h9 => h9) rfl (by decide +kernel) rfl rfl (Nat.le_of_ble_eq_true rfl) dX6_takeOut_20 (fun H locs hP hD hS => ?_)
    have hP : va_P D vwCl ((wKd kq) ++ (wMo a (ch + 1)) ++ (wRg a (h1, h2, f1, f2)) ++ (wWk a (on, bk, gv, kn, ws9, we9, wp9)) ++ (wT ca kq a u5)) H := hP
    have hD : va_D A ((wKd kq) ++ (wMo a (ch + 1)) ++ (wRg a (h1, h2, f1, f2)) ++ (wWk a (on, bk, gv, kn, ws9, we9, wp9)) ++ (wT ca kq a u5)) := hD
    refine lv_iload_n hx hb dX6_takeOut_23 rfl (lv_at hl 0 rfl) ?_
    exact W.zret (v := (bI (f_delete (ky, vl, lf, rt, ct, ht, tt, sp, pa, ro, ss, dp, rn, od, kd) key).1)) hx hb hr (bI_nar _) (fun t9 e9 w9 => ⟨⟨_, (u5, (h1, h2, f1, f2), (on, bk, gv, kn, ws9, we9, wp9), (ch + 1)), rfl, ⟨rfl, by rw [eu5]; first | rw [if_pos c10] | rw [if_neg (by rw [c10]; decide)]⟩, by rw [e9]; exact hP, hD⟩, hS.F e9⟩) hS.2.2 dX6_takeOut_24
