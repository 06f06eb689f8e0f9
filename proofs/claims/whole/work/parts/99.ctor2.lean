-- TreeFamily$OneMap.init
set_option maxHeartbeats 4000000 in
set_option maxRecDepth 100000 in
theorem c_X6_init (l : Launch) (D : va_G) (ca : Nat → ClassId) (kq : Nat → Nat) (sz : Nat) (b0 k2 : Nat)  : Met l yX6_init wsX6_init ({ frames := 3, cells := 13, slots := 634, locals := 44 } : Room) (xPc D (TY ca) [.ref b0, .ref (kq k2)] ([(b0, .inr (4, [.null, .null, .null, .int 0]))]) sz) (va_Qv (fun u : (Nat → Nat) × MS => u.1 11 = b0 ∧ u.2 = (f_clear zT k2 0, (false, false, 0, 0), (false, false, false, 0, 0, 0, 0), 0)) (xB D (fun u => wMp ca kq u.1 u.2) (va_A ([(b0, .inr (4, [.null, .null, .null, .int 0]))]) sz)) (va_A ([(b0, .inr (4, [.null, .null, .null, .int 0]))]) sz)) 13 634 (va_A ([(b0, .inr (4, [.null, .null, .null, .int 0]))]) sz) := by
  refine Met.ofW (cc := cX6_init) (maxL := 2) (ret := none) (by decide) rfl ?_
  intro p e s m args below meth c s₁ B hml hv
  obtain ⟨rfl, hsz, hP, hKN, hD0⟩ := hv
  have hx := B.exec
  have hb := B.bytes
  have hr := B.returns
  have hts := atoms_spec (ws := wsX6_init) B.pre
  have hown : s.vm.findClass RX6 = some m.cls := findClass_of_methodNamed B.named
  have hin9 : meth.name = "<init>" := (name_of_methodNamed B.named B.method).1
  have hlocks := B.notSynchronized
  have inX6 : ∀ w ∈ wsX60, w ∈ wsX6_init := by decide +kernel
  have inX7 : ∀ w ∈ wsX70, w ∈ wsX6_init := by decide +kernel
  have inX8 : ∀ w ∈ wsX80, w ∈ wsX6_init := by decide +kernel
  have inX9 : ∀ w ∈ wsX90, w ∈ wsX6_init := by decide +kernel
  subst hsz
  have hD := hD0.self (sz := s.heap.size)
  generalize hAe : va_A ([(b0, .inr (4, [.null, .null, .null, .int 0]))]) s.heap.size = A at hD ⊢
  have hA : ∀ q : Nat, s.heap.size ≤ q → A q := fun q h => by rw [← hAe]; exact Or.inr h
  have hS : va_S A s.heap s.heap [] := va_S.rf
  have hl := lv_entry ([.ref b0, .ref (kq k2)]) (n := 2) (Nat.le_of_ble_eq_true rfl)
  rw [lg_entry_eq]
  generalize (lg_sl ([.ref b0, .ref (kq k2)]) ++ List.replicate (2 - (lg_sl ([.ref b0, .ref (kq k2)])).length) Slot.unset).toArray = ls at hl ⊢
  have hl : lv_has ls 2 [(0, .ref b0), (1, .ref (kq k2))] := hl
  refine lv_aload_n hx hb dX6_init_0 rfl (lv_at hl 0 rfl) ?_
  refine W.objInit hx hb hown (hts (.methodLink RX6 3 objectInit) (by decide +kernel)) (hts (.instanceMethod objectInit) (by decide +kernel)) (hts (.code objectInit ⟨#[0xb1]⟩ 1 none) (by decide +kernel)) rfl (by rw [hml]; exact hl.1) rfl dX6_init_1 (Nat.le_of_ble_eq_true rfl) (Nat.le_of_ble_eq_true rfl) ?_
  refine lv_aload_n hx hb dX6_init_4 rfl (lv_at hl 0 rfl) ?_
  refine va_new (ci := 6) (fs := [.null, .null, .null, .null, .null, .null, .null, .null, .null, .null, .int 0, .int 0, .int 0, .int 0, .null]) (C := RX8) (T := TX8) (N := 15) hx hb hts inX8 tyX8 tyX8_ok hown (hts (.classLink RX6 9 RX8) (by decide +kernel)) (hts (.instantiable RX8 15) (by decide +kernel)) (hts (.initialized RX8) (by decide +kernel)) hKN.1 hP hD hS hA rfl (xfs rfl) (Nat.le_of_ble_eq_true rfl) (Nat.le_of_ble_eq_true rfl) dX6_init_5 (fun q5 H hP hD hS => ?_)
  have hP : va_P D vwCl ([(b0, .inr (4, [.null, .null, .null, .int 0])), (q5, .inr (6, [.null, .null, .null, .null, .null, .null, .null, .null, .null, .null, .int 0, .int 0, .int 0, .int 0, .null]))]) H := hP
  have hD : va_D A ([(b0, .inr (4, [.null, .null, .null, .int 0])), (q5, .inr (6, [.null, .null, .null, .null, .null, .null, .null, .null, .null, .null, .int 0, .int 0, .int 0, .int 0, .null]))]) := hD
  refine lv_dup hx hb dX6_init_8 rfl ?_
  refine lv_aload_n hx hb dX6_init_9 rfl (lv_at hl 1 rfl) ?_
  refine xc_v (wr := [(b0, .inr (4, [.null, .null, .null, .int 0]))]) (va_runI (As := [.ref (kq k2)]) (rest := [.ref q5, .ref b0]) ⟨hx, hb, hml, hown, hts⟩ (c_X8_init l D ca kq _ q5 k2) (cwI 1 hts gX6_init_X8_init rfl rfl rfl (hts (.initialized yX8_init.cls) (by decide +kernel)) (hts (.methodLink RX6 11 yX8_init) (by decide +kernel)) (hts (.instanceMethod yX8_init) (by decide +kernel)) rfl (by decide +kernel) ⟨(Nat.le_of_ble_eq_true rfl), (Nat.le_of_ble_eq_true rfl)⟩) (xPreS hKN hP hD [1] (by decide) rfl) rfl rfl hl.1 rfl (lv_room (Nat.le_of_ble_eq_true rfl)) dX6_init_10 ⟨(Nat.le_of_ble_eq_true rfl), (Nat.le_of_ble_eq_true rfl)⟩) hP hD hS hA [1] [0] rfl rfl (by decide) (by decide) (fun u10 H locs hu10 hP hD hS => ?_)
  have hP : va_P D vwCl ([(b0, .inr (4, [.null, .null, .null, .int 0]))] ++ (wT ca kq u10.1 u10.2)) H := hP
  have hD : va_D A ([(b0, .inr (4, [.null, .null, .null, .int 0]))] ++ (wT ca kq u10.1 u10.2)) := hD
  obtain ⟨e0, e1⟩ := hu10
  have hPn := hP
  have hDn := hD
  have hSn := hS
  have e0 := e0.symm
  subst e0
  have hP := hPn
  have hD := hDn
  have hS := hSn
  refine va_putF (D := D) (ci := 4) (v := .ref (u10.1 0)) (ty := .object "TreeFamily$Tree") (C := RX6) (T := TX6) (N := 4) hx hb hts inX6 tyX6 tyX6_ok nmX6 hown hKN.1 hP hD hS 0 rfl rfl 0 (by decide) (hts (.fieldLink RX6 14 "TreeFamily$OneMap" "tree" "LTreeFamily$Tree;") (by decide +kernel)) (fun _ h9 => h9) rfl hin9 rfl (by decide +kernel) rfl rfl (Nat.le_of_ble_eq_true rfl) dX6_init_13 (fun H locs hP hD hS => ?_)
  have hP : va_P D vwCl ([(b0, .inr (4, [.ref (u10.1 0), .null, .null, .int 0]))] ++ (wT ca kq u10.1 u10.2)) H := hP
  have hD : va_D A ([(b0, .inr (4, [.ref (u10.1 0), .null, .null, .int 0]))] ++ (wT ca kq u10.1 u10.2)) := hD
  refine lv_aload_n hx hb dX6_init_16 rfl (lv_at hl 0 rfl) ?_
  refine va_new (ci := 5) (fs := [.int 0, .int 0, .int 0, .int 0]) (C := RX7) (T := TX7) (N := 4) hx hb hts inX7 tyX7 tyX7_ok hown (hts (.classLink RX6 20 RX7) (by decide +kernel)) (hts (.instantiable RX7 4) (by decide +kernel)) (hts (.initialized RX7) (by decide +kernel)) hKN.1 hP hD hS hA rfl (xfs rfl) (Nat.le_of_ble_eq_true rfl) (Nat.le_of_ble_eq_true rfl) dX6_init_17 (fun q17 H hP hD hS => ?_)
  have hP : va_P D vwCl ([(b0, .inr (4, [.ref (u10.1 0), .null, .null, .int 0]))] ++ (wT ca kq u10.1 u10.2) ++ [(q17, .inr (5, [.int 0, .int 0, .int 0, .int 0]))]) H := hP
  have hD : va_D A ([(b0, .inr (4, [.ref (u10.1 0), .null, .null, .int 0]))] ++ (wT ca kq u10.1 u10.2) ++ [(q17, .inr (5, [.int 0, .int 0, .int 0, .int 0]))]) := hD
  refine lv_dup hx hb dX6_init_20 rfl ?_
  refine xc_v (wr := [(b0, .inr (4, [.ref (u10.1 0), .null, .null, .int 0]))] ++ (wT ca kq u10.1 u10.2) ++ [(q17, .inr (5, [.int 0, .int 0, .int 0, .int 0]))]) (va_runIN (As := []) (rest := [.ref q17, .ref b0]) ⟨hx, hb, hml, hown, hts⟩ (c_X7_init l D ca _ q17) ⟨va_cnB 0 hts gX6_init_X7_init_n22 rfl rfl rfl (NW.m hKN.2 (a := RX6) (i := 22) (x := yX7_init) (g := "TreeFamily") (by decide +kernel)) (hts _ (List.mem_of_elem_eq_true (by decide +kernel) : Cond.initialized yX7_init.cls ∈ wsX6_init)) (by decide +kernel) ⟨(Nat.le_of_ble_eq_true rfl), (Nat.le_of_ble_eq_true rfl)⟩, rfl, hts (.instanceMethod yX7_init) (by decide +kernel)⟩ (xPreS hKN hP hD [] (by decide) rfl) rfl rfl hl.1 rfl (lv_room (Nat.le_of_ble_eq_true rfl)) dX6_init_21 ⟨(Nat.le_of_ble_eq_true rfl), (Nat.le_of_ble_eq_true rfl)⟩) hP hD hS hA [] [0, 1, 2, 3, 4, 5, 6, 7, 8, 9, 10, 11, 12] rfl rfl (by decide) (by decide) (fun u21 H locs hu21 hP hD hS => ?_)
  have hP : va_P D vwCl ([(b0, .inr (4, [.ref (u10.1 0), .null, .null, .int 0]))] ++ (wT ca kq u10.1 u10.2) ++ [(q17, .inr (5, [.int 0, .int 0, .int 0, .int 0]))]) H := hP
  have hD : va_D A ([(b0, .inr (4, [.ref (u10.1 0), .null, .null, .int 0]))] ++ (wT ca kq u10.1 u10.2) ++ [(q17, .inr (5, [.int 0, .int 0, .int 0, .int 0]))]) := hD
  refine va_putF (D := D) (ci := 4) (v := .ref q17) (ty := .object "TreeFamily$Range") (C := RX6) (T := TX6) (N := 4) hx hb hts inX6 tyX6 tyX6_ok nmX6 hown hKN.1 hP hD hS 0 rfl rfl 1 (by decide) (hts (.fieldLink RX6 23 "TreeFamily$OneMap" "range" "LTreeFamily$Range;") (by decide +kernel)) (fun _ h9 => h9) rfl hin9 rfl (by decide +kernel) rfl rfl (Nat.le_of_ble_eq_true rfl) dX6_init_24 (fun H locs hP hD hS => ?_)
  have hP : va_P D vwCl ([(b0, .inr (4, [.ref (u10.1 0), .ref q17, .null, .int 0]))] ++ (wT ca kq u10.1 u10.2) ++ [(q17, .inr (5, [.int 0, .int 0, .int 0, .int 0]))]) H := hP
  have hD : va_D A ([(b0, .inr (4, [.ref (u10.1 0), .ref q17, .null, .int 0]))] ++ (wT ca kq u10.1 u10.2) ++ [(q17, .inr (5, [.int 0, .int 0, .int 0, .int 0]))]) := hD
  refine lv_aload_n hx hb dX6_init_27 rfl (lv_at hl 0 rfl) ?_
  refine va_new (ci := 7) (fs := [.int 0, .int 0, .int 0, .int 0, .int 0, .int 0, .int 0]) (C := RX9) (T := TX9) (N := 7) hx hb hts inX9 tyX9 tyX9_ok hown (hts (.classLink RX6 27 RX9) (by decide +kernel)) (hts (.instantiable RX9 7) (by decide +kernel)) (hts (.initialized RX9) (by decide +kernel)) hKN.1 hP hD hS hA rfl (xfs rfl) (Nat.le_of_ble_eq_true rfl) (Nat.le_of_ble_eq_true rfl) dX6_init_28 (fun q28 H hP hD hS => ?_)
  have hP : va_P D vwCl ([(b0, .inr (4, [.ref (u10.1 0), .ref q17, .null, .int 0]))] ++ (wT ca kq u10.1 u10.2) ++ [(q17, .inr (5, [.int 0, .int 0, .int 0, .int 0])), (q28, .inr (7, [.int 0, .int 0, .int 0, .int 0, .int 0, .int 0, .int 0]))]) H := hP
  have hD : va_D A ([(b0, .inr (4, [.ref (u10.1 0), .ref q17, .null, .int 0]))] ++ (wT ca kq u10.1 u10.2) ++ [(q17, .inr (5, [.int 0, .int 0, .int 0, .int 0])), (q28, .inr (7, [.int 0, .int 0, .int 0, .int 0, .int 0, .int 0, .int 0]))]) := hD
  refine lv_dup hx hb dX6_init_31 rfl ?_
  refine xc_v (wr := [(b0, .inr (4, [.ref (u10.1 0), .ref q17, .null, .int 0]))] ++ (wT ca kq u10.1 u10.2) ++ [(q17, .inr (5, [.int 0, .int 0, .int 0, .int 0])), (q28, .inr (7, [.int 0, .int 0, .int 0, .int 0, .int 0, .int 0, .int 0]))]) (va_runIN (As := []) (rest := [.ref q28, .ref b0]) ⟨hx, hb, hml, hown, hts⟩ (c_X9_init l D ca _ q28) ⟨va_cnB 0 hts gX6_init_X9_init_n29 rfl rfl rfl (NW.m hKN.2 (a := RX6) (i := 29) (x := yX9_init) (g := "TreeFamily") (by decide +kernel)) (hts _ (List.mem_of_elem_eq_true (by decide +kernel) : Cond.initialized yX9_init.cls ∈ wsX6_init)) (by decide +kernel) ⟨(Nat.le_of_ble_eq_true rfl), (Nat.le_of_ble_eq_true rfl)⟩, rfl, hts (.instanceMethod yX9_init) (by decide +kernel)⟩ (xPreS hKN hP hD [] (by decide) rfl) rfl rfl hl.1 rfl (lv_room (Nat.le_of_ble_eq_true rfl)) dX6_init_32 ⟨(Nat.le_of_ble_eq_true rfl), (Nat.le_of_ble_eq_true rfl)⟩) hP hD hS hA [] [0, 1, 2, 3, 4, 5, 6, 7, 8, 9, 10, 11, 12, 13] rfl rfl (by decide) (by decide) (fun u32 H locs hu32 hP hD hS => ?_)
  have hP : va_P D vwCl ([(b0, .inr (4, [.ref (u10.1 0), .ref q17, .null, .int 0]))] ++ (wT ca kq u10.1 u10.2) ++ [(q17, .inr (5, [.int 0, .int 0, .int 0, .int 0])), (q28, .inr (7, [.int 0, .int 0, .int 0, .int 0, .int 0, .int 0, .int 0]))]) H := hP
  have hD : va_D A ([(b0, .inr (4, [.ref (u10.1 0), .ref q17, .null, .int 0]))] ++ (wT ca kq u10.1 u10.2) ++ [(q17, .inr (5, [.int 0, .int 0, .int 0, .int 0])), (q28, .inr (7, [.int 0, .int 0, .int 0, .int 0, .int 0, .int 0, .int 0]))]) := hD
  refine va_putF (D := D) (ci := 4) (v := .ref q28) (ty := .object "TreeFamily$Walk") (C := RX6) (T := TX6) (N := 4) hx hb hts inX6 tyX6 tyX6_ok nmX6 hown hKN.1 hP hD hS 0 rfl rfl 2 (by decide) (hts (.fieldLink RX6 30 "TreeFamily$OneMap" "walk" "LTreeFamily$Walk;") (by decide +kernel)) (fun _ h9 => h9) rfl hin9 rfl (by decide +kernel) rfl rfl (Nat.le_of_ble_eq_true rfl) dX6_init_35 (fun H locs hP hD hS => ?_)
  have hP : va_P D vwCl ([(b0, .inr (4, [.ref (u10.1 0), .ref q17, .ref q28, .int 0]))] ++ (wT ca kq u10.1 u10.2) ++ [(q17, .inr (5, [.int 0, .int 0, .int 0, .int 0])), (q28, .inr (7, [.int 0, .int 0, .int 0, .int 0, .int 0, .int 0, .int 0]))]) H := hP
  have hD : va_D A ([(b0, .inr (4, [.ref (u10.1 0), .ref q17, .ref q28, .int 0]))] ++ (wT ca kq u10.1 u10.2) ++ [(q17, .inr (5, [.int 0, .int 0, .int 0, .int 0])), (q28, .inr (7, [.int 0, .int 0, .int 0, .int 0, .int 0, .int 0, .int 0]))]) := hD
  refine lv_aload_n hx hb dX6_init_38 rfl (lv_at hl 0 rfl) ?_
  refine lv_iconst (v := 0) hx hb dX6_init_39 (by decide) ?_
  refine va_put (D := D) (ci := 4) (v := .int 0) (ty := .int) (C := RX6) (T := TX6) (N := 4) hx hb hts inX6 tyX6 tyX6_ok nmX6 hown hKN.1 hP hD hS 0 rfl rfl 3 (by decide) (hts (.fieldLink RX6 34 "TreeFamily$OneMap" "changes" "I") (by decide +kernel)) (fun _ h9 => h9) rfl (by decide +kernel) rfl rfl (Nat.le_of_ble_eq_true rfl) dX6_init_40 (fun H locs hP hD hS => ?_)
  have hP : va_P D vwCl ([(b0, .inr (4, [.ref (u10.1 0), .ref q17, .ref q28, .int 0]))] ++ (wT ca kq u10.1 u10.2) ++ [(q17, .inr (5, [.int 0, .int 0, .int 0, .int 0])), (q28, .inr (7, [.int 0, .int 0, .int 0, .int 0, .int 0, .int 0, .int 0]))]) H := hP
  have hD : va_D A ([(b0, .inr (4, [.ref (u10.1 0), .ref q17, .ref q28, .int 0]))] ++ (wT ca kq u10.1 u10.2) ++ [(q17, .inr (5, [.int 0, .int 0, .int 0, .int 0])), (q28, .inr (7, [.int 0, .int 0, .int 0, .int 0, .int 0, .int 0, .int 0]))]) := hD
  have hP : va_P D vwCl ([(b0, .inr (4, [.ref (u10.1 0), .ref q17, .ref q28, .int 0])), (q17, .inr (5, [.int 0, .int 0, .int 0, .int 0])), (q28, .inr (7, [.int 0, .int 0, .int 0, .int 0, .int 0, .int 0, .int 0]))] ++ (wT ca kq u10.1 u10.2)) H := hP.sub (ws' := [(b0, .inr (4, [.ref (u10.1 0), .ref q17, .ref q28, .int 0])), (q17, .inr (5, [.int 0, .int 0, .int 0, .int 0])), (q28, .inr (7, [.int 0, .int 0, .int 0, .int 0, .int 0, .int 0, .int 0]))] ++ (wT ca kq u10.1 u10.2)) [0, 12, 13, 1, 2, 3, 4, 5, 6, 7, 8, 9, 10, 11] rfl
  have hD : va_D A ([(b0, .inr (4, [.ref (u10.1 0), .ref q17, .ref q28, .int 0])), (q17, .inr (5, [.int 0, .int 0, .int 0, .int 0])), (q28, .inr (7, [.int 0, .int 0, .int 0, .int 0, .int 0, .int 0, .int 0]))] ++ (wT ca kq u10.1 u10.2)) := hD.sub (ws' := [(b0, .inr (4, [.ref (u10.1 0), .ref q17, .ref q28, .int 0])), (q17, .inr (5, [.int 0, .int 0, .int 0, .int 0])), (q28, .inr (7, [.int 0, .int 0, .int 0, .int 0, .int 0, .int 0, .int 0]))] ++ (wT ca kq u10.1 u10.2)) [0, 12, 13, 1, 2, 3, 4, 5, 6, 7, 8, 9, 10, 11] (by decide) rfl
  exact W.vret hx hb hr (fun t9 e9 w9 => ⟨⟨((fun k => if k = 11 then b0 else if k = 12 then q17 else if k = 13 then q28 else u10.1 k), (u10.2, (false, false, 0, 0), (false, false, false, 0, 0, 0, 0), 0)), rfl, ⟨rfl, by rw [e1]⟩, by rw [e9]; exact hP, hD⟩, hS.F e9⟩) hS.2.2 dX6_init_43
