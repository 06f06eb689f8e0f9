/-- the family as it is made: addresses of the head, the kinds, the maps -/
abbrev FA9 : Type := (Nat → Nat) × (Nat → Nat) × (Nat → Nat → Nat)
def xPcO (D : va_G) (tys : List (ClassId × FieldType)) (av : List Value) (w : va_W) (sz : Nat) : Array Value → State → Prop := va_Pc av (fun U => U.heap.size = sz ∧ va_P D vwCl w U.heap ∧ xK D tys U ∧ va_D (fun _ => True) w ∧ va_AO "TreeFamily$Kind" U ∧ va_AO "TreeFamily$OneMap" U)
def wF0 (ca : Nat → ClassId) (x0 x1 x2 : MS) (u : FA9) : va_W := (wX ca u.1 u.2.1 u.2.2) ++ (wKd u.2.1) ++ (wMp ca u.2.1 (u.2.2 0) x0) ++ (wMp ca u.2.1 (u.2.2 1) x1) ++ (wMp ca u.2.1 (u.2.2 2) x2)
-- TreeFamily.init
set_option maxHeartbeats 4000000 in
set_option maxRecDepth 100000 in
theorem c_X10_init (l : Launch) (D : va_G) (ca : Nat → ClassId) (sz : Nat) (f0 : Nat)  : Met l yX10_init wsX10_init ({ frames := 4, cells := 48, slots := 1921, locals := 76 } : Room) (xPcO D (TY ca) [.ref f0] ([(f0, .inr (8, [.null, .null]))]) sz) (va_Qv (fun u : FA9 => u.1 0 = f0) (xB D (wF0 ca m0 m0 m0) (va_A ([(f0, .inr (8, [.null, .null]))]) sz)) (va_A ([(f0, .inr (8, [.null, .null]))]) sz)) 48 1921 (va_A ([(f0, .inr (8, [.null, .null]))]) sz) := by
  refine Met.ofW (cc := cX10_init) (maxL := 3) (ret := none) (by decide) rfl ?_
  intro p e s m args below meth c s₁ B hml hv
  obtain ⟨rfl, hsz, hP, hKN, hD0, hAO⟩ := hv
  have hx := B.exec
  have hb := B.bytes
  have hr := B.returns
  have hts := atoms_spec (ws := wsX10_init) B.pre
  have hown : s.vm.findClass RX10 = some m.cls := findClass_of_methodNamed B.named
  have hin9 : meth.name = "<init>" := (name_of_methodNamed B.named B.method).1
  have hlocks := B.notSynchronized
  have inX0 : ∀ w ∈ wsX00, w ∈ wsX10_init := by decide +kernel
  have inX1 : ∀ w ∈ wsX10, w ∈ wsX10_init := by decide +kernel
  have inX10 : ∀ w ∈ wsX100, w ∈ wsX10_init := by decide +kernel
  have inX2 : ∀ w ∈ wsX20, w ∈ wsX10_init := by decide +kernel
  have inX4 : ∀ w ∈ wsX40, w ∈ wsX10_init := by decide +kernel
  have inX6 : ∀ w ∈ wsX60, w ∈ wsX10_init := by decide +kernel
  subst hsz
  have hD := hD0.self (sz := s.heap.size)
  generalize hAe : va_A ([(f0, .inr (8, [.null, .null]))]) s.heap.size = A at hD ⊢
  have hA : ∀ q : Nat, s.heap.size ≤ q → A q := fun q h => by rw [← hAe]; exact Or.inr h
  have hS : va_S A s.heap s.heap [] := va_S.rf
  have hl := lv_entry ([.ref f0]) (n := 3) (Nat.le_of_ble_eq_true rfl)
  rw [lg_entry_eq]
  generalize (lg_sl ([.ref f0]) ++ List.replicate (3 - (lg_sl ([.ref f0])).length) Slot.unset).toArray = ls at hl ⊢
  have hl : lv_has ls 3 [(0, .ref f0)] := hl
  refine lv_aload_n hx hb dX10_init_0 rfl (lv_at hl 0 rfl) ?_
  refine W.objInit hx hb hown (hts (.methodLink RX10 1 objectInit) (by decide +kernel)) (hts (.instanceMethod objectInit) (by decide +kernel)) (hts (.code objectInit ⟨#[0xb1]⟩ 1 none) (by decide +kernel)) rfl (by rw [hml]; exact hl.1) rfl dX10_init_1 (Nat.le_of_ble_eq_true rfl) (Nat.le_of_ble_eq_true rfl) ?_
  show W _ _ _ _ _ _ _ _ _ _ _ _ _ _ _ (F0 m (0 + 1 + 3) ls [])
  refine va_new (ci := 0) (fs := []) (C := RX0) (T := TX0) (N := 0) hx hb hts inX0 tyX0 tyX0_ok hown (hts (.classLink RX10 7 RX0) (by decide +kernel)) (hts (.instantiable RX0 0) (by decide +kernel)) (hts (.initialized RX0) (by decide +kernel)) hKN.1 hP hD hS hA rfl (xfs rfl) (Nat.le_of_ble_eq_true rfl) (Nat.le_of_ble_eq_true rfl) dX10_init_4 (fun q4 H hP hD hS => ?_)
  have hP : va_P D vwCl ([(f0, .inr (8, [.null, .null])), (q4, .inr (0, []))]) H := hP
  have hD : va_D A ([(f0, .inr (8, [.null, .null])), (q4, .inr (0, []))]) := hD
  refine lv_dup hx hb dX10_init_7 rfl ?_
  refine xc_v (wr := [(f0, .inr (8, [.null, .null])), (q4, .inr (0, []))]) (va_runIN (As := []) (rest := [.ref q4]) ⟨hx, hb, hml, hown, hts⟩ (c_X0_init l D ca _ q4) ⟨va_cnB 0 hts gX10_init_X0_init_n9 rfl rfl rfl (NW.m hKN.2 (a := RX10) (i := 9) (x := yX0_init) (g := "TreeFamily") (by decide +kernel)) (hts _ (List.mem_of_elem_eq_true (by decide +kernel) : Cond.initialized yX0_init.cls ∈ wsX10_init)) (by decide +kernel) ⟨(Nat.le_of_ble_eq_true rfl), (Nat.le_of_ble_eq_true rfl)⟩, rfl, hts (.instanceMethod yX0_init) (by decide +kernel)⟩ (xPreS hKN hP hD [] (by decide) rfl) rfl rfl hl.1 rfl (lv_room (Nat.le_of_ble_eq_true rfl)) dX10_init_8 ⟨(Nat.le_of_ble_eq_true rfl), (Nat.le_of_ble_eq_true rfl)⟩) hP hD hS hA [] [0, 1] rfl rfl (by decide) (by decide) (fun u8 H locs hu8 hP hD hS => ?_)
  have hP : va_P D vwCl ([(f0, .inr (8, [.null, .null])), (q4, .inr (0, []))]) H := hP
  have hD : va_D A ([(f0, .inr (8, [.null, .null])), (q4, .inr (0, []))]) := hD
  refine lv_astore_n (lv' := [(1, .ref q4), (0, .ref f0)]) hx hb dX10_init_11 rfl hl (by decide) rfl (fun ls hl => ?_)
  refine lv_aload_n hx hb dX10_init_12 rfl (lv_at hl 1 rfl) ?_
  refine lv_iconst (v := 4) hx hb dX10_init_13 (by decide) ?_
  refine xr_newq (C := "TreeFamily$Kind") hx hb hown (hts (.classLink RX10 10 "TreeFamily$Kind") (by decide +kernel)) (hAO.1) 3 rfl hKN.1 hP hD hS hA (n := 4) (N' := 4) (by decide +kernel) (by decide +kernel) (by decide +kernel) (Nat.le_of_ble_eq_true rfl) (Nat.le_of_ble_eq_true rfl) dX10_init_14 (fun q14 H hP hD hS => ?_)
  have hP : va_P D vwCl ([(f0, .inr (8, [.null, .null])), (q4, .inr (0, [])), (q14, .inl (ca 3, 4, .inr (.inr (.inr (.inr (fun _ => none))))))]) H := hP
  have hD : va_D A ([(f0, .inr (8, [.null, .null])), (q4, .inr (0, [])), (q14, .inl (ca 3, 4, .inr (.inr (.inr (.inr (fun _ => none))))))]) := hD
  refine lv_dup hx hb dX10_init_17 rfl ?_
  refine lv_iconst (v := 0) hx hb dX10_init_18 (by decide) ?_
  refine lv_aload_n hx hb dX10_init_19 rfl (lv_at hl 0 rfl) ?_
  refine va_astqO (E := "TreeFamily$Kind") hx hb hKN.1 hP hD hS 2 3 1 0 rfl rfl (NW.c hKN.2 (by decide +kernel)) rfl rfl (i := 0) (show vp_in 0 4 from vp_in_nI (n := 0) (by decide) (by decide)) dX10_init_20 (fun H locs hP hD hS => ?_)
  have hP : va_P D vwCl ([(f0, .inr (8, [.null, .null])), (q4, .inr (0, [])), (q14, .inl (ca 3, 4, .inr (.inr (.inr (.inr (va_up (fun _ => none) 0 (some q4)))))))]) H := hP
  have hD : va_D A ([(f0, .inr (8, [.null, .null])), (q4, .inr (0, [])), (q14, .inl (ca 3, 4, .inr (.inr (.inr (.inr (va_up (fun _ => none) 0 (some q4)))))))]) := hD
  refine lv_dup hx hb dX10_init_21 rfl ?_
  refine lv_iconst (v := 1) hx hb dX10_init_22 (by decide) ?_
  refine va_new (ci := 3) (fs := []) (C := RX4) (T := TX4) (N := 0) hx hb hts inX4 tyX4 tyX4_ok hown (hts (.classLink RX10 12 RX4) (by decide +kernel)) (hts (.instantiable RX4 0) (by decide +kernel)) (hts (.initialized RX4) (by decide +kernel)) hKN.1 hP hD hS hA rfl (xfs rfl) (Nat.le_of_ble_eq_true rfl) (Nat.le_of_ble_eq_true rfl) dX10_init_23 (fun q23 H hP hD hS => ?_)
  have hP : va_P D vwCl ([(f0, .inr (8, [.null, .null])), (q4, .inr (0, [])), (q14, .inl (ca 3, 4, .inr (.inr (.inr (.inr (va_up (fun _ => none) 0 (some q4))))))), (q23, .inr (3, []))]) H := hP
  have hD : va_D A ([(f0, .inr (8, [.null, .null])), (q4, .inr (0, [])), (q14, .inl (ca 3, 4, .inr (.inr (.inr (.inr (va_up (fun _ => none) 0 (some q4))))))), (q23, .inr (3, []))]) := hD
  refine lv_dup hx hb dX10_init_26 rfl ?_
  refine xc_v (wr := [(f0, .inr (8, [.null, .null])), (q4, .inr (0, [])), (q14, .inl (ca 3, 4, .inr (.inr (.inr (.inr (va_up (fun _ => none) 0 (some q4))))))), (q23, .inr (3, []))]) (va_runIN (As := []) (rest := [.ref q23, .int 1, .ref q14, .ref q14, .ref f0]) ⟨hx, hb, hml, hown, hts⟩ (c_X4_init l D ca _ q23) ⟨va_cnB 0 hts gX10_init_X4_init_n14 rfl rfl rfl (NW.m hKN.2 (a := RX10) (i := 14) (x := yX4_init) (g := "TreeFamily") (by decide +kernel)) (hts _ (List.mem_of_elem_eq_true (by decide +kernel) : Cond.initialized yX4_init.cls ∈ wsX10_init)) (by decide +kernel) ⟨(Nat.le_of_ble_eq_true rfl), (Nat.le_of_ble_eq_true rfl)⟩, rfl, hts (.instanceMethod yX4_init) (by decide +kernel)⟩ (xPreS hKN hP hD [] (by decide) rfl) rfl rfl hl.1 rfl (lv_room (Nat.le_of_ble_eq_true rfl)) dX10_init_27 ⟨(Nat.le_of_ble_eq_true rfl), (Nat.le_of_ble_eq_true rfl)⟩) hP hD hS hA [] [0, 1, 2, 3] rfl rfl (by decide) (by decide) (fun u27 H locs hu27 hP hD hS => ?_)
  have hP : va_P D vwCl ([(f0, .inr (8, [.null, .null])), (q4, .inr (0, [])), (q14, .inl (ca 3, 4, .inr (.inr (.inr (.inr (va_up (fun _ => none) 0 (some q4))))))), (q23, .inr (3, []))]) H := hP
  have hD : va_D A ([(f0, .inr (8, [.null, .null])), (q4, .inr (0, [])), (q14, .inl (ca 3, 4, .inr (.inr (.inr (.inr (va_up (fun _ => none) 0 (some q4))))))), (q23, .inr (3, []))]) := hD
  refine va_astqO (E := "TreeFamily$Kind") hx hb hKN.1 hP hD hS 2 3 3 3 rfl rfl (NW.c hKN.2 (by decide +kernel)) rfl rfl (i := 1) (show vp_in 1 4 from vp_in_nI (n := 1) (by decide) (by decide)) dX10_init_30 (fun H locs hP hD hS => ?_)
  have hP : va_P D vwCl ([(f0, .inr (8, [.null, .null])), (q4, .inr (0, [])), (q14, .inl (ca 3, 4, .inr (.inr (.inr (.inr (va_up (va_up (fun _ => none) 0 (some q4)) 1 (some q23))))))), (q23, .inr (3, []))]) H := hP
  have hD : va_D A ([(f0, .inr (8, [.null, .null])), (q4, .inr (0, [])), (q14, .inl (ca 3, 4, .inr (.inr (.inr (.inr (va_up (va_up (fun _ => none) 0 (some q4)) 1 (some q23))))))), (q23, .inr (3, []))]) := hD
  refine lv_dup hx hb dX10_init_31 rfl ?_
  refine lv_iconst (v := 2) hx hb dX10_init_32 (by decide) ?_
  refine va_new (ci := 1) (fs := []) (C := RX1) (T := TX1) (N := 0) hx hb hts inX1 tyX1 tyX1_ok hown (hts (.classLink RX10 15 RX1) (by decide +kernel)) (hts (.instantiable RX1 0) (by decide +kernel)) (hts (.initialized RX1) (by decide +kernel)) hKN.1 hP hD hS hA rfl (xfs rfl) (Nat.le_of_ble_eq_true rfl) (Nat.le_of_ble_eq_true rfl) dX10_init_33 (fun q33 H hP hD hS => ?_)
  have hP : va_P D vwCl ([(f0, .inr (8, [.null, .null])), (q4, .inr (0, [])), (q14, .inl (ca 3, 4, .inr (.inr (.inr (.inr (va_up (va_up (fun _ => none) 0 (some q4)) 1 (some q23))))))), (q23, .inr (3, [])), (q33, .inr (1, []))]) H := hP
  have hD : va_D A ([(f0, .inr (8, [.null, .null])), (q4, .inr (0, [])), (q14, .inl (ca 3, 4, .inr (.inr (.inr (.inr (va_up (va_up (fun _ => none) 0 (some q4)) 1 (some q23))))))), (q23, .inr (3, [])), (q33, .inr (1, []))]) := hD
  refine lv_dup hx hb dX10_init_36 rfl ?_
  refine xc_v (wr := [(f0, .inr (8, [.null, .null])), (q4, .inr (0, [])), (q14, .inl (ca 3, 4, .inr (.inr (.inr (.inr (va_up (va_up (fun _ => none) 0 (some q4)) 1 (some q23))))))), (q23, .inr (3, [])), (q33, .inr (1, []))]) (va_runIN (As := []) (rest := [.ref q33, .int 2, .ref q14, .ref q14, .ref f0]) ⟨hx, hb, hml, hown, hts⟩ (c_X1_init l D ca _ q33) ⟨va_cnB 0 hts gX10_init_X1_init_n17 rfl rfl rfl (NW.m hKN.2 (a := RX10) (i := 17) (x := yX1_init) (g := "TreeFamily") (by decide +kernel)) (hts _ (List.mem_of_elem_eq_true (by decide +kernel) : Cond.initialized yX1_init.cls ∈ wsX10_init)) (by decide +kernel) ⟨(Nat.le_of_ble_eq_true rfl), (Nat.le_of_ble_eq_true rfl)⟩, rfl, hts (.instanceMethod yX1_init) (by decide +kernel)⟩ (xPreS hKN hP hD [] (by decide) rfl) rfl rfl hl.1 rfl (lv_room (Nat.le_of_ble_eq_true rfl)) dX10_init_37 ⟨(Nat.le_of_ble_eq_true rfl), (Nat.le_of_ble_eq_true rfl)⟩) hP hD hS hA [] [0, 1, 2, 3, 4] rfl rfl (by decide) (by decide) (fun u37 H locs hu37 hP hD hS => ?_)
  have hP : va_P D vwCl ([(f0, .inr (8, [.null, .null])), (q4, .inr (0, [])), (q14, .inl (ca 3, 4, .inr (.inr (.inr (.inr (va_up (va_up (fun _ => none) 0 (some q4)) 1 (some q23))))))), (q23, .inr (3, [])), (q33, .inr (1, []))]) H := hP
  have hD : va_D A ([(f0, .inr (8, [.null, .null])), (q4, .inr (0, [])), (q14, .inl (ca 3, 4, .inr (.inr (.inr (.inr (va_up (va_up (fun _ => none) 0 (some q4)) 1 (some q23))))))), (q23, .inr (3, [])), (q33, .inr (1, []))]) := hD
  refine va_astqO (E := "TreeFamily$Kind") hx hb hKN.1 hP hD hS 2 3 4 1 rfl rfl (NW.c hKN.2 (by decide +kernel)) rfl rfl (i := 2) (show vp_in 2 4 from vp_in_nI (n := 2) (by decide) (by decide)) dX10_init_40 (fun H locs hP hD hS => ?_)
  have hP : va_P D vwCl ([(f0, .inr (8, [.null, .null])), (q4, .inr (0, [])), (q14, .inl (ca 3, 4, .inr (.inr (.inr (.inr (va_up (va_up (va_up (fun _ => none) 0 (some q4)) 1 (some q23)) 2 (some q33))))))), (q23, .inr (3, [])), (q33, .inr (1, []))]) H := hP
  have hD : va_D A ([(f0, .inr (8, [.null, .null])), (q4, .inr (0, [])), (q14, .inl (ca 3, 4, .inr (.inr (.inr (.inr (va_up (va_up (va_up (fun _ => none) 0 (some q4)) 1 (some q23)) 2 (some q33))))))), (q23, .inr (3, [])), (q33, .inr (1, []))]) := hD
  refine lv_dup hx hb dX10_init_41 rfl ?_
  refine lv_iconst (v := 3) hx hb dX10_init_42 (by decide) ?_
  refine va_new (ci := 2) (fs := []) (C := RX2) (T := TX2) (N := 0) hx hb hts inX2 tyX2 tyX2_ok hown (hts (.classLink RX10 18 RX2) (by decide +kernel)) (hts (.instantiable RX2 0) (by decide +kernel)) (hts (.initialized RX2) (by decide +kernel)) hKN.1 hP hD hS hA rfl (xfs rfl) (Nat.le_of_ble_eq_true rfl) (Nat.le_of_ble_eq_true rfl) dX10_init_43 (fun q43 H hP hD hS => ?_)
  have hP : va_P D vwCl ([(f0, .inr (8, [.null, .null])), (q4, .inr (0, [])), (q14, .inl (ca 3, 4, .inr (.inr (.inr (.inr (va_up (va_up (va_up (fun _ => none) 0 (some q4)) 1 (some q23)) 2 (some q33))))))), (q23, .inr (3, [])), (q33, .inr (1, [])), (q43, .inr (2, []))]) H := hP
  have hD : va_D A ([(f0, .inr (8, [.null, .null])), (q4, .inr (0, [])), (q14, .inl (ca 3, 4, .inr (.inr (.inr (.inr (va_up (va_up (va_up (fun _ => none) 0 (some q4)) 1 (some q23)) 2 (some q33))))))), (q23, .inr (3, [])), (q33, .inr (1, [])), (q43, .inr (2, []))]) := hD
  refine lv_dup hx hb dX10_init_46 rfl ?_
  refine xc_v (wr := [(f0, .inr (8, [.null, .null])), (q4, .inr (0, [])), (q14, .inl (ca 3, 4, .inr (.inr (.inr (.inr (va_up (va_up (va_up (fun _ => none) 0 (some q4)) 1 (some q23)) 2 (some q33))))))), (q23, .inr (3, [])), (q33, .inr (1, [])), (q43, .inr (2, []))]) (va_runIN (As := []) (rest := [.ref q43, .int 3, .ref q14, .ref q14, .ref f0]) ⟨hx, hb, hml, hown, hts⟩ (c_X2_init l D ca _ q43) ⟨va_cnB 0 hts gX10_init_X2_init_n20 rfl rfl rfl (NW.m hKN.2 (a := RX10) (i := 20) (x := yX2_init) (g := "TreeFamily") (by decide +kernel)) (hts _ (List.mem_of_elem_eq_true (by decide +kernel) : Cond.initialized yX2_init.cls ∈ wsX10_init)) (by decide +kernel) ⟨(Nat.le_of_ble_eq_true rfl), (Nat.le_of_ble_eq_true rfl)⟩, rfl, hts (.instanceMethod yX2_init) (by decide +kernel)⟩ (xPreS hKN hP hD [] (by decide) rfl) rfl rfl hl.1 rfl (lv_room (Nat.le_of_ble_eq_true rfl)) dX10_init_47 ⟨(Nat.le_of_ble_eq_true rfl), (Nat.le_of_ble_eq_true rfl)⟩) hP hD hS hA [] [0, 1, 2, 3, 4, 5] rfl rfl (by decide) (by decide) (fun u47 H locs hu47 hP hD hS => ?_)
  have hP : va_P D vwCl ([(f0, .inr (8, [.null, .null])), (q4, .inr (0, [])), (q14, .inl (ca 3, 4, .inr (.inr (.inr (.inr (va_up (va_up (va_up (fun _ => none) 0 (some q4)) 1 (some q23)) 2 (some q33))))))), (q23, .inr (3, [])), (q33, .inr (1, [])), (q43, .inr (2, []))]) H := hP
  have hD : va_D A ([(f0, .inr (8, [.null, .null])), (q4, .inr (0, [])), (q14, .inl (ca 3, 4, .inr (.inr (.inr (.inr (va_up (va_up (va_up (fun _ => none) 0 (some q4)) 1 (some q23)) 2 (some q33))))))), (q23, .inr (3, [])), (q33, .inr (1, [])), (q43, .inr (2, []))]) := hD
  refine va_astqO (E := "TreeFamily$Kind") hx hb hKN.1 hP hD hS 2 3 5 2 rfl rfl (NW.c hKN.2 (by decide +kernel)) rfl rfl (i := 3) (show vp_in 3 4 from vp_in_nI (n := 3) (by decide) (by decide)) dX10_init_50 (fun H locs hP hD hS => ?_)
  have hP : va_P D vwCl ([(f0, .inr (8, [.null, .null])), (q4, .inr (0, [])), (q14, .inl (ca 3, 4, .inr (.inr (.inr (.inr (va_up (va_up (va_up (va_up (fun _ => none) 0 (some q4)) 1 (some q23)) 2 (some q33)) 3 (some q43))))))), (q23, .inr (3, [])), (q33, .inr (1, [])), (q43, .inr (2, []))]) H := hP
  have hD : va_D A ([(f0, .inr (8, [.null, .null])), (q4, .inr (0, [])), (q14, .inl (ca 3, 4, .inr (.inr (.inr (.inr (va_up (va_up (va_up (va_up (fun _ => none) 0 (some q4)) 1 (some q23)) 2 (some q33)) 3 (some q43))))))), (q23, .inr (3, [])), (q33, .inr (1, [])), (q43, .inr (2, []))]) := hD
  refine va_putF (D := D) (ci := 8) (v := .ref q14) (ty := .array (.object "TreeFamily$Kind")) (C := RX10) (T := TX10) (N := 2) hx hb hts inX10 tyX10 tyX10_ok nmX10 hown hKN.1 hP hD hS 0 rfl rfl 0 (by decide) (hts (.fieldLink RX10 21 "TreeFamily" "kinds" "[LTreeFamily$Kind;") (by decide +kernel)) (fun _ h9 => h9) rfl hin9 rfl (by decide +kernel) rfl rfl (Nat.le_of_ble_eq_true rfl) dX10_init_51 (fun H locs hP hD hS => ?_)
  have hP : va_P D vwCl ([(f0, .inr (8, [.ref q14, .null])), (q4, .inr (0, [])), (q14, .inl (ca 3, 4, .inr (.inr (.inr (.inr (va_up (va_up (va_up (va_up (fun _ => none) 0 (some q4)) 1 (some q23)) 2 (some q33)) 3 (some q43))))))), (q23, .inr (3, [])), (q33, .inr (1, [])), (q43, .inr (2, []))]) H := hP
  have hD : va_D A ([(f0, .inr (8, [.ref q14, .null])), (q4, .inr (0, [])), (q14, .inl (ca 3, 4, .inr (.inr (.inr (.inr (va_up (va_up (va_up (va_up (fun _ => none) 0 (some q4)) 1 (some q23)) 2 (some q33)) 3 (some q43))))))), (q23, .inr (3, [])), (q33, .inr (1, [])), (q43, .inr (2, []))]) := hD
  refine lv_aload_n hx hb dX10_init_54 rfl (lv_at hl 1 rfl) ?_
  refine lv_iconst (v := 3) hx hb dX10_init_55 (by decide) ?_
  refine xr_newq (C := "TreeFamily$OneMap") hx hb hown (hts (.classLink RX10 27 "TreeFamily$OneMap") (by decide +kernel)) (hAO.2) 4 rfl hKN.1 hP hD hS hA (n := 3) (N' := 3) (by decide +kernel) (by decide +kernel) (by decide +kernel) (Nat.le_of_ble_eq_true rfl) (Nat.le_of_ble_eq_true rfl) dX10_init_56 (fun q56 H hP hD hS => ?_)
  have hP : va_P D vwCl ([(f0, .inr (8, [.ref q14, .null])), (q4, .inr (0, [])), (q14, .inl (ca 3, 4, .inr (.inr (.inr (.inr (va_up (va_up (va_up (va_up (fun _ => none) 0 (some q4)) 1 (some q23)) 2 (some q33)) 3 (some q43))))))), (q23, .inr (3, [])), (q33, .inr (1, [])), (q43, .inr (2, [])), (q56, .inl (ca 4, 3, .inr (.inr (.inr (.inr (fun _ => none))))))]) H := hP
  have hD : va_D A ([(f0, .inr (8, [.ref q14, .null])), (q4, .inr (0, [])), (q14, .inl (ca 3, 4, .inr (.inr (.inr (.inr (va_up (va_up (va_up (va_up (fun _ => none) 0 (some q4)) 1 (some q23)) 2 (some q33)) 3 (some q43))))))), (q23, .inr (3, [])), (q33, .inr (1, [])), (q43, .inr (2, [])), (q56, .inl (ca 4, 3, .inr (.inr (.inr (.inr (fun _ => none))))))]) := hD
  refine va_putF (D := D) (ci := 8) (v := .ref q56) (ty := .array (.object "TreeFamily$OneMap")) (C := RX10) (T := TX10) (N := 2) hx hb hts inX10 tyX10 tyX10_ok nmX10 hown hKN.1 hP hD hS 0 rfl rfl 1 (by decide) (hts (.fieldLink RX10 29 "TreeFamily" "maps" "[LTreeFamily$OneMap;") (by decide +kernel)) (fun _ h9 => h9) rfl hin9 rfl (by decide +kernel) rfl rfl (Nat.le_of_ble_eq_true rfl) dX10_init_59 (fun H locs hP hD hS => ?_)
  have hP : va_P D vwCl ([(f0, .inr (8, [.ref q14, .ref q56])), (q4, .inr (0, [])), (q14, .inl (ca 3, 4, .inr (.inr (.inr (.inr (va_up (va_up (va_up (va_up (fun _ => none) 0 (some q4)) 1 (some q23)) 2 (some q33)) 3 (some q43))))))), (q23, .inr (3, [])), (q33, .inr (1, [])), (q43, .inr (2, [])), (q56, .inl (ca 4, 3, .inr (.inr (.inr (.inr (fun _ => none))))))]) H := hP
  have hD : va_D A ([(f0, .inr (8, [.ref q14, .ref q56])), (q4, .inr (0, [])), (q14, .inl (ca 3, 4, .inr (.inr (.inr (.inr (va_up (va_up (va_up (va_up (fun _ => none) 0 (some q4)) 1 (some q23)) 2 (some q33)) 3 (some q43))))))), (q23, .inr (3, [])), (q33, .inr (1, [])), (q43, .inr (2, [])), (q56, .inl (ca 4, 3, .inr (.inr (.inr (.inr (fun _ => none))))))]) := hD
  refine lv_iconst (v := 0) hx hb dX10_init_62 (by decide) ?_
  refine lv_istore_n (lv' := [(2, .int 0), (1, .ref q4), (0, .ref f0)]) hx hb dX10_init_63 rfl hl (by decide) rfl (fun ls hl => ?_)
  refine lv_iload_n hx hb dX10_init_64 rfl (lv_at hl 0 rfl) ?_
  refine lv_iconst (v := 3) hx hb dX10_init_65 (by decide) ?_
  refine lv_icmp_ge (tgt := 89) hx hb dX10_init_66 (by decide) (fun c66 => ?_) (fun c66 => ?_)
  · skip
    exact absurd c66 (by decide)
  · skip
    refine lv_aload_n hx hb dX10_init_69 rfl (lv_at hl 2 rfl) ?_
    refine va_get (D := D) (ci := 8) (v := .ref q56) (C := RX10) (T := TX10) (N := 2) hx hb hts inX10 hown hKN.1 hP 0 rfl rfl 1 (by decide) (hts (.fieldLink RX10 29 "TreeFamily" "maps" "[LTreeFamily$OneMap;") (by decide +kernel)) (fun _ h9 => h9) rfl dX10_init_70 ?_
    refine lv_iload_n hx hb dX10_init_73 rfl (lv_at hl 0 rfl) ?_
    refine va_new (ci := 4) (fs := [.null, .null, .null, .int 0]) (C := RX6) (T := TX6) (N := 4) hx hb hts inX6 tyX6 tyX6_ok hown (hts (.classLink RX10 27 RX6) (by decide +kernel)) (hts (.instantiable RX6 4) (by decide +kernel)) (hts (.initialized RX6) (by decide +kernel)) hKN.1 hP hD hS hA rfl (xfs rfl) (Nat.le_of_ble_eq_true rfl) (Nat.le_of_ble_eq_true rfl) dX10_init_74 (fun q74 H hP hD hS => ?_)
    have hP : va_P D vwCl ([(f0, .inr (8, [.ref q14, .ref q56])), (q4, .inr (0, [])), (q14, .inl (ca 3, 4, .inr (.inr (.inr (.inr (va_up (va_up (va_up (va_up (fun _ => none) 0 (some q4)) 1 (some q23)) 2 (some q33)) 3 (some q43))))))), (q23, .inr (3, [])), (q33, .inr (1, [])), (q43, .inr (2, [])), (q56, .inl (ca 4, 3, .inr (.inr (.inr (.inr (fun _ => none)))))), (q74, .inr (4, [.null, .null, .null, .int 0]))]) H := hP
    have hD : va_D A ([(f0, .inr (8, [.ref q14, .ref q56])), (q4, .inr (0, [])), (q14, .inl (ca 3, 4, .inr (.inr (.inr (.inr (va_up (va_up (va_up (va_up (fun _ => none) 0 (some q4)) 1 (some q23)) 2 (some q33)) 3 (some q43))))))), (q23, .inr (3, [])), (q33, .inr (1, [])), (q43, .inr (2, [])), (q56, .inl (ca 4, 3, .inr (.inr (.inr (.inr (fun _ => none)))))), (q74, .inr (4, [.null, .null, .null, .int 0]))]) := hD
    refine lv_dup hx hb dX10_init_77 rfl ?_
    refine lv_aload_n hx hb dX10_init_78 rfl (lv_at hl 1 rfl) ?_
    refine xc_v (wr := [(f0, .inr (8, [.ref q14, .ref q56])), (q4, .inr (0, [])), (q14, .inl (ca 3, 4, .inr (.inr (.inr (.inr (va_up (va_up (va_up (va_up (fun _ => none) 0 (some q4)) 1 (some q23)) 2 (some q33)) 3 (some q43))))))), (q23, .inr (3, [])), (q33, .inr (1, [])), (q43, .inr (2, [])), (q56, .inl (ca 4, 3, .inr (.inr (.inr (.inr (fun _ => none))))))]) (va_runI (As := [.ref q4]) (rest := [.ref q74, .int 0, .ref q56]) ⟨hx, hb, hml, hown, hts⟩ (c_X6_init l D ca (adr [q4, q23, q33, q43]) _ q74 0) (cwI 1 hts gX10_init_X6_init rfl rfl rfl (hts (.initialized yX6_init.cls) (by decide +kernel)) (hts (.methodLink RX10 33 yX6_init) (by decide +kernel)) (hts (.instanceMethod yX6_init) (by decide +kernel)) rfl (by decide +kernel) ⟨(Nat.le_of_ble_eq_true rfl), (Nat.le_of_ble_eq_true rfl)⟩) (xPreS hKN hP hD [7] (by decide +kernel) rfl) rfl rfl hl.1 rfl (lv_room (Nat.le_of_ble_eq_true rfl)) dX10_init_79 ⟨(Nat.le_of_ble_eq_true rfl), (Nat.le_of_ble_eq_true rfl)⟩) hP hD hS hA [7] [0, 1, 2, 3, 4, 5, 6] rfl rfl (by decide +kernel) (by decide +kernel) (fun u79_0 H locs huu79_0 hP hD hS => ?_)
    have hP : va_P D vwCl ([(f0, .inr (8, [.ref q14, .ref q56])), (q4, .inr (0, [])), (q14, .inl (ca 3, 4, .inr (.inr (.inr (.inr (va_up (va_up (va_up (va_up (fun _ => none) 0 (some q4)) 1 (some q23)) 2 (some q33)) 3 (some q43))))))), (q23, .inr (3, [])), (q33, .inr (1, [])), (q43, .inr (2, [])), (q56, .inl (ca 4, 3, .inr (.inr (.inr (.inr (fun _ => none))))))] ++ (wMp ca (adr [q4, q23, q33, q43]) u79_0.1 u79_0.2)) H := hP
    have hD : va_D A ([(f0, .inr (8, [.ref q14, .ref q56])), (q4, .inr (0, [])), (q14, .inl (ca 3, 4, .inr (.inr (.inr (.inr (va_up (va_up (va_up (va_up (fun _ => none) 0 (some q4)) 1 (some q23)) 2 (some q33)) 3 (some q43))))))), (q23, .inr (3, [])), (q33, .inr (1, [])), (q43, .inr (2, [])), (q56, .inl (ca 4, 3, .inr (.inr (.inr (.inr (fun _ => none))))))] ++ (wMp ca (adr [q4, q23, q33, q43]) u79_0.1 u79_0.2)) := hD
    obtain ⟨a9_0, m9_0⟩ := u79_0
    obtain ⟨e9, f9⟩ := huu79_0
    have f9 : m9_0 = m0 := f9
    subst f9
    have hP : va_P D vwCl ([(f0, .inr (8, [.ref q14, .ref q56])), (q4, .inr (0, [])), (q14, .inl (ca 3, 4, .inr (.inr (.inr (.inr (va_up (va_up (va_up (va_up (fun _ => none) 0 (some q4)) 1 (some q23)) 2 (some q33)) 3 (some q43))))))), (q23, .inr (3, [])), (q33, .inr (1, [])), (q43, .inr (2, [])), (q56, .inl (ca 4, 3, .inr (.inr (.inr (.inr (fun _ => none))))))] ++ (wMp ca (adr [q4, q23, q33, q43]) a9_0 m0)) H := hP
    have hD : va_D A ([(f0, .inr (8, [.ref q14, .ref q56])), (q4, .inr (0, [])), (q14, .inl (ca 3, 4, .inr (.inr (.inr (.inr (va_up (va_up (va_up (va_up (fun _ => none) 0 (some q4)) 1 (some q23)) 2 (some q33)) 3 (some q43))))))), (q23, .inr (3, [])), (q33, .inr (1, [])), (q43, .inr (2, [])), (q56, .inl (ca 4, 3, .inr (.inr (.inr (.inr (fun _ => none))))))] ++ (wMp ca (adr [q4, q23, q33, q43]) a9_0 m0)) := hD
    have e9 : q74 = a9_0 11 := e9.symm
    have hPn := hP
    have hDn := hD
    have hSn := hS
    subst e9
    have hP := hPn
    have hD := hDn
    have hS := hSn
    refine va_astq hx hb hKN.1 hP hD hS 6 4 7 4 (r := (RX6, TX6, 4)) (v := a9_0 11) rfl rfl rfl rfl (i := 0) (show vp_in 0 3 from vp_in_nI (n := 0) (by decide) (by decide)) dX10_init_82 (fun H locs hP hD hS => ?_)
    have hP : va_P D vwCl ([(f0, .inr (8, [.ref q14, .ref q56])), (q4, .inr (0, [])), (q14, .inl (ca 3, 4, .inr (.inr (.inr (.inr (va_up (va_up (va_up (va_up (fun _ => none) 0 (some q4)) 1 (some q23)) 2 (some q33)) 3 (some q43))))))), (q23, .inr (3, [])), (q33, .inr (1, [])), (q43, .inr (2, [])), (q56, .inl (ca 4, 3, .inr (.inr (.inr (.inr (va_up (fun _ => none) 0 (some (a9_0 11))))))))] ++ (wMp ca (adr [q4, q23, q33, q43]) a9_0 m0)) H := hP
    have hD : va_D A ([(f0, .inr (8, [.ref q14, .ref q56])), (q4, .inr (0, [])), (q14, .inl (ca 3, 4, .inr (.inr (.inr (.inr (va_up (va_up (va_up (va_up (fun _ => none) 0 (some q4)) 1 (some q23)) 2 (some q33)) 3 (some q43))))))), (q23, .inr (3, [])), (q33, .inr (1, [])), (q43, .inr (2, [])), (q56, .inl (ca 4, 3, .inr (.inr (.inr (.inr (va_up (fun _ => none) 0 (some (a9_0 11))))))))] ++ (wMp ca (adr [q4, q23, q33, q43]) a9_0 m0)) := hD
    refine lv_iinc (v := 1) (lv' := [(2, .int 1), (1, .ref q4), (0, .ref f0)]) hx hb dX10_init_83 hl (k := 0) rfl rfl (by decide) rfl (fun ls hl => ?_)
    refine lv_goto (tgt := 64) hx hb dX10_init_86 (by decide) ?_
    refine lv_iload_n hx hb dX10_init_64 rfl (lv_at hl 0 rfl) ?_
    refine lv_iconst (v := 3) hx hb dX10_init_65 (by decide) ?_
    refine lv_icmp_ge (tgt := 89) hx hb dX10_init_66 (by decide) (fun c66 => ?_) (fun c66 => ?_)
    · skip
      exact absurd c66 (by decide)
    · skip
      refine lv_aload_n hx hb dX10_init_69 rfl (lv_at hl 2 rfl) ?_
      refine va_get (D := D) (ci := 8) (v := .ref q56) (C := RX10) (T := TX10) (N := 2) hx hb hts inX10 hown hKN.1 hP 0 rfl rfl 1 (by decide) (hts (.fieldLink RX10 29 "TreeFamily" "maps" "[LTreeFamily$OneMap;") (by decide +kernel)) (fun _ h9 => h9) rfl dX10_init_70 ?_
      refine lv_iload_n hx hb dX10_init_73 rfl (lv_at hl 0 rfl) ?_
      refine va_new (ci := 4) (fs := [.null, .null, .null, .int 0]) (C := RX6) (T := TX6) (N := 4) hx hb hts inX6 tyX6 tyX6_ok hown (hts (.classLink RX10 27 RX6) (by decide +kernel)) (hts (.instantiable RX6 4) (by decide +kernel)) (hts (.initialized RX6) (by decide +kernel)) hKN.1 hP hD hS hA rfl (xfs rfl) (Nat.le_of_ble_eq_true rfl) (Nat.le_of_ble_eq_true rfl) dX10_init_74 (fun q74_1 H hP hD hS => ?_)
      have hP : va_P D vwCl ([(f0, .inr (8, [.ref q14, .ref q56])), (q4, .inr (0, [])), (q14, .inl (ca 3, 4, .inr (.inr (.inr (.inr (va_up (va_up (va_up (va_up (fun _ => none) 0 (some q4)) 1 (some q23)) 2 (some q33)) 3 (some q43))))))), (q23, .inr (3, [])), (q33, .inr (1, [])), (q43, .inr (2, [])), (q56, .inl (ca 4, 3, .inr (.inr (.inr (.inr (va_up (fun _ => none) 0 (some (a9_0 11))))))))] ++ (wMp ca (adr [q4, q23, q33, q43]) a9_0 m0) ++ [(q74_1, .inr (4, [.null, .null, .null, .int 0]))]) H := hP
      have hD : va_D A ([(f0, .inr (8, [.ref q14, .ref q56])), (q4, .inr (0, [])), (q14, .inl (ca 3, 4, .inr (.inr (.inr (.inr (va_up (va_up (va_up (va_up (fun _ => none) 0 (some q4)) 1 (some q23)) 2 (some q33)) 3 (some q43))))))), (q23, .inr (3, [])), (q33, .inr (1, [])), (q43, .inr (2, [])), (q56, .inl (ca 4, 3, .inr (.inr (.inr (.inr (va_up (fun _ => none) 0 (some (a9_0 11))))))))] ++ (wMp ca (adr [q4, q23, q33, q43]) a9_0 m0) ++ [(q74_1, .inr (4, [.null, .null, .null, .int 0]))]) := hD
      refine lv_dup hx hb dX10_init_77 rfl ?_
      refine lv_aload_n hx hb dX10_init_78 rfl (lv_at hl 1 rfl) ?_
      refine xc_v (wr := [(f0, .inr (8, [.ref q14, .ref q56])), (q4, .inr (0, [])), (q14, .inl (ca 3, 4, .inr (.inr (.inr (.inr (va_up (va_up (va_up (va_up (fun _ => none) 0 (some q4)) 1 (some q23)) 2 (some q33)) 3 (some q43))))))), (q23, .inr (3, [])), (q33, .inr (1, [])), (q43, .inr (2, [])), (q56, .inl (ca 4, 3, .inr (.inr (.inr (.inr (va_up (fun _ => none) 0 (some (a9_0 11))))))))] ++ (wMp ca (adr [q4, q23, q33, q43]) a9_0 m0)) (va_runI (As := [.ref q4]) (rest := [.ref q74_1, .int 1, .ref q56]) ⟨hx, hb, hml, hown, hts⟩ (c_X6_init l D ca (adr [q4, q23, q33, q43]) _ q74_1 0) (cwI 1 hts gX10_init_X6_init rfl rfl rfl (hts (.initialized yX6_init.cls) (by decide +kernel)) (hts (.methodLink RX10 33 yX6_init) (by decide +kernel)) (hts (.instanceMethod yX6_init) (by decide +kernel)) rfl (by decide +kernel) ⟨(Nat.le_of_ble_eq_true rfl), (Nat.le_of_ble_eq_true rfl)⟩) (xPreS hKN hP hD [21] (by decide +kernel) rfl) rfl rfl hl.1 rfl (lv_room (Nat.le_of_ble_eq_true rfl)) dX10_init_79 ⟨(Nat.le_of_ble_eq_true rfl), (Nat.le_of_ble_eq_true rfl)⟩) hP hD hS hA [21] [0, 1, 2, 3, 4, 5, 6, 7, 8, 9, 10, 11, 12, 13, 14, 15, 16, 17, 18, 19, 20] rfl rfl (by decide +kernel) (by decide +kernel) (fun u79_1 H locs huu79_1 hP hD hS => ?_)
      have hP : va_P D vwCl ([(f0, .inr (8, [.ref q14, .ref q56])), (q4, .inr (0, [])), (q14, .inl (ca 3, 4, .inr (.inr (.inr (.inr (va_up (va_up (va_up (va_up (fun _ => none) 0 (some q4)) 1 (some q23)) 2 (some q33)) 3 (some q43))))))), (q23, .inr (3, [])), (q33, .inr (1, [])), (q43, .inr (2, [])), (q56, .inl (ca 4, 3, .inr (.inr (.inr (.inr (va_up (fun _ => none) 0 (some (a9_0 11))))))))] ++ (wMp ca (adr [q4, q23, q33, q43]) a9_0 m0) ++ (wMp ca (adr [q4, q23, q33, q43]) u79_1.1 u79_1.2)) H := hP
      have hD : va_D A ([(f0, .inr (8, [.ref q14, .ref q56])), (q4, .inr (0, [])), (q14, .inl (ca 3, 4, .inr (.inr (.inr (.inr (va_up (va_up (va_up (va_up (fun _ => none) 0 (some q4)) 1 (some q23)) 2 (some q33)) 3 (some q43))))))), (q23, .inr (3, [])), (q33, .inr (1, [])), (q43, .inr (2, [])), (q56, .inl (ca 4, 3, .inr (.inr (.inr (.inr (va_up (fun _ => none) 0 (some (a9_0 11))))))))] ++ (wMp ca (adr [q4, q23, q33, q43]) a9_0 m0) ++ (wMp ca (adr [q4, q23, q33, q43]) u79_1.1 u79_1.2)) := hD
      obtain ⟨a9_1, m9_1⟩ := u79_1
      obtain ⟨e9, f9⟩ := huu79_1
      have f9 : m9_1 = m0 := f9
      subst f9
      have hP : va_P D vwCl ([(f0, .inr (8, [.ref q14, .ref q56])), (q4, .inr (0, [])), (q14, .inl (ca 3, 4, .inr (.inr (.inr (.inr (va_up (va_up (va_up (va_up (fun _ => none) 0 (some q4)) 1 (some q23)) 2 (some q33)) 3 (some q43))))))), (q23, .inr (3, [])), (q33, .inr (1, [])), (q43, .inr (2, [])), (q56, .inl (ca 4, 3, .inr (.inr (.inr (.inr (va_up (fun _ => none) 0 (some (a9_0 11))))))))] ++ (wMp ca (adr [q4, q23, q33, q43]) a9_0 m0) ++ (wMp ca (adr [q4, q23, q33, q43]) a9_1 m0)) H := hP
      have hD : va_D A ([(f0, .inr (8, [.ref q14, .ref q56])), (q4, .inr (0, [])), (q14, .inl (ca 3, 4, .inr (.inr (.inr (.inr (va_up (va_up (va_up (va_up (fun _ => none) 0 (some q4)) 1 (some q23)) 2 (some q33)) 3 (some q43))))))), (q23, .inr (3, [])), (q33, .inr (1, [])), (q43, .inr (2, [])), (q56, .inl (ca 4, 3, .inr (.inr (.inr (.inr (va_up (fun _ => none) 0 (some (a9_0 11))))))))] ++ (wMp ca (adr [q4, q23, q33, q43]) a9_0 m0) ++ (wMp ca (adr [q4, q23, q33, q43]) a9_1 m0)) := hD
      have e9 : q74_1 = a9_1 11 := e9.symm
      have hPn := hP
      have hDn := hD
      have hSn := hS
      subst e9
      have hP := hPn
      have hD := hDn
      have hS := hSn
      refine va_astq hx hb hKN.1 hP hD hS 6 4 21 4 (r := (RX6, TX6, 4)) (v := a9_1 11) rfl rfl rfl rfl (i := 1) (show vp_in 1 3 from vp_in_nI (n := 1) (by decide) (by decide)) dX10_init_82 (fun H locs hP hD hS => ?_)
      have hP : va_P D vwCl ([(f0, .inr (8, [.ref q14, .ref q56])), (q4, .inr (0, [])), (q14, .inl (ca 3, 4, .inr (.inr (.inr (.inr (va_up (va_up (va_up (va_up (fun _ => none) 0 (some q4)) 1 (some q23)) 2 (some q33)) 3 (some q43))))))), (q23, .inr (3, [])), (q33, .inr (1, [])), (q43, .inr (2, [])), (q56, .inl (ca 4, 3, .inr (.inr (.inr (.inr (va_up (va_up (fun _ => none) 0 (some (a9_0 11))) 1 (some (a9_1 11))))))))] ++ (wMp ca (adr [q4, q23, q33, q43]) a9_0 m0) ++ (wMp ca (adr [q4, q23, q33, q43]) a9_1 m0)) H := hP
      have hD : va_D A ([(f0, .inr (8, [.ref q14, .ref q56])), (q4, .inr (0, [])), (q14, .inl (ca 3, 4, .inr (.inr (.inr (.inr (va_up (va_up (va_up (va_up (fun _ => none) 0 (some q4)) 1 (some q23)) 2 (some q33)) 3 (some q43))))))), (q23, .inr (3, [])), (q33, .inr (1, [])), (q43, .inr (2, [])), (q56, .inl (ca 4, 3, .inr (.inr (.inr (.inr (va_up (va_up (fun _ => none) 0 (some (a9_0 11))) 1 (some (a9_1 11))))))))] ++ (wMp ca (adr [q4, q23, q33, q43]) a9_0 m0) ++ (wMp ca (adr [q4, q23, q33, q43]) a9_1 m0)) := hD
      refine lv_iinc (v := 2) (lv' := [(2, .int 2), (1, .ref q4), (0, .ref f0)]) hx hb dX10_init_83 hl (k := 0) rfl rfl (by decide) rfl (fun ls hl => ?_)
      refine lv_goto (tgt := 64) hx hb dX10_init_86 (by decide) ?_
      refine lv_iload_n hx hb dX10_init_64 rfl (lv_at hl 0 rfl) ?_
      refine lv_iconst (v := 3) hx hb dX10_init_65 (by decide) ?_
      refine lv_icmp_ge (tgt := 89) hx hb dX10_init_66 (by decide) (fun c66 => ?_) (fun c66 => ?_)
      · skip
        exact absurd c66 (by decide)
      · skip
        refine lv_aload_n hx hb dX10_init_69 rfl (lv_at hl 2 rfl) ?_
        refine va_get (D := D) (ci := 8) (v := .ref q56) (C := RX10) (T := TX10) (N := 2) hx hb hts inX10 hown hKN.1 hP 0 rfl rfl 1 (by decide) (hts (.fieldLink RX10 29 "TreeFamily" "maps" "[LTreeFamily$OneMap;") (by decide +kernel)) (fun _ h9 => h9) rfl dX10_init_70 ?_
        refine lv_iload_n hx hb dX10_init_73 rfl (lv_at hl 0 rfl) ?_
        refine va_new (ci := 4) (fs := [.null, .null, .null, .int 0]) (C := RX6) (T := TX6) (N := 4) hx hb hts inX6 tyX6 tyX6_ok hown (hts (.classLink RX10 27 RX6) (by decide +kernel)) (hts (.instantiable RX6 4) (by decide +kernel)) (hts (.initialized RX6) (by decide +kernel)) hKN.1 hP hD hS hA rfl (xfs rfl) (Nat.le_of_ble_eq_true rfl) (Nat.le_of_ble_eq_true rfl) dX10_init_74 (fun q74_2 H hP hD hS => ?_)
        have hP : va_P D vwCl ([(f0, .inr (8, [.ref q14, .ref q56])), (q4, .inr (0, [])), (q14, .inl (ca 3, 4, .inr (.inr (.inr (.inr (va_up (va_up (va_up (va_up (fun _ => none) 0 (some q4)) 1 (some q23)) 2 (some q33)) 3 (some q43))))))), (q23, .inr (3, [])), (q33, .inr (1, [])), (q43, .inr (2, [])), (q56, .inl (ca 4, 3, .inr (.inr (.inr (.inr (va_up (va_up (fun _ => none) 0 (some (a9_0 11))) 1 (some (a9_1 11))))))))] ++ (wMp ca (adr [q4, q23, q33, q43]) a9_0 m0) ++ (wMp ca (adr [q4, q23, q33, q43]) a9_1 m0) ++ [(q74_2, .inr (4, [.null, .null, .null, .int 0]))]) H := hP
        have hD : va_D A ([(f0, .inr (8, [.ref q14, .ref q56])), (q4, .inr (0, [])), (q14, .inl (ca 3, 4, .inr (.inr (.inr (.inr (va_up (va_up (va_up (va_up (fun _ => none) 0 (some q4)) 1 (some q23)) 2 (some q33)) 3 (some q43))))))), (q23, .inr (3, [])), (q33, .inr (1, [])), (q43, .inr (2, [])), (q56, .inl (ca 4, 3, .inr (.inr (.inr (.inr (va_up (va_up (fun _ => none) 0 (some (a9_0 11))) 1 (some (a9_1 11))))))))] ++ (wMp ca (adr [q4, q23, q33, q43]) a9_0 m0) ++ (wMp ca (adr [q4, q23, q33, q43]) a9_1 m0) ++ [(q74_2, .inr (4, [.null, .null, .null, .int 0]))]) := hD
        refine lv_dup hx hb dX10_init_77 rfl ?_
        refine lv_aload_n hx hb dX10_init_78 rfl (lv_at hl 1 rfl) ?_
        refine xc_v (wr := [(f0, .inr (8, [.ref q14, .ref q56])), (q4, .inr (0, [])), (q14, .inl (ca 3, 4, .inr (.inr (.inr (.inr (va_up (va_up (va_up (va_up (fun _ => none) 0 (some q4)) 1 (some q23)) 2 (some q33)) 3 (some q43))))))), (q23, .inr (3, [])), (q33, .inr (1, [])), (q43, .inr (2, [])), (q56, .inl (ca 4, 3, .inr (.inr (.inr (.inr (va_up (va_up (fun _ => none) 0 (some (a9_0 11))) 1 (some (a9_1 11))))))))] ++ (wMp ca (adr [q4, q23, q33, q43]) a9_0 m0) ++ (wMp ca (adr [q4, q23, q33, q43]) a9_1 m0)) (va_runI (As := [.ref q4]) (rest := [.ref q74_2, .int 2, .ref q56]) ⟨hx, hb, hml, hown, hts⟩ (c_X6_init l D ca (adr [q4, q23, q33, q43]) _ q74_2 0) (cwI 1 hts gX10_init_X6_init rfl rfl rfl (hts (.initialized yX6_init.cls) (by decide +kernel)) (hts (.methodLink RX10 33 yX6_init) (by decide +kernel)) (hts (.instanceMethod yX6_init) (by decide +kernel)) rfl (by decide +kernel) ⟨(Nat.le_of_ble_eq_true rfl), (Nat.le_of_ble_eq_true rfl)⟩) (xPreS hKN hP hD [35] (by decide +kernel) rfl) rfl rfl hl.1 rfl (lv_room (Nat.le_of_ble_eq_true rfl)) dX10_init_79 ⟨(Nat.le_of_ble_eq_true rfl), (Nat.le_of_ble_eq_true rfl)⟩) hP hD hS hA [35] [0, 1, 2, 3, 4, 5, 6, 7, 8, 9, 10, 11, 12, 13, 14, 15, 16, 17, 18, 19, 20, 21, 22, 23, 24, 25, 26, 27, 28, 29, 30, 31, 32, 33, 34] rfl rfl (by decide +kernel) (by decide +kernel) (fun u79_2 H locs huu79_2 hP hD hS => ?_)
        have hP : va_P D vwCl ([(f0, .inr (8, [.ref q14, .ref q56])), (q4, .inr (0, [])), (q14, .inl (ca 3, 4, .inr (.inr (.inr (.inr (va_up (va_up (va_up (va_up (fun _ => none) 0 (some q4)) 1 (some q23)) 2 (some q33)) 3 (some q43))))))), (q23, .inr (3, [])), (q33, .inr (1, [])), (q43, .inr (2, [])), (q56, .inl (ca 4, 3, .inr (.inr (.inr (.inr (va_up (va_up (fun _ => none) 0 (some (a9_0 11))) 1 (some (a9_1 11))))))))] ++ (wMp ca (adr [q4, q23, q33, q43]) a9_0 m0) ++ (wMp ca (adr [q4, q23, q33, q43]) a9_1 m0) ++ (wMp ca (adr [q4, q23, q33, q43]) u79_2.1 u79_2.2)) H := hP
        have hD : va_D A ([(f0, .inr (8, [.ref q14, .ref q56])), (q4, .inr (0, [])), (q14, .inl (ca 3, 4, .inr (.inr (.inr (.inr (va_up (va_up (va_up (va_up (fun _ => none) 0 (some q4)) 1 (some q23)) 2 (some q33)) 3 (some q43))))))), (q23, .inr (3, [])), (q33, .inr (1, [])), (q43, .inr (2, [])), (q56, .inl (ca 4, 3, .inr (.inr (.inr (.inr (va_up (va_up (fun _ => none) 0 (some (a9_0 11))) 1 (some (a9_1 11))))))))] ++ (wMp ca (adr [q4, q23, q33, q43]) a9_0 m0) ++ (wMp ca (adr [q4, q23, q33, q43]) a9_1 m0) ++ (wMp ca (adr [q4, q23, q33, q43]) u79_2.1 u79_2.2)) := hD
        obtain ⟨a9_2, m9_2⟩ := u79_2
        obtain ⟨e9, f9⟩ := huu79_2
        have f9 : m9_2 = m0 := f9
        subst f9
        have hP : va_P D vwCl ([(f0, .inr (8, [.ref q14, .ref q56])), (q4, .inr (0, [])), (q14, .inl (ca 3, 4, .inr (.inr (.inr (.inr (va_up (va_up (va_up (va_up (fun _ => none) 0 (some q4)) 1 (some q23)) 2 (some q33)) 3 (some q43))))))), (q23, .inr (3, [])), (q33, .inr (1, [])), (q43, .inr (2, [])), (q56, .inl (ca 4, 3, .inr (.inr (.inr (.inr (va_up (va_up (fun _ => none) 0 (some (a9_0 11))) 1 (some (a9_1 11))))))))] ++ (wMp ca (adr [q4, q23, q33, q43]) a9_0 m0) ++ (wMp ca (adr [q4, q23, q33, q43]) a9_1 m0) ++ (wMp ca (adr [q4, q23, q33, q43]) a9_2 m0)) H := hP
        have hD : va_D A ([(f0, .inr (8, [.ref q14, .ref q56])), (q4, .inr (0, [])), (q14, .inl (ca 3, 4, .inr (.inr (.inr (.inr (va_up (va_up (va_up (va_up (fun _ => none) 0 (some q4)) 1 (some q23)) 2 (some q33)) 3 (some q43))))))), (q23, .inr (3, [])), (q33, .inr (1, [])), (q43, .inr (2, [])), (q56, .inl (ca 4, 3, .inr (.inr (.inr (.inr (va_up (va_up (fun _ => none) 0 (some (a9_0 11))) 1 (some (a9_1 11))))))))] ++ (wMp ca (adr [q4, q23, q33, q43]) a9_0 m0) ++ (wMp ca (adr [q4, q23, q33, q43]) a9_1 m0) ++ (wMp ca (adr [q4, q23, q33, q43]) a9_2 m0)) := hD
        have e9 : q74_2 = a9_2 11 := e9.symm
        have hPn := hP
        have hDn := hD
        have hSn := hS
        subst e9
        have hP := hPn
        have hD := hDn
        have hS := hSn
        refine va_astq hx hb hKN.1 hP hD hS 6 4 35 4 (r := (RX6, TX6, 4)) (v := a9_2 11) rfl rfl rfl rfl (i := 2) (show vp_in 2 3 from vp_in_nI (n := 2) (by decide) (by decide)) dX10_init_82 (fun H locs hP hD hS => ?_)
        have hP : va_P D vwCl ([(f0, .inr (8, [.ref q14, .ref q56])), (q4, .inr (0, [])), (q14, .inl (ca 3, 4, .inr (.inr (.inr (.inr (va_up (va_up (va_up (va_up (fun _ => none) 0 (some q4)) 1 (some q23)) 2 (some q33)) 3 (some q43))))))), (q23, .inr (3, [])), (q33, .inr (1, [])), (q43, .inr (2, [])), (q56, .inl (ca 4, 3, .inr (.inr (.inr (.inr (va_up (va_up (va_up (fun _ => none) 0 (some (a9_0 11))) 1 (some (a9_1 11))) 2 (some (a9_2 11))))))))] ++ (wMp ca (adr [q4, q23, q33, q43]) a9_0 m0) ++ (wMp ca (adr [q4, q23, q33, q43]) a9_1 m0) ++ (wMp ca (adr [q4, q23, q33, q43]) a9_2 m0)) H := hP
        have hD : va_D A ([(f0, .inr (8, [.ref q14, .ref q56])), (q4, .inr (0, [])), (q14, .inl (ca 3, 4, .inr (.inr (.inr (.inr (va_up (va_up (va_up (va_up (fun _ => none) 0 (some q4)) 1 (some q23)) 2 (some q33)) 3 (some q43))))))), (q23, .inr (3, [])), (q33, .inr (1, [])), (q43, .inr (2, [])), (q56, .inl (ca 4, 3, .inr (.inr (.inr (.inr (va_up (va_up (va_up (fun _ => none) 0 (some (a9_0 11))) 1 (some (a9_1 11))) 2 (some (a9_2 11))))))))] ++ (wMp ca (adr [q4, q23, q33, q43]) a9_0 m0) ++ (wMp ca (adr [q4, q23, q33, q43]) a9_1 m0) ++ (wMp ca (adr [q4, q23, q33, q43]) a9_2 m0)) := hD
        refine lv_iinc (v := 3) (lv' := [(2, .int 3), (1, .ref q4), (0, .ref f0)]) hx hb dX10_init_83 hl (k := 0) rfl rfl (by decide) rfl (fun ls hl => ?_)
        refine lv_goto (tgt := 64) hx hb dX10_init_86 (by decide) ?_
        refine lv_iload_n hx hb dX10_init_64 rfl (lv_at hl 0 rfl) ?_
        refine lv_iconst (v := 3) hx hb dX10_init_65 (by decide) ?_
        refine lv_icmp_ge (tgt := 89) hx hb dX10_init_66 (by decide) (fun c66 => ?_) (fun c66 => ?_)
        · skip
          have hP : va_P D vwCl ([(f0, .inr (8, [.ref q14, .ref q56])), (q14, .inl (ca 3, 4, .inr (.inr (.inr (.inr (va_up (va_up (va_up (va_up (fun _ => none) 0 (some q4)) 1 (some q23)) 2 (some q33)) 3 (some q43))))))), (q56, .inl (ca 4, 3, .inr (.inr (.inr (.inr (va_up (va_up (va_up (fun _ => none) 0 (some (a9_0 11))) 1 (some (a9_1 11))) 2 (some (a9_2 11)))))))), (q4, .inr (0, [])), (q23, .inr (3, [])), (q33, .inr (1, [])), (q43, .inr (2, []))] ++ (wMp ca (adr [q4, q23, q33, q43]) a9_0 m0) ++ (wMp ca (adr [q4, q23, q33, q43]) a9_1 m0) ++ (wMp ca (adr [q4, q23, q33, q43]) a9_2 m0)) H := hP.sub (ws' := [(f0, .inr (8, [.ref q14, .ref q56])), (q14, .inl (ca 3, 4, .inr (.inr (.inr (.inr (va_up (va_up (va_up (va_up (fun _ => none) 0 (some q4)) 1 (some q23)) 2 (some q33)) 3 (some q43))))))), (q56, .inl (ca 4, 3, .inr (.inr (.inr (.inr (va_up (va_up (va_up (fun _ => none) 0 (some (a9_0 11))) 1 (some (a9_1 11))) 2 (some (a9_2 11)))))))), (q4, .inr (0, [])), (q23, .inr (3, [])), (q33, .inr (1, [])), (q43, .inr (2, []))] ++ (wMp ca (adr [q4, q23, q33, q43]) a9_0 m0) ++ (wMp ca (adr [q4, q23, q33, q43]) a9_1 m0) ++ (wMp ca (adr [q4, q23, q33, q43]) a9_2 m0)) [0, 2, 6, 1, 3, 4, 5, 7, 8, 9, 10, 11, 12, 13, 14, 15, 16, 17, 18, 19, 20, 21, 22, 23, 24, 25, 26, 27, 28, 29, 30, 31, 32, 33, 34, 35, 36, 37, 38, 39, 40, 41, 42, 43, 44, 45, 46, 47, 48] rfl
          have hD : va_D A ([(f0, .inr (8, [.ref q14, .ref q56])), (q14, .inl (ca 3, 4, .inr (.inr (.inr (.inr (va_up (va_up (va_up (va_up (fun _ => none) 0 (some q4)) 1 (some q23)) 2 (some q33)) 3 (some q43))))))), (q56, .inl (ca 4, 3, .inr (.inr (.inr (.inr (va_up (va_up (va_up (fun _ => none) 0 (some (a9_0 11))) 1 (some (a9_1 11))) 2 (some (a9_2 11)))))))), (q4, .inr (0, [])), (q23, .inr (3, [])), (q33, .inr (1, [])), (q43, .inr (2, []))] ++ (wMp ca (adr [q4, q23, q33, q43]) a9_0 m0) ++ (wMp ca (adr [q4, q23, q33, q43]) a9_1 m0) ++ (wMp ca (adr [q4, q23, q33, q43]) a9_2 m0)) := hD.sub (ws' := [(f0, .inr (8, [.ref q14, .ref q56])), (q14, .inl (ca 3, 4, .inr (.inr (.inr (.inr (va_up (va_up (va_up (va_up (fun _ => none) 0 (some q4)) 1 (some q23)) 2 (some q33)) 3 (some q43))))))), (q56, .inl (ca 4, 3, .inr (.inr (.inr (.inr (va_up (va_up (va_up (fun _ => none) 0 (some (a9_0 11))) 1 (some (a9_1 11))) 2 (some (a9_2 11)))))))), (q4, .inr (0, [])), (q23, .inr (3, [])), (q33, .inr (1, [])), (q43, .inr (2, []))] ++ (wMp ca (adr [q4, q23, q33, q43]) a9_0 m0) ++ (wMp ca (adr [q4, q23, q33, q43]) a9_1 m0) ++ (wMp ca (adr [q4, q23, q33, q43]) a9_2 m0)) [0, 2, 6, 1, 3, 4, 5, 7, 8, 9, 10, 11, 12, 13, 14, 15, 16, 17, 18, 19, 20, 21, 22, 23, 24, 25, 26, 27, 28, 29, 30, 31, 32, 33, 34, 35, 36, 37, 38, 39, 40, 41, 42, 43, 44, 45, 46, 47, 48] (by decide) rfl
          have hP1 := va_reP (q0 := 1) (g := (fun k => some ((adr [q4, q23, q33, q43]) k))) hP hD rfl (fun k hk => by match k, hk with | 0, _ => rfl | 1, _ => rfl | 2, _ => rfl | 3, _ => rfl)
          have hD1 := va_D.set (p := 1) (e := .inl (ca 3, 4, .inr (.inr (.inr (.inr (fun k => some ((adr [q4, q23, q33, q43]) k))))))) hD rfl
          have hP2 := va_reP (q0 := 2) (g := (fun k => some ((fun k => if k = 0 then a9_0 else if k = 1 then a9_1 else a9_2) k 11))) hP1 hD1 rfl (fun k hk => by match k, hk with | 0, _ => rfl | 1, _ => rfl | 2, _ => rfl)
          have hD2 := va_D.set (p := 2) (e := .inl (ca 4, 3, .inr (.inr (.inr (.inr (fun k => some ((fun k => if k = 0 then a9_0 else if k = 1 then a9_1 else a9_2) k 11))))))) hD1 rfl
          have hP : va_P D vwCl (wF0 ca m0 m0 m0 ((adr [f0, q14, q56]), (adr [q4, q23, q33, q43]), (fun k => if k = 0 then a9_0 else if k = 1 then a9_1 else a9_2))) H := hP2
          have hD : va_D A (wF0 ca m0 m0 m0 ((adr [f0, q14, q56]), (adr [q4, q23, q33, q43]), (fun k => if k = 0 then a9_0 else if k = 1 then a9_1 else a9_2))) := hD2
          exact W.vret hx hb hr (fun t9 e9 w9 => ⟨⟨((adr [f0, q14, q56]), (adr [q4, q23, q33, q43]), (fun k => if k = 0 then a9_0 else if k = 1 then a9_1 else a9_2)), rfl, rfl, by rw [e9]; exact hP, hD⟩, hS.F e9⟩) hS.2.2 dX10_init_89
        · skip
          exact absurd c66 (by decide)
