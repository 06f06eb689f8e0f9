/-! CONSTRUCTORS: new rows of a class that is known -/
section NA
variable {p : Program} {l : Launch} {e : Env} {R : Room} {s : State} {m : MethodId} {args : Array Value} {below : List Frame} {meth : Method} {c : Code} {H : Heap} {locs : List Loc} {cells slots : Nat} {Q : State → Prop}
variable {cc : ByteArray} {pc : Nat} {ls : Array Slot} {rest : List Value} {D : va_G} {cl : List vw_C} {A : Nat → Prop} {a : Nat} {tys : List (ClassId × FieldType)} {ws : va_W} {H0 : Heap}
theorem xr_newa (hexec : p.tables.exec = Jvm.exec) (hb : c.code = cc) {atype : ArrayType} (harr : (Cond.arrayClass (newarray.typeOf atype)).before args s = true) (t0 : Nat) {cA0 : ClassId} (ht : tys[t0]? = some (cA0, newarray.typeOf atype)) (hK : va_K D cl tys s) (hP : va_P D cl ws H) (hD : va_D A ws) (hS : va_S A H0 H locs) (hA : ∀ q, H0.size ≤ q → A q)
    {n : Int32} {N' : Nat} {a0 : vp_A} (ha : ∀ cA : ClassId, vp_cell cA a0 = arrV cA N' (fun _ => defaultValue (newarray.typeOf atype))) (hn : ¬ n < 0) (hN : n.toNatClampNeg = N') (hbytes : N' * componentBytes (newarray.typeOf atype) ≤ 536870912) (hcells : cells + 1 ≤ R.cells) (hslots : slots + N' ≤ R.slots) (hdg : decode cc pc = .ok (.newarray atype, 2))
    (kk : ∀ (q : Nat) (H1 : Heap), va_P D cl (ws ++ [(q, .inl (cA0, a0))]) H1 → va_D A (ws ++ [(q, .inl (cA0, a0))]) → va_S A H0 H1 locs →
      W p l e R s m args below meth c H1 locs (cells + 1) (slots + N') Q (F0 m (pc + 2) ls (.ref q :: rest))) : W p l e R s m args below meth c H locs cells slots Q (F0 m pc ls (.int n :: rest)) := by
  refine va_newa hexec hb harr rfl hK hP hD hS hA ha hn hN hbytes hcells hslots hdg (fun q cA H1 hK1 hP1 hD1 hS1 => ?_)
  have h1 := (hK1.2 tys.length (cA, newarray.typeOf atype) (by rw [List.getElem?_append_right (Nat.le_refl _), Nat.sub_self]; rfl)).2
  have h2 := (hK.2 t0 _ ht).2
  have e1 : cA = cA0 := by
    cases atype <;> exact Option.some.inj (h1.symm.trans h2)
  subst e1
  exact kk q H1 hP1 hD1 hS1
end NA
theorem xfs {N : Nat} {ty : Nat → FieldType} {fs : List Value} (h : (List.range N).map (fun j => defaultValue (ty j)) = (List.range N).map (fun j => vp_V fs j)) : ∀ j, j < N → defaultValue (ty j) = vp_V fs j := fun j hj => by
  have := congrArg (fun L : List Value => L[j]?) h
  simp only [List.getElem?_map, List.getElem?_range hj, Option.map_some] at this
  exact Option.some.inj this
/-- a tree whose kind is not set yet -/
def wTn (ca : Nat → ClassId) (kq a : Nat → Nat) (t : TS) : va_W := [(a 0, .inr (6, [.ref (a 1), .ref (a 2), .ref (a 3), .ref (a 4), .ref (a 5), .ref (a 6), .ref (a 7), .ref (a 8), .ref (a 9), .ref (a 10), .int (nI t.ss), .int (nI t.dp), .int (nI t.rn), .int t.od, .null])), (a 1, .inl (ca 0, 61, .inl t.ky)), (a 2, .inl (ca 0, 61, .inl t.vl)), (a 3, .inl (ca 0, 61, .inl (fun k => nI (t.lf k)))), (a 4, .inl (ca 0, 61, .inl (fun k => nI (t.rt k)))), (a 5, .inl (ca 0, 61, .inl t.ct)), (a 6, .inl (ca 0, 61, .inl t.ht)), (a 7, .inl (ca 1, 61, .inr (.inl t.to))), (a 8, .inl (ca 0, 60, .inl (fun k => nI (t.sp k)))), (a 9, .inl (ca 0, 61, .inl (fun k => nI (t.pa k)))), (a 10, .inl (ca 0, 60, .inl (fun k => nI (t.ro k))))]
def zT : TS := (fun _ => 0, fun _ => 0, fun _ => 0, fun _ => 0, fun _ => 0, fun _ => 0, fun _ => 0, fun _ => 0, fun _ => 0, fun _ => 0, 0, 0, 0, 0, 0)
def adr (L : List Nat) (k : Nat) : Nat := L.getD k 0
theorem xha_i (n : Nat) : ∀ cA : ClassId, vp_cell cA (n, .inl (fun _ => (0 : Int32))) = arrV cA n (fun _ => defaultValue (newarray.typeOf .int)) := fun _ => rfl
theorem xha_l (n : Nat) : ∀ cA : ClassId, vp_cell cA (n, .inr (.inl (fun _ => (0 : Int64)))) = arrV cA n (fun _ => defaultValue (newarray.typeOf .long)) := fun _ => rfl
theorem xha_b (n : Nat) : ∀ cA : ClassId, vp_cell cA (n, .inl (fun _ => (0 : Int32))) = arrV cA n (fun _ => defaultValue (newarray.typeOf .boolean)) := fun _ => rfl

-- TreeFamily$Kind.init
set_option maxHeartbeats 4000000 in
set_option maxRecDepth 100000 in
theorem c_X5_init (l : Launch) (D : va_G) (ca : Nat → ClassId) (sz : Nat) (b0 : Nat)  : Met l yX5_init wsX5_init ({ frames := 1, cells := 0, slots := 0, locals := 12 } : Room) (xPc D (TY ca) [.ref b0] ([]) sz) (va_Qv (fun u : Unit => True) (xB D (fun _ : Unit => []) (va_A ([]) sz)) (va_A ([]) sz)) 0 0 (va_A ([]) sz) := by
  refine Met.ofW (cc := cX5_init) (maxL := 1) (ret := none) (by decide) rfl ?_
  intro p e s m args below meth c s₁ B hml hv
  obtain ⟨rfl, hsz, hP, hKN, hD0⟩ := hv
  have hx := B.exec
  have hb := B.bytes
  have hr := B.returns
  have hts := atoms_spec (ws := wsX5_init) B.pre
  have hown : s.vm.findClass RX5 = some m.cls := findClass_of_methodNamed B.named
  have hin9 : meth.name = "<init>" := (name_of_methodNamed B.named B.method).1
  have hlocks := B.notSynchronized
  subst hsz
  have hD := hD0.self (sz := s.heap.size)
  generalize hAe : va_A ([]) s.heap.size = A at hD ⊢
  have hA : ∀ q : Nat, s.heap.size ≤ q → A q := fun q h => by rw [← hAe]; exact Or.inr h
  have hS : va_S A s.heap s.heap [] := va_S.rf
  have hl := lv_entry ([.ref b0]) (n := 1) (Nat.le_of_ble_eq_true rfl)
  rw [lg_entry_eq]
  generalize (lg_sl ([.ref b0]) ++ List.replicate (1 - (lg_sl ([.ref b0])).length) Slot.unset).toArray = ls at hl ⊢
  have hl : lv_has ls 1 [(0, .ref b0)] := hl
  refine lv_aload_n hx hb dX5_init_0 rfl (lv_at hl 0 rfl) ?_
  refine W.objInit hx hb hown (hts (.methodLink RX5 1 objectInit) (by decide +kernel)) (hts (.instanceMethod objectInit) (by decide +kernel)) (hts (.code objectInit ⟨#[0xb1]⟩ 1 none) (by decide +kernel)) rfl (by rw [hml]; exact hl.1) rfl dX5_init_1 (Nat.le_of_ble_eq_true rfl) (Nat.le_of_ble_eq_true rfl) ?_
  exact W.vret hx hb hr (fun t9 e9 w9 => ⟨⟨(), rfl, trivial, by rw [e9]; exact hP, hD⟩, hS.F e9⟩) hS.2.2 dX5_init_4

-- TreeFamily$Range.init
set_option maxHeartbeats 4000000 in
set_option maxRecDepth 100000 in
theorem c_X7_init (l : Launch) (D : va_G) (ca : Nat → ClassId) (sz : Nat) (b0 : Nat)  : Met l yX7_init wsX7_init ({ frames := 1, cells := 0, slots := 0, locals := 12 } : Room) (xPc D (TY ca) [.ref b0] ([]) sz) (va_Qv (fun u : Unit => True) (xB D (fun _ : Unit => []) (va_A ([]) sz)) (va_A ([]) sz)) 0 0 (va_A ([]) sz) := by
  refine Met.ofW (cc := cX7_init) (maxL := 1) (ret := none) (by decide) rfl ?_
  intro p e s m args below meth c s₁ B hml hv
  obtain ⟨rfl, hsz, hP, hKN, hD0⟩ := hv
  have hx := B.exec
  have hb := B.bytes
  have hr := B.returns
  have hts := atoms_spec (ws := wsX7_init) B.pre
  have hown : s.vm.findClass RX7 = some m.cls := findClass_of_methodNamed B.named
  have hin9 : meth.name = "<init>" := (name_of_methodNamed B.named B.method).1
  have hlocks := B.notSynchronized
  subst hsz
  have hD := hD0.self (sz := s.heap.size)
  generalize hAe : va_A ([]) s.heap.size = A at hD ⊢
  have hA : ∀ q : Nat, s.heap.size ≤ q → A q := fun q h => by rw [← hAe]; exact Or.inr h
  have hS : va_S A s.heap s.heap [] := va_S.rf
  have hl := lv_entry ([.ref b0]) (n := 1) (Nat.le_of_ble_eq_true rfl)
  rw [lg_entry_eq]
  generalize (lg_sl ([.ref b0]) ++ List.replicate (1 - (lg_sl ([.ref b0])).length) Slot.unset).toArray = ls at hl ⊢
  have hl : lv_has ls 1 [(0, .ref b0)] := hl
  refine lv_aload_n hx hb dX7_init_0 rfl (lv_at hl 0 rfl) ?_
  refine W.objInit hx hb hown (hts (.methodLink RX7 1 objectInit) (by decide +kernel)) (hts (.instanceMethod objectInit) (by decide +kernel)) (hts (.code objectInit ⟨#[0xb1]⟩ 1 none) (by decide +kernel)) rfl (by rw [hml]; exact hl.1) rfl dX7_init_1 (Nat.le_of_ble_eq_true rfl) (Nat.le_of_ble_eq_true rfl) ?_
  exact W.vret hx hb hr (fun t9 e9 w9 => ⟨⟨(), rfl, trivial, by rw [e9]; exact hP, hD⟩, hS.F e9⟩) hS.2.2 dX7_init_4

-- TreeFamily$Walk.init
set_option maxHeartbeats 4000000 in
set_option maxRecDepth 100000 in
theorem c_X9_init (l : Launch) (D : va_G) (ca : Nat → ClassId) (sz : Nat) (b0 : Nat)  : Met l yX9_init wsX9_init ({ frames := 1, cells := 0, slots := 0, locals := 12 } : Room) (xPc D (TY ca) [.ref b0] ([]) sz) (va_Qv (fun u : Unit => True) (xB D (fun _ : Unit => []) (va_A ([]) sz)) (va_A ([]) sz)) 0 0 (va_A ([]) sz) := by
  refine Met.ofW (cc := cX9_init) (maxL := 1) (ret := none) (by decide) rfl ?_
  intro p e s m args below meth c s₁ B hml hv
  obtain ⟨rfl, hsz, hP, hKN, hD0⟩ := hv
  have hx := B.exec
  have hb := B.bytes
  have hr := B.returns
  have hts := atoms_spec (ws := wsX9_init) B.pre
  have hown : s.vm.findClass RX9 = some m.cls := findClass_of_methodNamed B.named
  have hin9 : meth.name = "<init>" := (name_of_methodNamed B.named B.method).1
  have hlocks := B.notSynchronized
  subst hsz
  have hD := hD0.self (sz := s.heap.size)
  generalize hAe : va_A ([]) s.heap.size = A at hD ⊢
  have hA : ∀ q : Nat, s.heap.size ≤ q → A q := fun q h => by rw [← hAe]; exact Or.inr h
  have hS : va_S A s.heap s.heap [] := va_S.rf
  have hl := lv_entry ([.ref b0]) (n := 1) (Nat.le_of_ble_eq_true rfl)
  rw [lg_entry_eq]
  generalize (lg_sl ([.ref b0]) ++ List.replicate (1 - (lg_sl ([.ref b0])).length) Slot.unset).toArray = ls at hl ⊢
  have hl : lv_has ls 1 [(0, .ref b0)] := hl
  refine lv_aload_n hx hb dX9_init_0 rfl (lv_at hl 0 rfl) ?_
  refine W.objInit hx hb hown (hts (.methodLink RX9 1 objectInit) (by decide +kernel)) (hts (.instanceMethod objectInit) (by decide +kernel)) (hts (.code objectInit ⟨#[0xb1]⟩ 1 none) (by decide +kernel)) rfl (by rw [hml]; exact hl.1) rfl dX9_init_1 (Nat.le_of_ble_eq_true rfl) (Nat.le_of_ble_eq_true rfl) ?_
  exact W.vret hx hb hr (fun t9 e9 w9 => ⟨⟨(), rfl, trivial, by rw [e9]; exact hP, hD⟩, hS.F e9⟩) hS.2.2 dX9_init_4

-- TreeFamily$ByTwoSides.init
set_option maxHeartbeats 4000000 in
set_option maxRecDepth 100000 in
theorem c_X3_init (l : Launch) (D : va_G) (ca : Nat → ClassId) (sz : Nat) (b0 : Nat)  : Met l yX3_init wsX3_init ({ frames := 2, cells := 0, slots := 0, locals := 32 } : Room) (xPc D (TY ca) [.ref b0] ([]) sz) (va_Qv (fun u : Unit => True) (xB D (fun _ : Unit => []) (va_A ([]) sz)) (va_A ([]) sz)) 0 0 (va_A ([]) sz) := by
  refine Met.ofW (cc := cX3_init) (maxL := 1) (ret := none) (by decide) rfl ?_
  intro p e s m args below meth c s₁ B hml hv
  obtain ⟨rfl, hsz, hP, hKN, hD0⟩ := hv
  have hx := B.exec
  have hb := B.bytes
  have hr := B.returns
  have hts := atoms_spec (ws := wsX3_init) B.pre
  have hown : s.vm.findClass RX3 = some m.cls := findClass_of_methodNamed B.named
  have hin9 : meth.name = "<init>" := (name_of_methodNamed B.named B.method).1
  have hlocks := B.notSynchronized
  subst hsz
  have hD := hD0.self (sz := s.heap.size)
  generalize hAe : va_A ([]) s.heap.size = A at hD ⊢
  have hA : ∀ q : Nat, s.heap.size ≤ q → A q := fun q h => by rw [← hAe]; exact Or.inr h
  have hS : va_S A s.heap s.heap [] := va_S.rf
  have hl := lv_entry ([.ref b0]) (n := 1) (Nat.le_of_ble_eq_true rfl)
  rw [lg_entry_eq]
  generalize (lg_sl ([.ref b0]) ++ List.replicate (1 - (lg_sl ([.ref b0])).length) Slot.unset).toArray = ls at hl ⊢
  have hl : lv_has ls 1 [(0, .ref b0)] := hl
  refine lv_aload_n hx hb dX3_init_0 rfl (lv_at hl 0 rfl) ?_
  refine xc_v (wr := []) (va_runIN (As := []) (rest := []) ⟨hx, hb, hml, hown, hts⟩ (c_X5_init l D ca _ b0) ⟨va_cnB 0 hts gX3_init_X5_init_n1 rfl rfl rfl (NW.m hKN.2 (a := RX3) (i := 1) (x := yX5_init) (g := "TreeFamily") (by decide +kernel)) (hts _ (List.mem_of_elem_eq_true (by decide +kernel) : Cond.initialized yX5_init.cls ∈ wsX3_init)) (by decide +kernel) ⟨(Nat.le_of_ble_eq_true rfl), (Nat.le_of_ble_eq_true rfl)⟩, rfl, hts (.instanceMethod yX5_init) (by decide +kernel)⟩ (xPreS hKN hP hD [] (by decide) rfl) rfl rfl hl.1 rfl (lv_room (Nat.le_of_ble_eq_true rfl)) dX3_init_1 ⟨(Nat.le_of_ble_eq_true rfl), (Nat.le_of_ble_eq_true rfl)⟩) hP hD hS hA [] [] rfl rfl (by decide) (by decide) (fun u1 H locs hu1 hP hD hS => ?_)
  have hP : va_P D vwCl ([]) H := hP
  have hD : va_D A ([]) := hD
  exact W.vret hx hb hr (fun t9 e9 w9 => ⟨⟨(), rfl, trivial, by rw [e9]; exact hP, hD⟩, hS.F e9⟩) hS.2.2 dX3_init_4

-- TreeFamily$ByPriorities.init
set_option maxHeartbeats 4000000 in
set_option maxRecDepth 100000 in
theorem c_X1_init (l : Launch) (D : va_G) (ca : Nat → ClassId) (sz : Nat) (b0 : Nat)  : Met l yX1_init wsX1_init ({ frames := 2, cells := 0, slots := 0, locals := 32 } : Room) (xPc D (TY ca) [.ref b0] ([]) sz) (va_Qv (fun u : Unit => True) (xB D (fun _ : Unit => []) (va_A ([]) sz)) (va_A ([]) sz)) 0 0 (va_A ([]) sz) := by
  refine Met.ofW (cc := cX1_init) (maxL := 1) (ret := none) (by decide) rfl ?_
  intro p e s m args below meth c s₁ B hml hv
  obtain ⟨rfl, hsz, hP, hKN, hD0⟩ := hv
  have hx := B.exec
  have hb := B.bytes
  have hr := B.returns
  have hts := atoms_spec (ws := wsX1_init) B.pre
  have hown : s.vm.findClass RX1 = some m.cls := findClass_of_methodNamed B.named
  have hin9 : meth.name = "<init>" := (name_of_methodNamed B.named B.method).1
  have hlocks := B.notSynchronized
  subst hsz
  have hD := hD0.self (sz := s.heap.size)
  generalize hAe : va_A ([]) s.heap.size = A at hD ⊢
  have hA : ∀ q : Nat, s.heap.size ≤ q → A q := fun q h => by rw [← hAe]; exact Or.inr h
  have hS : va_S A s.heap s.heap [] := va_S.rf
  have hl := lv_entry ([.ref b0]) (n := 1) (Nat.le_of_ble_eq_true rfl)
  rw [lg_entry_eq]
  generalize (lg_sl ([.ref b0]) ++ List.replicate (1 - (lg_sl ([.ref b0])).length) Slot.unset).toArray = ls at hl ⊢
  have hl : lv_has ls 1 [(0, .ref b0)] := hl
  refine lv_aload_n hx hb dX1_init_0 rfl (lv_at hl 0 rfl) ?_
  refine xc_v (wr := []) (va_runIN (As := []) (rest := []) ⟨hx, hb, hml, hown, hts⟩ (c_X5_init l D ca _ b0) ⟨va_cnB 0 hts gX1_init_X5_init_n3 rfl rfl rfl (NW.m hKN.2 (a := RX1) (i := 3) (x := yX5_init) (g := "TreeFamily") (by decide +kernel)) (hts _ (List.mem_of_elem_eq_true (by decide +kernel) : Cond.initialized yX5_init.cls ∈ wsX1_init)) (by decide +kernel) ⟨(Nat.le_of_ble_eq_true rfl), (Nat.le_of_ble_eq_true rfl)⟩, rfl, hts (.instanceMethod yX5_init) (by decide +kernel)⟩ (xPreS hKN hP hD [] (by decide) rfl) rfl rfl hl.1 rfl (lv_room (Nat.le_of_ble_eq_true rfl)) dX1_init_1 ⟨(Nat.le_of_ble_eq_true rfl), (Nat.le_of_ble_eq_true rfl)⟩) hP hD hS hA [] [] rfl rfl (by decide) (by decide) (fun u1 H locs hu1 hP hD hS => ?_)
  have hP : va_P D vwCl ([]) H := hP
  have hD : va_D A ([]) := hD
  exact W.vret hx hb hr (fun t9 e9 w9 => ⟨⟨(), rfl, trivial, by rw [e9]; exact hP, hD⟩, hS.F e9⟩) hS.2.2 dX1_init_4

-- TreeFamily$ByRebuilding.init
set_option maxHeartbeats 4000000 in
set_option maxRecDepth 100000 in
theorem c_X2_init (l : Launch) (D : va_G) (ca : Nat → ClassId) (sz : Nat) (b0 : Nat)  : Met l yX2_init wsX2_init ({ frames := 2, cells := 0, slots := 0, locals := 32 } : Room) (xPc D (TY ca) [.ref b0] ([]) sz) (va_Qv (fun u : Unit => True) (xB D (fun _ : Unit => []) (va_A ([]) sz)) (va_A ([]) sz)) 0 0 (va_A ([]) sz) := by
  refine Met.ofW (cc := cX2_init) (maxL := 1) (ret := none) (by decide) rfl ?_
  intro p e s m args below meth c s₁ B hml hv
  obtain ⟨rfl, hsz, hP, hKN, hD0⟩ := hv
  have hx := B.exec
  have hb := B.bytes
  have hr := B.returns
  have hts := atoms_spec (ws := wsX2_init) B.pre
  have hown : s.vm.findClass RX2 = some m.cls := findClass_of_methodNamed B.named
  have hin9 : meth.name = "<init>" := (name_of_methodNamed B.named B.method).1
  have hlocks := B.notSynchronized
  subst hsz
  have hD := hD0.self (sz := s.heap.size)
  generalize hAe : va_A ([]) s.heap.size = A at hD ⊢
  have hA : ∀ q : Nat, s.heap.size ≤ q → A q := fun q h => by rw [← hAe]; exact Or.inr h
  have hS : va_S A s.heap s.heap [] := va_S.rf
  have hl := lv_entry ([.ref b0]) (n := 1) (Nat.le_of_ble_eq_true rfl)
  rw [lg_entry_eq]
  generalize (lg_sl ([.ref b0]) ++ List.replicate (1 - (lg_sl ([.ref b0])).length) Slot.unset).toArray = ls at hl ⊢
  have hl : lv_has ls 1 [(0, .ref b0)] := hl
  refine lv_aload_n hx hb dX2_init_0 rfl (lv_at hl 0 rfl) ?_
  refine xc_v (wr := []) (va_runIN (As := []) (rest := []) ⟨hx, hb, hml, hown, hts⟩ (c_X5_init l D ca _ b0) ⟨va_cnB 0 hts gX2_init_X5_init_n1 rfl rfl rfl (NW.m hKN.2 (a := RX2) (i := 1) (x := yX5_init) (g := "TreeFamily") (by decide +kernel)) (hts _ (List.mem_of_elem_eq_true (by decide +kernel) : Cond.initialized yX5_init.cls ∈ wsX2_init)) (by decide +kernel) ⟨(Nat.le_of_ble_eq_true rfl), (Nat.le_of_ble_eq_true rfl)⟩, rfl, hts (.instanceMethod yX5_init) (by decide +kernel)⟩ (xPreS hKN hP hD [] (by decide) rfl) rfl rfl hl.1 rfl (lv_room (Nat.le_of_ble_eq_true rfl)) dX2_init_1 ⟨(Nat.le_of_ble_eq_true rfl), (Nat.le_of_ble_eq_true rfl)⟩) hP hD hS hA [] [] rfl rfl (by decide) (by decide) (fun u1 H locs hu1 hP hD hS => ?_)
  have hP : va_P D vwCl ([]) H := hP
  have hD : va_D A ([]) := hD
  exact W.vret hx hb hr (fun t9 e9 w9 => ⟨⟨(), rfl, trivial, by rw [e9]; exact hP, hD⟩, hS.F e9⟩) hS.2.2 dX2_init_4

-- TreeFamily$ByHeights.init
set_option maxHeartbeats 4000000 in
set_option maxRecDepth 100000 in
theorem c_X0_init (l : Launch) (D : va_G) (ca : Nat → ClassId) (sz : Nat) (b0 : Nat)  : Met l yX0_init wsX0_init ({ frames := 3, cells := 0, slots := 0, locals := 52 } : Room) (xPc D (TY ca) [.ref b0] ([]) sz) (va_Qv (fun u : Unit => True) (xB D (fun _ : Unit => []) (va_A ([]) sz)) (va_A ([]) sz)) 0 0 (va_A ([]) sz) := by
  refine Met.ofW (cc := cX0_init) (maxL := 1) (ret := none) (by decide) rfl ?_
  intro p e s m args below meth c s₁ B hml hv
  obtain ⟨rfl, hsz, hP, hKN, hD0⟩ := hv
  have hx := B.exec
  have hb := B.bytes
  have hr := B.returns
  have hts := atoms_spec (ws := wsX0_init) B.pre
  have hown : s.vm.findClass RX0 = some m.cls := findClass_of_methodNamed B.named
  have hin9 : meth.name = "<init>" := (name_of_methodNamed B.named B.method).1
  have hlocks := B.notSynchronized
  subst hsz
  have hD := hD0.self (sz := s.heap.size)
  generalize hAe : va_A ([]) s.heap.size = A at hD ⊢
  have hA : ∀ q : Nat, s.heap.size ≤ q → A q := fun q h => by rw [← hAe]; exact Or.inr h
  have hS : va_S A s.heap s.heap [] := va_S.rf
  have hl := lv_entry ([.ref b0]) (n := 1) (Nat.le_of_ble_eq_true rfl)
  rw [lg_entry_eq]
  generalize (lg_sl ([.ref b0]) ++ List.replicate (1 - (lg_sl ([.ref b0])).length) Slot.unset).toArray = ls at hl ⊢
  have hl : lv_has ls 1 [(0, .ref b0)] := hl
  refine lv_aload_n hx hb dX0_init_0 rfl (lv_at hl 0 rfl) ?_
  refine xc_v (wr := []) (va_runIN (As := []) (rest := []) ⟨hx, hb, hml, hown, hts⟩ (c_X3_init l D ca _ b0) ⟨va_cnB 0 hts gX0_init_X3_init_n1 rfl rfl rfl (NW.m hKN.2 (a := RX0) (i := 1) (x := yX3_init) (g := "TreeFamily") (by decide +kernel)) (hts _ (List.mem_of_elem_eq_true (by decide +kernel) : Cond.initialized yX3_init.cls ∈ wsX0_init)) (by decide +kernel) ⟨(Nat.le_of_ble_eq_true rfl), (Nat.le_of_ble_eq_true rfl)⟩, rfl, hts (.instanceMethod yX3_init) (by decide +kernel)⟩ (xPreS hKN hP hD [] (by decide) rfl) rfl rfl hl.1 rfl (lv_room (Nat.le_of_ble_eq_true rfl)) dX0_init_1 ⟨(Nat.le_of_ble_eq_true rfl), (Nat.le_of_ble_eq_true rfl)⟩) hP hD hS hA [] [] rfl rfl (by decide) (by decide) (fun u1 H locs hu1 hP hD hS => ?_)
  have hP : va_P D vwCl ([]) H := hP
  have hD : va_D A ([]) := hD
  exact W.vret hx hb hr (fun t9 e9 w9 => ⟨⟨(), rfl, trivial, by rw [e9]; exact hP, hD⟩, hS.F e9⟩) hS.2.2 dX0_init_4

-- TreeFamily$ByWeights.init
set_option maxHeartbeats 4000000 in
set_option maxRecDepth 100000 in
theorem c_X4_init (l : Launch) (D : va_G) (ca : Nat → ClassId) (sz : Nat) (b0 : Nat)  : Met l yX4_init wsX4_init ({ frames := 3, cells := 0, slots := 0, locals := 52 } : Room) (xPc D (TY ca) [.ref b0] ([]) sz) (va_Qv (fun u : Unit => True) (xB D (fun _ : Unit => []) (va_A ([]) sz)) (va_A ([]) sz)) 0 0 (va_A ([]) sz) := by
  refine Met.ofW (cc := cX4_init) (maxL := 1) (ret := none) (by decide) rfl ?_
  intro p e s m args below meth c s₁ B hml hv
  obtain ⟨rfl, hsz, hP, hKN, hD0⟩ := hv
  have hx := B.exec
  have hb := B.bytes
  have hr := B.returns
  have hts := atoms_spec (ws := wsX4_init) B.pre
  have hown : s.vm.findClass RX4 = some m.cls := findClass_of_methodNamed B.named
  have hin9 : meth.name = "<init>" := (name_of_methodNamed B.named B.method).1
  have hlocks := B.notSynchronized
  subst hsz
  have hD := hD0.self (sz := s.heap.size)
  generalize hAe : va_A ([]) s.heap.size = A at hD ⊢
  have hA : ∀ q : Nat, s.heap.size ≤ q → A q := fun q h => by rw [← hAe]; exact Or.inr h
  have hS : va_S A s.heap s.heap [] := va_S.rf
  have hl := lv_entry ([.ref b0]) (n := 1) (Nat.le_of_ble_eq_true rfl)
  rw [lg_entry_eq]
  generalize (lg_sl ([.ref b0]) ++ List.replicate (1 - (lg_sl ([.ref b0])).length) Slot.unset).toArray = ls at hl ⊢
  have hl : lv_has ls 1 [(0, .ref b0)] := hl
  refine lv_aload_n hx hb dX4_init_0 rfl (lv_at hl 0 rfl) ?_
  refine xc_v (wr := []) (va_runIN (As := []) (rest := []) ⟨hx, hb, hml, hown, hts⟩ (c_X3_init l D ca _ b0) ⟨va_cnB 0 hts gX4_init_X3_init_n1 rfl rfl rfl (NW.m hKN.2 (a := RX4) (i := 1) (x := yX3_init) (g := "TreeFamily") (by decide +kernel)) (hts _ (List.mem_of_elem_eq_true (by decide +kernel) : Cond.initialized yX3_init.cls ∈ wsX4_init)) (by decide +kernel) ⟨(Nat.le_of_ble_eq_true rfl), (Nat.le_of_ble_eq_true rfl)⟩, rfl, hts (.instanceMethod yX3_init) (by decide +kernel)⟩ (xPreS hKN hP hD [] (by decide) rfl) rfl rfl hl.1 rfl (lv_room (Nat.le_of_ble_eq_true rfl)) dX4_init_1 ⟨(Nat.le_of_ble_eq_true rfl), (Nat.le_of_ble_eq_true rfl)⟩) hP hD hS hA [] [] rfl rfl (by decide) (by decide) (fun u1 H locs hu1 hP hD hS => ?_)
  have hP : va_P D vwCl ([]) H := hP
  have hD : va_D A ([]) := hD
  exact W.vret hx hb hr (fun t9 e9 w9 => ⟨⟨(), rfl, trivial, by rw [e9]; exact hP, hD⟩, hS.F e9⟩) hS.2.2 dX4_init_4

-- TreeFamily$Tree.clear
set_option maxHeartbeats 4000000 in
set_option maxRecDepth 100000 in
theorem c_X8_clear0 (l : Launch) (D : va_G) (ca : Nat → ClassId) (kq a : Nat → Nat) (sz : Nat) (ky vl : Nat → Int32) (lf rt : Nat → Nat) (ct ht : Nat → Int32) (tt : Nat → Int64) (sp pa ro : Nat → Nat) (ss dp rn : Nat) (od : Int32) (kd : Nat) (k2 : Nat) (o2 : Int32)  (hlf : ∀ k, lf k ≤ 60) (hrt : ∀ k, rt k ≤ 60) (hsp : ∀ k, sp k ≤ 60) (hpa : ∀ k, pa k ≤ 60) (hro : ∀ k, ro k ≤ 60) (hrn : rn ≤ 60) : Met l yX8_clear wsX8_clear ({ frames := 0, cells := 0, slots := 0, locals := 0 } : Room) (xPc D (TY ca) [.ref (a 0), .ref (kq k2), .int o2] (wTn ca kq a (ky, vl, lf, rt, ct, ht, tt, sp, pa, ro, ss, dp, rn, od, kd)) sz) (va_Qv (fun u : TS => u = f_clear (ky, vl, lf, rt, ct, ht, tt, sp, pa, ro, ss, dp, rn, od, kd) k2 o2) (xB D (wT ca kq a) (va_A (wTn ca kq a (ky, vl, lf, rt, ct, ht, tt, sp, pa, ro, ss, dp, rn, od, kd)) sz)) (va_A (wTn ca kq a (ky, vl, lf, rt, ct, ht, tt, sp, pa, ro, ss, dp, rn, od, kd)) sz)) 0 0 (va_A (wTn ca kq a (ky, vl, lf, rt, ct, ht, tt, sp, pa, ro, ss, dp, rn, od, kd)) sz) := by
  refine Met.ofW (cc := cX8_clear) (maxL := 4) (ret := none) (by decide) rfl ?_
  intro p e s m args below meth c s₁ B hml hv
  obtain ⟨rfl, hsz, hP, hKN, hD0⟩ := hv
  have hx := B.exec
  have hb := B.bytes
  have hr := B.returns
  have hts := atoms_spec (ws := wsX8_clear) B.pre
  have hown : s.vm.findClass RX8 = some m.cls := findClass_of_methodNamed B.named
  have hlocks := B.notSynchronized
  have inX8 : ∀ w ∈ wsX80, w ∈ wsX8_clear := by decide +kernel
  subst hsz
  have hD := hD0.self (sz := s.heap.size)
  generalize hAe : va_A (wTn ca kq a (ky, vl, lf, rt, ct, ht, tt, sp, pa, ro, ss, dp, rn, od, kd)) s.heap.size = A at hD ⊢
  have hA : ∀ q : Nat, s.heap.size ≤ q → A q := fun q h => by rw [← hAe]; exact Or.inr h
  have hS : va_S A s.heap s.heap [] := va_S.rf
  have hl := lv_entry ([.ref (a 0), .ref (kq k2), .int o2]) (n := 4) (Nat.le_of_ble_eq_true rfl)
  rw [lg_entry_eq]
  generalize (lg_sl ([.ref (a 0), .ref (kq k2), .int o2]) ++ List.replicate (4 - (lg_sl ([.ref (a 0), .ref (kq k2), .int o2])).length) Slot.unset).toArray = ls at hl ⊢
  have hl : lv_has ls 4 [(0, .ref (a 0)), (1, .ref (kq k2)), (2, .int o2)] := hl
  refine lv_aload_n hx hb dX8_clear_0 rfl (lv_at hl 0 rfl) ?_
  refine lv_aload_n hx hb dX8_clear_1 rfl (lv_at hl 1 rfl) ?_
  refine va_put (D := D) (ci := 6) (v := .ref (kq k2)) (ty := .object "TreeFamily$Kind") (C := RX8) (T := TX8) (N := 15) hx hb hts inX8 tyX8 tyX8_ok nmX8 hown hKN.1 hP hD hS 0 rfl rfl 14 (by decide) (hts (.fieldLink RX8 47 "TreeFamily$Tree" "kind" "LTreeFamily$Kind;") (by decide +kernel)) (fun _ h9 => h9) rfl (by decide +kernel) rfl rfl (Nat.le_of_ble_eq_true rfl) dX8_clear_2 (fun H locs hP hD hS => ?_)
  have hP : va_P D vwCl (wT ca kq a (ky, vl, lf, rt, ct, ht, tt, sp, pa, ro, ss, dp, rn, od, k2)) H := hP
  have hD : va_D A (wT ca kq a (ky, vl, lf, rt, ct, ht, tt, sp, pa, ro, ss, dp, rn, od, k2)) := hD
  refine lv_aload_n hx hb dX8_clear_5 rfl (lv_at hl 0 rfl) ?_
  refine lv_iload_n hx hb dX8_clear_6 rfl (lv_at hl 2 rfl) ?_
  refine va_put (D := D) (ci := 6) (v := .int o2) (ty := .int) (C := RX8) (T := TX8) (N := 15) hx hb hts inX8 tyX8 tyX8_ok nmX8 hown hKN.1 hP hD hS 0 rfl rfl 13 (by decide) (hts (.fieldLink RX8 51 "TreeFamily$Tree" "order" "I") (by decide +kernel)) (fun _ h9 => h9) rfl (by decide +kernel) rfl rfl (Nat.le_of_ble_eq_true rfl) dX8_clear_7 (fun H locs hP hD hS => ?_)
  have hP : va_P D vwCl (wT ca kq a (ky, vl, lf, rt, ct, ht, tt, sp, pa, ro, ss, dp, rn, o2, k2)) H := hP
  have hD : va_D A (wT ca kq a (ky, vl, lf, rt, ct, ht, tt, sp, pa, ro, ss, dp, rn, o2, k2)) := hD
  refine lv_aload_n hx hb dX8_clear_10 rfl (lv_at hl 0 rfl) ?_
  refine lv_iconst (v := 0) hx hb dX8_clear_11 (by decide) ?_
  refine va_put (D := D) (ci := 6) (v := .int 0) (ty := .int) (C := RX8) (T := TX8) (N := 15) hx hb hts inX8 tyX8 tyX8_ok nmX8 hown hKN.1 hP hD hS 0 rfl rfl 12 (by decide) (hts (.fieldLink RX8 55 "TreeFamily$Tree" "root" "I") (by decide +kernel)) (fun _ h9 => h9) rfl (by decide +kernel) rfl rfl (Nat.le_of_ble_eq_true rfl) dX8_clear_12 (fun H locs hP hD hS => ?_)
  have hP : va_P D vwCl (wT ca kq a (ky, vl, lf, rt, ct, ht, tt, sp, pa, ro, ss, dp, 0, o2, k2)) H := hP
  have hD : va_D A (wT ca kq a (ky, vl, lf, rt, ct, ht, tt, sp, pa, ro, ss, dp, 0, o2, k2)) := hD
  refine lv_aload_n hx hb dX8_clear_15 rfl (lv_at hl 0 rfl) ?_
  refine lv_iconst (v := 0) hx hb dX8_clear_16 (by decide) ?_
  refine va_put (D := D) (ci := 6) (v := .int 0) (ty := .int) (C := RX8) (T := TX8) (N := 15) hx hb hts inX8 tyX8 tyX8_ok nmX8 hown hKN.1 hP hD hS 0 rfl rfl 11 (by decide) (hts (.fieldLink RX8 58 "TreeFamily$Tree" "depth" "I") (by decide +kernel)) (fun _ h9 => h9) rfl (by decide +kernel) rfl rfl (Nat.le_of_ble_eq_true rfl) dX8_clear_17 (fun H locs hP hD hS => ?_)
  have hP : va_P D vwCl (wT ca kq a (ky, vl, lf, rt, ct, ht, tt, sp, pa, ro, ss, 0, 0, o2, k2)) H := hP
  have hD : va_D A (wT ca kq a (ky, vl, lf, rt, ct, ht, tt, sp, pa, ro, ss, 0, 0, o2, k2)) := hD
  refine lv_aload_n hx hb dX8_clear_20 rfl (lv_at hl 0 rfl) ?_
  refine lv_bipush (v := 60) hx hb dX8_clear_21 (by decide) ?_
  refine va_put (D := D) (ci := 6) (v := .int 60) (ty := .int) (C := RX8) (T := TX8) (N := 15) hx hb hts inX8 tyX8 tyX8_ok nmX8 hown hKN.1 hP hD hS 0 rfl rfl 10 (by decide) (hts (.fieldLink RX8 61 "TreeFamily$Tree" "spares" "I") (by decide +kernel)) (fun _ h9 => h9) rfl (by decide +kernel) rfl rfl (Nat.le_of_ble_eq_true rfl) dX8_clear_23 (fun H locs hP hD hS => ?_)
  have hP : va_P D vwCl (wT ca kq a (ky, vl, lf, rt, ct, ht, tt, sp, pa, ro, 60, 0, 0, o2, k2)) H := hP
  have hD : va_D A (wT ca kq a (ky, vl, lf, rt, ct, ht, tt, sp, pa, ro, 60, 0, 0, o2, k2)) := hD
  refine lv_iconst (v := 0) hx hb dX8_clear_26 (by decide) ?_
  refine lv_istore_n (lv' := [(3, .int 0), (0, .ref (a 0)), (1, .ref (kq k2)), (2, .int o2)]) hx hb dX8_clear_27 rfl hl (by decide) rfl (fun ls hl => ?_)
  refine xl 28 (σ := Nat × (Nat → Nat)) (fun n u H locs ls => match u with | (i, q) => i + n = 60 ∧ (∀ k, q k ≤ 60) ∧ sp_go 60 0 sp = sp_go n i q ∧ va_P D vwCl (wT ca kq a (ky, vl, lf, rt, ct, ht, tt, q, pa, ro, 60, 0, 0, o2, k2)) H ∧ va_D A (wT ca kq a (ky, vl, lf, rt, ct, ht, tt, q, pa, ro, 60, 0, 0, o2, k2)) ∧ va_S A s.heap H locs ∧ lv_has ls 4 [(0, .ref (a 0)), (1, .ref (kq k2)), (2, .int o2), (3, .int (nI i))]) ?_ 60 (0, sp) _ _ _ ⟨rfl, hsp, rfl, hP, hD, hS, lv_sub hl [1, 2, 3, 0] rfl⟩
  clear hP hD hS hl
  intro n ih u H locs ls hI
  obtain ⟨i, q⟩ := u
  obtain ⟨hn, hq, hg, hP, hD, hS, hl⟩ := hI
  refine lv_iload_n hx hb dX8_clear_28 rfl (lv_at hl 3 rfl) ?_
  refine lv_bipush (v := 60) hx hb dX8_clear_29 (by decide) ?_
  refine lv_icmp_ge (tgt := 50) hx hb dX8_clear_31 (by decide) (fun c31 => ?_) (fun c31 => ?_)
  · skip
    have c31 : 60 ≤ i := (xn_le (a := 60) (b := i) (by decide) (by omega)).mp c31
    exact W.vret hx hb hr (fun t9 e9 w9 => ⟨⟨(ky, vl, lf, rt, ct, ht, tt, q, pa, ro, 60, 0, 0, o2, k2), rfl, by obtain rfl : n = 0 := (by omega); show _ = (ky, vl, lf, rt, ct, ht, tt, sp_go 60 0 sp, pa, ro, 60, 0, 0, o2, k2); rw [hg]; rfl, by rw [e9]; exact hP, hD⟩, hS.F e9⟩) hS.2.2 dX8_clear_50
  · skip
    have c31 : ¬ 60 ≤ i := fun h9 => c31 ((xn_le (a := 60) (b := i) (by decide) (by omega)).mpr h9)
    obtain ⟨n, rfl⟩ : ∃ k, n = k + 1 := ⟨n - 1, by omega⟩
    refine lv_aload_n hx hb dX8_clear_34 rfl (lv_at hl 0 rfl) ?_
    refine va_get (D := D) (ci := 6) (v := .ref (a 8)) (C := RX8) (T := TX8) (N := 15) hx hb hts inX8 hown hKN.1 hP 0 rfl rfl 7 (by decide) (hts (.fieldLink RX8 34 "TreeFamily$Tree" "spare" "[I") (by decide +kernel)) (fun _ h9 => h9) rfl dX8_clear_35 ?_
    refine lv_iload_n hx hb dX8_clear_38 rfl (lv_at hl 3 rfl) ?_
    refine lv_bipush (v := 60) hx hb dX8_clear_39 (by decide) ?_
    refine lv_iload_n hx hb dX8_clear_41 rfl (lv_at hl 3 rfl) ?_
    refine lv_isub hx hb dX8_clear_42 ?_
    refine xr_top (y := nI (60 - i)) (pk_sub (a := 60) (b := i) (by omega)) ?_
    refine xr_nst hx hb hKN.1 hP hD hS 8 0 (g := q) rfl rfl (j := i) (v := 60 - i) (by omega) (by decide) dX8_clear_43 (fun H locs hP hD hS => ?_)
    have hP : va_P D vwCl (wT ca kq a (ky, vl, lf, rt, ct, ht, tt, (va_up q i (60 - i)), pa, ro, 60, 0, 0, o2, k2)) H := hP
    have hD : va_D A (wT ca kq a (ky, vl, lf, rt, ct, ht, tt, (va_up q i (60 - i)), pa, ro, 60, 0, 0, o2, k2)) := hD
    refine lv_iinc (v := (nI (i + 1))) (lv' := [(3, .int (nI (i + 1))), (0, .ref (a 0)), (1, .ref (kq k2)), (2, .int o2)]) hx hb dX8_clear_44 hl (k := 3) rfl (nI_1 _) (by decide) rfl (fun ls hl => ?_)
    refine lv_goto (tgt := 28) hx hb dX8_clear_47 (by decide) ?_
    exact ih n (by omega) (i + 1, (va_up q i (60 - i))) _ _ _ ⟨(by omega), (vu_le hq (by omega)), hg.trans (by rw [sp_go]), hP, hD, hS, lv_sub hl [1, 2, 3, 0] rfl⟩

-- TreeFamily$Tree.init
set_option maxHeartbeats 4000000 in
set_option maxRecDepth 100000 in
theorem c_X8_init (l : Launch) (D : va_G) (ca : Nat → ClassId) (kq : Nat → Nat) (sz : Nat) (b0 k2 : Nat)  : Met l yX8_init wsX8_init ({ frames := 1, cells := 10, slots := 608, locals := 23 } : Room) (xPc D (TY ca) [.ref b0, .ref (kq k2)] ([(b0, .inr (6, [.null, .null, .null, .null, .null, .null, .null, .null, .null, .null, .int 0, .int 0, .int 0, .int 0, .null]))]) sz) (va_Qv (fun u : (Nat → Nat) × TS => u.1 0 = b0 ∧ u.2 = f_clear zT k2 0) (xB D (fun u => wT ca kq u.1 u.2) (va_A ([(b0, .inr (6, [.null, .null, .null, .null, .null, .null, .null, .null, .null, .null, .int 0, .int 0, .int 0, .int 0, .null]))]) sz)) (va_A ([(b0, .inr (6, [.null, .null, .null, .null, .null, .null, .null, .null, .null, .null, .int 0, .int 0, .int 0, .int 0, .null]))]) sz)) 10 608 (va_A ([(b0, .inr (6, [.null, .null, .null, .null, .null, .null, .null, .null, .null, .null, .int 0, .int 0, .int 0, .int 0, .null]))]) sz) := by
  refine Met.ofW (cc := cX8_init) (maxL := 2) (ret := none) (by decide) rfl ?_
  intro p e s m args below meth c s₁ B hml hv
  obtain ⟨rfl, hsz, hP, hKN, hD0⟩ := hv
  have hx := B.exec
  have hb := B.bytes
  have hr := B.returns
  have hts := atoms_spec (ws := wsX8_init) B.pre
  have hown : s.vm.findClass RX8 = some m.cls := findClass_of_methodNamed B.named
  have hin9 : meth.name = "<init>" := (name_of_methodNamed B.named B.method).1
  have hlocks := B.notSynchronized
  have inX8 : ∀ w ∈ wsX80, w ∈ wsX8_init := by decide +kernel
  subst hsz
  have hD := hD0.self (sz := s.heap.size)
  generalize hAe : va_A ([(b0, .inr (6, [.null, .null, .null, .null, .null, .null, .null, .null, .null, .null, .int 0, .int 0, .int 0, .int 0, .null]))]) s.heap.size = A at hD ⊢
  have hA : ∀ q : Nat, s.heap.size ≤ q → A q := fun q h => by rw [← hAe]; exact Or.inr h
  have hS : va_S A s.heap s.heap [] := va_S.rf
  have hl := lv_entry ([.ref b0, .ref (kq k2)]) (n := 2) (Nat.le_of_ble_eq_true rfl)
  rw [lg_entry_eq]
  generalize (lg_sl ([.ref b0, .ref (kq k2)]) ++ List.replicate (2 - (lg_sl ([.ref b0, .ref (kq k2)])).length) Slot.unset).toArray = ls at hl ⊢
  have hl : lv_has ls 2 [(0, .ref b0), (1, .ref (kq k2))] := hl
  refine lv_aload_n hx hb dX8_init_0 rfl (lv_at hl 0 rfl) ?_
  refine W.objInit hx hb hown (hts (.methodLink RX8 3 objectInit) (by decide +kernel)) (hts (.instanceMethod objectInit) (by decide +kernel)) (hts (.code objectInit ⟨#[0xb1]⟩ 1 none) (by decide +kernel)) rfl (by rw [hml]; exact hl.1) rfl dX8_init_1 (Nat.le_of_ble_eq_true rfl) (Nat.le_of_ble_eq_true rfl) ?_
  refine lv_aload_n hx hb dX8_init_4 rfl (lv_at hl 0 rfl) ?_
  refine lv_bipush (v := 61) hx hb dX8_init_5 (by decide) ?_
  refine xr_newa (atype := .int) hx hb (hts (.arrayClass .int) (by decide +kernel)) 0 rfl hKN.1 hP hD hS hA (n := 61) (N' := 61) (a0 := (61, .inl (fun _ => 0))) (xha_i _) (by decide +kernel) (by decide +kernel) (by decide +kernel) (Nat.le_of_ble_eq_true rfl) (Nat.le_of_ble_eq_true rfl) dX8_init_7 (fun q7 H hP hD hS => ?_)
  have hP : va_P D vwCl ([(b0, .inr (6, [.null, .null, .null, .null, .null, .null, .null, .null, .null, .null, .int 0, .int 0, .int 0, .int 0, .null])), (q7, .inl (ca 0, 61, .inl (fun _ => 0)))]) H := hP
  have hD : va_D A ([(b0, .inr (6, [.null, .null, .null, .null, .null, .null, .null, .null, .null, .null, .int 0, .int 0, .int 0, .int 0, .null])), (q7, .inl (ca 0, 61, .inl (fun _ => 0)))]) := hD
  refine va_putF (D := D) (ci := 6) (v := .ref q7) (ty := .array .int) (C := RX8) (T := TX8) (N := 15) hx hb hts inX8 tyX8 tyX8_ok nmX8 hown hKN.1 hP hD hS 0 rfl rfl 0 (by decide) (hts (.fieldLink RX8 9 "TreeFamily$Tree" "keys" "[I") (by decide +kernel)) (fun _ h9 => h9) rfl hin9 rfl (by decide +kernel) rfl rfl (Nat.le_of_ble_eq_true rfl) dX8_init_9 (fun H locs hP hD hS => ?_)
  have hP : va_P D vwCl ([(b0, .inr (6, [.ref q7, .null, .null, .null, .null, .null, .null, .null, .null, .null, .int 0, .int 0, .int 0, .int 0, .null])), (q7, .inl (ca 0, 61, .inl (fun _ => 0)))]) H := hP
  have hD : va_D A ([(b0, .inr (6, [.ref q7, .null, .null, .null, .null, .null, .null, .null, .null, .null, .int 0, .int 0, .int 0, .int 0, .null])), (q7, .inl (ca 0, 61, .inl (fun _ => 0)))]) := hD
  refine lv_aload_n hx hb dX8_init_12 rfl (lv_at hl 0 rfl) ?_
  refine lv_bipush (v := 61) hx hb dX8_init_13 (by decide) ?_
  refine xr_newa (atype := .int) hx hb (hts (.arrayClass .int) (by decide +kernel)) 0 rfl hKN.1 hP hD hS hA (n := 61) (N' := 61) (a0 := (61, .inl (fun _ => 0))) (xha_i _) (by decide +kernel) (by decide +kernel) (by decide +kernel) (Nat.le_of_ble_eq_true rfl) (Nat.le_of_ble_eq_true rfl) dX8_init_15 (fun q15 H hP hD hS => ?_)
  have hP : va_P D vwCl ([(b0, .inr (6, [.ref q7, .null, .null, .null, .null, .null, .null, .null, .null, .null, .int 0, .int 0, .int 0, .int 0, .null])), (q7, .inl (ca 0, 61, .inl (fun _ => 0))), (q15, .inl (ca 0, 61, .inl (fun _ => 0)))]) H := hP
  have hD : va_D A ([(b0, .inr (6, [.ref q7, .null, .null, .null, .null, .null, .null, .null, .null, .null, .int 0, .int 0, .int 0, .int 0, .null])), (q7, .inl (ca 0, 61, .inl (fun _ => 0))), (q15, .inl (ca 0, 61, .inl (fun _ => 0)))]) := hD
  refine va_putF (D := D) (ci := 6) (v := .ref q15) (ty := .array .int) (C := RX8) (T := TX8) (N := 15) hx hb hts inX8 tyX8 tyX8_ok nmX8 hown hKN.1 hP hD hS 0 rfl rfl 1 (by decide) (hts (.fieldLink RX8 15 "TreeFamily$Tree" "values" "[I") (by decide +kernel)) (fun _ h9 => h9) rfl hin9 rfl (by decide +kernel) rfl rfl (Nat.le_of_ble_eq_true rfl) dX8_init_17 (fun H locs hP hD hS => ?_)
  have hP : va_P D vwCl ([(b0, .inr (6, [.ref q7, .ref q15, .null, .null, .null, .null, .null, .null, .null, .null, .int 0, .int 0, .int 0, .int 0, .null])), (q7, .inl (ca 0, 61, .inl (fun _ => 0))), (q15, .inl (ca 0, 61, .inl (fun _ => 0)))]) H := hP
  have hD : va_D A ([(b0, .inr (6, [.ref q7, .ref q15, .null, .null, .null, .null, .null, .null, .null, .null, .int 0, .int 0, .int 0, .int 0, .null])), (q7, .inl (ca 0, 61, .inl (fun _ => 0))), (q15, .inl (ca 0, 61, .inl (fun _ => 0)))]) := hD
  refine lv_aload_n hx hb dX8_init_20 rfl (lv_at hl 0 rfl) ?_
  refine lv_bipush (v := 61) hx hb dX8_init_21 (by decide) ?_
  refine xr_newa (atype := .int) hx hb (hts (.arrayClass .int) (by decide +kernel)) 0 rfl hKN.1 hP hD hS hA (n := 61) (N' := 61) (a0 := (61, .inl (fun _ => 0))) (xha_i _) (by decide +kernel) (by decide +kernel) (by decide +kernel) (Nat.le_of_ble_eq_true rfl) (Nat.le_of_ble_eq_true rfl) dX8_init_23 (fun q23 H hP hD hS => ?_)
  have hP : va_P D vwCl ([(b0, .inr (6, [.ref q7, .ref q15, .null, .null, .null, .null, .null, .null, .null, .null, .int 0, .int 0, .int 0, .int 0, .null])), (q7, .inl (ca 0, 61, .inl (fun _ => 0))), (q15, .inl (ca 0, 61, .inl (fun _ => 0))), (q23, .inl (ca 0, 61, .inl (fun _ => 0)))]) H := hP
  have hD : va_D A ([(b0, .inr (6, [.ref q7, .ref q15, .null, .null, .null, .null, .null, .null, .null, .null, .int 0, .int 0, .int 0, .int 0, .null])), (q7, .inl (ca 0, 61, .inl (fun _ => 0))), (q15, .inl (ca 0, 61, .inl (fun _ => 0))), (q23, .inl (ca 0, 61, .inl (fun _ => 0)))]) := hD
  refine va_putF (D := D) (ci := 6) (v := .ref q23) (ty := .array .int) (C := RX8) (T := TX8) (N := 15) hx hb hts inX8 tyX8 tyX8_ok nmX8 hown hKN.1 hP hD hS 0 rfl rfl 2 (by decide) (hts (.fieldLink RX8 18 "TreeFamily$Tree" "left" "[I") (by decide +kernel)) (fun _ h9 => h9) rfl hin9 rfl (by decide +kernel) rfl rfl (Nat.le_of_ble_eq_true rfl) dX8_init_25 (fun H locs hP hD hS => ?_)
  have hP : va_P D vwCl ([(b0, .inr (6, [.ref q7, .ref q15, .ref q23, .null, .null, .null, .null, .null, .null, .null, .int 0, .int 0, .int 0, .int 0, .null])), (q7, .inl (ca 0, 61, .inl (fun _ => 0))), (q15, .inl (ca 0, 61, .inl (fun _ => 0))), (q23, .inl (ca 0, 61, .inl (fun _ => 0)))]) H := hP
  have hD : va_D A ([(b0, .inr (6, [.ref q7, .ref q15, .ref q23, .null, .null, .null, .null, .null, .null, .null, .int 0, .int 0, .int 0, .int 0, .null])), (q7, .inl (ca 0, 61, .inl (fun _ => 0))), (q15, .inl (ca 0, 61, .inl (fun _ => 0))), (q23, .inl (ca 0, 61, .inl (fun _ => 0)))]) := hD
  refine lv_aload_n hx hb dX8_init_28 rfl (lv_at hl 0 rfl) ?_
  refine lv_bipush (v := 61) hx hb dX8_init_29 (by decide) ?_
  refine xr_newa (atype := .int) hx hb (hts (.arrayClass .int) (by decide +kernel)) 0 rfl hKN.1 hP hD hS hA (n := 61) (N' := 61) (a0 := (61, .inl (fun _ => 0))) (xha_i _) (by decide +kernel) (by decide +kernel) (by decide +kernel) (Nat.le_of_ble_eq_true rfl) (Nat.le_of_ble_eq_true rfl) dX8_init_31 (fun q31 H hP hD hS => ?_)
  have hP : va_P D vwCl ([(b0, .inr (6, [.ref q7, .ref q15, .ref q23, .null, .null, .null, .null, .null, .null, .null, .int 0, .int 0, .int 0, .int 0, .null])), (q7, .inl (ca 0, 61, .inl (fun _ => 0))), (q15, .inl (ca 0, 61, .inl (fun _ => 0))), (q23, .inl (ca 0, 61, .inl (fun _ => 0))), (q31, .inl (ca 0, 61, .inl (fun _ => 0)))]) H := hP
  have hD : va_D A ([(b0, .inr (6, [.ref q7, .ref q15, .ref q23, .null, .null, .null, .null, .null, .null, .null, .int 0, .int 0, .int 0, .int 0, .null])), (q7, .inl (ca 0, 61, .inl (fun _ => 0))), (q15, .inl (ca 0, 61, .inl (fun _ => 0))), (q23, .inl (ca 0, 61, .inl (fun _ => 0))), (q31, .inl (ca 0, 61, .inl (fun _ => 0)))]) := hD
  refine va_putF (D := D) (ci := 6) (v := .ref q31) (ty := .array .int) (C := RX8) (T := TX8) (N := 15) hx hb hts inX8 tyX8 tyX8_ok nmX8 hown hKN.1 hP hD hS 0 rfl rfl 3 (by decide) (hts (.fieldLink RX8 21 "TreeFamily$Tree" "right" "[I") (by decide +kernel)) (fun _ h9 => h9) rfl hin9 rfl (by decide +kernel) rfl rfl (Nat.le_of_ble_eq_true rfl) dX8_init_33 (fun H locs hP hD hS => ?_)
  have hP : va_P D vwCl ([(b0, .inr (6, [.ref q7, .ref q15, .ref q23, .ref q31, .null, .null, .null, .null, .null, .null, .int 0, .int 0, .int 0, .int 0, .null])), (q7, .inl (ca 0, 61, .inl (fun _ => 0))), (q15, .inl (ca 0, 61, .inl (fun _ => 0))), (q23, .inl (ca 0, 61, .inl (fun _ => 0))), (q31, .inl (ca 0, 61, .inl (fun _ => 0)))]) H := hP
  have hD : va_D A ([(b0, .inr (6, [.ref q7, .ref q15, .ref q23, .ref q31, .null, .null, .null, .null, .null, .null, .int 0, .int 0, .int 0, .int 0, .null])), (q7, .inl (ca 0, 61, .inl (fun _ => 0))), (q15, .inl (ca 0, 61, .inl (fun _ => 0))), (q23, .inl (ca 0, 61, .inl (fun _ => 0))), (q31, .inl (ca 0, 61, .inl (fun _ => 0)))]) := hD
  refine lv_aload_n hx hb dX8_init_36 rfl (lv_at hl 0 rfl) ?_
  refine lv_bipush (v := 61) hx hb dX8_init_37 (by decide) ?_
  refine xr_newa (atype := .int) hx hb (hts (.arrayClass .int) (by decide +kernel)) 0 rfl hKN.1 hP hD hS hA (n := 61) (N' := 61) (a0 := (61, .inl (fun _ => 0))) (xha_i _) (by decide +kernel) (by decide +kernel) (by decide +kernel) (Nat.le_of_ble_eq_true rfl) (Nat.le_of_ble_eq_true rfl) dX8_init_39 (fun q39 H hP hD hS => ?_)
  have hP : va_P D vwCl ([(b0, .inr (6, [.ref q7, .ref q15, .ref q23, .ref q31, .null, .null, .null, .null, .null, .null, .int 0, .int 0, .int 0, .int 0, .null])), (q7, .inl (ca 0, 61, .inl (fun _ => 0))), (q15, .inl (ca 0, 61, .inl (fun _ => 0))), (q23, .inl (ca 0, 61, .inl (fun _ => 0))), (q31, .inl (ca 0, 61, .inl (fun _ => 0))), (q39, .inl (ca 0, 61, .inl (fun _ => 0)))]) H := hP
  have hD : va_D A ([(b0, .inr (6, [.ref q7, .ref q15, .ref q23, .ref q31, .null, .null, .null, .null, .null, .null, .int 0, .int 0, .int 0, .int 0, .null])), (q7, .inl (ca 0, 61, .inl (fun _ => 0))), (q15, .inl (ca 0, 61, .inl (fun _ => 0))), (q23, .inl (ca 0, 61, .inl (fun _ => 0))), (q31, .inl (ca 0, 61, .inl (fun _ => 0))), (q39, .inl (ca 0, 61, .inl (fun _ => 0)))]) := hD
  refine va_putF (D := D) (ci := 6) (v := .ref q39) (ty := .array .int) (C := RX8) (T := TX8) (N := 15) hx hb hts inX8 tyX8 tyX8_ok nmX8 hown hKN.1 hP hD hS 0 rfl rfl 4 (by decide) (hts (.fieldLink RX8 24 "TreeFamily$Tree" "counts" "[I") (by decide +kernel)) (fun _ h9 => h9) rfl hin9 rfl (by decide +kernel) rfl rfl (Nat.le_of_ble_eq_true rfl) dX8_init_41 (fun H locs hP hD hS => ?_)
  have hP : va_P D vwCl ([(b0, .inr (6, [.ref q7, .ref q15, .ref q23, .ref q31, .ref q39, .null, .null, .null, .null, .null, .int 0, .int 0, .int 0, .int 0, .null])), (q7, .inl (ca 0, 61, .inl (fun _ => 0))), (q15, .inl (ca 0, 61, .inl (fun _ => 0))), (q23, .inl (ca 0, 61, .inl (fun _ => 0))), (q31, .inl (ca 0, 61, .inl (fun _ => 0))), (q39, .inl (ca 0, 61, .inl (fun _ => 0)))]) H := hP
  have hD : va_D A ([(b0, .inr (6, [.ref q7, .ref q15, .ref q23, .ref q31, .ref q39, .null, .null, .null, .null, .null, .int 0, .int 0, .int 0, .int 0, .null])), (q7, .inl (ca 0, 61, .inl (fun _ => 0))), (q15, .inl (ca 0, 61, .inl (fun _ => 0))), (q23, .inl (ca 0, 61, .inl (fun _ => 0))), (q31, .inl (ca 0, 61, .inl (fun _ => 0))), (q39, .inl (ca 0, 61, .inl (fun _ => 0)))]) := hD
  refine lv_aload_n hx hb dX8_init_44 rfl (lv_at hl 0 rfl) ?_
  refine lv_bipush (v := 61) hx hb dX8_init_45 (by decide) ?_
  refine xr_newa (atype := .int) hx hb (hts (.arrayClass .int) (by decide +kernel)) 0 rfl hKN.1 hP hD hS hA (n := 61) (N' := 61) (a0 := (61, .inl (fun _ => 0))) (xha_i _) (by decide +kernel) (by decide +kernel) (by decide +kernel) (Nat.le_of_ble_eq_true rfl) (Nat.le_of_ble_eq_true rfl) dX8_init_47 (fun q47 H hP hD hS => ?_)
  have hP : va_P D vwCl ([(b0, .inr (6, [.ref q7, .ref q15, .ref q23, .ref q31, .ref q39, .null, .null, .null, .null, .null, .int 0, .int 0, .int 0, .int 0, .null])), (q7, .inl (ca 0, 61, .inl (fun _ => 0))), (q15, .inl (ca 0, 61, .inl (fun _ => 0))), (q23, .inl (ca 0, 61, .inl (fun _ => 0))), (q31, .inl (ca 0, 61, .inl (fun _ => 0))), (q39, .inl (ca 0, 61, .inl (fun _ => 0))), (q47, .inl (ca 0, 61, .inl (fun _ => 0)))]) H := hP
  have hD : va_D A ([(b0, .inr (6, [.ref q7, .ref q15, .ref q23, .ref q31, .ref q39, .null, .null, .null, .null, .null, .int 0, .int 0, .int 0, .int 0, .null])), (q7, .inl (ca 0, 61, .inl (fun _ => 0))), (q15, .inl (ca 0, 61, .inl (fun _ => 0))), (q23, .inl (ca 0, 61, .inl (fun _ => 0))), (q31, .inl (ca 0, 61, .inl (fun _ => 0))), (q39, .inl (ca 0, 61, .inl (fun _ => 0))), (q47, .inl (ca 0, 61, .inl (fun _ => 0)))]) := hD
  refine va_putF (D := D) (ci := 6) (v := .ref q47) (ty := .array .int) (C := RX8) (T := TX8) (N := 15) hx hb hts inX8 tyX8 tyX8_ok nmX8 hown hKN.1 hP hD hS 0 rfl rfl 5 (by decide) (hts (.fieldLink RX8 27 "TreeFamily$Tree" "heights" "[I") (by decide +kernel)) (fun _ h9 => h9) rfl hin9 rfl (by decide +kernel) rfl rfl (Nat.le_of_ble_eq_true rfl) dX8_init_49 (fun H locs hP hD hS => ?_)
  have hP : va_P D vwCl ([(b0, .inr (6, [.ref q7, .ref q15, .ref q23, .ref q31, .ref q39, .ref q47, .null, .null, .null, .null, .int 0, .int 0, .int 0, .int 0, .null])), (q7, .inl (ca 0, 61, .inl (fun _ => 0))), (q15, .inl (ca 0, 61, .inl (fun _ => 0))), (q23, .inl (ca 0, 61, .inl (fun _ => 0))), (q31, .inl (ca 0, 61, .inl (fun _ => 0))), (q39, .inl (ca 0, 61, .inl (fun _ => 0))), (q47, .inl (ca 0, 61, .inl (fun _ => 0)))]) H := hP
  have hD : va_D A ([(b0, .inr (6, [.ref q7, .ref q15, .ref q23, .ref q31, .ref q39, .ref q47, .null, .null, .null, .null, .int 0, .int 0, .int 0, .int 0, .null])), (q7, .inl (ca 0, 61, .inl (fun _ => 0))), (q15, .inl (ca 0, 61, .inl (fun _ => 0))), (q23, .inl (ca 0, 61, .inl (fun _ => 0))), (q31, .inl (ca 0, 61, .inl (fun _ => 0))), (q39, .inl (ca 0, 61, .inl (fun _ => 0))), (q47, .inl (ca 0, 61, .inl (fun _ => 0)))]) := hD
  refine lv_aload_n hx hb dX8_init_52 rfl (lv_at hl 0 rfl) ?_
  refine lv_bipush (v := 61) hx hb dX8_init_53 (by decide) ?_
  refine xr_newa (atype := .long) hx hb (hts (.arrayClass .long) (by decide +kernel)) 1 rfl hKN.1 hP hD hS hA (n := 61) (N' := 61) (a0 := (61, .inr (.inl (fun _ => 0)))) (xha_l _) (by decide +kernel) (by decide +kernel) (by decide +kernel) (Nat.le_of_ble_eq_true rfl) (Nat.le_of_ble_eq_true rfl) dX8_init_55 (fun q55 H hP hD hS => ?_)
  have hP : va_P D vwCl ([(b0, .inr (6, [.ref q7, .ref q15, .ref q23, .ref q31, .ref q39, .ref q47, .null, .null, .null, .null, .int 0, .int 0, .int 0, .int 0, .null])), (q7, .inl (ca 0, 61, .inl (fun _ => 0))), (q15, .inl (ca 0, 61, .inl (fun _ => 0))), (q23, .inl (ca 0, 61, .inl (fun _ => 0))), (q31, .inl (ca 0, 61, .inl (fun _ => 0))), (q39, .inl (ca 0, 61, .inl (fun _ => 0))), (q47, .inl (ca 0, 61, .inl (fun _ => 0))), (q55, .inl (ca 1, 61, .inr (.inl (fun _ => 0))))]) H := hP
  have hD : va_D A ([(b0, .inr (6, [.ref q7, .ref q15, .ref q23, .ref q31, .ref q39, .ref q47, .null, .null, .null, .null, .int 0, .int 0, .int 0, .int 0, .null])), (q7, .inl (ca 0, 61, .inl (fun _ => 0))), (q15, .inl (ca 0, 61, .inl (fun _ => 0))), (q23, .inl (ca 0, 61, .inl (fun _ => 0))), (q31, .inl (ca 0, 61, .inl (fun _ => 0))), (q39, .inl (ca 0, 61, .inl (fun _ => 0))), (q47, .inl (ca 0, 61, .inl (fun _ => 0))), (q55, .inl (ca 1, 61, .inr (.inl (fun _ => 0))))]) := hD
  refine va_putF (D := D) (ci := 6) (v := .ref q55) (ty := .array .long) (C := RX8) (T := TX8) (N := 15) hx hb hts inX8 tyX8 tyX8_ok nmX8 hown hKN.1 hP hD hS 0 rfl rfl 6 (by decide) (hts (.fieldLink RX8 30 "TreeFamily$Tree" "totals" "[J") (by decide +kernel)) (fun _ h9 => h9) rfl hin9 rfl (by decide +kernel) rfl rfl (Nat.le_of_ble_eq_true rfl) dX8_init_57 (fun H locs hP hD hS => ?_)
  have hP : va_P D vwCl ([(b0, .inr (6, [.ref q7, .ref q15, .ref q23, .ref q31, .ref q39, .ref q47, .ref q55, .null, .null, .null, .int 0, .int 0, .int 0, .int 0, .null])), (q7, .inl (ca 0, 61, .inl (fun _ => 0))), (q15, .inl (ca 0, 61, .inl (fun _ => 0))), (q23, .inl (ca 0, 61, .inl (fun _ => 0))), (q31, .inl (ca 0, 61, .inl (fun _ => 0))), (q39, .inl (ca 0, 61, .inl (fun _ => 0))), (q47, .inl (ca 0, 61, .inl (fun _ => 0))), (q55, .inl (ca 1, 61, .inr (.inl (fun _ => 0))))]) H := hP
  have hD : va_D A ([(b0, .inr (6, [.ref q7, .ref q15, .ref q23, .ref q31, .ref q39, .ref q47, .ref q55, .null, .null, .null, .int 0, .int 0, .int 0, .int 0, .null])), (q7, .inl (ca 0, 61, .inl (fun _ => 0))), (q15, .inl (ca 0, 61, .inl (fun _ => 0))), (q23, .inl (ca 0, 61, .inl (fun _ => 0))), (q31, .inl (ca 0, 61, .inl (fun _ => 0))), (q39, .inl (ca 0, 61, .inl (fun _ => 0))), (q47, .inl (ca 0, 61, .inl (fun _ => 0))), (q55, .inl (ca 1, 61, .inr (.inl (fun _ => 0))))]) := hD
  refine lv_aload_n hx hb dX8_init_60 rfl (lv_at hl 0 rfl) ?_
  refine lv_bipush (v := 60) hx hb dX8_init_61 (by decide) ?_
  refine xr_newa (atype := .int) hx hb (hts (.arrayClass .int) (by decide +kernel)) 0 rfl hKN.1 hP hD hS hA (n := 60) (N' := 60) (a0 := (60, .inl (fun _ => 0))) (xha_i _) (by decide +kernel) (by decide +kernel) (by decide +kernel) (Nat.le_of_ble_eq_true rfl) (Nat.le_of_ble_eq_true rfl) dX8_init_63 (fun q63 H hP hD hS => ?_)
  have hP : va_P D vwCl ([(b0, .inr (6, [.ref q7, .ref q15, .ref q23, .ref q31, .ref q39, .ref q47, .ref q55, .null, .null, .null, .int 0, .int 0, .int 0, .int 0, .null])), (q7, .inl (ca 0, 61, .inl (fun _ => 0))), (q15, .inl (ca 0, 61, .inl (fun _ => 0))), (q23, .inl (ca 0, 61, .inl (fun _ => 0))), (q31, .inl (ca 0, 61, .inl (fun _ => 0))), (q39, .inl (ca 0, 61, .inl (fun _ => 0))), (q47, .inl (ca 0, 61, .inl (fun _ => 0))), (q55, .inl (ca 1, 61, .inr (.inl (fun _ => 0)))), (q63, .inl (ca 0, 60, .inl (fun _ => 0)))]) H := hP
  have hD : va_D A ([(b0, .inr (6, [.ref q7, .ref q15, .ref q23, .ref q31, .ref q39, .ref q47, .ref q55, .null, .null, .null, .int 0, .int 0, .int 0, .int 0, .null])), (q7, .inl (ca 0, 61, .inl (fun _ => 0))), (q15, .inl (ca 0, 61, .inl (fun _ => 0))), (q23, .inl (ca 0, 61, .inl (fun _ => 0))), (q31, .inl (ca 0, 61, .inl (fun _ => 0))), (q39, .inl (ca 0, 61, .inl (fun _ => 0))), (q47, .inl (ca 0, 61, .inl (fun _ => 0))), (q55, .inl (ca 1, 61, .inr (.inl (fun _ => 0)))), (q63, .inl (ca 0, 60, .inl (fun _ => 0)))]) := hD
  refine va_putF (D := D) (ci := 6) (v := .ref q63) (ty := .array .int) (C := RX8) (T := TX8) (N := 15) hx hb hts inX8 tyX8 tyX8_ok nmX8 hown hKN.1 hP hD hS 0 rfl rfl 7 (by decide) (hts (.fieldLink RX8 34 "TreeFamily$Tree" "spare" "[I") (by decide +kernel)) (fun _ h9 => h9) rfl hin9 rfl (by decide +kernel) rfl rfl (Nat.le_of_ble_eq_true rfl) dX8_init_65 (fun H locs hP hD hS => ?_)
  have hP : va_P D vwCl ([(b0, .inr (6, [.ref q7, .ref q15, .ref q23, .ref q31, .ref q39, .ref q47, .ref q55, .ref q63, .null, .null, .int 0, .int 0, .int 0, .int 0, .null])), (q7, .inl (ca 0, 61, .inl (fun _ => 0))), (q15, .inl (ca 0, 61, .inl (fun _ => 0))), (q23, .inl (ca 0, 61, .inl (fun _ => 0))), (q31, .inl (ca 0, 61, .inl (fun _ => 0))), (q39, .inl (ca 0, 61, .inl (fun _ => 0))), (q47, .inl (ca 0, 61, .inl (fun _ => 0))), (q55, .inl (ca 1, 61, .inr (.inl (fun _ => 0)))), (q63, .inl (ca 0, 60, .inl (fun _ => 0)))]) H := hP
  have hD : va_D A ([(b0, .inr (6, [.ref q7, .ref q15, .ref q23, .ref q31, .ref q39, .ref q47, .ref q55, .ref q63, .null, .null, .int 0, .int 0, .int 0, .int 0, .null])), (q7, .inl (ca 0, 61, .inl (fun _ => 0))), (q15, .inl (ca 0, 61, .inl (fun _ => 0))), (q23, .inl (ca 0, 61, .inl (fun _ => 0))), (q31, .inl (ca 0, 61, .inl (fun _ => 0))), (q39, .inl (ca 0, 61, .inl (fun _ => 0))), (q47, .inl (ca 0, 61, .inl (fun _ => 0))), (q55, .inl (ca 1, 61, .inr (.inl (fun _ => 0)))), (q63, .inl (ca 0, 60, .inl (fun _ => 0)))]) := hD
  refine lv_aload_n hx hb dX8_init_68 rfl (lv_at hl 0 rfl) ?_
  refine lv_bipush (v := 61) hx hb dX8_init_69 (by decide) ?_
  refine xr_newa (atype := .int) hx hb (hts (.arrayClass .int) (by decide +kernel)) 0 rfl hKN.1 hP hD hS hA (n := 61) (N' := 61) (a0 := (61, .inl (fun _ => 0))) (xha_i _) (by decide +kernel) (by decide +kernel) (by decide +kernel) (Nat.le_of_ble_eq_true rfl) (Nat.le_of_ble_eq_true rfl) dX8_init_71 (fun q71 H hP hD hS => ?_)
  have hP : va_P D vwCl ([(b0, .inr (6, [.ref q7, .ref q15, .ref q23, .ref q31, .ref q39, .ref q47, .ref q55, .ref q63, .null, .null, .int 0, .int 0, .int 0, .int 0, .null])), (q7, .inl (ca 0, 61, .inl (fun _ => 0))), (q15, .inl (ca 0, 61, .inl (fun _ => 0))), (q23, .inl (ca 0, 61, .inl (fun _ => 0))), (q31, .inl (ca 0, 61, .inl (fun _ => 0))), (q39, .inl (ca 0, 61, .inl (fun _ => 0))), (q47, .inl (ca 0, 61, .inl (fun _ => 0))), (q55, .inl (ca 1, 61, .inr (.inl (fun _ => 0)))), (q63, .inl (ca 0, 60, .inl (fun _ => 0))), (q71, .inl (ca 0, 61, .inl (fun _ => 0)))]) H := hP
  have hD : va_D A ([(b0, .inr (6, [.ref q7, .ref q15, .ref q23, .ref q31, .ref q39, .ref q47, .ref q55, .ref q63, .null, .null, .int 0, .int 0, .int 0, .int 0, .null])), (q7, .inl (ca 0, 61, .inl (fun _ => 0))), (q15, .inl (ca 0, 61, .inl (fun _ => 0))), (q23, .inl (ca 0, 61, .inl (fun _ => 0))), (q31, .inl (ca 0, 61, .inl (fun _ => 0))), (q39, .inl (ca 0, 61, .inl (fun _ => 0))), (q47, .inl (ca 0, 61, .inl (fun _ => 0))), (q55, .inl (ca 1, 61, .inr (.inl (fun _ => 0)))), (q63, .inl (ca 0, 60, .inl (fun _ => 0))), (q71, .inl (ca 0, 61, .inl (fun _ => 0)))]) := hD
  refine va_putF (D := D) (ci := 6) (v := .ref q71) (ty := .array .int) (C := RX8) (T := TX8) (N := 15) hx hb hts inX8 tyX8 tyX8_ok nmX8 hown hKN.1 hP hD hS 0 rfl rfl 8 (by decide) (hts (.fieldLink RX8 37 "TreeFamily$Tree" "path" "[I") (by decide +kernel)) (fun _ h9 => h9) rfl hin9 rfl (by decide +kernel) rfl rfl (Nat.le_of_ble_eq_true rfl) dX8_init_73 (fun H locs hP hD hS => ?_)
  have hP : va_P D vwCl ([(b0, .inr (6, [.ref q7, .ref q15, .ref q23, .ref q31, .ref q39, .ref q47, .ref q55, .ref q63, .ref q71, .null, .int 0, .int 0, .int 0, .int 0, .null])), (q7, .inl (ca 0, 61, .inl (fun _ => 0))), (q15, .inl (ca 0, 61, .inl (fun _ => 0))), (q23, .inl (ca 0, 61, .inl (fun _ => 0))), (q31, .inl (ca 0, 61, .inl (fun _ => 0))), (q39, .inl (ca 0, 61, .inl (fun _ => 0))), (q47, .inl (ca 0, 61, .inl (fun _ => 0))), (q55, .inl (ca 1, 61, .inr (.inl (fun _ => 0)))), (q63, .inl (ca 0, 60, .inl (fun _ => 0))), (q71, .inl (ca 0, 61, .inl (fun _ => 0)))]) H := hP
  have hD : va_D A ([(b0, .inr (6, [.ref q7, .ref q15, .ref q23, .ref q31, .ref q39, .ref q47, .ref q55, .ref q63, .ref q71, .null, .int 0, .int 0, .int 0, .int 0, .null])), (q7, .inl (ca 0, 61, .inl (fun _ => 0))), (q15, .inl (ca 0, 61, .inl (fun _ => 0))), (q23, .inl (ca 0, 61, .inl (fun _ => 0))), (q31, .inl (ca 0, 61, .inl (fun _ => 0))), (q39, .inl (ca 0, 61, .inl (fun _ => 0))), (q47, .inl (ca 0, 61, .inl (fun _ => 0))), (q55, .inl (ca 1, 61, .inr (.inl (fun _ => 0)))), (q63, .inl (ca 0, 60, .inl (fun _ => 0))), (q71, .inl (ca 0, 61, .inl (fun _ => 0)))]) := hD
  refine lv_aload_n hx hb dX8_init_76 rfl (lv_at hl 0 rfl) ?_
  refine lv_bipush (v := 60) hx hb dX8_init_77 (by decide) ?_
  refine xr_newa (atype := .int) hx hb (hts (.arrayClass .int) (by decide +kernel)) 0 rfl hKN.1 hP hD hS hA (n := 60) (N' := 60) (a0 := (60, .inl (fun _ => 0))) (xha_i _) (by decide +kernel) (by decide +kernel) (by decide +kernel) (Nat.le_of_ble_eq_true rfl) (Nat.le_of_ble_eq_true rfl) dX8_init_79 (fun q79 H hP hD hS => ?_)
  have hP : va_P D vwCl ([(b0, .inr (6, [.ref q7, .ref q15, .ref q23, .ref q31, .ref q39, .ref q47, .ref q55, .ref q63, .ref q71, .null, .int 0, .int 0, .int 0, .int 0, .null])), (q7, .inl (ca 0, 61, .inl (fun _ => 0))), (q15, .inl (ca 0, 61, .inl (fun _ => 0))), (q23, .inl (ca 0, 61, .inl (fun _ => 0))), (q31, .inl (ca 0, 61, .inl (fun _ => 0))), (q39, .inl (ca 0, 61, .inl (fun _ => 0))), (q47, .inl (ca 0, 61, .inl (fun _ => 0))), (q55, .inl (ca 1, 61, .inr (.inl (fun _ => 0)))), (q63, .inl (ca 0, 60, .inl (fun _ => 0))), (q71, .inl (ca 0, 61, .inl (fun _ => 0))), (q79, .inl (ca 0, 60, .inl (fun _ => 0)))]) H := hP
  have hD : va_D A ([(b0, .inr (6, [.ref q7, .ref q15, .ref q23, .ref q31, .ref q39, .ref q47, .ref q55, .ref q63, .ref q71, .null, .int 0, .int 0, .int 0, .int 0, .null])), (q7, .inl (ca 0, 61, .inl (fun _ => 0))), (q15, .inl (ca 0, 61, .inl (fun _ => 0))), (q23, .inl (ca 0, 61, .inl (fun _ => 0))), (q31, .inl (ca 0, 61, .inl (fun _ => 0))), (q39, .inl (ca 0, 61, .inl (fun _ => 0))), (q47, .inl (ca 0, 61, .inl (fun _ => 0))), (q55, .inl (ca 1, 61, .inr (.inl (fun _ => 0)))), (q63, .inl (ca 0, 60, .inl (fun _ => 0))), (q71, .inl (ca 0, 61, .inl (fun _ => 0))), (q79, .inl (ca 0, 60, .inl (fun _ => 0)))]) := hD
  refine va_putF (D := D) (ci := 6) (v := .ref q79) (ty := .array .int) (C := RX8) (T := TX8) (N := 15) hx hb hts inX8 tyX8 tyX8_ok nmX8 hown hKN.1 hP hD hS 0 rfl rfl 9 (by decide) (hts (.fieldLink RX8 40 "TreeFamily$Tree" "row" "[I") (by decide +kernel)) (fun _ h9 => h9) rfl hin9 rfl (by decide +kernel) rfl rfl (Nat.le_of_ble_eq_true rfl) dX8_init_81 (fun H locs hP hD hS => ?_)
  have hP : va_P D vwCl ([(b0, .inr (6, [.ref q7, .ref q15, .ref q23, .ref q31, .ref q39, .ref q47, .ref q55, .ref q63, .ref q71, .ref q79, .int 0, .int 0, .int 0, .int 0, .null])), (q7, .inl (ca 0, 61, .inl (fun _ => 0))), (q15, .inl (ca 0, 61, .inl (fun _ => 0))), (q23, .inl (ca 0, 61, .inl (fun _ => 0))), (q31, .inl (ca 0, 61, .inl (fun _ => 0))), (q39, .inl (ca 0, 61, .inl (fun _ => 0))), (q47, .inl (ca 0, 61, .inl (fun _ => 0))), (q55, .inl (ca 1, 61, .inr (.inl (fun _ => 0)))), (q63, .inl (ca 0, 60, .inl (fun _ => 0))), (q71, .inl (ca 0, 61, .inl (fun _ => 0))), (q79, .inl (ca 0, 60, .inl (fun _ => 0)))]) H := hP
  have hD : va_D A ([(b0, .inr (6, [.ref q7, .ref q15, .ref q23, .ref q31, .ref q39, .ref q47, .ref q55, .ref q63, .ref q71, .ref q79, .int 0, .int 0, .int 0, .int 0, .null])), (q7, .inl (ca 0, 61, .inl (fun _ => 0))), (q15, .inl (ca 0, 61, .inl (fun _ => 0))), (q23, .inl (ca 0, 61, .inl (fun _ => 0))), (q31, .inl (ca 0, 61, .inl (fun _ => 0))), (q39, .inl (ca 0, 61, .inl (fun _ => 0))), (q47, .inl (ca 0, 61, .inl (fun _ => 0))), (q55, .inl (ca 1, 61, .inr (.inl (fun _ => 0)))), (q63, .inl (ca 0, 60, .inl (fun _ => 0))), (q71, .inl (ca 0, 61, .inl (fun _ => 0))), (q79, .inl (ca 0, 60, .inl (fun _ => 0)))]) := hD
  refine lv_aload_n hx hb dX8_init_84 rfl (lv_at hl 0 rfl) ?_
  refine lv_aload_n hx hb dX8_init_85 rfl (lv_at hl 1 rfl) ?_
  refine lv_iconst (v := 0) hx hb dX8_init_86 (by decide) ?_
  refine xc_v (wr := []) (va_runV (As := [.ref (kq k2), .int 0]) (rest := []) ⟨hx, hb, hml, hown, hts⟩ (c_X8_clear0 l D ca kq (adr [b0, q7, q15, q23, q31, q39, q47, q55, q63, q71, q79]) _ (fun _ => 0) (fun _ => 0) (fun _ => 0) (fun _ => 0) (fun _ => 0) (fun _ => 0) (fun _ => 0) (fun _ => 0) (fun _ => 0) (fun _ => 0) 0 0 0 0 0 k2 0 (fun _ => Nat.zero_le _) (fun _ => Nat.zero_le _) (fun _ => Nat.zero_le _) (fun _ => Nat.zero_le _) (fun _ => Nat.zero_le _) (Nat.zero_le _)) (cwV 2 hts gX8_init_X8_clear rfl rfl rfl (by decide +kernel) ⟨(Nat.le_of_ble_eq_true rfl), (Nat.le_of_ble_eq_true rfl)⟩) (xPreV hKN hP hD [0, 1, 2, 3, 4, 5, 6, 7, 8, 9, 10] (by decide) rfl (q0 := 0) rfl rfl rfl) rfl rfl hl.1 rfl (lv_room (Nat.le_of_ble_eq_true rfl)) dX8_init_87 ⟨(Nat.le_of_ble_eq_true rfl), (Nat.le_of_ble_eq_true rfl)⟩) hP hD hS hA [0, 1, 2, 3, 4, 5, 6, 7, 8, 9, 10] [] rfl rfl (by decide) (by decide) (fun u87 H locs hu87 hP hD hS => ?_)
  have hP : va_P D vwCl (wT ca kq (adr [b0, q7, q15, q23, q31, q39, q47, q55, q63, q71, q79]) u87) H := hP
  have hD : va_D A (wT ca kq (adr [b0, q7, q15, q23, q31, q39, q47, q55, q63, q71, q79]) u87) := hD
  exact W.vret hx hb hr (fun t9 e9 w9 => ⟨⟨(adr [b0, q7, q15, q23, q31, q39, q47, q55, q63, q71, q79], u87), rfl, ⟨rfl, hu87⟩, by rw [e9]; exact hP, hD⟩, hS.F e9⟩) hS.2.2 dX8_init_90
