/-! THE REFERENCE'S PRIVATE METHODS -/
def wQx (ca : Nat → ClassId) (b : Nat → Nat) (co : Int32) (oo : Nat → Int32) (zz : Nat → Nat) (ks : Nat → Int32) (vs : Nat → Int32) (cg : Nat → Int32) (hw : Nat → Nat) (lo : Nat → Int32) (hg : Nat → Int32) (wk : Nat → Bool) (kw : Nat → Int32) (mn : Nat → Nat) (gv : Nat → Nat) (cp : Nat → Int32) (ho : Nat → Bool) (nk : Nat → Int32) (nv : Nat → Int32) : va_W := [(b 0, .inr (9, [.int co, .ref (b 1), .ref (b 2), .ref (b 3), .ref (b 4), .ref (b 5), .ref (b 6), .ref (b 7), .ref (b 8), .ref (b 9), .ref (b 10), .ref (b 11), .ref (b 12), .ref (b 13), .ref (b 14), .ref (b 15), .ref (b 16)])), (b 1, .inl (ca 0, 3, .inl oo)), (b 2, .inl (ca 0, 3, .inl (fun k => nI (zz k)))), (b 3, .inl (ca 0, 192, .inl ks)), (b 4, .inl (ca 0, 192, .inl vs)), (b 5, .inl (ca 0, 3, .inl cg)), (b 6, .inl (ca 0, 3, .inl (fun k => nI (hw k)))), (b 7, .inl (ca 0, 3, .inl lo)), (b 8, .inl (ca 0, 3, .inl hg)), (b 9, .inl (ca 2, 3, .inl (fun k => bI (wk k)))), (b 10, .inl (ca 0, 3, .inl kw)), (b 11, .inl (ca 0, 3, .inl (fun k => nI (mn k)))), (b 12, .inl (ca 0, 3, .inl (fun k => nI (gv k)))), (b 13, .inl (ca 0, 192, .inl cp)), (b 14, .inl (ca 2, 3, .inl (fun k => bI (ho k)))), (b 15, .inl (ca 0, 128, .inl nk)), (b 16, .inl (ca 0, 128, .inl nv))]
def wQ (ca : Nat → ClassId) (b : Nat → Nat) (q : QS) : va_W := wQx ca b q.co q.oo q.zz q.ks q.vs q.cg q.hw q.lo q.hg q.wk q.kw q.mn q.gv q.cp q.ho q.nk q.nv
theorem upd_bI (g : Nat → Bool) (j : Nat) (v : Bool) : upd (fun k => bI (g k)) j (bI v) = fun k => bI (va_up g j v k) := by
  funext k
  by_cases h : k = j <;> simp [upd, va_up, h]

section
variable {p : Program} {l : Launch} {e : Env} {R : Room} {s : State} {m : MethodId} {args : Array Value} {below : List Frame} {meth : Method} {c : Code} {H : Heap} {locs : List Loc} {cells slots : Nat} {Q : State → Prop}
variable {cc : ByteArray} {pc : Nat} {ls : Array Slot} {rest : List Value} {D : va_G} {cl : List vw_C} {A : Nat → Prop} {a : Nat} {tys : List (ClassId × FieldType)} {ws : va_W} {H0 : Heap}
theorem xr_bst (hexec : p.tables.exec = Jvm.exec) (hb : c.code = cc) (hK : va_K D cl tys s) (hP : va_P D cl ws H) (hD : va_D A ws) (hS : va_S A H0 H locs) (q0 t0 : Nat) {cA : ClassId} {n : Nat} {g : Nat → Bool} {v : Bool} (ha : ws[q0]? = some (a, .inl (cA, n, .inl (fun k => bI (g k))))) (ht : tys[t0]? = some (cA, .boolean)) {j : Nat} (hj : j < n) (hn : n < 2147483648) (hdg : decode cc pc = .ok (.bastore, 1))
    (kk : ∀ (H1 : Heap) (locs1 : List Loc), va_P D cl (ws.set q0 (a, .inl (cA, n, .inl (fun k => bI (va_up g j v k))))) H1 → va_D A (ws.set q0 (a, .inl (cA, n, .inl (fun k => bI (va_up g j v k))))) → va_S A H0 H1 locs1 → W p l e R s m args below meth c H1 locs1 cells slots Q (F0 m (pc + 1) ls rest)) : W p l e R s m args below meth c H locs cells slots Q (F0 m pc ls (.int (bI v) :: .int (nI j) :: .ref a :: rest)) := by
  refine xr_zst hexec hb hK hP hD hS q0 t0 ha ht (by cases v <;> rfl) hj hn hdg ?_
  rw [upd_bI]
  exact kk
end

-- TreeFamilyModel.thrown
set_option maxHeartbeats 4000000 in
set_option maxRecDepth 100000 in
theorem c_X11_thrown (l : Launch) (D : va_G) (ca : Nat → ClassId) (b : Nat → Nat) (sz : Nat) (q : QS) : Met l yX11_thrown wsX11_thrown ({ frames := 0, cells := 0, slots := 0, locals := 0 } : Room) (xPc D (TY ca) [.ref (b 0)] (wQ ca b q) sz) (va_Qi (fun (r : Int32) (u : QS) => r = q.co ∧ u = q) (xB D (wQ ca b) (va_A (wQ ca b q) sz)) (va_A (wQ ca b q) sz)) 0 0 (va_A (wQ ca b q) sz) := by
  refine Met.ofW (cc := cX11_thrown) (maxL := 1) (ret := (some .int)) (by decide) rfl ?_
  intro p e s m args below meth c s₁ B hml hv
  obtain ⟨rfl, hsz, hP, hKN, hD0⟩ := hv
  have hx := B.exec
  have hb := B.bytes
  have hr := B.returns
  have hts := atoms_spec (ws := wsX11_thrown) B.pre
  have hown : s.vm.findClass RX11 = some m.cls := findClass_of_methodNamed B.named
  have hlocks := B.notSynchronized
  have inX11 : ∀ w ∈ wsX110, w ∈ wsX11_thrown := by decide +kernel
  subst hsz
  have hD := hD0.self (sz := s.heap.size)
  generalize hAe : va_A (wQ ca b q) s.heap.size = A at hD ⊢
  have hA : ∀ q : Nat, s.heap.size ≤ q → A q := fun q h => by rw [← hAe]; exact Or.inr h
  have hS : va_S A s.heap s.heap [] := va_S.rf
  have hl := lv_entry ([.ref (b 0)]) (n := 1) (Nat.le_of_ble_eq_true rfl)
  rw [lg_entry_eq]
  generalize (lg_sl ([.ref (b 0)]) ++ List.replicate (1 - (lg_sl ([.ref (b 0)])).length) Slot.unset).toArray = ls at hl ⊢
  have hl : lv_has ls 1 [(0, .ref (b 0))] := hl
  refine lv_aload_n hx hb dX11_thrown_0 rfl (lv_at hl 0 rfl) ?_
  refine va_get (D := D) (ci := 9) (v := .int q.co) (C := RX11) (T := TX11) (N := 17) hx hb hts inX11 hown hKN.1 hP 0 rfl rfl 0 (by decide) (hts (.fieldLink RX11 59 "TreeFamilyModel" "code" "I") (by decide +kernel)) (fun _ h9 => h9) rfl dX11_thrown_1 ?_
  exact W.iret (v := q.co) hx hb hr (fun t9 e9 w9 => ⟨⟨_, q, rfl, ⟨rfl, rfl⟩, by rw [e9]; exact hP, hD⟩, hS.F e9⟩) hS.2.2 dX11_thrown_4

-- TreeFamilyModel.refuse
set_option maxHeartbeats 4000000 in
set_option maxRecDepth 100000 in
theorem c_X11_refuse (l : Launch) (D : va_G) (ca : Nat → ClassId) (b : Nat → Nat) (sz : Nat) (q : QS) (k : Int32) : Met l yX11_refuse wsX11_refuse ({ frames := 0, cells := 0, slots := 0, locals := 0 } : Room) (xPc D (TY ca) [.ref (b 0), .int k] (wQ ca b q) sz) (va_Qi (fun (r : Int32) (u : QS) => r = 0 ∧ u = (k, q.oo, q.zz, q.ks, q.vs, q.cg, q.hw, q.lo, q.hg, q.wk, q.kw, q.mn, q.gv, q.cp, q.ho, q.nk, q.nv)) (xB D (wQ ca b) (va_A (wQ ca b q) sz)) (va_A (wQ ca b q) sz)) 0 0 (va_A (wQ ca b q) sz) := by
  refine Met.ofW (cc := cX11_refuse) (maxL := 2) (ret := (some .int)) (by decide) rfl ?_
  intro p e s m args below meth c s₁ B hml hv
  obtain ⟨rfl, hsz, hP, hKN, hD0⟩ := hv
  have hx := B.exec
  have hb := B.bytes
  have hr := B.returns
  have hts := atoms_spec (ws := wsX11_refuse) B.pre
  have hown : s.vm.findClass RX11 = some m.cls := findClass_of_methodNamed B.named
  have hlocks := B.notSynchronized
  have inX11 : ∀ w ∈ wsX110, w ∈ wsX11_refuse := by decide +kernel
  subst hsz
  have hD := hD0.self (sz := s.heap.size)
  generalize hAe : va_A (wQ ca b q) s.heap.size = A at hD ⊢
  have hA : ∀ q : Nat, s.heap.size ≤ q → A q := fun q h => by rw [← hAe]; exact Or.inr h
  have hS : va_S A s.heap s.heap [] := va_S.rf
  have hl := lv_entry ([.ref (b 0), .int k]) (n := 2) (Nat.le_of_ble_eq_true rfl)
  rw [lg_entry_eq]
  generalize (lg_sl ([.ref (b 0), .int k]) ++ List.replicate (2 - (lg_sl ([.ref (b 0), .int k])).length) Slot.unset).toArray = ls at hl ⊢
  have hl : lv_has ls 2 [(0, .ref (b 0)), (1, .int k)] := hl
  refine lv_aload_n hx hb dX11_refuse_0 rfl (lv_at hl 0 rfl) ?_
  refine lv_iload_n hx hb dX11_refuse_1 rfl (lv_at hl 1 rfl) ?_
  refine va_put (D := D) (ci := 9) (v := .int k) (ty := .int) (C := RX11) (T := TX11) (N := 17) hx hb hts inX11 tyX11 tyX11_ok nmX11 hown hKN.1 hP hD hS 0 rfl rfl 0 (by decide) (hts (.fieldLink RX11 59 "TreeFamilyModel" "code" "I") (by decide +kernel)) (fun _ h9 => h9) rfl (by decide +kernel) rfl rfl (Nat.le_of_ble_eq_true rfl) dX11_refuse_2 (fun H locs hP hD hS => ?_)
  have hP : va_P D vwCl (wQx ca b k q.oo q.zz q.ks q.vs q.cg q.hw q.lo q.hg q.wk q.kw q.mn q.gv q.cp q.ho q.nk q.nv) H := hP
  have hD : va_D A (wQx ca b k q.oo q.zz q.ks q.vs q.cg q.hw q.lo q.hg q.wk q.kw q.mn q.gv q.cp q.ho q.nk q.nv) := hD
  refine lv_iconst (v := 0) hx hb dX11_refuse_5 (by decide) ?_
  exact W.iret (v := 0) hx hb hr (fun t9 e9 w9 => ⟨⟨_, (k, q.oo, q.zz, q.ks, q.vs, q.cg, q.hw, q.lo, q.hg, q.wk, q.kw, q.mn, q.gv, q.cp, q.ho, q.nk, q.nv), rfl, ⟨rfl, rfl⟩, by rw [e9]; exact hP, hD⟩, hS.F e9⟩) hS.2.2 dX11_refuse_6

-- TreeFamilyModel.isMap
set_option maxHeartbeats 4000000 in
set_option maxRecDepth 100000 in
theorem c_X11_isMap (l : Launch) (x0 : Int32) : Met l yX11_isMap wsX11_isMap ({ frames := 0, cells := 0, slots := 0, locals := 0 } : Room) (va_Pc [.int x0] (fun _ => True)) (vp_Si (fun r => r = bI (isB x0 3))) 0 0 (fun _ => False) := by
  refine Met.ofW (cc := cX11_isMap) (maxL := 1) (ret := (some .boolean)) (by decide) rfl ?_
  intro p e s m args below meth c s₁ B hml hv
  obtain ⟨rfl, -⟩ := hv
  have hx := B.exec
  have hb := B.bytes
  have hr := B.returns
  have hts := atoms_spec (ws := wsX11_isMap) B.pre
  have hown : s.vm.findClass RX11 = some m.cls := findClass_of_methodNamed B.named
  have hlocks := B.notSynchronized
  have hl := lv_entry ([.int x0]) (n := 1) (Nat.le_of_ble_eq_true rfl)
  rw [lg_entry_eq]
  generalize (lg_sl ([.int x0]) ++ List.replicate (1 - (lg_sl ([.int x0])).length) Slot.unset).toArray = ls at hl ⊢
  have hl : lv_has ls 1 [(0, .int x0)] := hl
  refine lv_iload_n hx hb dX11_isMap_0 rfl (lv_at hl 0 rfl) ?_
  refine lv_if_lt (tgt := 13) hx hb dX11_isMap_1 (by decide) (fun c1 => ?_) (fun c1 => ?_)
  · skip
    refine lv_iconst (v := 0) hx hb dX11_isMap_13 (by decide) ?_
    exact W.zret (v := 0) hx hb hr (by decide) (fun t9 e9 w9 => ⟨_, rfl, by simp [isB, bI, *], e9⟩) t_nil dX11_isMap_14
  · skip
    refine lv_iload_n hx hb dX11_isMap_4 rfl (lv_at hl 0 rfl) ?_
    refine lv_iconst (v := 3) hx hb dX11_isMap_5 (by decide) ?_
    refine lv_icmp_ge (tgt := 13) hx hb dX11_isMap_6 (by decide) (fun c6 => ?_) (fun c6 => ?_)
    · skip
      refine lv_iconst (v := 0) hx hb dX11_isMap_13 (by decide) ?_
      exact W.zret (v := 0) hx hb hr (by decide) (fun t9 e9 w9 => ⟨_, rfl, by simp [isB, bI, *], e9⟩) t_nil dX11_isMap_14
    · skip
      refine lv_iconst (v := 1) hx hb dX11_isMap_9 (by decide) ?_
      refine lv_goto (tgt := 14) hx hb dX11_isMap_10 (by decide) ?_
      exact W.zret (v := 1) hx hb hr (by decide) (fun t9 e9 w9 => ⟨_, rfl, by simp [isB, bI, *], e9⟩) t_nil dX11_isMap_14

-- TreeFamilyModel.before
set_option maxHeartbeats 4000000 in
set_option maxRecDepth 100000 in
theorem c_X11_before (l : Launch) (D : va_G) (ca : Nat → ClassId) (b : Nat → Nat) (sz : Nat) (q : QS) (j : Nat) (x y : Int32) (hj : j < 3) : Met l yX11_before wsX11_before ({ frames := 0, cells := 0, slots := 0, locals := 0 } : Room) (xPc D (TY ca) [.ref (b 0), .int (nI j), .int x, .int y] (wQ ca b q) sz) (va_Qi (fun (r : Int32) (u : QS) => r = bI (gB (q.oo j) x y) ∧ u = q) (xB D (wQ ca b) (va_A (wQ ca b q) sz)) (va_A (wQ ca b q) sz)) 0 0 (va_A (wQ ca b q) sz) := by
  refine Met.ofW (cc := cX11_before) (maxL := 4) (ret := (some .boolean)) (by decide) rfl ?_
  intro p e s m args below meth c s₁ B hml hv
  obtain ⟨rfl, hsz, hP, hKN, hD0⟩ := hv
  have hx := B.exec
  have hb := B.bytes
  have hr := B.returns
  have hts := atoms_spec (ws := wsX11_before) B.pre
  have hown : s.vm.findClass RX11 = some m.cls := findClass_of_methodNamed B.named
  have hlocks := B.notSynchronized
  have inX11 : ∀ w ∈ wsX110, w ∈ wsX11_before := by decide +kernel
  subst hsz
  have hD := hD0.self (sz := s.heap.size)
  generalize hAe : va_A (wQ ca b q) s.heap.size = A at hD ⊢
  have hA : ∀ q : Nat, s.heap.size ≤ q → A q := fun q h => by rw [← hAe]; exact Or.inr h
  have hS : va_S A s.heap s.heap [] := va_S.rf
  have hl := lv_entry ([.ref (b 0), .int (nI j), .int x, .int y]) (n := 4) (Nat.le_of_ble_eq_true rfl)
  rw [lg_entry_eq]
  generalize (lg_sl ([.ref (b 0), .int (nI j), .int x, .int y]) ++ List.replicate (4 - (lg_sl ([.ref (b 0), .int (nI j), .int x, .int y])).length) Slot.unset).toArray = ls at hl ⊢
  have hl : lv_has ls 4 [(0, .ref (b 0)), (1, .int (nI j)), (2, .int x), (3, .int y)] := hl
  refine lv_aload_n hx hb dX11_before_0 rfl (lv_at hl 0 rfl) ?_
  refine va_get (D := D) (ci := 9) (v := .ref (b 1)) (C := RX11) (T := TX11) (N := 17) hx hb hts inX11 hown hKN.1 hP 0 rfl rfl 1 (by decide) (hts (.fieldLink RX11 7 "TreeFamilyModel" "order" "[I") (by decide +kernel)) (fun _ h9 => h9) rfl dX11_before_1 ?_
  refine lv_iload_n hx hb dX11_before_4 rfl (lv_at hl 1 rfl) ?_
  refine xr_ild hx hb hKN.1 hP 1 0 rfl rfl (j := j) (by omega) (by decide) dX11_before_5 ?_
  refine lv_iconst (v := 1) hx hb dX11_before_6 (by decide) ?_
  refine lv_icmp_ne (tgt := 21) hx hb dX11_before_7 (by decide) (fun c7 => ?_) (fun c7 => ?_)
  · skip
    refine lv_aload_n hx hb dX11_before_21 rfl (lv_at hl 0 rfl) ?_
    refine va_get (D := D) (ci := 9) (v := .ref (b 1)) (C := RX11) (T := TX11) (N := 17) hx hb hts inX11 hown hKN.1 hP 0 rfl rfl 1 (by decide) (hts (.fieldLink RX11 7 "TreeFamilyModel" "order" "[I") (by decide +kernel)) (fun _ h9 => h9) rfl dX11_before_22 ?_
    refine lv_iload_n hx hb dX11_before_25 rfl (lv_at hl 1 rfl) ?_
    refine xr_ild hx hb hKN.1 hP 1 0 rfl rfl (j := j) (by omega) (by decide) dX11_before_26 ?_
    refine lv_iconst (v := 2) hx hb dX11_before_27 (by decide) ?_
    refine lv_icmp_ne (tgt := 48) hx hb dX11_before_28 (by decide) (fun c28 => ?_) (fun c28 => ?_)
    · skip
      refine lv_iload_n hx hb dX11_before_48 rfl (lv_at hl 2 rfl) ?_
      refine lv_iload_n hx hb dX11_before_49 rfl (lv_at hl 3 rfl) ?_
      refine lv_icmp_ge (tgt := 57) hx hb dX11_before_50 (by decide) (fun c50 => ?_) (fun c50 => ?_)
      · skip
        refine lv_iconst (v := 0) hx hb dX11_before_57 (by decide) ?_
        exact W.zret (v := 0) hx hb hr (by decide) (fun t9 e9 w9 => ⟨⟨_, q, rfl, ⟨by first | exact (congrArg bI (gB_a c7 c12)).symm | exact (congrArg bI (gB_b c7 c12)).symm | exact (congrArg bI (gB_c c7 c28 c37)).symm | exact (congrArg bI (gB_d c7 c28 c37)).symm | exact (congrArg bI (gB_e c7 c28 c50)).symm | exact (congrArg bI (gB_g c7 c28 c50)).symm, rfl⟩, by rw [e9]; exact hP, hD⟩, hS.F e9⟩) hS.2.2 dX11_before_58
      · skip
        refine lv_iconst (v := 1) hx hb dX11_before_53 (by decide) ?_
        refine lv_goto (tgt := 58) hx hb dX11_before_54 (by decide) ?_
        exact W.zret (v := 1) hx hb hr (by decide) (fun t9 e9 w9 => ⟨⟨_, q, rfl, ⟨by first | exact (congrArg bI (gB_a c7 c12)).symm | exact (congrArg bI (gB_b c7 c12)).symm | exact (congrArg bI (gB_c c7 c28 c37)).symm | exact (congrArg bI (gB_d c7 c28 c37)).symm | exact (congrArg bI (gB_e c7 c28 c50)).symm | exact (congrArg bI (gB_g c7 c28 c50)).symm, rfl⟩, by rw [e9]; exact hP, hD⟩, hS.F e9⟩) hS.2.2 dX11_before_58
    · skip
      refine lv_iload_n hx hb dX11_before_31 rfl (lv_at hl 2 rfl) ?_
      refine lv_iconst (v := 2) hx hb dX11_before_32 (by decide) ?_
      refine lv_ishr hx hb dX11_before_33 ?_
      refine xr_top (y := fdiv x 4) (sh_fdiv _) ?_
      refine lv_iload_n hx hb dX11_before_34 rfl (lv_at hl 3 rfl) ?_
      refine lv_iconst (v := 2) hx hb dX11_before_35 (by decide) ?_
      refine lv_ishr hx hb dX11_before_36 ?_
      refine xr_top (y := fdiv y 4) (sh_fdiv _) ?_
      refine lv_icmp_ge (tgt := 44) hx hb dX11_before_37 (by decide) (fun c37 => ?_) (fun c37 => ?_)
      · skip
        refine lv_iconst (v := 0) hx hb dX11_before_44 (by decide) ?_
        refine lv_goto (tgt := 58) hx hb dX11_before_45 (by decide) ?_
        exact W.zret (v := 0) hx hb hr (by decide) (fun t9 e9 w9 => ⟨⟨_, q, rfl, ⟨by first | exact (congrArg bI (gB_a c7 c12)).symm | exact (congrArg bI (gB_b c7 c12)).symm | exact (congrArg bI (gB_c c7 c28 c37)).symm | exact (congrArg bI (gB_d c7 c28 c37)).symm | exact (congrArg bI (gB_e c7 c28 c50)).symm | exact (congrArg bI (gB_g c7 c28 c50)).symm, rfl⟩, by rw [e9]; exact hP, hD⟩, hS.F e9⟩) hS.2.2 dX11_before_58
      · skip
        refine lv_iconst (v := 1) hx hb dX11_before_40 (by decide) ?_
        refine lv_goto (tgt := 58) hx hb dX11_before_41 (by decide) ?_
        exact W.zret (v := 1) hx hb hr (by decide) (fun t9 e9 w9 => ⟨⟨_, q, rfl, ⟨by first | exact (congrArg bI (gB_a c7 c12)).symm | exact (congrArg bI (gB_b c7 c12)).symm | exact (congrArg bI (gB_c c7 c28 c37)).symm | exact (congrArg bI (gB_d c7 c28 c37)).symm | exact (congrArg bI (gB_e c7 c28 c50)).symm | exact (congrArg bI (gB_g c7 c28 c50)).symm, rfl⟩, by rw [e9]; exact hP, hD⟩, hS.F e9⟩) hS.2.2 dX11_before_58
  · skip
    refine lv_iload_n hx hb dX11_before_10 rfl (lv_at hl 2 rfl) ?_
    refine lv_iload_n hx hb dX11_before_11 rfl (lv_at hl 3 rfl) ?_
    refine lv_icmp_le (tgt := 19) hx hb dX11_before_12 (by decide) (fun c12 => ?_) (fun c12 => ?_)
    · skip
      refine lv_iconst (v := 0) hx hb dX11_before_19 (by decide) ?_
      exact W.zret (v := 0) hx hb hr (by decide) (fun t9 e9 w9 => ⟨⟨_, q, rfl, ⟨by first | exact (congrArg bI (gB_a c7 c12)).symm | exact (congrArg bI (gB_b c7 c12)).symm | exact (congrArg bI (gB_c c7 c28 c37)).symm | exact (congrArg bI (gB_d c7 c28 c37)).symm | exact (congrArg bI (gB_e c7 c28 c50)).symm | exact (congrArg bI (gB_g c7 c28 c50)).symm, rfl⟩, by rw [e9]; exact hP, hD⟩, hS.F e9⟩) hS.2.2 dX11_before_20
    · skip
      refine lv_iconst (v := 1) hx hb dX11_before_15 (by decide) ?_
      refine lv_goto (tgt := 20) hx hb dX11_before_16 (by decide) ?_
      exact W.zret (v := 1) hx hb hr (by decide) (fun t9 e9 w9 => ⟨⟨_, q, rfl, ⟨by first | exact (congrArg bI (gB_a c7 c12)).symm | exact (congrArg bI (gB_b c7 c12)).symm | exact (congrArg bI (gB_c c7 c28 c37)).symm | exact (congrArg bI (gB_d c7 c28 c37)).symm | exact (congrArg bI (gB_e c7 c28 c50)).symm | exact (congrArg bI (gB_g c7 c28 c50)).symm, rfl⟩, by rw [e9]; exact hP, hD⟩, hS.F e9⟩) hS.2.2 dX11_before_20

-- TreeFamilyModel.place
set_option maxHeartbeats 4000000 in
set_option maxRecDepth 100000 in
theorem c_X11_place (l : Launch) (D : va_G) (ca : Nat → ClassId) (b : Nat → Nat) (sz : Nat) (q : QS) (j : Nat) (key : Int32) (hq : WQ q) (hj : j < 3) : Met l yX11_place wsX11_place ({ frames := 1, cells := 0, slots := 0, locals := 23 } : Room) (xPc D (TY ca) [.ref (b 0), .int (nI j), .int key] (wQ ca b q) sz) (va_Qi (fun (r : Int32) (u : QS) => r = nI (plQ q j key) ∧ u = q) (xB D (wQ ca b) (va_A (wQ ca b q) sz)) (va_A (wQ ca b q) sz)) 0 0 (va_A (wQ ca b q) sz) := by
  refine Met.ofW (cc := cX11_place) (maxL := 4) (ret := (some .int)) (by decide) rfl ?_
  intro p e s m args below meth c s₁ B hml hv
  obtain ⟨rfl, hsz, hP, hKN, hD0⟩ := hv
  have hx := B.exec
  have hb := B.bytes
  have hr := B.returns
  have hts := atoms_spec (ws := wsX11_place) B.pre
  have hown : s.vm.findClass RX11 = some m.cls := findClass_of_methodNamed B.named
  have hlocks := B.notSynchronized
  have inX11 : ∀ w ∈ wsX110, w ∈ wsX11_place := by decide +kernel
  subst hsz
  have hD := hD0.self (sz := s.heap.size)
  generalize hAe : va_A (wQ ca b q) s.heap.size = A at hD ⊢
  have hA : ∀ q : Nat, s.heap.size ≤ q → A q := fun q h => by rw [← hAe]; exact Or.inr h
  have hS : va_S A s.heap s.heap [] := va_S.rf
  have hl := lv_entry ([.ref (b 0), .int (nI j), .int key]) (n := 4) (Nat.le_of_ble_eq_true rfl)
  rw [lg_entry_eq]
  generalize (lg_sl ([.ref (b 0), .int (nI j), .int key]) ++ List.replicate (4 - (lg_sl ([.ref (b 0), .int (nI j), .int key])).length) Slot.unset).toArray = ls at hl ⊢
  have hl : lv_has ls 4 [(0, .ref (b 0)), (1, .int (nI j)), (2, .int key)] := hl
  have hz6 := hq.1 j
  refine lv_iconst (v := 0) hx hb dX11_place_0 (by decide) ?_
  refine lv_istore_n (lv' := [(3, .int 0), (0, .ref (b 0)), (1, .int (nI j)), (2, .int key)]) hx hb dX11_place_1 rfl hl (by decide) rfl (fun ls hl => ?_)
  refine xl 2 (σ := Nat) (fun n u H locs ls => match u with | (i) => i + n = q.zz j ∧ i ≤ plQ q j key ∧ va_P D vwCl (wQ ca b q) H ∧ va_D A (wQ ca b q) ∧ va_S A s.heap H locs ∧ lv_has ls 4 [(0, .ref (b 0)), (1, .int (nI j)), (2, .int key), (3, .int (nI i))]) ?_ (q.zz j) (0) _ _ _ ⟨(by omega), Nat.zero_le _, hP, hD, hS, lv_sub hl [1, 2, 3, 0] rfl⟩
  clear hP hD hS hl
  intro n ih i H locs ls hI
  obtain ⟨hn, hp, hP, hD, hS, hl⟩ := hI
  refine lv_iload_n hx hb dX11_place_2 rfl (lv_at hl 3 rfl) ?_
  refine lv_aload_n hx hb dX11_place_3 rfl (lv_at hl 0 rfl) ?_
  refine va_get (D := D) (ci := 9) (v := .ref (b 2)) (C := RX11) (T := TX11) (N := 17) hx hb hts inX11 hown hKN.1 hP 0 rfl rfl 2 (by decide) (hts (.fieldLink RX11 13 "TreeFamilyModel" "size" "[I") (by decide +kernel)) (fun _ h9 => h9) rfl dX11_place_4 ?_
  refine lv_iload_n hx hb dX11_place_7 rfl (lv_at hl 1 rfl) ?_
  refine xr_ild hx hb hKN.1 hP 2 0 rfl rfl (j := j) (by omega) (by decide) dX11_place_8 ?_
  refine lv_icmp_ge (tgt := 38) hx hb dX11_place_9 (by decide) (fun c9 => ?_) (fun c9 => ?_)
  · skip
    have c9 : (q.zz j) ≤ i := (xn_le (a := (q.zz j)) (b := i) (Nat.lt_of_le_of_lt (hq.1 j) (by decide)) (by omega)).mp c9
    refine lv_iload_n hx hb dX11_place_38 rfl (lv_at hl 3 rfl) ?_
    exact W.iret (v := (nI i)) hx hb hr (fun t9 e9 w9 => ⟨⟨_, q, rfl, ⟨congrArg nI (by first | exact plE_e hp (fun h9 => absurd h9 (by omega)) | exact plE_e hp (fun _ => c29)), rfl⟩, by rw [e9]; exact hP, hD⟩, hS.F e9⟩) hS.2.2 dX11_place_39
  · skip
    have c9 : ¬ (q.zz j) ≤ i := fun h9 => c9 ((xn_le (a := (q.zz j)) (b := i) (Nat.lt_of_le_of_lt (hq.1 j) (by decide)) (by omega)).mpr h9)
    obtain ⟨n, rfl⟩ : ∃ k, n = k + 1 := ⟨n - 1, by omega⟩
    refine lv_aload_n hx hb dX11_place_12 rfl (lv_at hl 0 rfl) ?_
    refine lv_iload_n hx hb dX11_place_13 rfl (lv_at hl 1 rfl) ?_
    refine lv_aload_n hx hb dX11_place_14 rfl (lv_at hl 0 rfl) ?_
    refine va_get (D := D) (ci := 9) (v := .ref (b 3)) (C := RX11) (T := TX11) (N := 17) hx hb hts inX11 hown hKN.1 hP 0 rfl rfl 3 (by decide) (hts (.fieldLink RX11 16 "TreeFamilyModel" "keys" "[I") (by decide +kernel)) (fun _ h9 => h9) rfl dX11_place_15 ?_
    refine lv_bipush (v := 64) hx hb dX11_place_18 (by decide) ?_
    refine lv_iload_n hx hb dX11_place_20 rfl (lv_at hl 1 rfl) ?_
    refine lv_imul hx hb dX11_place_21 ?_
    refine xr_top (y := nI (64 * j)) (pk_mul 64 j) ?_
    refine lv_iload_n hx hb dX11_place_22 rfl (lv_at hl 3 rfl) ?_
    refine lv_iadd hx hb dX11_place_23 ?_
    refine xr_top (y := nI ((64 * j) + i)) (nI_add (64 * j) i) ?_
    refine xr_ild hx hb hKN.1 hP 3 0 rfl rfl (j := (64 * j) + i) (by omega) (by decide) dX11_place_24 ?_
    refine lv_iload_n hx hb dX11_place_25 rfl (lv_at hl 2 rfl) ?_
    refine xc_i (wr := []) (va_runV (As := [.int (nI j), .int (q.ks ((64 * j) + i)), .int key]) (rest := []) ⟨hx, hb, hml, hown, hts⟩ (c_X11_before l D ca b _ q j (q.ks ((64 * j) + i)) key hj) (cwV 3 hts gX11_place_X11_before rfl rfl rfl (by decide +kernel) ⟨(Nat.le_of_ble_eq_true rfl), (Nat.le_of_ble_eq_true rfl)⟩) (xPreV hKN hP hD [0, 1, 2, 3, 4, 5, 6, 7, 8, 9, 10, 11, 12, 13, 14, 15, 16] (by decide) rfl (q0 := 0) rfl rfl rfl) rfl rfl hl.1 rfl (lv_room (Nat.le_of_ble_eq_true rfl)) dX11_place_26 ⟨(Nat.le_of_ble_eq_true rfl), (Nat.le_of_ble_eq_true rfl)⟩) hP hD hS hA [0, 1, 2, 3, 4, 5, 6, 7, 8, 9, 10, 11, 12, 13, 14, 15, 16] [] rfl rfl (by decide) (by decide) (fun r26 u26 H locs hu26 hP hD hS => ?_)
    obtain ⟨er26, eu26⟩ := hu26
    have eu26 := eu26.symm
    subst eu26
    have hP : va_P D vwCl (wQ ca b q) H := hP
    have hD : va_D A (wQ ca b q) := hD
    have er26 : r26 = bI (gB (q.oo j) (q.ks ((64 * j) + i)) key) := er26
    subst er26
    refine lv_if_eq (tgt := 38) hx hb dX11_place_29 (by decide) (fun c29 => ?_) (fun c29 => ?_)
    · skip
      have c29 := bI_0.mp c29
      refine lv_iload_n hx hb dX11_place_38 rfl (lv_at hl 3 rfl) ?_
      exact W.iret (v := (nI i)) hx hb hr (fun t9 e9 w9 => ⟨⟨_, q, rfl, ⟨congrArg nI (by first | exact plE_e hp (fun h9 => absurd h9 (by omega)) | exact plE_e hp (fun _ => c29)), rfl⟩, by rw [e9]; exact hP, hD⟩, hS.F e9⟩) hS.2.2 dX11_place_39
    · skip
      have c29 := bI_ne.mp c29
      refine lv_iinc (v := (nI (i + 1))) (lv' := [(3, .int (nI (i + 1))), (0, .ref (b 0)), (1, .int (nI j)), (2, .int key)]) hx hb dX11_place_32 hl (k := 3) rfl (nI_1 _) (by decide) rfl (fun ls hl => ?_)
      refine lv_goto (tgt := 2) hx hb dX11_place_35 (by decide) ?_
      exact ih n (by omega) (i + 1) _ _ _ ⟨(by omega), (plE_s hp (by omega) c29), hP, hD, hS, lv_sub hl [1, 2, 3, 0] rfl⟩

theorem atE_a {od key : Int32} {f g : Nat → Int32} {z j i : Nat} (h : i < z) (c : gB od key (f (64 * j + i)) = true) : atE od key i (rowL f g z j) = false := by rw [atE_1 h, c]; rfl
theorem atE_b {od key : Int32} {f g : Nat → Int32} {z j i : Nat} (h : i < z) (c : gB od key (f (64 * j + i)) = false) (d : gB od (f (64 * j + i)) key = true) : atE od key i (rowL f g z j) = false := by rw [atE_1 h, c, d]; rfl
theorem atE_c {od key : Int32} {f g : Nat → Int32} {z j i : Nat} (h : i < z) (c : gB od key (f (64 * j + i)) = false) (d : gB od (f (64 * j + i)) key = false) : atE od key i (rowL f g z j) = true := by rw [atE_1 h, c, d]; rfl

-- TreeFamilyModel.isAt
set_option maxHeartbeats 4000000 in
set_option maxRecDepth 100000 in
theorem c_X11_isAt (l : Launch) (D : va_G) (ca : Nat → ClassId) (b : Nat → Nat) (sz : Nat) (q : QS) (j i : Nat) (key : Int32) (hq : WQ q) (hj : j < 3) (hi6 : i ≤ 60) : Met l yX11_isAt wsX11_isAt ({ frames := 1, cells := 0, slots := 0, locals := 23 } : Room) (xPc D (TY ca) [.ref (b 0), .int (nI j), .int (nI i), .int key] (wQ ca b q) sz) (va_Qi (fun (r : Int32) (u : QS) => r = bI (atE (q.oo j) key i (enQ q j)) ∧ u = q) (xB D (wQ ca b) (va_A (wQ ca b q) sz)) (va_A (wQ ca b q) sz)) 0 0 (va_A (wQ ca b q) sz) := by
  refine Met.ofW (cc := cX11_isAt) (maxL := 4) (ret := (some .boolean)) (by decide) rfl ?_
  intro p e s m args below meth c s₁ B hml hv
  obtain ⟨rfl, hsz, hP, hKN, hD0⟩ := hv
  have hx := B.exec
  have hb := B.bytes
  have hr := B.returns
  have hts := atoms_spec (ws := wsX11_isAt) B.pre
  have hown : s.vm.findClass RX11 = some m.cls := findClass_of_methodNamed B.named
  have hlocks := B.notSynchronized
  have inX11 : ∀ w ∈ wsX110, w ∈ wsX11_isAt := by decide +kernel
  subst hsz
  have hD := hD0.self (sz := s.heap.size)
  generalize hAe : va_A (wQ ca b q) s.heap.size = A at hD ⊢
  have hA : ∀ q : Nat, s.heap.size ≤ q → A q := fun q h => by rw [← hAe]; exact Or.inr h
  have hS : va_S A s.heap s.heap [] := va_S.rf
  have hl := lv_entry ([.ref (b 0), .int (nI j), .int (nI i), .int key]) (n := 4) (Nat.le_of_ble_eq_true rfl)
  rw [lg_entry_eq]
  generalize (lg_sl ([.ref (b 0), .int (nI j), .int (nI i), .int key]) ++ List.replicate (4 - (lg_sl ([.ref (b 0), .int (nI j), .int (nI i), .int key])).length) Slot.unset).toArray = ls at hl ⊢
  have hl : lv_has ls 4 [(0, .ref (b 0)), (1, .int (nI j)), (2, .int (nI i)), (3, .int key)] := hl
  have hz6 := hq.1 j
  refine lv_iload_n hx hb dX11_isAt_0 rfl (lv_at hl 2 rfl) ?_
  refine lv_aload_n hx hb dX11_isAt_1 rfl (lv_at hl 0 rfl) ?_
  refine va_get (D := D) (ci := 9) (v := .ref (b 2)) (C := RX11) (T := TX11) (N := 17) hx hb hts inX11 hown hKN.1 hP 0 rfl rfl 2 (by decide) (hts (.fieldLink RX11 13 "TreeFamilyModel" "size" "[I") (by decide +kernel)) (fun _ h9 => h9) rfl dX11_isAt_2 ?_
  refine lv_iload_n hx hb dX11_isAt_5 rfl (lv_at hl 1 rfl) ?_
  refine xr_ild hx hb hKN.1 hP 2 0 rfl rfl (j := j) (by omega) (by decide) dX11_isAt_6 ?_
  refine lv_icmp_ge (tgt := 54) hx hb dX11_isAt_7 (by decide) (fun c7 => ?_) (fun c7 => ?_)
  · skip
    have c7 : (q.zz j) ≤ i := (xn_le (a := (q.zz j)) (b := i) (Nat.lt_of_le_of_lt (hq.1 j) (by decide)) (Nat.lt_of_le_of_lt hi6 (by decide))).mp c7
    refine lv_iconst (v := 0) hx hb dX11_isAt_54 (by decide) ?_
    exact W.zret (v := 0) hx hb hr (by decide) (fun t9 e9 w9 => ⟨⟨_, q, rfl, ⟨by first | exact (congrArg bI (atE_0 (by omega))).symm | exact (congrArg bI (atE_b (g := q.vs) (show i < q.zz j by omega) c27 c47)).symm | exact (congrArg bI (atE_c (g := q.vs) (show i < q.zz j by omega) c27 c47)).symm | exact (congrArg bI (atE_a (g := q.vs) (show i < q.zz j by omega) c27)).symm, rfl⟩, by rw [e9]; exact hP, hD⟩, hS.F e9⟩) hS.2.2 dX11_isAt_55
  · skip
    have c7 : ¬ (q.zz j) ≤ i := fun h9 => c7 ((xn_le (a := (q.zz j)) (b := i) (Nat.lt_of_le_of_lt (hq.1 j) (by decide)) (Nat.lt_of_le_of_lt hi6 (by decide))).mpr h9)
    refine lv_aload_n hx hb dX11_isAt_10 rfl (lv_at hl 0 rfl) ?_
    refine lv_iload_n hx hb dX11_isAt_11 rfl (lv_at hl 1 rfl) ?_
    refine lv_iload_n hx hb dX11_isAt_12 rfl (lv_at hl 3 rfl) ?_
    refine lv_aload_n hx hb dX11_isAt_13 rfl (lv_at hl 0 rfl) ?_
    refine va_get (D := D) (ci := 9) (v := .ref (b 3)) (C := RX11) (T := TX11) (N := 17) hx hb hts inX11 hown hKN.1 hP 0 rfl rfl 3 (by decide) (hts (.fieldLink RX11 16 "TreeFamilyModel" "keys" "[I") (by decide +kernel)) (fun _ h9 => h9) rfl dX11_isAt_14 ?_
    refine lv_bipush (v := 64) hx hb dX11_isAt_17 (by decide) ?_
    refine lv_iload_n hx hb dX11_isAt_19 rfl (lv_at hl 1 rfl) ?_
    refine lv_imul hx hb dX11_isAt_20 ?_
    refine xr_top (y := nI (64 * j)) (pk_mul 64 j) ?_
    refine lv_iload_n hx hb dX11_isAt_21 rfl (lv_at hl 2 rfl) ?_
    refine lv_iadd hx hb dX11_isAt_22 ?_
    refine xr_top (y := nI ((64 * j) + i)) (nI_add (64 * j) i) ?_
    refine xr_ild hx hb hKN.1 hP 3 0 rfl rfl (j := (64 * j) + i) (by omega) (by decide) dX11_isAt_23 ?_
    refine xc_i (wr := []) (va_runV (As := [.int (nI j), .int key, .int (q.ks ((64 * j) + i))]) (rest := []) ⟨hx, hb, hml, hown, hts⟩ (c_X11_before l D ca b _ q j key (q.ks ((64 * j) + i)) hj) (cwV 3 hts gX11_isAt_X11_before rfl rfl rfl (by decide +kernel) ⟨(Nat.le_of_ble_eq_true rfl), (Nat.le_of_ble_eq_true rfl)⟩) (xPreV hKN hP hD [0, 1, 2, 3, 4, 5, 6, 7, 8, 9, 10, 11, 12, 13, 14, 15, 16] (by decide) rfl (q0 := 0) rfl rfl rfl) rfl rfl hl.1 rfl (lv_room (Nat.le_of_ble_eq_true rfl)) dX11_isAt_24 ⟨(Nat.le_of_ble_eq_true rfl), (Nat.le_of_ble_eq_true rfl)⟩) hP hD hS hA [0, 1, 2, 3, 4, 5, 6, 7, 8, 9, 10, 11, 12, 13, 14, 15, 16] [] rfl rfl (by decide) (by decide) (fun r24 u24 H locs hu24 hP hD hS => ?_)
    obtain ⟨er24, eu24⟩ := hu24
    have eu24 := eu24.symm
    subst eu24
    have hP : va_P D vwCl (wQ ca b q) H := hP
    have hD : va_D A (wQ ca b q) := hD
    have er24 : r24 = bI (gB (q.oo j) key (q.ks ((64 * j) + i))) := er24
    subst er24
    refine lv_if_ne (tgt := 54) hx hb dX11_isAt_27 (by decide) (fun c27 => ?_) (fun c27 => ?_)
    · skip
      have c27 := bI_ne.mp c27
      refine lv_iconst (v := 0) hx hb dX11_isAt_54 (by decide) ?_
      exact W.zret (v := 0) hx hb hr (by decide) (fun t9 e9 w9 => ⟨⟨_, q, rfl, ⟨by first | exact (congrArg bI (atE_0 (by omega))).symm | exact (congrArg bI (atE_b (g := q.vs) (show i < q.zz j by omega) c27 c47)).symm | exact (congrArg bI (atE_c (g := q.vs) (show i < q.zz j by omega) c27 c47)).symm | exact (congrArg bI (atE_a (g := q.vs) (show i < q.zz j by omega) c27)).symm, rfl⟩, by rw [e9]; exact hP, hD⟩, hS.F e9⟩) hS.2.2 dX11_isAt_55
    · skip
      have c27 := bI_0.mp c27
      refine lv_aload_n hx hb dX11_isAt_30 rfl (lv_at hl 0 rfl) ?_
      refine lv_iload_n hx hb dX11_isAt_31 rfl (lv_at hl 1 rfl) ?_
      refine lv_aload_n hx hb dX11_isAt_32 rfl (lv_at hl 0 rfl) ?_
      refine va_get (D := D) (ci := 9) (v := .ref (b 3)) (C := RX11) (T := TX11) (N := 17) hx hb hts inX11 hown hKN.1 hP 0 rfl rfl 3 (by decide) (hts (.fieldLink RX11 16 "TreeFamilyModel" "keys" "[I") (by decide +kernel)) (fun _ h9 => h9) rfl dX11_isAt_33 ?_
      refine lv_bipush (v := 64) hx hb dX11_isAt_36 (by decide) ?_
      refine lv_iload_n hx hb dX11_isAt_38 rfl (lv_at hl 1 rfl) ?_
      refine lv_imul hx hb dX11_isAt_39 ?_
      refine xr_top (y := nI (64 * j)) (pk_mul 64 j) ?_
      refine lv_iload_n hx hb dX11_isAt_40 rfl (lv_at hl 2 rfl) ?_
      refine lv_iadd hx hb dX11_isAt_41 ?_
      refine xr_top (y := nI ((64 * j) + i)) (nI_add (64 * j) i) ?_
      refine xr_ild hx hb hKN.1 hP 3 0 rfl rfl (j := (64 * j) + i) (by omega) (by decide) dX11_isAt_42 ?_
      refine lv_iload_n hx hb dX11_isAt_43 rfl (lv_at hl 3 rfl) ?_
      refine xc_i (wr := []) (va_runV (As := [.int (nI j), .int (q.ks ((64 * j) + i)), .int key]) (rest := []) ⟨hx, hb, hml, hown, hts⟩ (c_X11_before l D ca b _ q j (q.ks ((64 * j) + i)) key hj) (cwV 3 hts gX11_isAt_X11_before rfl rfl rfl (by decide +kernel) ⟨(Nat.le_of_ble_eq_true rfl), (Nat.le_of_ble_eq_true rfl)⟩) (xPreV hKN hP hD [0, 1, 2, 3, 4, 5, 6, 7, 8, 9, 10, 11, 12, 13, 14, 15, 16] (by decide) rfl (q0 := 0) rfl rfl rfl) rfl rfl hl.1 rfl (lv_room (Nat.le_of_ble_eq_true rfl)) dX11_isAt_44 ⟨(Nat.le_of_ble_eq_true rfl), (Nat.le_of_ble_eq_true rfl)⟩) hP hD hS hA [0, 1, 2, 3, 4, 5, 6, 7, 8, 9, 10, 11, 12, 13, 14, 15, 16] [] rfl rfl (by decide) (by decide) (fun r44 u44 H locs hu44 hP hD hS => ?_)
      obtain ⟨er44, eu44⟩ := hu44
      have eu44 := eu44.symm
      subst eu44
      have hP : va_P D vwCl (wQ ca b q) H := hP
      have hD : va_D A (wQ ca b q) := hD
      have er44 : r44 = bI (gB (q.oo j) (q.ks ((64 * j) + i)) key) := er44
      subst er44
      refine lv_if_ne (tgt := 54) hx hb dX11_isAt_47 (by decide) (fun c47 => ?_) (fun c47 => ?_)
      · skip
        have c47 := bI_ne.mp c47
        refine lv_iconst (v := 0) hx hb dX11_isAt_54 (by decide) ?_
        exact W.zret (v := 0) hx hb hr (by decide) (fun t9 e9 w9 => ⟨⟨_, q, rfl, ⟨by first | exact (congrArg bI (atE_0 (by omega))).symm | exact (congrArg bI (atE_b (g := q.vs) (show i < q.zz j by omega) c27 c47)).symm | exact (congrArg bI (atE_c (g := q.vs) (show i < q.zz j by omega) c27 c47)).symm | exact (congrArg bI (atE_a (g := q.vs) (show i < q.zz j by omega) c27)).symm, rfl⟩, by rw [e9]; exact hP, hD⟩, hS.F e9⟩) hS.2.2 dX11_isAt_55
      · skip
        have c47 := bI_0.mp c47
        refine lv_iconst (v := 1) hx hb dX11_isAt_50 (by decide) ?_
        refine lv_goto (tgt := 55) hx hb dX11_isAt_51 (by decide) ?_
        exact W.zret (v := 1) hx hb hr (by decide) (fun t9 e9 w9 => ⟨⟨_, q, rfl, ⟨by first | exact (congrArg bI (atE_0 (by omega))).symm | exact (congrArg bI (atE_b (g := q.vs) (show i < q.zz j by omega) c27 c47)).symm | exact (congrArg bI (atE_c (g := q.vs) (show i < q.zz j by omega) c27 c47)).symm | exact (congrArg bI (atE_a (g := q.vs) (show i < q.zz j by omega) c27)).symm, rfl⟩, by rw [e9]; exact hP, hD⟩, hS.F e9⟩) hS.2.2 dX11_isAt_55

-- TreeFamilyModel.renew
set_option maxHeartbeats 4000000 in
set_option maxRecDepth 100000 in
theorem c_X11_renew (l : Launch) (D : va_G) (ca : Nat → ClassId) (b : Nat → Nat) (sz : Nat) (q : QS) (j : Nat) (o2 : Int32) (hj : j < 3) : Met l yX11_renew wsX11_renew ({ frames := 0, cells := 0, slots := 0, locals := 0 } : Room) (xPc D (TY ca) [.ref (b 0), .int (nI j), .int o2] (wQ ca b q) sz) (va_Qv (fun u : QS => u = (q.co, upd q.oo j o2, va_up q.zz j 0, q.ks, q.vs, upd q.cg j (q.cg j + 1), va_up q.hw j 0, q.lo, q.hg, va_up q.wk j false, q.kw, q.mn, q.gv, q.cp, q.ho, q.nk, q.nv)) (xB D (wQ ca b) (va_A (wQ ca b q) sz)) (va_A (wQ ca b q) sz)) 0 0 (va_A (wQ ca b q) sz) := by
  refine Met.ofW (cc := cX11_renew) (maxL := 3) (ret := none) (by decide) rfl ?_
  intro p e s m args below meth c s₁ B hml hv
  obtain ⟨rfl, hsz, hP, hKN, hD0⟩ := hv
  have hx := B.exec
  have hb := B.bytes
  have hr := B.returns
  have hts := atoms_spec (ws := wsX11_renew) B.pre
  have hown : s.vm.findClass RX11 = some m.cls := findClass_of_methodNamed B.named
  have hlocks := B.notSynchronized
  have inX11 : ∀ w ∈ wsX110, w ∈ wsX11_renew := by decide +kernel
  subst hsz
  have hD := hD0.self (sz := s.heap.size)
  generalize hAe : va_A (wQ ca b q) s.heap.size = A at hD ⊢
  have hA : ∀ q : Nat, s.heap.size ≤ q → A q := fun q h => by rw [← hAe]; exact Or.inr h
  have hS : va_S A s.heap s.heap [] := va_S.rf
  have hl := lv_entry ([.ref (b 0), .int (nI j), .int o2]) (n := 3) (Nat.le_of_ble_eq_true rfl)
  rw [lg_entry_eq]
  generalize (lg_sl ([.ref (b 0), .int (nI j), .int o2]) ++ List.replicate (3 - (lg_sl ([.ref (b 0), .int (nI j), .int o2])).length) Slot.unset).toArray = ls at hl ⊢
  have hl : lv_has ls 3 [(0, .ref (b 0)), (1, .int (nI j)), (2, .int o2)] := hl
  refine lv_aload_n hx hb dX11_renew_0 rfl (lv_at hl 0 rfl) ?_
  refine va_get (D := D) (ci := 9) (v := .ref (b 1)) (C := RX11) (T := TX11) (N := 17) hx hb hts inX11 hown hKN.1 hP 0 rfl rfl 1 (by decide) (hts (.fieldLink RX11 7 "TreeFamilyModel" "order" "[I") (by decide +kernel)) (fun _ h9 => h9) rfl dX11_renew_1 ?_
  refine lv_iload_n hx hb dX11_renew_4 rfl (lv_at hl 1 rfl) ?_
  refine lv_iload_n hx hb dX11_renew_5 rfl (lv_at hl 2 rfl) ?_
  refine xr_ist hx hb hKN.1 hP hD hS 1 0 rfl rfl (j := j) (by omega) (by decide) dX11_renew_6 (fun H locs hP hD hS => ?_)
  have hP : va_P D vwCl (wQx ca b q.co (upd q.oo j o2) q.zz q.ks q.vs q.cg q.hw q.lo q.hg q.wk q.kw q.mn q.gv q.cp q.ho q.nk q.nv) H := hP
  have hD : va_D A (wQx ca b q.co (upd q.oo j o2) q.zz q.ks q.vs q.cg q.hw q.lo q.hg q.wk q.kw q.mn q.gv q.cp q.ho q.nk q.nv) := hD
  refine lv_aload_n hx hb dX11_renew_7 rfl (lv_at hl 0 rfl) ?_
  refine va_get (D := D) (ci := 9) (v := .ref (b 2)) (C := RX11) (T := TX11) (N := 17) hx hb hts inX11 hown hKN.1 hP 0 rfl rfl 2 (by decide) (hts (.fieldLink RX11 13 "TreeFamilyModel" "size" "[I") (by decide +kernel)) (fun _ h9 => h9) rfl dX11_renew_8 ?_
  refine lv_iload_n hx hb dX11_renew_11 rfl (lv_at hl 1 rfl) ?_
  refine lv_iconst (v := 0) hx hb dX11_renew_12 (by decide) ?_
  refine xr_nst hx hb hKN.1 hP hD hS 2 0 (g := q.zz) rfl rfl (j := j) (v := 0) (by omega) (by decide) dX11_renew_13 (fun H locs hP hD hS => ?_)
  have hP : va_P D vwCl (wQx ca b q.co (upd q.oo j o2) (va_up q.zz j 0) q.ks q.vs q.cg q.hw q.lo q.hg q.wk q.kw q.mn q.gv q.cp q.ho q.nk q.nv) H := hP
  have hD : va_D A (wQx ca b q.co (upd q.oo j o2) (va_up q.zz j 0) q.ks q.vs q.cg q.hw q.lo q.hg q.wk q.kw q.mn q.gv q.cp q.ho q.nk q.nv) := hD
  refine lv_aload_n hx hb dX11_renew_14 rfl (lv_at hl 0 rfl) ?_
  refine va_get (D := D) (ci := 9) (v := .ref (b 6)) (C := RX11) (T := TX11) (N := 17) hx hb hts inX11 hown hKN.1 hP 0 rfl rfl 6 (by decide) (hts (.fieldLink RX11 25 "TreeFamilyModel" "how" "[I") (by decide +kernel)) (fun _ h9 => h9) rfl dX11_renew_15 ?_
  refine lv_iload_n hx hb dX11_renew_18 rfl (lv_at hl 1 rfl) ?_
  refine lv_iconst (v := 0) hx hb dX11_renew_19 (by decide) ?_
  refine xr_nst hx hb hKN.1 hP hD hS 6 0 (g := q.hw) rfl rfl (j := j) (v := 0) (by omega) (by decide) dX11_renew_20 (fun H locs hP hD hS => ?_)
  have hP : va_P D vwCl (wQx ca b q.co (upd q.oo j o2) (va_up q.zz j 0) q.ks q.vs q.cg (va_up q.hw j 0) q.lo q.hg q.wk q.kw q.mn q.gv q.cp q.ho q.nk q.nv) H := hP
  have hD : va_D A (wQx ca b q.co (upd q.oo j o2) (va_up q.zz j 0) q.ks q.vs q.cg (va_up q.hw j 0) q.lo q.hg q.wk q.kw q.mn q.gv q.cp q.ho q.nk q.nv) := hD
  refine lv_aload_n hx hb dX11_renew_21 rfl (lv_at hl 0 rfl) ?_
  refine va_get (D := D) (ci := 9) (v := .ref (b 9)) (C := RX11) (T := TX11) (N := 17) hx hb hts inX11 hown hKN.1 hP 0 rfl rfl 9 (by decide) (hts (.fieldLink RX11 34 "TreeFamilyModel" "walks" "[Z") (by decide +kernel)) (fun _ h9 => h9) rfl dX11_renew_22 ?_
  refine lv_iload_n hx hb dX11_renew_25 rfl (lv_at hl 1 rfl) ?_
  refine lv_iconst (v := 0) hx hb dX11_renew_26 (by decide) ?_
  refine xr_bst hx hb hKN.1 hP hD hS 9 2 (g := q.wk) (v := false) rfl rfl (j := j) (by omega) (by decide) dX11_renew_27 (fun H locs hP hD hS => ?_)
  have hP : va_P D vwCl (wQx ca b q.co (upd q.oo j o2) (va_up q.zz j 0) q.ks q.vs q.cg (va_up q.hw j 0) q.lo q.hg (va_up q.wk j false) q.kw q.mn q.gv q.cp q.ho q.nk q.nv) H := hP
  have hD : va_D A (wQx ca b q.co (upd q.oo j o2) (va_up q.zz j 0) q.ks q.vs q.cg (va_up q.hw j 0) q.lo q.hg (va_up q.wk j false) q.kw q.mn q.gv q.cp q.ho q.nk q.nv) := hD
  refine lv_aload_n hx hb dX11_renew_28 rfl (lv_at hl 0 rfl) ?_
  refine va_get (D := D) (ci := 9) (v := .ref (b 5)) (C := RX11) (T := TX11) (N := 17) hx hb hts inX11 hown hKN.1 hP 0 rfl rfl 5 (by decide) (hts (.fieldLink RX11 22 "TreeFamilyModel" "changes" "[I") (by decide +kernel)) (fun _ h9 => h9) rfl dX11_renew_29 ?_
  refine lv_iload_n hx hb dX11_renew_32 rfl (lv_at hl 1 rfl) ?_
  refine lv_dup2_11 hx hb dX11_renew_33 rfl rfl ?_
  refine xr_ild hx hb hKN.1 hP 5 0 rfl rfl (j := j) (by omega) (by decide) dX11_renew_34 ?_
  refine lv_iconst (v := 1) hx hb dX11_renew_35 (by decide) ?_
  refine lv_iadd hx hb dX11_renew_36 ?_
  refine xr_ist hx hb hKN.1 hP hD hS 5 0 rfl rfl (j := j) (by omega) (by decide) dX11_renew_37 (fun H locs hP hD hS => ?_)
  have hP : va_P D vwCl (wQx ca b q.co (upd q.oo j o2) (va_up q.zz j 0) q.ks q.vs (upd q.cg j ((q.cg j) + 1)) (va_up q.hw j 0) q.lo q.hg (va_up q.wk j false) q.kw q.mn q.gv q.cp q.ho q.nk q.nv) H := hP
  have hD : va_D A (wQx ca b q.co (upd q.oo j o2) (va_up q.zz j 0) q.ks q.vs (upd q.cg j ((q.cg j) + 1)) (va_up q.hw j 0) q.lo q.hg (va_up q.wk j false) q.kw q.mn q.gv q.cp q.ho q.nk q.nv) := hD
  exact W.vret hx hb hr (fun t9 e9 w9 => ⟨⟨(q.co, (upd q.oo j o2), (va_up q.zz j 0), q.ks, q.vs, (upd q.cg j ((q.cg j) + 1)), (va_up q.hw j 0), q.lo, q.hg, (va_up q.wk j false), q.kw, q.mn, q.gv, q.cp, q.ho, q.nk, q.nv), rfl, rfl, by rw [e9]; exact hP, hD⟩, hS.F e9⟩) hS.2.2 dX11_renew_38

theorem renew_of {q u : QS} {j : Nat} {o2 : Int32} (h : WQ q) (e : u = (q.co, upd q.oo j o2, va_up q.zz j 0, q.ks, q.vs, upd q.cg j (q.cg j + 1), va_up q.hw j 0, q.lo, q.hg, va_up q.wk j false, q.kw, q.mn, q.gv, q.cp, q.ho, q.nk, q.nv)) : WQ u ∧ u.co = q.co ∧ ab u = va_up (ab q) j (rNew (ab q j) o2) := by
  rw [e]
  exact ⟨wq_renew h j o2 _, rfl, ab_renew q j o2⟩

-- TreeFamilyModel.open
set_option maxHeartbeats 4000000 in
set_option maxRecDepth 100000 in
theorem c_X11_open (l : Launch) (D : va_G) (ca : Nat → ClassId) (b : Nat → Nat) (sz : Nat) (q : QS) (j i : Nat) (key v : Int32) (hq : WQ q) (hj : j < 3) (hi : i ≤ q.zz j) (hz : q.zz j < 60) : Met l yX11_open wsX11_open ({ frames := 0, cells := 0, slots := 0, locals := 0 } : Room) (xPc D (TY ca) [.ref (b 0), .int (nI j), .int (nI i), .int key, .int v] (wQ ca b q) sz) (va_Qv (fun u : QS => WQ u ∧ u.co = q.co ∧ ab u = va_up (ab q) j (rEn (ab q j) (insE i (key, v) (enQ q j)) (q.cg j + 1))) (xB D (wQ ca b) (va_A (wQ ca b q) sz)) (va_A (wQ ca b q) sz)) 0 0 (va_A (wQ ca b q) sz) := by
  refine Met.ofW (cc := cX11_open) (maxL := 6) (ret := none) (by decide) rfl ?_
  intro p e s m args below meth c s₁ B hml hv
  obtain ⟨rfl, hsz, hP, hKN, hD0⟩ := hv
  have hx := B.exec
  have hb := B.bytes
  have hr := B.returns
  have hts := atoms_spec (ws := wsX11_open) B.pre
  have hown : s.vm.findClass RX11 = some m.cls := findClass_of_methodNamed B.named
  have hlocks := B.notSynchronized
  have inX11 : ∀ w ∈ wsX110, w ∈ wsX11_open := by decide +kernel
  subst hsz
  have hD := hD0.self (sz := s.heap.size)
  generalize hAe : va_A (wQ ca b q) s.heap.size = A at hD ⊢
  have hA : ∀ q : Nat, s.heap.size ≤ q → A q := fun q h => by rw [← hAe]; exact Or.inr h
  have hS : va_S A s.heap s.heap [] := va_S.rf
  have hl := lv_entry ([.ref (b 0), .int (nI j), .int (nI i), .int key, .int v]) (n := 6) (Nat.le_of_ble_eq_true rfl)
  rw [lg_entry_eq]
  generalize (lg_sl ([.ref (b 0), .int (nI j), .int (nI i), .int key, .int v]) ++ List.replicate (6 - (lg_sl ([.ref (b 0), .int (nI j), .int (nI i), .int key, .int v])).length) Slot.unset).toArray = ls at hl ⊢
  have hl : lv_has ls 6 [(0, .ref (b 0)), (1, .int (nI j)), (2, .int (nI i)), (3, .int key), (4, .int v)] := hl
  refine lv_bipush (v := 64) hx hb dX11_open_0 (by decide) ?_
  refine lv_iload_n hx hb dX11_open_2 rfl (lv_at hl 1 rfl) ?_
  refine lv_imul hx hb dX11_open_3 ?_
  refine xr_top (y := nI (64 * j)) (pk_mul 64 j) ?_
  refine lv_aload_n hx hb dX11_open_4 rfl (lv_at hl 0 rfl) ?_
  refine va_get (D := D) (ci := 9) (v := .ref (b 2)) (C := RX11) (T := TX11) (N := 17) hx hb hts inX11 hown hKN.1 hP 0 rfl rfl 2 (by decide) (hts (.fieldLink RX11 13 "TreeFamilyModel" "size" "[I") (by decide +kernel)) (fun _ h9 => h9) rfl dX11_open_5 ?_
  refine lv_iload_n hx hb dX11_open_8 rfl (lv_at hl 1 rfl) ?_
  refine xr_ild hx hb hKN.1 hP 2 0 rfl rfl (j := j) (by omega) (by decide) dX11_open_9 ?_
  refine lv_iadd hx hb dX11_open_10 ?_
  refine xr_top (y := nI ((64 * j) + (q.zz j))) (nI_add (64 * j) (q.zz j)) ?_
  refine lv_istore (lv' := [(5, .int (nI ((64 * j) + (q.zz j)))), (0, .ref (b 0)), (1, .int (nI j)), (2, .int (nI i)), (3, .int key), (4, .int v)]) hx hb dX11_open_11 hl (by decide) rfl (fun ls hl => ?_)
  refine xl 13 (σ := Nat × (Nat → Int32) × (Nat → Int32)) (fun n u H locs ls => match u with | (k, f, g) => 64 * j + i + n = k ∧ k ≤ 64 * j + q.zz j ∧ shU q.ks f k (64 * j + q.zz j) ∧ shU q.vs g k (64 * j + q.zz j) ∧ va_P D vwCl (wQx ca b q.co q.oo q.zz f g q.cg q.hw q.lo q.hg q.wk q.kw q.mn q.gv q.cp q.ho q.nk q.nv) H ∧ va_D A (wQx ca b q.co q.oo q.zz f g q.cg q.hw q.lo q.hg q.wk q.kw q.mn q.gv q.cp q.ho q.nk q.nv) ∧ va_S A s.heap H locs ∧ lv_has ls 6 [(0, .ref (b 0)), (1, .int (nI j)), (2, .int (nI i)), (3, .int key), (4, .int v), (5, .int (nI k))]) ?_ (q.zz j - i) (64 * j + q.zz j, q.ks, q.vs) _ _ _ ⟨(by omega), (Nat.le_refl _), (shU_0 _ _), (shU_0 _ _), hP, hD, hS, lv_sub hl [1, 2, 3, 4, 5, 0] rfl⟩
  clear hP hD hS hl
  intro n ih u H locs ls hI
  obtain ⟨k, f, g⟩ := u
  obtain ⟨hk, hk2, hf, hg, hP, hD, hS, hl⟩ := hI
  refine lv_iload hx hb dX11_open_13 (lv_at hl 5 rfl) ?_
  refine lv_bipush (v := 64) hx hb dX11_open_15 (by decide) ?_
  refine lv_iload_n hx hb dX11_open_17 rfl (lv_at hl 1 rfl) ?_
  refine lv_imul hx hb dX11_open_18 ?_
  refine xr_top (y := nI (64 * j)) (pk_mul 64 j) ?_
  refine lv_iload_n hx hb dX11_open_19 rfl (lv_at hl 2 rfl) ?_
  refine lv_iadd hx hb dX11_open_20 ?_
  refine xr_top (y := nI ((64 * j) + i)) (nI_add (64 * j) i) ?_
  refine lv_icmp_le (tgt := 62) hx hb dX11_open_21 (by decide) (fun c21 => ?_) (fun c21 => ?_)
  · skip
    have c21 : k ≤ ((64 * j) + i) := (xn_le (a := k) (b := ((64 * j) + i)) (by omega) (by omega)).mp c21
    obtain rfl : k = 64 * j + i := (by omega)
    refine lv_aload_n hx hb dX11_open_62 rfl (lv_at hl 0 rfl) ?_
    refine va_get (D := D) (ci := 9) (v := .ref (b 3)) (C := RX11) (T := TX11) (N := 17) hx hb hts inX11 hown hKN.1 hP 0 rfl rfl 3 (by decide) (hts (.fieldLink RX11 16 "TreeFamilyModel" "keys" "[I") (by decide +kernel)) (fun _ h9 => h9) rfl dX11_open_63 ?_
    refine lv_bipush (v := 64) hx hb dX11_open_66 (by decide) ?_
    refine lv_iload_n hx hb dX11_open_68 rfl (lv_at hl 1 rfl) ?_
    refine lv_imul hx hb dX11_open_69 ?_
    refine xr_top (y := nI (64 * j)) (pk_mul 64 j) ?_
    refine lv_iload_n hx hb dX11_open_70 rfl (lv_at hl 2 rfl) ?_
    refine lv_iadd hx hb dX11_open_71 ?_
    refine xr_top (y := nI ((64 * j) + i)) (nI_add (64 * j) i) ?_
    refine lv_iload_n hx hb dX11_open_72 rfl (lv_at hl 3 rfl) ?_
    refine xr_ist hx hb hKN.1 hP hD hS 3 0 rfl rfl (j := (64 * j) + i) (by omega) (by decide) dX11_open_73 (fun H locs hP hD hS => ?_)
    have hP : va_P D vwCl (wQx ca b q.co q.oo q.zz (upd f ((64 * j) + i) key) g q.cg q.hw q.lo q.hg q.wk q.kw q.mn q.gv q.cp q.ho q.nk q.nv) H := hP
    have hD : va_D A (wQx ca b q.co q.oo q.zz (upd f ((64 * j) + i) key) g q.cg q.hw q.lo q.hg q.wk q.kw q.mn q.gv q.cp q.ho q.nk q.nv) := hD
    refine lv_aload_n hx hb dX11_open_74 rfl (lv_at hl 0 rfl) ?_
    refine va_get (D := D) (ci := 9) (v := .ref (b 4)) (C := RX11) (T := TX11) (N := 17) hx hb hts inX11 hown hKN.1 hP 0 rfl rfl 4 (by decide) (hts (.fieldLink RX11 19 "TreeFamilyModel" "values" "[I") (by decide +kernel)) (fun _ h9 => h9) rfl dX11_open_75 ?_
    refine lv_bipush (v := 64) hx hb dX11_open_78 (by decide) ?_
    refine lv_iload_n hx hb dX11_open_80 rfl (lv_at hl 1 rfl) ?_
    refine lv_imul hx hb dX11_open_81 ?_
    refine xr_top (y := nI (64 * j)) (pk_mul 64 j) ?_
    refine lv_iload_n hx hb dX11_open_82 rfl (lv_at hl 2 rfl) ?_
    refine lv_iadd hx hb dX11_open_83 ?_
    refine xr_top (y := nI ((64 * j) + i)) (nI_add (64 * j) i) ?_
    refine lv_iload hx hb dX11_open_84 (lv_at hl 4 rfl) ?_
    refine xr_ist hx hb hKN.1 hP hD hS 4 0 rfl rfl (j := (64 * j) + i) (by omega) (by decide) dX11_open_86 (fun H locs hP hD hS => ?_)
    have hP : va_P D vwCl (wQx ca b q.co q.oo q.zz (upd f ((64 * j) + i) key) (upd g ((64 * j) + i) v) q.cg q.hw q.lo q.hg q.wk q.kw q.mn q.gv q.cp q.ho q.nk q.nv) H := hP
    have hD : va_D A (wQx ca b q.co q.oo q.zz (upd f ((64 * j) + i) key) (upd g ((64 * j) + i) v) q.cg q.hw q.lo q.hg q.wk q.kw q.mn q.gv q.cp q.ho q.nk q.nv) := hD
    refine lv_aload_n hx hb dX11_open_87 rfl (lv_at hl 0 rfl) ?_
    refine va_get (D := D) (ci := 9) (v := .ref (b 2)) (C := RX11) (T := TX11) (N := 17) hx hb hts inX11 hown hKN.1 hP 0 rfl rfl 2 (by decide) (hts (.fieldLink RX11 13 "TreeFamilyModel" "size" "[I") (by decide +kernel)) (fun _ h9 => h9) rfl dX11_open_88 ?_
    refine lv_iload_n hx hb dX11_open_91 rfl (lv_at hl 1 rfl) ?_
    refine lv_dup2_11 hx hb dX11_open_92 rfl rfl ?_
    refine xr_ild hx hb hKN.1 hP 2 0 rfl rfl (j := j) (by omega) (by decide) dX11_open_93 ?_
    refine lv_iconst (v := 1) hx hb dX11_open_94 (by decide) ?_
    refine lv_iadd hx hb dX11_open_95 ?_
    refine xr_top (y := nI ((q.zz j) + 1)) (nI_add (q.zz j) 1) ?_
    refine xr_nst hx hb hKN.1 hP hD hS 2 0 (g := q.zz) rfl rfl (j := j) (v := (q.zz j) + 1) (by omega) (by decide) dX11_open_96 (fun H locs hP hD hS => ?_)
    have hP : va_P D vwCl (wQx ca b q.co q.oo (va_up q.zz j ((q.zz j) + 1)) (upd f ((64 * j) + i) key) (upd g ((64 * j) + i) v) q.cg q.hw q.lo q.hg q.wk q.kw q.mn q.gv q.cp q.ho q.nk q.nv) H := hP
    have hD : va_D A (wQx ca b q.co q.oo (va_up q.zz j ((q.zz j) + 1)) (upd f ((64 * j) + i) key) (upd g ((64 * j) + i) v) q.cg q.hw q.lo q.hg q.wk q.kw q.mn q.gv q.cp q.ho q.nk q.nv) := hD
    refine lv_aload_n hx hb dX11_open_97 rfl (lv_at hl 0 rfl) ?_
    refine va_get (D := D) (ci := 9) (v := .ref (b 5)) (C := RX11) (T := TX11) (N := 17) hx hb hts inX11 hown hKN.1 hP 0 rfl rfl 5 (by decide) (hts (.fieldLink RX11 22 "TreeFamilyModel" "changes" "[I") (by decide +kernel)) (fun _ h9 => h9) rfl dX11_open_98 ?_
    refine lv_iload_n hx hb dX11_open_101 rfl (lv_at hl 1 rfl) ?_
    refine lv_dup2_11 hx hb dX11_open_102 rfl rfl ?_
    refine xr_ild hx hb hKN.1 hP 5 0 rfl rfl (j := j) (by omega) (by decide) dX11_open_103 ?_
    refine lv_iconst (v := 1) hx hb dX11_open_104 (by decide) ?_
    refine lv_iadd hx hb dX11_open_105 ?_
    refine xr_ist hx hb hKN.1 hP hD hS 5 0 rfl rfl (j := j) (by omega) (by decide) dX11_open_106 (fun H locs hP hD hS => ?_)
    have hP : va_P D vwCl (wQx ca b q.co q.oo (va_up q.zz j ((q.zz j) + 1)) (upd f ((64 * j) + i) key) (upd g ((64 * j) + i) v) (upd q.cg j ((q.cg j) + 1)) q.hw q.lo q.hg q.wk q.kw q.mn q.gv q.cp q.ho q.nk q.nv) H := hP
    have hD : va_D A (wQx ca b q.co q.oo (va_up q.zz j ((q.zz j) + 1)) (upd f ((64 * j) + i) key) (upd g ((64 * j) + i) v) (upd q.cg j ((q.cg j) + 1)) q.hw q.lo q.hg q.wk q.kw q.mn q.gv q.cp q.ho q.nk q.nv) := hD
    exact W.vret hx hb hr (fun t9 e9 w9 => ⟨⟨(q.co, q.oo, (va_up q.zz j ((q.zz j) + 1)), (upd f ((64 * j) + i) key), (upd g ((64 * j) + i) v), (upd q.cg j ((q.cg j) + 1)), q.hw, q.lo, q.hg, q.wk, q.kw, q.mn, q.gv, q.cp, q.ho, q.nk, q.nv), rfl, ⟨wq_ent hq _ _ (by omega) _ _ _ _ _ _, rfl, ab_ent hq (rowL_open hf hg hi) (far_shU hf (by omega) (by omega)) (far_shU hg (by omega) (by omega))⟩, by rw [e9]; exact hP, hD⟩, hS.F e9⟩) hS.2.2 dX11_open_107
  · skip
    have c21 : ¬ k ≤ ((64 * j) + i) := fun h9 => c21 ((xn_le (a := k) (b := ((64 * j) + i)) (by omega) (by omega)).mpr h9)
    obtain ⟨n, rfl⟩ : ∃ k, n = k + 1 := ⟨n - 1, by omega⟩
    refine lv_aload_n hx hb dX11_open_24 rfl (lv_at hl 0 rfl) ?_
    refine va_get (D := D) (ci := 9) (v := .ref (b 3)) (C := RX11) (T := TX11) (N := 17) hx hb hts inX11 hown hKN.1 hP 0 rfl rfl 3 (by decide) (hts (.fieldLink RX11 16 "TreeFamilyModel" "keys" "[I") (by decide +kernel)) (fun _ h9 => h9) rfl dX11_open_25 ?_
    refine lv_iload hx hb dX11_open_28 (lv_at hl 5 rfl) ?_
    refine lv_aload_n hx hb dX11_open_30 rfl (lv_at hl 0 rfl) ?_
    refine va_get (D := D) (ci := 9) (v := .ref (b 3)) (C := RX11) (T := TX11) (N := 17) hx hb hts inX11 hown hKN.1 hP 0 rfl rfl 3 (by decide) (hts (.fieldLink RX11 16 "TreeFamilyModel" "keys" "[I") (by decide +kernel)) (fun _ h9 => h9) rfl dX11_open_31 ?_
    refine lv_iload hx hb dX11_open_34 (lv_at hl 5 rfl) ?_
    refine lv_iconst (v := 1) hx hb dX11_open_36 (by decide) ?_
    refine lv_isub hx hb dX11_open_37 ?_
    refine xr_top (y := nI (k - 1)) (pk_sub (a := k) (b := 1) (by omega)) ?_
    refine xr_ild hx hb hKN.1 hP 3 0 rfl rfl (j := k - 1) (by omega) (by decide) dX11_open_38 ?_
    refine xr_ist hx hb hKN.1 hP hD hS 3 0 rfl rfl (j := k) (by omega) (by decide) dX11_open_39 (fun H locs hP hD hS => ?_)
    have hP : va_P D vwCl (wQx ca b q.co q.oo q.zz (upd f k (f (k - 1))) g q.cg q.hw q.lo q.hg q.wk q.kw q.mn q.gv q.cp q.ho q.nk q.nv) H := hP
    have hD : va_D A (wQx ca b q.co q.oo q.zz (upd f k (f (k - 1))) g q.cg q.hw q.lo q.hg q.wk q.kw q.mn q.gv q.cp q.ho q.nk q.nv) := hD
    refine lv_aload_n hx hb dX11_open_40 rfl (lv_at hl 0 rfl) ?_
    refine va_get (D := D) (ci := 9) (v := .ref (b 4)) (C := RX11) (T := TX11) (N := 17) hx hb hts inX11 hown hKN.1 hP 0 rfl rfl 4 (by decide) (hts (.fieldLink RX11 19 "TreeFamilyModel" "values" "[I") (by decide +kernel)) (fun _ h9 => h9) rfl dX11_open_41 ?_
    refine lv_iload hx hb dX11_open_44 (lv_at hl 5 rfl) ?_
    refine lv_aload_n hx hb dX11_open_46 rfl (lv_at hl 0 rfl) ?_
    refine va_get (D := D) (ci := 9) (v := .ref (b 4)) (C := RX11) (T := TX11) (N := 17) hx hb hts inX11 hown hKN.1 hP 0 rfl rfl 4 (by decide) (hts (.fieldLink RX11 19 "TreeFamilyModel" "values" "[I") (by decide +kernel)) (fun _ h9 => h9) rfl dX11_open_47 ?_
    refine lv_iload hx hb dX11_open_50 (lv_at hl 5 rfl) ?_
    refine lv_iconst (v := 1) hx hb dX11_open_52 (by decide) ?_
    refine lv_isub hx hb dX11_open_53 ?_
    refine xr_top (y := nI (k - 1)) (pk_sub (a := k) (b := 1) (by omega)) ?_
    refine xr_ild hx hb hKN.1 hP 4 0 rfl rfl (j := k - 1) (by omega) (by decide) dX11_open_54 ?_
    refine xr_ist hx hb hKN.1 hP hD hS 4 0 rfl rfl (j := k) (by omega) (by decide) dX11_open_55 (fun H locs hP hD hS => ?_)
    have hP : va_P D vwCl (wQx ca b q.co q.oo q.zz (upd f k (f (k - 1))) (upd g k (g (k - 1))) q.cg q.hw q.lo q.hg q.wk q.kw q.mn q.gv q.cp q.ho q.nk q.nv) H := hP
    have hD : va_D A (wQx ca b q.co q.oo q.zz (upd f k (f (k - 1))) (upd g k (g (k - 1))) q.cg q.hw q.lo q.hg q.wk q.kw q.mn q.gv q.cp q.ho q.nk q.nv) := hD
    refine lv_iinc (v := (nI (k - 1))) (lv' := [(5, .int (nI (k - 1))), (0, .ref (b 0)), (1, .int (nI j)), (2, .int (nI i)), (3, .int key), (4, .int v)]) hx hb dX11_open_56 hl (k := 5) rfl (nI_dec (by omega)) (by decide) rfl (fun ls hl => ?_)
    refine lv_goto (tgt := 13) hx hb dX11_open_59 (by decide) ?_
    exact ih n (by omega) (k - 1, (upd f k (f (k - 1))), (upd g k (g (k - 1)))) _ _ _ ⟨(by omega), (by omega), (shU_s hf (by omega) (by omega)), (shU_s hg (by omega) (by omega)), hP, hD, hS, lv_sub hl [1, 2, 3, 4, 5, 0] rfl⟩

-- TreeFamilyModel.close
set_option maxHeartbeats 4000000 in
set_option maxRecDepth 100000 in
theorem c_X11_close (l : Launch) (D : va_G) (ca : Nat → ClassId) (b : Nat → Nat) (sz : Nat) (q : QS) (j i : Nat) (hq : WQ q) (hj : j < 3) (hi : i < q.zz j) : Met l yX11_close wsX11_close ({ frames := 0, cells := 0, slots := 0, locals := 0 } : Room) (xPc D (TY ca) [.ref (b 0), .int (nI j), .int (nI i)] (wQ ca b q) sz) (va_Qi (fun (r : Int32) (u : QS) => r = q.ks (64 * j + i) ∧ WQ u ∧ u.co = q.co ∧ ab u = va_up (ab q) j (rEn (ab q j) (cutE i (enQ q j)) (q.cg j + 1))) (xB D (wQ ca b) (va_A (wQ ca b q) sz)) (va_A (wQ ca b q) sz)) 0 0 (va_A (wQ ca b q) sz) := by
  refine Met.ofW (cc := cX11_close) (maxL := 5) (ret := (some .int)) (by decide) rfl ?_
  intro p e s m args below meth c s₁ B hml hv
  obtain ⟨rfl, hsz, hP, hKN, hD0⟩ := hv
  have hx := B.exec
  have hb := B.bytes
  have hr := B.returns
  have hts := atoms_spec (ws := wsX11_close) B.pre
  have hown : s.vm.findClass RX11 = some m.cls := findClass_of_methodNamed B.named
  have hlocks := B.notSynchronized
  have inX11 : ∀ w ∈ wsX110, w ∈ wsX11_close := by decide +kernel
  subst hsz
  have hD := hD0.self (sz := s.heap.size)
  generalize hAe : va_A (wQ ca b q) s.heap.size = A at hD ⊢
  have hA : ∀ q : Nat, s.heap.size ≤ q → A q := fun q h => by rw [← hAe]; exact Or.inr h
  have hS : va_S A s.heap s.heap [] := va_S.rf
  have hl := lv_entry ([.ref (b 0), .int (nI j), .int (nI i)]) (n := 5) (Nat.le_of_ble_eq_true rfl)
  rw [lg_entry_eq]
  generalize (lg_sl ([.ref (b 0), .int (nI j), .int (nI i)]) ++ List.replicate (5 - (lg_sl ([.ref (b 0), .int (nI j), .int (nI i)])).length) Slot.unset).toArray = ls at hl ⊢
  have hl : lv_has ls 5 [(0, .ref (b 0)), (1, .int (nI j)), (2, .int (nI i))] := hl
  have hz6 := hq.1 j
  refine lv_aload_n hx hb dX11_close_0 rfl (lv_at hl 0 rfl) ?_
  refine va_get (D := D) (ci := 9) (v := .ref (b 3)) (C := RX11) (T := TX11) (N := 17) hx hb hts inX11 hown hKN.1 hP 0 rfl rfl 3 (by decide) (hts (.fieldLink RX11 16 "TreeFamilyModel" "keys" "[I") (by decide +kernel)) (fun _ h9 => h9) rfl dX11_close_1 ?_
  refine lv_bipush (v := 64) hx hb dX11_close_4 (by decide) ?_
  refine lv_iload_n hx hb dX11_close_6 rfl (lv_at hl 1 rfl) ?_
  refine lv_imul hx hb dX11_close_7 ?_
  refine xr_top (y := nI (64 * j)) (pk_mul 64 j) ?_
  refine lv_iload_n hx hb dX11_close_8 rfl (lv_at hl 2 rfl) ?_
  refine lv_iadd hx hb dX11_close_9 ?_
  refine xr_top (y := nI ((64 * j) + i)) (nI_add (64 * j) i) ?_
  refine xr_ild hx hb hKN.1 hP 3 0 rfl rfl (j := (64 * j) + i) (by omega) (by decide) dX11_close_10 ?_
  refine lv_istore_n (lv' := [(3, .int (q.ks ((64 * j) + i))), (0, .ref (b 0)), (1, .int (nI j)), (2, .int (nI i))]) hx hb dX11_close_11 rfl hl (by decide) rfl (fun ls hl => ?_)
  refine lv_aload_n hx hb dX11_close_12 rfl (lv_at hl 1 rfl) ?_
  refine va_get (D := D) (ci := 9) (v := .ref (b 2)) (C := RX11) (T := TX11) (N := 17) hx hb hts inX11 hown hKN.1 hP 0 rfl rfl 2 (by decide) (hts (.fieldLink RX11 13 "TreeFamilyModel" "size" "[I") (by decide +kernel)) (fun _ h9 => h9) rfl dX11_close_13 ?_
  refine lv_iload_n hx hb dX11_close_16 rfl (lv_at hl 2 rfl) ?_
  refine lv_dup2_11 hx hb dX11_close_17 rfl rfl ?_
  refine xr_ild hx hb hKN.1 hP 2 0 rfl rfl (j := j) (by omega) (by decide) dX11_close_18 ?_
  refine lv_iconst (v := 1) hx hb dX11_close_19 (by decide) ?_
  refine lv_isub hx hb dX11_close_20 ?_
  refine xr_top (y := nI ((q.zz j) - 1)) (pk_sub (a := q.zz j) (b := 1) (by omega)) ?_
  refine xr_nst hx hb hKN.1 hP hD hS 2 0 (g := q.zz) rfl rfl (j := j) (v := (q.zz j) - 1) (by omega) (by decide) dX11_close_21 (fun H locs hP hD hS => ?_)
  have hP : va_P D vwCl (wQx ca b q.co q.oo (va_up q.zz j ((q.zz j) - 1)) q.ks q.vs q.cg q.hw q.lo q.hg q.wk q.kw q.mn q.gv q.cp q.ho q.nk q.nv) H := hP
  have hD : va_D A (wQx ca b q.co q.oo (va_up q.zz j ((q.zz j) - 1)) q.ks q.vs q.cg q.hw q.lo q.hg q.wk q.kw q.mn q.gv q.cp q.ho q.nk q.nv) := hD
  refine lv_bipush (v := 64) hx hb dX11_close_22 (by decide) ?_
  refine lv_iload_n hx hb dX11_close_24 rfl (lv_at hl 2 rfl) ?_
  refine lv_imul hx hb dX11_close_25 ?_
  refine xr_top (y := nI (64 * j)) (pk_mul 64 j) ?_
  refine lv_iload_n hx hb dX11_close_26 rfl (lv_at hl 3 rfl) ?_
  refine lv_iadd hx hb dX11_close_27 ?_
  refine xr_top (y := nI ((64 * j) + i)) (nI_add (64 * j) i) ?_
  refine lv_istore (lv' := [(4, .int (nI ((64 * j) + i))), (3, .int (q.ks ((64 * j) + i))), (0, .ref (b 0)), (1, .int (nI j)), (2, .int (nI i))]) hx hb dX11_close_28 hl (by decide) rfl (fun ls hl => ?_)
  refine xl 30 (σ := Nat × (Nat → Int32) × (Nat → Int32)) (fun n u H locs ls => match u with | (k, f, g) => k + n = 64 * j + (q.zz j - 1) ∧ 64 * j + i ≤ k ∧ shD q.ks f (64 * j + i) k ∧ shD q.vs g (64 * j + i) k ∧ va_P D vwCl (wQx ca b q.co q.oo (va_up q.zz j ((q.zz j) - 1)) f g q.cg q.hw q.lo q.hg q.wk q.kw q.mn q.gv q.cp q.ho q.nk q.nv) H ∧ va_D A (wQx ca b q.co q.oo (va_up q.zz j ((q.zz j) - 1)) f g q.cg q.hw q.lo q.hg q.wk q.kw q.mn q.gv q.cp q.ho q.nk q.nv) ∧ va_S A s.heap H locs ∧ lv_has ls 5 [(0, .ref (b 0)), (1, .int (nI j)), (2, .int (nI i)), (3, .int (q.ks ((64 * j) + i))), (4, .int (nI k))]) ?_ (q.zz j - 1 - i) (64 * j + i, q.ks, q.vs) _ _ _ ⟨(by omega), (Nat.le_refl _), (shD_0 _ _), (shD_0 _ _), hP, hD, hS, lv_sub hl [2, 3, 4, 1, 0] rfl⟩
  clear hP hD hS hl
  intro n ih u H locs ls hI
  obtain ⟨k, f, g⟩ := u
  obtain ⟨hk, hk2, hf, hg, hP, hD, hS, hl⟩ := hI
  refine lv_iload hx hb dX11_close_30 (lv_at hl 4 rfl) ?_
  refine lv_bipush (v := 64) hx hb dX11_close_32 (by decide) ?_
  refine lv_iload_n hx hb dX11_close_34 rfl (lv_at hl 1 rfl) ?_
  refine lv_imul hx hb dX11_close_35 ?_
  refine xr_top (y := nI (64 * j)) (pk_mul 64 j) ?_
  refine lv_aload_n hx hb dX11_close_36 rfl (lv_at hl 0 rfl) ?_
  refine va_get (D := D) (ci := 9) (v := .ref (b 2)) (C := RX11) (T := TX11) (N := 17) hx hb hts inX11 hown hKN.1 hP 0 rfl rfl 2 (by decide) (hts (.fieldLink RX11 13 "TreeFamilyModel" "size" "[I") (by decide +kernel)) (fun _ h9 => h9) rfl dX11_close_37 ?_
  refine lv_iload_n hx hb dX11_close_40 rfl (lv_at hl 1 rfl) ?_
  refine xr_ild hx hb hKN.1 hP 2 0 rfl rfl (j := j) (by omega) (by decide) dX11_close_41 ?_
  refine xr_top (y := nI ((q.zz j) - 1)) (congrArg nI vup_eq) ?_
  refine lv_iadd hx hb dX11_close_42 ?_
  refine xr_top (y := nI ((64 * j) + ((q.zz j) - 1))) (nI_add (64 * j) ((q.zz j) - 1)) ?_
  refine lv_icmp_ge (tgt := 84) hx hb dX11_close_43 (by decide) (fun c43 => ?_) (fun c43 => ?_)
  · skip
    have c43 : ((64 * j) + ((q.zz j) - 1)) ≤ k := (xn_le (a := ((64 * j) + ((q.zz j) - 1))) (b := k) (by omega) (by omega)).mp c43
    obtain rfl : k = 64 * j + (q.zz j - 1) := (by omega)
    refine lv_aload_n hx hb dX11_close_84 rfl (lv_at hl 0 rfl) ?_
    refine va_get (D := D) (ci := 9) (v := .ref (b 5)) (C := RX11) (T := TX11) (N := 17) hx hb hts inX11 hown hKN.1 hP 0 rfl rfl 5 (by decide) (hts (.fieldLink RX11 22 "TreeFamilyModel" "changes" "[I") (by decide +kernel)) (fun _ h9 => h9) rfl dX11_close_85 ?_
    refine lv_iload_n hx hb dX11_close_88 rfl (lv_at hl 1 rfl) ?_
    refine lv_dup2_11 hx hb dX11_close_89 rfl rfl ?_
    refine xr_ild hx hb hKN.1 hP 5 0 rfl rfl (j := j) (by omega) (by decide) dX11_close_90 ?_
    refine lv_iconst (v := 1) hx hb dX11_close_91 (by decide) ?_
    refine lv_iadd hx hb dX11_close_92 ?_
    refine xr_ist hx hb hKN.1 hP hD hS 5 0 rfl rfl (j := j) (by omega) (by decide) dX11_close_93 (fun H locs hP hD hS => ?_)
    have hP : va_P D vwCl (wQx ca b q.co q.oo (va_up q.zz j ((q.zz j) - 1)) f g (upd q.cg j ((q.cg j) + 1)) q.hw q.lo q.hg q.wk q.kw q.mn q.gv q.cp q.ho q.nk q.nv) H := hP
    have hD : va_D A (wQx ca b q.co q.oo (va_up q.zz j ((q.zz j) - 1)) f g (upd q.cg j ((q.cg j) + 1)) q.hw q.lo q.hg q.wk q.kw q.mn q.gv q.cp q.ho q.nk q.nv) := hD
    refine lv_iload_n hx hb dX11_close_94 rfl (lv_at hl 3 rfl) ?_
    exact W.iret (v := (q.ks ((64 * j) + i))) hx hb hr (fun t9 e9 w9 => ⟨⟨_, (q.co, q.oo, (va_up q.zz j ((q.zz j) - 1)), f, g, (upd q.cg j ((q.cg j) + 1)), q.hw, q.lo, q.hg, q.wk, q.kw, q.mn, q.gv, q.cp, q.ho, q.nk, q.nv), rfl, ⟨rfl, wq_ent hq _ _ (by omega) _ _ _ _ _ _, rfl, ab_ent hq (rowL_close hf hg hi) (far_shD hf (by omega)) (far_shD hg (by omega))⟩, by rw [e9]; exact hP, hD⟩, hS.F e9⟩) hS.2.2 dX11_close_95
  · skip
    have c43 : ¬ ((64 * j) + ((q.zz j) - 1)) ≤ k := fun h9 => c43 ((xn_le (a := ((64 * j) + ((q.zz j) - 1))) (b := k) (by omega) (by omega)).mpr h9)
    obtain ⟨n, rfl⟩ : ∃ k, n = k + 1 := ⟨n - 1, by omega⟩
    refine lv_aload_n hx hb dX11_close_46 rfl (lv_at hl 0 rfl) ?_
    refine va_get (D := D) (ci := 9) (v := .ref (b 3)) (C := RX11) (T := TX11) (N := 17) hx hb hts inX11 hown hKN.1 hP 0 rfl rfl 3 (by decide) (hts (.fieldLink RX11 16 "TreeFamilyModel" "keys" "[I") (by decide +kernel)) (fun _ h9 => h9) rfl dX11_close_47 ?_
    refine lv_iload hx hb dX11_close_50 (lv_at hl 4 rfl) ?_
    refine lv_aload_n hx hb dX11_close_52 rfl (lv_at hl 0 rfl) ?_
    refine va_get (D := D) (ci := 9) (v := .ref (b 3)) (C := RX11) (T := TX11) (N := 17) hx hb hts inX11 hown hKN.1 hP 0 rfl rfl 3 (by decide) (hts (.fieldLink RX11 16 "TreeFamilyModel" "keys" "[I") (by decide +kernel)) (fun _ h9 => h9) rfl dX11_close_53 ?_
    refine lv_iload hx hb dX11_close_56 (lv_at hl 4 rfl) ?_
    refine lv_iconst (v := 1) hx hb dX11_close_58 (by decide) ?_
    refine lv_iadd hx hb dX11_close_59 ?_
    refine xr_top (y := nI (k + 1)) (nI_add k 1) ?_
    refine xr_ild hx hb hKN.1 hP 3 0 rfl rfl (j := k + 1) (by omega) (by decide) dX11_close_60 ?_
    refine xr_ist hx hb hKN.1 hP hD hS 3 0 rfl rfl (j := k) (by omega) (by decide) dX11_close_61 (fun H locs hP hD hS => ?_)
    have hP : va_P D vwCl (wQx ca b q.co q.oo (va_up q.zz j ((q.zz j) - 1)) (upd f k (f (k + 1))) g q.cg q.hw q.lo q.hg q.wk q.kw q.mn q.gv q.cp q.ho q.nk q.nv) H := hP
    have hD : va_D A (wQx ca b q.co q.oo (va_up q.zz j ((q.zz j) - 1)) (upd f k (f (k + 1))) g q.cg q.hw q.lo q.hg q.wk q.kw q.mn q.gv q.cp q.ho q.nk q.nv) := hD
    refine lv_aload_n hx hb dX11_close_62 rfl (lv_at hl 0 rfl) ?_
    refine va_get (D := D) (ci := 9) (v := .ref (b 4)) (C := RX11) (T := TX11) (N := 17) hx hb hts inX11 hown hKN.1 hP 0 rfl rfl 4 (by decide) (hts (.fieldLink RX11 19 "TreeFamilyModel" "values" "[I") (by decide +kernel)) (fun _ h9 => h9) rfl dX11_close_63 ?_
    refine lv_iload hx hb dX11_close_66 (lv_at hl 4 rfl) ?_
    refine lv_aload_n hx hb dX11_close_68 rfl (lv_at hl 0 rfl) ?_
    refine va_get (D := D) (ci := 9) (v := .ref (b 4)) (C := RX11) (T := TX11) (N := 17) hx hb hts inX11 hown hKN.1 hP 0 rfl rfl 4 (by decide) (hts (.fieldLink RX11 19 "TreeFamilyModel" "values" "[I") (by decide +kernel)) (fun _ h9 => h9) rfl dX11_close_69 ?_
    refine lv_iload hx hb dX11_close_72 (lv_at hl 4 rfl) ?_
    refine lv_iconst (v := 1) hx hb dX11_close_74 (by decide) ?_
    refine lv_iadd hx hb dX11_close_75 ?_
    refine xr_top (y := nI (k + 1)) (nI_add k 1) ?_
    refine xr_ild hx hb hKN.1 hP 4 0 rfl rfl (j := k + 1) (by omega) (by decide) dX11_close_76 ?_
    refine xr_ist hx hb hKN.1 hP hD hS 4 0 rfl rfl (j := k) (by omega) (by decide) dX11_close_77 (fun H locs hP hD hS => ?_)
    have hP : va_P D vwCl (wQx ca b q.co q.oo (va_up q.zz j ((q.zz j) - 1)) (upd f k (f (k + 1))) (upd g k (g (k + 1))) q.cg q.hw q.lo q.hg q.wk q.kw q.mn q.gv q.cp q.ho q.nk q.nv) H := hP
    have hD : va_D A (wQx ca b q.co q.oo (va_up q.zz j ((q.zz j) - 1)) (upd f k (f (k + 1))) (upd g k (g (k + 1))) q.cg q.hw q.lo q.hg q.wk q.kw q.mn q.gv q.cp q.ho q.nk q.nv) := hD
    refine lv_iinc (v := (nI (k + 1))) (lv' := [(4, .int (nI (k + 1))), (0, .ref (b 0)), (1, .int (nI j)), (2, .int (nI i)), (3, .int (q.ks ((64 * j) + i)))]) hx hb dX11_close_78 hl (k := 4) rfl (nI_1 _) (by decide) rfl (fun ls hl => ?_)
    refine lv_goto (tgt := 30) hx hb dX11_close_81 (by decide) ?_
    exact ih n (by omega) (k + 1, (upd f k (f (k + 1))), (upd g k (g (k + 1)))) _ _ _ ⟨(by omega), (by omega), (shD_s hf (by omega)), (shD_s hg (by omega)), hP, hD, hS, lv_sub hl [1, 2, 3, 4, 0] rfl⟩

-- TreeFamilyModel.enter
set_option maxHeartbeats 4000000 in
set_option maxRecDepth 100000 in
theorem c_X11_enter (l : Launch) (D : va_G) (ca : Nat → ClassId) (b : Nat → Nat) (sz : Nat) (q : QS) (j : Nat) (key v : Int32) (hq : WQ q) (hj : j < 3) (hco : q.co = 0) : Met l yX11_enter wsX11_enter ({ frames := 2, cells := 0, slots := 0, locals := 46 } : Room) (xPc D (TY ca) [.ref (b 0), .int (nI j), .int key, .int v] (wQ ca b q) sz) (va_Qi (fun (r : Int32) (u : QS) => WQ u ∧ r = (F_enter key v (ab q j)).1 ∧ u.co = (F_enter key v (ab q j)).2.1 ∧ ab u = va_up (ab q) j (F_enter key v (ab q j)).2.2) (xB D (wQ ca b) (va_A (wQ ca b q) sz)) (va_A (wQ ca b q) sz)) 0 0 (va_A (wQ ca b q) sz) := by
  refine Met.ofW (cc := cX11_enter) (maxL := 5) (ret := (some .boolean)) (by decide) rfl ?_
  intro p e s m args below meth c s₁ B hml hv
  obtain ⟨rfl, hsz, hP, hKN, hD0⟩ := hv
  have hx := B.exec
  have hb := B.bytes
  have hr := B.returns
  have hts := atoms_spec (ws := wsX11_enter) B.pre
  have hown : s.vm.findClass RX11 = some m.cls := findClass_of_methodNamed B.named
  have hlocks := B.notSynchronized
  have inX11 : ∀ w ∈ wsX110, w ∈ wsX11_enter := by decide +kernel
  subst hsz
  have hD := hD0.self (sz := s.heap.size)
  generalize hAe : va_A (wQ ca b q) s.heap.size = A at hD ⊢
  have hA : ∀ q : Nat, s.heap.size ≤ q → A q := fun q h => by rw [← hAe]; exact Or.inr h
  have hS : va_S A s.heap s.heap [] := va_S.rf
  have hl := lv_entry ([.ref (b 0), .int (nI j), .int key, .int v]) (n := 5) (Nat.le_of_ble_eq_true rfl)
  rw [lg_entry_eq]
  generalize (lg_sl ([.ref (b 0), .int (nI j), .int key, .int v]) ++ List.replicate (5 - (lg_sl ([.ref (b 0), .int (nI j), .int key, .int v])).length) Slot.unset).toArray = ls at hl ⊢
  have hl : lv_has ls 5 [(0, .ref (b 0)), (1, .int (nI j)), (2, .int key), (3, .int v)] := hl
  have hz6 := hq.1 j
  refine lv_aload_n hx hb dX11_enter_0 rfl (lv_at hl 0 rfl) ?_
  refine lv_iload_n hx hb dX11_enter_1 rfl (lv_at hl 1 rfl) ?_
  refine lv_iload_n hx hb dX11_enter_2 rfl (lv_at hl 2 rfl) ?_
  refine xc_i (wr := []) (va_runV (As := [.int (nI j), .int key]) (rest := []) ⟨hx, hb, hml, hown, hts⟩ (c_X11_place l D ca b _ q j key hq hj) (cwV 2 hts gX11_enter_X11_place rfl rfl rfl (by decide +kernel) ⟨(Nat.le_of_ble_eq_true rfl), (Nat.le_of_ble_eq_true rfl)⟩) (xPreV hKN hP hD [0, 1, 2, 3, 4, 5, 6, 7, 8, 9, 10, 11, 12, 13, 14, 15, 16] (by decide) rfl (q0 := 0) rfl rfl rfl) rfl rfl hl.1 rfl (lv_room (Nat.le_of_ble_eq_true rfl)) dX11_enter_3 ⟨(Nat.le_of_ble_eq_true rfl), (Nat.le_of_ble_eq_true rfl)⟩) hP hD hS hA [0, 1, 2, 3, 4, 5, 6, 7, 8, 9, 10, 11, 12, 13, 14, 15, 16] [] rfl rfl (by decide) (by decide) (fun r3 u3 H locs hu3 hP hD hS => ?_)
  obtain ⟨er3, eu3⟩ := hu3
  have eu3 := eu3.symm
  subst eu3
  have hP : va_P D vwCl (wQ ca b q) H := hP
  have hD : va_D A (wQ ca b q) := hD
  have er3 : r3 = nI (plQ q j key) := er3
  subst er3
  refine lv_istore (lv' := [(4, .int (nI (plQ q j key))), (0, .ref (b 0)), (1, .int (nI j)), (2, .int key), (3, .int v)]) hx hb dX11_enter_6 hl (by decide) rfl (fun ls hl => ?_)
  refine lv_aload_n hx hb dX11_enter_8 rfl (lv_at hl 1 rfl) ?_
  refine lv_iload_n hx hb dX11_enter_9 rfl (lv_at hl 2 rfl) ?_
  refine lv_iload hx hb dX11_enter_10 (lv_at hl 0 rfl) ?_
  refine lv_iload_n hx hb dX11_enter_12 rfl (lv_at hl 3 rfl) ?_
  refine xc_i (wr := []) (va_runV (As := [.int (nI j), .int (nI (plQ q j key)), .int key]) (rest := []) ⟨hx, hb, hml, hown, hts⟩ (c_X11_isAt l D ca b _ q j (plQ q j key) key hq hj (pl60 (q := q) hq j key)) (cwV 3 hts gX11_enter_X11_isAt rfl rfl rfl (by decide +kernel) ⟨(Nat.le_of_ble_eq_true rfl), (Nat.le_of_ble_eq_true rfl)⟩) (xPreV hKN hP hD [0, 1, 2, 3, 4, 5, 6, 7, 8, 9, 10, 11, 12, 13, 14, 15, 16] (by decide) rfl (q0 := 0) rfl rfl rfl) rfl rfl hl.1 rfl (lv_room (Nat.le_of_ble_eq_true rfl)) dX11_enter_13 ⟨(Nat.le_of_ble_eq_true rfl), (Nat.le_of_ble_eq_true rfl)⟩) hP hD hS hA [0, 1, 2, 3, 4, 5, 6, 7, 8, 9, 10, 11, 12, 13, 14, 15, 16] [] rfl rfl (by decide) (by decide) (fun r13 u13 H locs hu13 hP hD hS => ?_)
  obtain ⟨er13, eu13⟩ := hu13
  have eu13 := eu13.symm
  subst eu13
  have hP : va_P D vwCl (wQ ca b q) H := hP
  have hD : va_D A (wQ ca b q) := hD
  have er13 : r13 = bI (atE (q.oo j) key (plQ q j key) (enQ q j)) := er13
  subst er13
  refine xr_top (y := bI (hitQ q j key)) (congrArg bI (atE_hit _ _ _)) ?_
  refine lv_if_eq (tgt := 34) hx hb dX11_enter_16 (by decide) (fun c16 => ?_) (fun c16 => ?_)
  · skip
    have c16 := bI_0.mp c16
    refine lv_aload_n hx hb dX11_enter_34 rfl (lv_at hl 1 rfl) ?_
    refine va_get (D := D) (ci := 9) (v := .ref (b 2)) (C := RX11) (T := TX11) (N := 17) hx hb hts inX11 hown hKN.1 hP 0 rfl rfl 2 (by decide) (hts (.fieldLink RX11 13 "TreeFamilyModel" "size" "[I") (by decide +kernel)) (fun _ h9 => h9) rfl dX11_enter_35 ?_
    refine lv_iload_n hx hb dX11_enter_38 rfl (lv_at hl 2 rfl) ?_
    refine xr_ild hx hb hKN.1 hP 2 0 rfl rfl (j := j) (by omega) (by decide) dX11_enter_39 ?_
    refine lv_bipush (v := 60) hx hb dX11_enter_40 (by decide) ?_
    refine lv_icmp_ne (tgt := 52) hx hb dX11_enter_42 (by decide) (fun c42 => ?_) (fun c42 => ?_)
    · skip
      have c42 : ¬ (q.zz j) = 60 := fun h9 => c42 ((xn_eq (a := (q.zz j)) (b := 60) (Nat.lt_of_le_of_lt (hq.1 j) (by decide)) (by decide)).mpr h9)
      refine lv_aload_n hx hb dX11_enter_52 rfl (lv_at hl 1 rfl) ?_
      refine lv_iload_n hx hb dX11_enter_53 rfl (lv_at hl 2 rfl) ?_
      refine lv_iload hx hb dX11_enter_54 (lv_at hl 0 rfl) ?_
      refine lv_iload_n hx hb dX11_enter_56 rfl (lv_at hl 3 rfl) ?_
      refine lv_iload_n hx hb dX11_enter_57 rfl (lv_at hl 4 rfl) ?_
      refine xc_v (wr := []) (va_runV (As := [.int (nI j), .int (nI (plQ q j key)), .int key, .int v]) (rest := []) ⟨hx, hb, hml, hown, hts⟩ (c_X11_open l D ca b _ q j (plQ q j key) key v hq hj (plz q j key) (by omega)) (cwV 4 hts gX11_enter_X11_open rfl rfl rfl (by decide +kernel) ⟨(Nat.le_of_ble_eq_true rfl), (Nat.le_of_ble_eq_true rfl)⟩) (xPreV hKN hP hD [0, 1, 2, 3, 4, 5, 6, 7, 8, 9, 10, 11, 12, 13, 14, 15, 16] (by decide) rfl (q0 := 0) rfl rfl rfl) rfl rfl hl.1 rfl (lv_room (Nat.le_of_ble_eq_true rfl)) dX11_enter_58 ⟨(Nat.le_of_ble_eq_true rfl), (Nat.le_of_ble_eq_true rfl)⟩) hP hD hS hA [0, 1, 2, 3, 4, 5, 6, 7, 8, 9, 10, 11, 12, 13, 14, 15, 16] [] rfl rfl (by decide) (by decide) (fun u58 H locs hu58 hP hD hS => ?_)
      obtain ⟨hw58, hc58, ha58⟩ := hu58
      have hP : va_P D vwCl (wQ ca b u58) H := hP
      have hD : va_D A (wQ ca b u58) := hD
      refine lv_iconst (v := 1) hx hb dX11_enter_61 (by decide) ?_
      exact W.zret (v := 1) hx hb hr (by decide) (fun t9 e9 w9 => ⟨⟨_, u58, rfl, EN_of (F_enter_new c16 (fun h9 => c42 ((rowL_len _ _ _ _).symm.trans h9))) hw58 (hc58.trans hco) ha58, by rw [e9]; exact hP, hD⟩, hS.F e9⟩) hS.2.2 dX11_enter_62
    · skip
      have c42 : (q.zz j) = 60 := (xn_eq (a := (q.zz j)) (b := 60) (Nat.lt_of_le_of_lt (hq.1 j) (by decide)) (by decide)).mp c42
      refine lv_aload_n hx hb dX11_enter_45 rfl (lv_at hl 1 rfl) ?_
      refine lv_iconst (v := 2) hx hb dX11_enter_46 (by decide) ?_
      refine va_put (D := D) (ci := 9) (v := .int 2) (ty := .int) (C := RX11) (T := TX11) (N := 17) hx hb hts inX11 tyX11 tyX11_ok nmX11 hown hKN.1 hP hD hS 0 rfl rfl 0 (by decide) (hts (.fieldLink RX11 59 "TreeFamilyModel" "code" "I") (by decide +kernel)) (fun _ h9 => h9) rfl (by decide +kernel) rfl rfl (Nat.le_of_ble_eq_true rfl) dX11_enter_47 (fun H locs hP hD hS => ?_)
      have hP : va_P D vwCl (wQx ca b 2 q.oo q.zz q.ks q.vs q.cg q.hw q.lo q.hg q.wk q.kw q.mn q.gv q.cp q.ho q.nk q.nv) H := hP
      have hD : va_D A (wQx ca b 2 q.oo q.zz q.ks q.vs q.cg q.hw q.lo q.hg q.wk q.kw q.mn q.gv q.cp q.ho q.nk q.nv) := hD
      refine lv_iconst (v := 0) hx hb dX11_enter_50 (by decide) ?_
      exact W.zret (v := 0) hx hb hr (by decide) (fun t9 e9 w9 => ⟨⟨_, (2, q.oo, q.zz, q.ks, q.vs, q.cg, q.hw, q.lo, q.hg, q.wk, q.kw, q.mn, q.gv, q.cp, q.ho, q.nk, q.nv), rfl, EN_of (F_enter_full c16 ((rowL_len _ _ _ _).trans c42)) hq rfl (vup_self _ _).symm, by rw [e9]; exact hP, hD⟩, hS.F e9⟩) hS.2.2 dX11_enter_51
  · skip
    have c16 := bI_ne.mp c16
    have hlt := hitz c16
    refine lv_aload_n hx hb dX11_enter_19 rfl (lv_at hl 1 rfl) ?_
    refine va_get (D := D) (ci := 9) (v := .ref (b 4)) (C := RX11) (T := TX11) (N := 17) hx hb hts inX11 hown hKN.1 hP 0 rfl rfl 4 (by decide) (hts (.fieldLink RX11 19 "TreeFamilyModel" "values" "[I") (by decide +kernel)) (fun _ h9 => h9) rfl dX11_enter_20 ?_
    refine lv_bipush (v := 64) hx hb dX11_enter_23 (by decide) ?_
    refine lv_iload_n hx hb dX11_enter_25 rfl (lv_at hl 2 rfl) ?_
    refine lv_imul hx hb dX11_enter_26 ?_
    refine xr_top (y := nI (64 * j)) (pk_mul 64 j) ?_
    refine lv_iload hx hb dX11_enter_27 (lv_at hl 0 rfl) ?_
    refine lv_iadd hx hb dX11_enter_29 ?_
    refine xr_top (y := nI ((64 * j) + (plQ q j key))) (nI_add (64 * j) (plQ q j key)) ?_
    refine lv_iload_n hx hb dX11_enter_30 rfl (lv_at hl 4 rfl) ?_
    refine xr_ist hx hb hKN.1 hP hD hS 4 0 rfl rfl (j := (64 * j) + (plQ q j key)) (by omega) (by decide) dX11_enter_31 (fun H locs hP hD hS => ?_)
    have hP : va_P D vwCl (wQx ca b q.co q.oo q.zz q.ks (upd q.vs ((64 * j) + (plQ q j key)) v) q.cg q.hw q.lo q.hg q.wk q.kw q.mn q.gv q.cp q.ho q.nk q.nv) H := hP
    have hD : va_D A (wQx ca b q.co q.oo q.zz q.ks (upd q.vs ((64 * j) + (plQ q j key)) v) q.cg q.hw q.lo q.hg q.wk q.kw q.mn q.gv q.cp q.ho q.nk q.nv) := hD
    refine lv_iconst (v := 0) hx hb dX11_enter_32 (by decide) ?_
    exact W.zret (v := 0) hx hb hr (by decide) (fun t9 e9 w9 => ⟨⟨_, (q.co, q.oo, q.zz, q.ks, (upd q.vs ((64 * j) + (plQ q j key)) v), q.cg, q.hw, q.lo, q.hg, q.wk, q.kw, q.mn, q.gv, q.cp, q.ho, q.nk, q.nv), rfl, EN_of (F_enter_hit c16) hq hco (ab_val hq (hitz c16)), by rw [e9]; exact hP, hD⟩, hS.F e9⟩) hS.2.2 dX11_enter_33

theorem be60 {q : QS} (h : WQ q) (j : Nat) : begR (ab q j) ≤ 60 := Nat.le_trans (beg_le_end (r := ab q j) (h.2.1 j) (h.2.2.2.2 j)) (Nat.le_trans (end_le (ab q j)) (by rw [ab_len]; exact h.1 j))
theorem en60 {q : QS} (h : WQ q) (j : Nat) : endR (ab q j) ≤ 60 := Nat.le_trans (end_le (ab q j)) (by rw [ab_len]; exact h.1 j)

-- TreeFamilyModel.begins
set_option maxHeartbeats 4000000 in
set_option maxRecDepth 100000 in
theorem c_X11_begins (l : Launch) (D : va_G) (ca : Nat → ClassId) (b : Nat → Nat) (sz : Nat) (q : QS) (j : Nat) (hq : WQ q) (hj : j < 3) : Met l yX11_begins wsX11_begins ({ frames := 2, cells := 0, slots := 0, locals := 46 } : Room) (xPc D (TY ca) [.ref (b 0), .int (nI j)] (wQ ca b q) sz) (va_Qi (fun (r : Int32) (u : QS) => r = nI (begR (ab q j)) ∧ u = q) (xB D (wQ ca b) (va_A (wQ ca b q) sz)) (va_A (wQ ca b q) sz)) 0 0 (va_A (wQ ca b q) sz) := by
  refine Met.ofW (cc := cX11_begins) (maxL := 2) (ret := (some .int)) (by decide) rfl ?_
  intro p e s m args below meth c s₁ B hml hv
  obtain ⟨rfl, hsz, hP, hKN, hD0⟩ := hv
  have hx := B.exec
  have hb := B.bytes
  have hr := B.returns
  have hts := atoms_spec (ws := wsX11_begins) B.pre
  have hown : s.vm.findClass RX11 = some m.cls := findClass_of_methodNamed B.named
  have hlocks := B.notSynchronized
  have inX11 : ∀ w ∈ wsX110, w ∈ wsX11_begins := by decide +kernel
  subst hsz
  have hD := hD0.self (sz := s.heap.size)
  generalize hAe : va_A (wQ ca b q) s.heap.size = A at hD ⊢
  have hA : ∀ q : Nat, s.heap.size ≤ q → A q := fun q h => by rw [← hAe]; exact Or.inr h
  have hS : va_S A s.heap s.heap [] := va_S.rf
  have hl := lv_entry ([.ref (b 0), .int (nI j)]) (n := 2) (Nat.le_of_ble_eq_true rfl)
  rw [lg_entry_eq]
  generalize (lg_sl ([.ref (b 0), .int (nI j)]) ++ List.replicate (2 - (lg_sl ([.ref (b 0), .int (nI j)])).length) Slot.unset).toArray = ls at hl ⊢
  have hl : lv_has ls 2 [(0, .ref (b 0)), (1, .int (nI j))] := hl
  have hh3 := hq.2.1 j
  refine lv_aload_n hx hb dX11_begins_0 rfl (lv_at hl 0 rfl) ?_
  refine va_get (D := D) (ci := 9) (v := .ref (b 6)) (C := RX11) (T := TX11) (N := 17) hx hb hts inX11 hown hKN.1 hP 0 rfl rfl 6 (by decide) (hts (.fieldLink RX11 25 "TreeFamilyModel" "how" "[I") (by decide +kernel)) (fun _ h9 => h9) rfl dX11_begins_1 ?_
  refine lv_iload_n hx hb dX11_begins_4 rfl (lv_at hl 1 rfl) ?_
  refine xr_ild hx hb hKN.1 hP 6 0 rfl rfl (j := j) (by omega) (by decide) dX11_begins_5 ?_
  refine lv_iconst (v := 2) hx hb dX11_begins_6 (by decide) ?_
  refine lv_irem hx hb dX11_begins_7 (by decide) ?_
  refine xr_top (y := nI ((q.hw j) % 2)) (pk_rem (a := q.hw j) (d := 2) (by omega) (by decide) (by decide)) ?_
  refine lv_iconst (v := 1) hx hb dX11_begins_8 (by decide) ?_
  refine lv_icmp_ne (tgt := 26) hx hb dX11_begins_9 (by decide) (fun c9 => ?_) (fun c9 => ?_)
  · skip
    have c9 : ¬ ((q.hw j) % 2) = 1 := fun h9 => c9 ((xn_eq (a := ((q.hw j) % 2)) (b := 1) (by omega) (by decide)).mpr h9)
    refine lv_iconst (v := 0) hx hb dX11_begins_26 (by decide) ?_
    exact W.iret (v := 0) hx hb hr (fun t9 e9 w9 => ⟨⟨_, q, rfl, ⟨by first | exact (congrArg nI (beg_1 (r := ab q j) c9)).symm | exact (congrArg nI (beg_0 (r := ab q j) c9)).symm, rfl⟩, by rw [e9]; exact hP, hD⟩, hS.F e9⟩) hS.2.2 dX11_begins_27
  · skip
    have c9 : ((q.hw j) % 2) = 1 := (xn_eq (a := ((q.hw j) % 2)) (b := 1) (by omega) (by decide)).mp c9
    refine lv_aload_n hx hb dX11_begins_12 rfl (lv_at hl 0 rfl) ?_
    refine lv_iload_n hx hb dX11_begins_13 rfl (lv_at hl 1 rfl) ?_
    refine lv_aload_n hx hb dX11_begins_14 rfl (lv_at hl 0 rfl) ?_
    refine va_get (D := D) (ci := 9) (v := .ref (b 7)) (C := RX11) (T := TX11) (N := 17) hx hb hts inX11 hown hKN.1 hP 0 rfl rfl 7 (by decide) (hts (.fieldLink RX11 28 "TreeFamilyModel" "low" "[I") (by decide +kernel)) (fun _ h9 => h9) rfl dX11_begins_15 ?_
    refine lv_iload_n hx hb dX11_begins_18 rfl (lv_at hl 1 rfl) ?_
    refine xr_ild hx hb hKN.1 hP 7 0 rfl rfl (j := j) (by omega) (by decide) dX11_begins_19 ?_
    refine xc_i (wr := []) (va_runV (As := [.int (nI j), .int (q.lo j)]) (rest := []) ⟨hx, hb, hml, hown, hts⟩ (c_X11_place l D ca b _ q j (q.lo j) hq hj) (cwV 2 hts gX11_begins_X11_place rfl rfl rfl (by decide +kernel) ⟨(Nat.le_of_ble_eq_true rfl), (Nat.le_of_ble_eq_true rfl)⟩) (xPreV hKN hP hD [0, 1, 2, 3, 4, 5, 6, 7, 8, 9, 10, 11, 12, 13, 14, 15, 16] (by decide) rfl (q0 := 0) rfl rfl rfl) rfl rfl hl.1 rfl (lv_room (Nat.le_of_ble_eq_true rfl)) dX11_begins_20 ⟨(Nat.le_of_ble_eq_true rfl), (Nat.le_of_ble_eq_true rfl)⟩) hP hD hS hA [0, 1, 2, 3, 4, 5, 6, 7, 8, 9, 10, 11, 12, 13, 14, 15, 16] [] rfl rfl (by decide) (by decide) (fun r20 u20 H locs hu20 hP hD hS => ?_)
    obtain ⟨er20, eu20⟩ := hu20
    have eu20 := eu20.symm
    subst eu20
    have hP : va_P D vwCl (wQ ca b q) H := hP
    have hD : va_D A (wQ ca b q) := hD
    have er20 : r20 = nI (plQ q j (q.lo j)) := er20
    subst er20
    refine lv_goto (tgt := 27) hx hb dX11_begins_23 (by decide) ?_
    exact W.iret (v := (nI (plQ q j (q.lo j)))) hx hb hr (fun t9 e9 w9 => ⟨⟨_, q, rfl, ⟨by first | exact (congrArg nI (beg_1 (r := ab q j) c9)).symm | exact (congrArg nI (beg_0 (r := ab q j) c9)).symm, rfl⟩, by rw [e9]; exact hP, hD⟩, hS.F e9⟩) hS.2.2 dX11_begins_27

-- TreeFamilyModel.ends
set_option maxHeartbeats 4000000 in
set_option maxRecDepth 100000 in
theorem c_X11_ends (l : Launch) (D : va_G) (ca : Nat → ClassId) (b : Nat → Nat) (sz : Nat) (q : QS) (j : Nat) (hq : WQ q) (hj : j < 3) : Met l yX11_ends wsX11_ends ({ frames := 2, cells := 0, slots := 0, locals := 46 } : Room) (xPc D (TY ca) [.ref (b 0), .int (nI j)] (wQ ca b q) sz) (va_Qi (fun (r : Int32) (u : QS) => r = nI (endR (ab q j)) ∧ u = q) (xB D (wQ ca b) (va_A (wQ ca b q) sz)) (va_A (wQ ca b q) sz)) 0 0 (va_A (wQ ca b q) sz) := by
  refine Met.ofW (cc := cX11_ends) (maxL := 2) (ret := (some .int)) (by decide) rfl ?_
  intro p e s m args below meth c s₁ B hml hv
  obtain ⟨rfl, hsz, hP, hKN, hD0⟩ := hv
  have hx := B.exec
  have hb := B.bytes
  have hr := B.returns
  have hts := atoms_spec (ws := wsX11_ends) B.pre
  have hown : s.vm.findClass RX11 = some m.cls := findClass_of_methodNamed B.named
  have hlocks := B.notSynchronized
  have inX11 : ∀ w ∈ wsX110, w ∈ wsX11_ends := by decide +kernel
  subst hsz
  have hD := hD0.self (sz := s.heap.size)
  generalize hAe : va_A (wQ ca b q) s.heap.size = A at hD ⊢
  have hA : ∀ q : Nat, s.heap.size ≤ q → A q := fun q h => by rw [← hAe]; exact Or.inr h
  have hS : va_S A s.heap s.heap [] := va_S.rf
  have hl := lv_entry ([.ref (b 0), .int (nI j)]) (n := 2) (Nat.le_of_ble_eq_true rfl)
  rw [lg_entry_eq]
  generalize (lg_sl ([.ref (b 0), .int (nI j)]) ++ List.replicate (2 - (lg_sl ([.ref (b 0), .int (nI j)])).length) Slot.unset).toArray = ls at hl ⊢
  have hl : lv_has ls 2 [(0, .ref (b 0)), (1, .int (nI j))] := hl
  have hh3 := hq.2.1 j
  refine lv_aload_n hx hb dX11_ends_0 rfl (lv_at hl 0 rfl) ?_
  refine va_get (D := D) (ci := 9) (v := .ref (b 6)) (C := RX11) (T := TX11) (N := 17) hx hb hts inX11 hown hKN.1 hP 0 rfl rfl 6 (by decide) (hts (.fieldLink RX11 25 "TreeFamilyModel" "how" "[I") (by decide +kernel)) (fun _ h9 => h9) rfl dX11_ends_1 ?_
  refine lv_iload_n hx hb dX11_ends_4 rfl (lv_at hl 1 rfl) ?_
  refine xr_ild hx hb hKN.1 hP 6 0 rfl rfl (j := j) (by omega) (by decide) dX11_ends_5 ?_
  refine lv_iconst (v := 1) hx hb dX11_ends_6 (by decide) ?_
  refine lv_icmp_le (tgt := 24) hx hb dX11_ends_7 (by decide) (fun c7 => ?_) (fun c7 => ?_)
  · skip
    have c7 : (q.hw j) ≤ 1 := (xn_le (a := (q.hw j)) (b := 1) (Nat.lt_of_le_of_lt (hq.2.1 j) (by decide)) (by decide)).mp c7
    refine lv_aload_n hx hb dX11_ends_24 rfl (lv_at hl 0 rfl) ?_
    refine va_get (D := D) (ci := 9) (v := .ref (b 2)) (C := RX11) (T := TX11) (N := 17) hx hb hts inX11 hown hKN.1 hP 0 rfl rfl 2 (by decide) (hts (.fieldLink RX11 13 "TreeFamilyModel" "size" "[I") (by decide +kernel)) (fun _ h9 => h9) rfl dX11_ends_25 ?_
    refine lv_iload_n hx hb dX11_ends_28 rfl (lv_at hl 1 rfl) ?_
    refine xr_ild hx hb hKN.1 hP 2 0 rfl rfl (j := j) (by omega) (by decide) dX11_ends_29 ?_
    exact W.iret (v := (nI (q.zz j))) hx hb hr (fun t9 e9 w9 => ⟨⟨_, q, rfl, ⟨by first | exact (congrArg nI (enR_1 (r := ab q j) (by show 1 < q.hw j; omega))).symm | exact (congrArg nI ((enR_0 (r := ab q j) (by show ¬ 1 < q.hw j; omega)).trans (ab_len q j))).symm, rfl⟩, by rw [e9]; exact hP, hD⟩, hS.F e9⟩) hS.2.2 dX11_ends_30
  · skip
    have c7 : ¬ (q.hw j) ≤ 1 := fun h9 => c7 ((xn_le (a := (q.hw j)) (b := 1) (Nat.lt_of_le_of_lt (hq.2.1 j) (by decide)) (by decide)).mpr h9)
    refine lv_aload_n hx hb dX11_ends_10 rfl (lv_at hl 0 rfl) ?_
    refine lv_iload_n hx hb dX11_ends_11 rfl (lv_at hl 1 rfl) ?_
    refine lv_aload_n hx hb dX11_ends_12 rfl (lv_at hl 0 rfl) ?_
    refine va_get (D := D) (ci := 9) (v := .ref (b 8)) (C := RX11) (T := TX11) (N := 17) hx hb hts inX11 hown hKN.1 hP 0 rfl rfl 8 (by decide) (hts (.fieldLink RX11 31 "TreeFamilyModel" "high" "[I") (by decide +kernel)) (fun _ h9 => h9) rfl dX11_ends_13 ?_
    refine lv_iload_n hx hb dX11_ends_16 rfl (lv_at hl 1 rfl) ?_
    refine xr_ild hx hb hKN.1 hP 8 0 rfl rfl (j := j) (by omega) (by decide) dX11_ends_17 ?_
    refine xc_i (wr := []) (va_runV (As := [.int (nI j), .int (q.hg j)]) (rest := []) ⟨hx, hb, hml, hown, hts⟩ (c_X11_place l D ca b _ q j (q.hg j) hq hj) (cwV 2 hts gX11_ends_X11_place rfl rfl rfl (by decide +kernel) ⟨(Nat.le_of_ble_eq_true rfl), (Nat.le_of_ble_eq_true rfl)⟩) (xPreV hKN hP hD [0, 1, 2, 3, 4, 5, 6, 7, 8, 9, 10, 11, 12, 13, 14, 15, 16] (by decide) rfl (q0 := 0) rfl rfl rfl) rfl rfl hl.1 rfl (lv_room (Nat.le_of_ble_eq_true rfl)) dX11_ends_18 ⟨(Nat.le_of_ble_eq_true rfl), (Nat.le_of_ble_eq_true rfl)⟩) hP hD hS hA [0, 1, 2, 3, 4, 5, 6, 7, 8, 9, 10, 11, 12, 13, 14, 15, 16] [] rfl rfl (by decide) (by decide) (fun r18 u18 H locs hu18 hP hD hS => ?_)
    obtain ⟨er18, eu18⟩ := hu18
    have eu18 := eu18.symm
    subst eu18
    have hP : va_P D vwCl (wQ ca b q) H := hP
    have hD : va_D A (wQ ca b q) := hD
    have er18 : r18 = nI (plQ q j (q.hg j)) := er18
    subst er18
    refine lv_goto (tgt := 30) hx hb dX11_ends_21 (by decide) ?_
    exact W.iret (v := (nI (plQ q j (q.hg j)))) hx hb hr (fun t9 e9 w9 => ⟨⟨_, q, rfl, ⟨by first | exact (congrArg nI (enR_1 (r := ab q j) (by show 1 < q.hw j; omega))).symm | exact (congrArg nI ((enR_0 (r := ab q j) (by show ¬ 1 < q.hw j; omega)).trans (ab_len q j))).symm, rfl⟩, by rw [e9]; exact hP, hD⟩, hS.F e9⟩) hS.2.2 dX11_ends_30
