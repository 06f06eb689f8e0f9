/-- the field links among nest mates that the tables have -/
def nestF : List (String × Nat × String × String × String × String) := [("TreeFamily", 154, "TreeFamily$OneMap", "changes", "I", "TreeFamily"), ("TreeFamily$ByHeights", 7, "TreeFamily$Tree", "heights", "[I", "TreeFamily"), ("TreeFamily$ByPriorities", 19, "TreeFamily$Tree", "left", "[I", "TreeFamily"), ("TreeFamily$ByPriorities", 29, "TreeFamily$Tree", "right", "[I", "TreeFamily"), ("TreeFamily$ByPriorities", 39, "TreeFamily$Tree", "keys", "[I", "TreeFamily"), ("TreeFamily$ByRebuilding", 19, "TreeFamily$Tree", "heights", "[I", "TreeFamily"), ("TreeFamily$ByRebuilding", 23, "TreeFamily$Tree", "counts", "[I", "TreeFamily"), ("TreeFamily$ByTwoSides", 13, "TreeFamily$Tree", "right", "[I", "TreeFamily"), ("TreeFamily$ByTwoSides", 7, "TreeFamily$Tree", "left", "[I", "TreeFamily"), ("TreeFamily$ByWeights", 7, "TreeFamily$Tree", "counts", "[I", "TreeFamily"), ("TreeFamily$OneMap", 103, "TreeFamily$Tree", "order", "I", "TreeFamily"), ("TreeFamily$OneMap", 110, "TreeFamily$Range", "first", "I", "TreeFamily"), ("TreeFamily$OneMap", 113, "TreeFamily$Range", "second", "I", "TreeFamily"), ("TreeFamily$OneMap", 130, "TreeFamily$Walk", "known", "I", "TreeFamily"), ("TreeFamily$OneMap", 146, "TreeFamily$Walk", "hasGiven", "Z", "TreeFamily"), ("TreeFamily$OneMap", 164, "TreeFamily$Tree", "kind", "LTreeFamily$Kind;", "TreeFamily"), ("TreeFamily$OneMap", 42, "TreeFamily$Range", "hasFirst", "Z", "TreeFamily"), ("TreeFamily$OneMap", 46, "TreeFamily$Range", "hasSecond", "Z", "TreeFamily"), ("TreeFamily$OneMap", 49, "TreeFamily$Walk", "isOn", "Z", "TreeFamily"), ("TreeFamily$OneMap", 77, "TreeFamily$Tree", "values", "[I", "TreeFamily"), ("TreeFamily$OneMap", 81, "TreeFamily$Tree", "root", "I", "TreeFamily"), ("TreeFamily$OneMap", 90, "TreeFamily$Tree", "keys", "[I", "TreeFamily"), ("TreeFamily$OneMap", 93, "TreeFamily$Tree", "counts", "[I", "TreeFamily"), ("TreeFamily$Range", 35, "TreeFamily$Tree", "counts", "[I", "TreeFamily"), ("TreeFamily$Range", 39, "TreeFamily$Tree", "root", "I", "TreeFamily")]
/-- the method links among nest mates -/
def nestM : List (String × Nat × MethodName × String) := [("TreeFamily", 14, ⟨"TreeFamily$ByWeights", "<init>", "()V"⟩, "TreeFamily"), ("TreeFamily", 17, ⟨"TreeFamily$ByPriorities", "<init>", "()V"⟩, "TreeFamily"), ("TreeFamily", 20, ⟨"TreeFamily$ByRebuilding", "<init>", "()V"⟩, "TreeFamily"), ("TreeFamily", 9, ⟨"TreeFamily$ByHeights", "<init>", "()V"⟩, "TreeFamily"), ("TreeFamily$ByHeights", 1, ⟨"TreeFamily$ByTwoSides", "<init>", "()V"⟩, "TreeFamily"), ("TreeFamily$ByPriorities", 3, ⟨"TreeFamily$Kind", "<init>", "()V"⟩, "TreeFamily"), ("TreeFamily$ByRebuilding", 1, ⟨"TreeFamily$Kind", "<init>", "()V"⟩, "TreeFamily"), ("TreeFamily$ByTwoSides", 1, ⟨"TreeFamily$Kind", "<init>", "()V"⟩, "TreeFamily"), ("TreeFamily$ByWeights", 1, ⟨"TreeFamily$ByTwoSides", "<init>", "()V"⟩, "TreeFamily"), ("TreeFamily$OneMap", 106, ⟨"TreeFamily", "goesBefore", "(III)Z"⟩, "TreeFamily"), ("TreeFamily$OneMap", 22, ⟨"TreeFamily$Range", "<init>", "()V"⟩, "TreeFamily"), ("TreeFamily$OneMap", 29, ⟨"TreeFamily$Walk", "<init>", "()V"⟩, "TreeFamily"), ("TreeFamily$Range", 17, ⟨"TreeFamily", "goesBefore", "(III)Z"⟩, "TreeFamily"), ("TreeFamily$Tree", 64, ⟨"TreeFamily", "goesBefore", "(III)Z"⟩, "TreeFamily"), ("TreeFamily$Tree", 68, ⟨"TreeFamily", "isBelow", "(II)Z"⟩, "TreeFamily")]
def nestC : List (String × String) := [("TreeFamily$ByHeights", "TreeFamily$Kind"), ("TreeFamily$ByPriorities", "TreeFamily$Kind"), ("TreeFamily$ByRebuilding", "TreeFamily$Kind"), ("TreeFamily$ByWeights", "TreeFamily$Kind"), ("java/lang/IllegalArgumentException", "java/lang/IllegalArgumentException"), ("java/lang/IllegalStateException", "java/lang/IllegalStateException"), ("java/lang/IndexOutOfBoundsException", "java/lang/IndexOutOfBoundsException")]
def nestS : List (String × Nat × String) := [("TreeFamily", 101, "no such question"), ("TreeFamily", 106, "the key is not in range"), ("TreeFamily", 118, "no iterator that knows the map as it is"), ("TreeFamily", 127, "no entry that the iterator could drop"), ("TreeFamily", 136, "no such operation, or other orders"), ("TreeFamily", 148, "a map is not split into itself"), ("TreeFamily", 161, "no such map"), ("TreeFamily", 46, "no such kind or order"), ("TreeFamily", 75, "no such neighbour"), ("TreeFamily", 88, "no such range"), ("TreeFamily$OneMap", 159, "no room for the union"), ("TreeFamily$OneMap", 62, "no room for one more entry"), ("TreeFamily$OneMap", 75, "no entry of a key alike"), ("TreeFamily$OneMap", 88, "no such entry")]
/-- the abstract methods that are called -/
def nestD : List MethodName := [⟨"TreeFamily$ByTwoSides", "hasToPart", "(LTreeFamily$Tree;II)Z"⟩, ⟨"TreeFamily$ByTwoSides", "isTooMuch", "(LTreeFamily$Tree;II)Z"⟩, ⟨"TreeFamily$Kind", "settle", "(LTreeFamily$Tree;I)I"⟩, ⟨"TreeFamily$Kind", "suits", "(LTreeFamily$Tree;I)Z"⟩, ⟨"java/lang/Exception", "<init>", "()V"⟩, ⟨"java/lang/Exception", "<init>", "(Ljava/lang/String;)V"⟩, ⟨"java/lang/RuntimeException", "<init>", "()V"⟩, ⟨"java/lang/RuntimeException", "<init>", "(Ljava/lang/String;)V"⟩, ⟨"java/lang/Throwable", "<init>", "()V"⟩, ⟨"java/lang/Throwable", "<init>", "(Ljava/lang/String;)V"⟩]
/-- what the tables say of links among nest mates -/
def NW (U : State) : Prop := (∀ q ∈ nestF, va_Nw (.fieldLinkNest q.1 q.2.1 q.2.2.1 q.2.2.2.1 q.2.2.2.2.1 q.2.2.2.2.2) U) ∧ (∀ q ∈ nestM, va_Nw (.methodLinkNest q.1 q.2.1 q.2.2.1 q.2.2.2) U) ∧ (∀ q ∈ nestD, va_Nw (.declares q) U) ∧ (∀ q ∈ nestC, va_Nw (.castable q.1 q.2) U) ∧ ∀ q ∈ nestS, ∃ sa, vk_R q.1 q.2.1 q.2.2 sa U
theorem NW.warm {s U : State} (hW : s.WarmedH U.vm) (h : NW s) : NW U := ⟨fun q hq => va_Nw.warmF hW (h.1 q hq), fun q hq => va_Nw.warmM hW (h.2.1 q hq), fun q hq => va_Nw.warmD hW (h.2.2.1 q hq), fun q hq => va_Nw.warmC hW (h.2.2.2.1 q hq), fun q hq => (h.2.2.2.2 q hq).imp fun sa hs => hs.warm hW⟩
theorem NW.same {u U : State} (hv : u.vm = U.vm) (h : NW u) : NW U := ⟨fun q hq => va_Nw.same rfl hv (h.1 q hq), fun q hq => va_Nw.same rfl hv (h.2.1 q hq), fun q hq => va_Nw.same rfl hv (h.2.2.1 q hq), fun q hq => va_Nw.same rfl hv (h.2.2.2.1 q hq), fun q hq => (h.2.2.2.2 q hq).imp fun sa hs => vk_R.same hv.symm hs⟩
theorem NW.f {U : State} (h : NW U) {a : String} {i : Nat} {b n d g : String} (hq : (a, i, b, n, d, g) ∈ nestF) : va_Nw (.fieldLinkNest a i b n d g) U := h.1 _ hq
theorem NW.m {U : State} (h : NW U) {a : String} {i : Nat} {x : MethodName} {g : String} (hq : (a, i, x, g) ∈ nestM) : va_Nw (.methodLinkNest a i x g) U := h.2.1 _ hq
theorem NW.d {U : State} (h : NW U) {x : MethodName} (hq : x ∈ nestD) : va_Nw (.declares x) U := h.2.2.1 _ hq
theorem NW.c {U : State} (h : NW U) {a b : String} (hq : (a, b) ∈ nestC) : va_Nw (.castable a b) U := h.2.2.2.1 _ hq
theorem NW.s {U : State} (h : NW U) {a : String} {i : Nat} {b : String} (hq : (a, i, b) ∈ nestS) : ∃ sa, vk_R a i b sa U := h.2.2.2.2 _ hq
/-- the tables: classes, array classes, nest links -/
def xK (D : va_G) (tys : List (ClassId × FieldType)) (U : State) : Prop := va_K D vwCl tys U ∧ NW U
theorem xK.warm {D : va_G} {tys : List (ClassId × FieldType)} {s U : State} (hW : s.WarmedH U.vm) (h : xK D tys s) : xK D tys U := ⟨va_K.moved hW.alike h.1, h.2.warm hW⟩
/-- a contract's start over a world w -/
def xPc (D : va_G) (tys : List (ClassId × FieldType)) (av : List Value) (w : va_W) (sz : Nat) : Array Value → State → Prop := va_Pc av (fun U => U.heap.size = sz ∧ va_P D vwCl w U.heap ∧ xK D tys U ∧ va_D (fun _ => True) w)
/-- its end: the world that u stands for -/
def xB (D : va_G) {S : Type} (wf : S → va_W) (A : Nat → Prop) (u : S) (t : State) : Prop := va_P D vwCl (wf u) t.heap ∧ va_D A (wf u)
theorem xPc.blind {D : va_G} {tys : List (ClassId × FieldType)} {av : List Value} {w : va_W} {sz : Nat} : FrameBlind (xPc D tys av w sz) := fun a U g mk q => by
  obtain ⟨q0, q1, qP, qK, qD⟩ := q
  exact ⟨q0, q1, qP, ⟨va_K.moved (u := U) (U := U.calling g mk a) (Vm.Alike.refl U.vm) qK.1, NW.same (u := U) (U := U.calling g mk a) rfl qK.2⟩, qD⟩
section XR
variable {p : Program} {l : Launch} {e : Env} {R : Room} {s : State} {m : MethodId} {args : Array Value} {below : List Frame} {meth : Method} {c : Code} {H : Heap} {locs : List Loc} {cells slots : Nat} {Q : State → Prop}
variable {cc : ByteArray} {pc : Nat} {ls : Array Slot} {rest : List Value} {D : va_G} {cl : List vw_C} {A : Nat → Prop} {a : Nat} {tys : List (ClassId × FieldType)} {ws : va_W} {H0 : Heap}
/-- the number on the stack, in another form -/
theorem xr_top {x y : Int32} (h : x = y) (k : W p l e R s m args below meth c H locs cells slots Q (F0 m pc ls (.int y :: rest))) : W p l e R s m args below meth c H locs cells slots Q (F0 m pc ls (.int x :: rest)) := h ▸ k
theorem xr_topl {x y : Int64} (h : x = y) (k : W p l e R s m args below meth c H locs cells slots Q (F0 m pc ls (.long y :: rest))) : W p l e R s m args below meth c H locs cells slots Q (F0 m pc ls (.long x :: rest)) := h ▸ k
theorem xr_ild (hexec : p.tables.exec = Jvm.exec) (hb : c.code = cc) (hK : va_K D cl tys s) (hP : va_P D cl ws H) (q0 t0 : Nat) {cA : ClassId} {n : Nat} {f : Nat → Int32} (ha : ws[q0]? = some (a, .inl (cA, n, .inl f))) (ht : tys[t0]? = some (cA, .int)) {j : Nat} (hj : j < n) (hn : n < 2147483648) (hdg : decode cc pc = .ok (.iaload, 1))
    (kk : W p l e R s m args below meth c H locs cells slots Q (F0 m (pc + 1) ls (.int (f j) :: rest))) : W p l e R s m args below meth c H locs cells slots Q (F0 m pc ls (.int (nI j) :: .ref a :: rest)) := by
  refine va_iald hexec hb hK hP q0 t0 ha ht (vp_in_nI hj hn) hdg ?_
  rw [nI_clamp (Nat.lt_trans hj hn)]
  exact kk
theorem xr_zld (hexec : p.tables.exec = Jvm.exec) (hb : c.code = cc) (hK : va_K D cl tys s) (hP : va_P D cl ws H) (q0 t0 : Nat) {cA : ClassId} {n : Nat} {f : Nat → Int32} (ha : ws[q0]? = some (a, .inl (cA, n, .inl f))) (ht : tys[t0]? = some (cA, .boolean)) {j : Nat} (hj : j < n) (hn : n < 2147483648) (hdg : decode cc pc = .ok (.baload, 1))
    (kk : W p l e R s m args below meth c H locs cells slots Q (F0 m (pc + 1) ls (.int (f j) :: rest))) : W p l e R s m args below meth c H locs cells slots Q (F0 m pc ls (.int (nI j) :: .ref a :: rest)) := by
  refine va_zald hexec hb hK hP q0 t0 ha ht (vp_in_nI hj hn) hdg ?_
  rw [nI_clamp (Nat.lt_trans hj hn)]
  exact kk
theorem xr_lld (hexec : p.tables.exec = Jvm.exec) (hb : c.code = cc) (hK : va_K D cl tys s) (hP : va_P D cl ws H) (q0 t0 : Nat) {cA : ClassId} {n : Nat} {f : Nat → Int64} (ha : ws[q0]? = some (a, .inl (cA, n, .inr (.inl f)))) (ht : tys[t0]? = some (cA, .long)) {j : Nat} (hj : j < n) (hn : n < 2147483648) (hdg : decode cc pc = .ok (.laload, 1))
    (kk : W p l e R s m args below meth c H locs cells slots Q (F0 m (pc + 1) ls (.long (f j) :: rest))) : W p l e R s m args below meth c H locs cells slots Q (F0 m pc ls (.int (nI j) :: .ref a :: rest)) := by
  refine va_lald hexec hb hK hP q0 t0 ha ht (vp_in_nI hj hn) hdg ?_
  rw [nI_clamp (Nat.lt_trans hj hn)]
  exact kk
theorem xr_ist (hexec : p.tables.exec = Jvm.exec) (hb : c.code = cc) (hK : va_K D cl tys s) (hP : va_P D cl ws H) (hD : va_D A ws) (hS : va_S A H0 H locs) (q0 t0 : Nat) {cA : ClassId} {n : Nat} {f : Nat → Int32} (ha : ws[q0]? = some (a, .inl (cA, n, .inl f))) (ht : tys[t0]? = some (cA, .int)) {j : Nat} {x : Int32} (hj : j < n) (hn : n < 2147483648) (hdg : decode cc pc = .ok (.iastore, 1))
    (kk : ∀ (H1 : Heap) (locs1 : List Loc), va_P D cl (ws.set q0 (a, .inl (cA, n, .inl (upd f j x)))) H1 → va_D A (ws.set q0 (a, .inl (cA, n, .inl (upd f j x)))) → va_S A H0 H1 locs1 → W p l e R s m args below meth c H1 locs1 cells slots Q (F0 m (pc + 1) ls rest)) : W p l e R s m args below meth c H locs cells slots Q (F0 m pc ls (.int x :: .int (nI j) :: .ref a :: rest)) := by
  refine va_iast hexec hb hK hP hD hS q0 t0 ha ht (vp_in_nI hj hn) hdg ?_
  rw [nI_clamp (Nat.lt_trans hj hn)]
  exact kk
theorem xr_zst (hexec : p.tables.exec = Jvm.exec) (hb : c.code = cc) (hK : va_K D cl tys s) (hP : va_P D cl ws H) (hD : va_D A ws) (hS : va_S A H0 H locs) (q0 t0 : Nat) {cA : ClassId} {n : Nat} {f : Nat → Int32} (ha : ws[q0]? = some (a, .inl (cA, n, .inl f))) (ht : tys[t0]? = some (cA, .boolean)) {j : Nat} {x : Int32} (hx : vp_nar .boolean x = x) (hj : j < n) (hn : n < 2147483648) (hdg : decode cc pc = .ok (.bastore, 1))
    (kk : ∀ (H1 : Heap) (locs1 : List Loc), va_P D cl (ws.set q0 (a, .inl (cA, n, .inl (upd f j x)))) H1 → va_D A (ws.set q0 (a, .inl (cA, n, .inl (upd f j x)))) → va_S A H0 H1 locs1 → W p l e R s m args below meth c H1 locs1 cells slots Q (F0 m (pc + 1) ls rest)) : W p l e R s m args below meth c H locs cells slots Q (F0 m pc ls (.int x :: .int (nI j) :: .ref a :: rest)) := by
  refine va_zast hexec hb hK hP hD hS q0 t0 ha ht (vp_in_nI hj hn) hdg ?_
  rw [nI_clamp (Nat.lt_trans hj hn), hx]
  exact kk
theorem upd_nI (g : Nat → Nat) (j v : Nat) : upd (fun k => nI (g k)) j (nI v) = fun k => nI (va_up g j v k) := by
  funext k
  by_cases h : k = j <;> simp [upd, va_up, h]
/-- a store into a row of small numbers -/
theorem xr_nst (hexec : p.tables.exec = Jvm.exec) (hb : c.code = cc) (hK : va_K D cl tys s) (hP : va_P D cl ws H) (hD : va_D A ws) (hS : va_S A H0 H locs) (q0 t0 : Nat) {cA : ClassId} {n : Nat} {g : Nat → Nat} (ha : ws[q0]? = some (a, .inl (cA, n, .inl (fun k => nI (g k))))) (ht : tys[t0]? = some (cA, .int)) {j v : Nat} (hj : j < n) (hn : n < 2147483648) (hdg : decode cc pc = .ok (.iastore, 1))
    (kk : ∀ (H1 : Heap) (locs1 : List Loc), va_P D cl (ws.set q0 (a, .inl (cA, n, .inl (fun k => nI (va_up g j v k))))) H1 → va_D A (ws.set q0 (a, .inl (cA, n, .inl (fun k => nI (va_up g j v k))))) → va_S A H0 H1 locs1 → W p l e R s m args below meth c H1 locs1 cells slots Q (F0 m (pc + 1) ls rest)) : W p l e R s m args below meth c H locs cells slots Q (F0 m pc ls (.int (nI v) :: .int (nI j) :: .ref a :: rest)) := by
  refine xr_ist hexec hb hK hP hD hS q0 t0 ha ht hj hn hdg ?_
  rw [upd_nI]
  exact kk
theorem xr_lst (hexec : p.tables.exec = Jvm.exec) (hb : c.code = cc) (hK : va_K D cl tys s) (hP : va_P D cl ws H) (hD : va_D A ws) (hS : va_S A H0 H locs) (q0 t0 : Nat) {cA : ClassId} {n : Nat} {f : Nat → Int64} (ha : ws[q0]? = some (a, .inl (cA, n, .inr (.inl f)))) (ht : tys[t0]? = some (cA, .long)) {j : Nat} {x : Int64} (hj : j < n) (hn : n < 2147483648) (hdg : decode cc pc = .ok (.lastore, 1))
    (kk : ∀ (H1 : Heap) (locs1 : List Loc), va_P D cl (ws.set q0 (a, .inl (cA, n, .inr (.inl (vp_updL f j x))))) H1 → va_D A (ws.set q0 (a, .inl (cA, n, .inr (.inl (vp_updL f j x))))) → va_S A H0 H1 locs1 → W p l e R s m args below meth c H1 locs1 cells slots Q (F0 m (pc + 1) ls rest)) : W p l e R s m args below meth c H locs cells slots Q (F0 m pc ls (.long x :: .int (nI j) :: .ref a :: rest)) := by
  refine va_last hexec hb hK hP hD hS q0 t0 ha ht (vp_in_nI hj hn) hdg ?_
  rw [nI_clamp (Nat.lt_trans hj hn)]
  exact kk
end XR
section XC
variable {p : Program} {l : Launch} {e : Env} {R : Room} {s : State} {m : MethodId} {args : Array Value} {below : List Frame} {meth : Method} {c : Code} {H : Heap} {locs : List Loc} {cells slots : Nat} {Q : State → Prop}
variable {pc : Nat} {ls : Array Slot} {rest st0 : List Value} {av : Array Value} {A0 : Nat → Prop} {H0 : Heap} {mc ms : Nat} {D : va_G} {tys : List (ClassId × FieldType)} {ws w0 wr : va_W}
/-- the start of an instance method's contract, at a caller that holds its world among its own cells -/
theorem xPreV {As : List Value} {b q0 ci : Nat} {fs : List Value} {q : vw_C} {C : String} (hK : xK D tys s) (hP : va_P D vwCl ws H) (hD : va_D A0 ws) (isC : List Nat) (hn : va_nd isC = true) (hC : isC.map (fun i => ws[i]?) = w0.map some) (he : ws[q0]? = some (b, .inr (ci, fs))) (hc : vwCl[ci]? = some q) (hq : q.1 = C) : PreV s H C b (xPc D tys (.ref b :: As) w0 H.size) As := by
  refine ⟨xPc.blind, ?_, fun U hU hW => ⟨rfl, by rw [hU], ?_, hK.warm hW, (hD.sub isC hn hC).weaken (fun _ _ _ _ => trivial)⟩⟩
  · rw [← hq]
    exact va_recv hK.1 hP hc he
  · rw [hU]
    intro k x hx
    have h1 : (isC.map (fun i => ws[i]?))[k]? = some (some x) := by rw [hC, List.getElem?_map, hx]; rfl
    rw [List.getElem?_map] at h1
    cases hi : isC[k]? with
    | none => rw [hi] at h1; cases h1
    | some i => rw [hi] at h1; exact hP i x (Option.some.inj h1)
/-- the same for a static method, or a constructor -/
theorem xPreS {As : List Value} (hK : xK D tys s) (hP : va_P D vwCl ws H) (hD : va_D A0 ws) (isC : List Nat) (hn : va_nd isC = true) (hC : isC.map (fun i => ws[i]?) = w0.map some) : PreS s H (xPc D tys As w0 H.size) As := by
  refine ⟨xPc.blind, fun U hU hW => ⟨rfl, by rw [hU], ?_, hK.warm hW, (hD.sub isC hn hC).weaken (fun _ _ _ _ => trivial)⟩⟩
  rw [hU]
  intro k x hx
  have h1 : (isC.map (fun i => ws[i]?))[k]? = some (some x) := by rw [hC, List.getElem?_map, hx]; rfl
  rw [List.getElem?_map] at h1
  cases hi : isC[k]? with
  | none => rw [hi] at h1; cases h1
  | some i => rw [hi] at h1; exact hP i x (Option.some.inj h1)
theorem xc_i {S : Type} {post : Int32 → S → Prop} {wf : S → va_W} (hr : va_Run p l e R s m args below meth c H locs cells slots mc ms (F0 m pc ls st0) rest (va_Qi post (xB D wf (va_A w0 H.size)) (va_A w0 H.size) av) (va_A w0 H.size)) (hP : va_P D vwCl ws H) (hD : va_D A0 ws) (hS : va_S A0 H0 H locs) (hA : ∀ q, H0.size ≤ q → A0 q) (isC isR : List Nat) (hC : isC.map (fun i => ws[i]?) = w0.map some) (hR : isR.map (fun i => ws[i]?) = wr.map some) (hn : va_nd isR = true) (hdis : ∀ i ∈ isR, i ∉ isC)
    (kk : ∀ (r : Int32) (u : S) (H1 : Heap) (locs1 : List Loc), post r u → va_P D vwCl (wr ++ wf u) H1 → va_D A0 (wr ++ wf u) → va_S A0 H0 H1 locs1 → W p l e R s m args below meth c H1 locs1 (cells + mc) (slots + ms) Q (F0 m (pc + 3) ls (.int r :: rest))) : W p l e R s m args below meth c H locs cells slots Q (F0 m pc ls st0) := by
  have hF := va_free (wc := w0) hD hS hA isC hC
  refine va_calli hr hS (fun q _ h => hF q h) hF (fun r u t H1 locs1 ht _ hw hB _ hk1 hS1 => ?_)
  obtain ⟨hP1, hD1⟩ := hB
  rw [ht] at hP1
  obtain ⟨hP2, hD2⟩ := va_join hP hD isC isR hC hR hn hdis hk1 hF hP1 hD1
  exact kk r u H1 locs1 hw hP2 hD2 hS1
theorem xc_l {S : Type} {post : Int64 → S → Prop} {wf : S → va_W} (hr : va_Run p l e R s m args below meth c H locs cells slots mc ms (F0 m pc ls st0) rest (va_Ql post (xB D wf (va_A w0 H.size)) (va_A w0 H.size) av) (va_A w0 H.size)) (hP : va_P D vwCl ws H) (hD : va_D A0 ws) (hS : va_S A0 H0 H locs) (hA : ∀ q, H0.size ≤ q → A0 q) (isC isR : List Nat) (hC : isC.map (fun i => ws[i]?) = w0.map some) (hR : isR.map (fun i => ws[i]?) = wr.map some) (hn : va_nd isR = true) (hdis : ∀ i ∈ isR, i ∉ isC)
    (kk : ∀ (r : Int64) (u : S) (H1 : Heap) (locs1 : List Loc), post r u → va_P D vwCl (wr ++ wf u) H1 → va_D A0 (wr ++ wf u) → va_S A0 H0 H1 locs1 → W p l e R s m args below meth c H1 locs1 (cells + mc) (slots + ms) Q (F0 m (pc + 3) ls (.long r :: rest))) : W p l e R s m args below meth c H locs cells slots Q (F0 m pc ls st0) := by
  have hF := va_free (wc := w0) hD hS hA isC hC
  refine va_calll hr hS (fun q _ h => hF q h) hF (fun r u t H1 locs1 ht _ hw hB _ hk1 hS1 => ?_)
  obtain ⟨hP1, hD1⟩ := hB
  rw [ht] at hP1
  obtain ⟨hP2, hD2⟩ := va_join hP hD isC isR hC hR hn hdis hk1 hF hP1 hD1
  exact kk r u H1 locs1 hw hP2 hD2 hS1
theorem xc_v {S : Type} {post : S → Prop} {wf : S → va_W} (hr : va_Run p l e R s m args below meth c H locs cells slots mc ms (F0 m pc ls st0) rest (va_Qv post (xB D wf (va_A w0 H.size)) (va_A w0 H.size) av) (va_A w0 H.size)) (hP : va_P D vwCl ws H) (hD : va_D A0 ws) (hS : va_S A0 H0 H locs) (hA : ∀ q, H0.size ≤ q → A0 q) (isC isR : List Nat) (hC : isC.map (fun i => ws[i]?) = w0.map some) (hR : isR.map (fun i => ws[i]?) = wr.map some) (hn : va_nd isR = true) (hdis : ∀ i ∈ isR, i ∉ isC)
    (kk : ∀ (u : S) (H1 : Heap) (locs1 : List Loc), post u → va_P D vwCl (wr ++ wf u) H1 → va_D A0 (wr ++ wf u) → va_S A0 H0 H1 locs1 → W p l e R s m args below meth c H1 locs1 (cells + mc) (slots + ms) Q (F0 m (pc + 3) ls rest)) : W p l e R s m args below meth c H locs cells slots Q (F0 m pc ls st0) := by
  have hF := va_free (wc := w0) hD hS hA isC hC
  refine va_callv hr hS (fun q _ h => hF q h) hF (fun u t H1 locs1 ht _ hw hB _ hk1 hS1 => ?_)
  obtain ⟨hP1, hD1⟩ := hB
  rw [ht] at hP1
  obtain ⟨hP2, hD2⟩ := va_join hP hD isC isR hC hR hn hdis hk1 hF hP1 hD1
  exact kk u H1 locs1 hw hP2 hD2 hS1
/-- a call that leaves the heap alone -/
theorem xs_i {post : Int32 → Prop} (hr : va_Run p l e R s m args below meth c H locs cells slots 0 0 (F0 m pc ls st0) rest (vp_Si post av) (fun _ => False))
    (kk : ∀ r : Int32, post r → W p l e R s m args below meth c H locs cells slots Q (F0 m (pc + 3) ls (.int r :: rest))) : W p l e R s m args below meth c H locs cells slots Q (F0 m pc ls st0) := by
  intro T hT X
  obtain ⟨v, st₀, t, T', L, h0, X', hL, e1, e2, ⟨r, hv, hp, hh⟩, st⟩ := hr T hT X
  cases hv
  have hLe : L = [] := by
    cases L with
    | nil => rfl
    | cons q L => exact absurd (hL q List.mem_cons_self) (fun h => h)
  subst hLe
  rw [List.append_nil] at X'
  obtain ⟨t2, a1, b1⟩ := kk r hp T' (by rw [e1, hh, h0]) X'
  exact ⟨t2, st t2 a1, b1⟩
end XC
