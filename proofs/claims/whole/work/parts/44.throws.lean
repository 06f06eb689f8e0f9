/-! THROWING: the statics that an exception's making reads; contracts of methods that return or throw -/
def TZ (A : Nat → Prop) (U : State) (H : Heap) : Prop := vx_Zq Jvm.Bundle.tN "UNASSIGNED_STACK" Jvm.Bundle.steD A U H ∧ vx_Zq Jvm.Bundle.tN "SUPPRESSED_SENTINEL" Jvm.Bundle.listD A U H
def xPcT (D : va_G) (tys : List (ClassId × FieldType)) (av : List Value) (w : va_W) (sz : Nat) : Array Value → State → Prop := va_Pc av (fun U => U.heap.size = sz ∧ va_P D vwCl w U.heap ∧ xK D tys U ∧ va_D (fun _ => True) w ∧ TZ (va_A w sz) U U.heap)
theorem xPcT.blind {D : va_G} {tys : List (ClassId × FieldType)} {av : List Value} {w : va_W} {sz : Nat} : FrameBlind (xPcT D tys av w sz) := fun a U g mk q => by
  obtain ⟨q0, q1, qP, qK, qD, qT⟩ := q
  exact ⟨q0, q1, qP, ⟨va_K.moved (u := U) (U := U.calling g mk a) (Vm.Alike.refl U.vm) qK.1, NW.same (u := U) (U := U.calling g mk a) rfl qK.2⟩, qD, vx_Zq.moved (u := U) (U := U.calling g mk a) (Vm.Alike.refl U.vm) qT.1, vx_Zq.moved (u := U) (U := U.calling g mk a) (Vm.Alike.refl U.vm) qT.2⟩
def xX (D : va_G) {S : Type} (wf : S → va_W) (A : Nat → Prop) (PX : String → S → Prop) : String → State → State → Prop := vx_X (fun _ : S => True) (fun E u t => PX E u ∧ xB D wf A u t) A
theorem va_P_kept {D : va_G} {ws : va_W} {H H1 : Heap} (h : va_P D vwCl ws H) (hk : ∀ q : Nat, q < H.size → H1[q]? = H[q]?) : va_P D vwCl ws H1 := fun k q hq => (h k q hq).kept (hk q.1 (h k q hq).lt)
theorem vx_outX {x : ExceptionTableEntry} {c : Code} {pc : Nat} (hno : ∀ x ∈ c.exceptionTable.toList, False) : ∀ x ∈ c.exceptionTable.toList, covers x pc = false := fun x h => (hno x h).elim
section XT
variable {p : Program} {l : Launch} {e : Env} {R : Room} {s : State} {m : MethodId} {args : Array Value} {below : List Frame} {meth : Method} {c : Code} {H : Heap} {locs : List Loc} {cells slots : Nat} {Q : State → Prop}
variable {pc : Nat} {ls : Array Slot} {rest st0 : List Value} {av : Array Value} {A0 : Nat → Prop} {H0 : Heap} {mc ms : Nat} {D : va_G} {tys : List (ClassId × FieldType)} {ws w0 wr : va_W}
theorem TZ.at {U : State} (hT : TZ A0 s s.heap) (hS : va_S A0 s.heap H locs) (hF : ∀ q, va_A w0 H.size q → A0 q) (hU : U.heap = H) (hW : s.WarmedH U.vm) : TZ (va_A w0 H.size) U U.heap := by
  rw [hU]
  exact ⟨vx_Zq.narrow (vx_Zq.moved hW.alike (vx_Zq.kept hT.1 (fun a h1 h2 => hS.2.1 a h1 h2))) hF, vx_Zq.narrow (vx_Zq.moved hW.alike (vx_Zq.kept hT.2 (fun a h1 h2 => hS.2.1 a h1 h2))) hF⟩
theorem va_P_pick (hP : va_P D vwCl ws H) (isC : List Nat) (hC : isC.map (fun i => ws[i]?) = w0.map some) : va_P D vwCl w0 H := by
  intro k x hx
  have h1 : (isC.map (fun i => ws[i]?))[k]? = some (some x) := by rw [hC, List.getElem?_map, hx]; rfl
  rw [List.getElem?_map] at h1
  cases hi : isC[k]? with
  | none => rw [hi] at h1; cases h1
  | some i => rw [hi] at h1; exact hP i x (Option.some.inj h1)
theorem xPreVT {As : List Value} {b q0 ci : Nat} {fs : List Value} {q : vw_C} {C : String} (hK : xK D tys s) (hT : TZ A0 s s.heap) (hP : va_P D vwCl ws H) (hD : va_D A0 ws) (hS : va_S A0 s.heap H locs) (hA : ∀ q, s.heap.size ≤ q → A0 q) (isC : List Nat) (hn : va_nd isC = true) (hC : isC.map (fun i => ws[i]?) = w0.map some) (he : ws[q0]? = some (b, .inr (ci, fs))) (hc : vwCl[ci]? = some q) (hq : q.1 = C) : PreV s H C b (xPcT D tys (.ref b :: As) w0 H.size) As := by
  refine ⟨xPcT.blind, ?_, fun U hU hW => ⟨rfl, by rw [hU], by rw [hU]; exact va_P_pick hP isC hC, hK.warm hW, (hD.sub isC hn hC).weaken (fun _ _ _ _ => trivial), TZ.at hT hS (va_free hD hS hA isC hC) hU hW⟩⟩
  rw [← hq]
  exact va_recv hK.1 hP hc he
theorem xPreST {As : List Value} (hK : xK D tys s) (hT : TZ A0 s s.heap) (hP : va_P D vwCl ws H) (hD : va_D A0 ws) (hS : va_S A0 s.heap H locs) (hA : ∀ q, s.heap.size ≤ q → A0 q) (isC : List Nat) (hn : va_nd isC = true) (hC : isC.map (fun i => ws[i]?) = w0.map some) : PreS s H (xPcT D tys As w0 H.size) As :=
  ⟨xPcT.blind, fun U hU hW => ⟨rfl, by rw [hU], by rw [hU]; exact va_P_pick hP isC hC, hK.warm hW, (hD.sub isC hn hC).weaken (fun _ _ _ _ => trivial), TZ.at hT hS (va_free hD hS hA isC hC) hU hW⟩⟩
theorem xcx_i {S : Type} {post : Int32 → S → Prop} {PX : String → S → Prop} {wf : S → va_W} (hr : vx_Run p l e R s m args below meth c H locs cells slots mc ms (F0 m pc ls st0) rest (va_Qi post (xB D wf (va_A w0 H.size)) (va_A w0 H.size) av) (xX D wf (va_A w0 H.size) PX) (va_A w0 H.size)) (hP : va_P D vwCl ws H) (hD : va_D A0 ws) (hS : va_S A0 H0 H locs) (hA : ∀ q, H0.size ≤ q → A0 q) (isC isR : List Nat) (hC : isC.map (fun i => ws[i]?) = w0.map some) (hR : isR.map (fun i => ws[i]?) = wr.map some) (hn : va_nd isR = true) (hdis : ∀ i ∈ isR, i ∉ isC)
    (kx : ∀ (E : String) (ce : Cell) (q9 : Addr) (u : S) (H1 : Heap) (locs1 : List Loc), PX E u → va_P D vwCl (wr ++ wf u) H1 → va_D A0 (wr ++ wf u) → va_S A0 H0 H1 locs1 → H1[q9]? = some ce → ce.vm = .none → s.vm.findClass E = some ce.cls → vx_W p l e R s m args below meth c H1 locs1 (cells + mc) (slots + ms) Q (F0 m pc ls rest) q9)
    (kk : ∀ (r : Int32) (u : S) (H1 : Heap) (locs1 : List Loc), post r u → va_P D vwCl (wr ++ wf u) H1 → va_D A0 (wr ++ wf u) → va_S A0 H0 H1 locs1 → W p l e R s m args below meth c H1 locs1 (cells + mc) (slots + ms) Q (F0 m (pc + 3) ls (.int r :: rest))) : W p l e R s m args below meth c H locs cells slots Q (F0 m pc ls st0) := by
  have hF := va_free (wc := w0) hD hS hA isC hC
  refine vx_calli hr hS (fun q _ h => hF q h) hF (fun q _ h => hF q h) (fun E ce q9 u t H1 locs1 ht _ _ hB _ hk1 hS1 h1 h2 h3 => ?_) (fun r u t H1 locs1 ht _ hw hB _ hk1 hS1 => ?_)
  · obtain ⟨hX, hP1, hD1⟩ := hB
    rw [ht] at hP1
    obtain ⟨hP2, hD2⟩ := va_join hP hD isC isR hC hR hn hdis hk1 hF hP1 hD1
    exact kx E ce q9 u H1 locs1 hX hP2 hD2 hS1 h1 h2 h3
  · obtain ⟨hP1, hD1⟩ := hB
    rw [ht] at hP1
    obtain ⟨hP2, hD2⟩ := va_join hP hD isC isR hC hR hn hdis hk1 hF hP1 hD1
    exact kk r u H1 locs1 hw hP2 hD2 hS1
theorem xcx_v {S : Type} {post : S → Prop} {PX : String → S → Prop} {wf : S → va_W} (hr : vx_Run p l e R s m args below meth c H locs cells slots mc ms (F0 m pc ls st0) rest (va_Qv post (xB D wf (va_A w0 H.size)) (va_A w0 H.size) av) (xX D wf (va_A w0 H.size) PX) (va_A w0 H.size)) (hP : va_P D vwCl ws H) (hD : va_D A0 ws) (hS : va_S A0 H0 H locs) (hA : ∀ q, H0.size ≤ q → A0 q) (isC isR : List Nat) (hC : isC.map (fun i => ws[i]?) = w0.map some) (hR : isR.map (fun i => ws[i]?) = wr.map some) (hn : va_nd isR = true) (hdis : ∀ i ∈ isR, i ∉ isC)
    (kx : ∀ (E : String) (ce : Cell) (q9 : Addr) (u : S) (H1 : Heap) (locs1 : List Loc), PX E u → va_P D vwCl (wr ++ wf u) H1 → va_D A0 (wr ++ wf u) → va_S A0 H0 H1 locs1 → H1[q9]? = some ce → ce.vm = .none → s.vm.findClass E = some ce.cls → vx_W p l e R s m args below meth c H1 locs1 (cells + mc) (slots + ms) Q (F0 m pc ls rest) q9)
    (kk : ∀ (u : S) (H1 : Heap) (locs1 : List Loc), post u → va_P D vwCl (wr ++ wf u) H1 → va_D A0 (wr ++ wf u) → va_S A0 H0 H1 locs1 → W p l e R s m args below meth c H1 locs1 (cells + mc) (slots + ms) Q (F0 m (pc + 3) ls rest)) : W p l e R s m args below meth c H locs cells slots Q (F0 m pc ls st0) := by
  have hF := va_free (wc := w0) hD hS hA isC hC
  refine vx_callv hr hS (fun q _ h => hF q h) hF (fun q _ h => hF q h) (fun E ce q9 u t H1 locs1 ht _ _ hB _ hk1 hS1 h1 h2 h3 => ?_) (fun u t H1 locs1 ht _ hw hB _ hk1 hS1 => ?_)
  · obtain ⟨hX, hP1, hD1⟩ := hB
    rw [ht] at hP1
    obtain ⟨hP2, hD2⟩ := va_join hP hD isC isR hC hR hn hdis hk1 hF hP1 hD1
    exact kx E ce q9 u H1 locs1 hX hP2 hD2 hS1 h1 h2 h3
  · obtain ⟨hP1, hD1⟩ := hB
    rw [ht] at hP1
    obtain ⟨hP2, hD2⟩ := va_join hP hD isC isR hC hR hn hdis hk1 hF hP1 hD1
    exact kk u H1 locs1 hw hP2 hD2 hS1
/-- what a throw by the method itself leaves: the world as it stands -/
theorem xX_of {S : Type} {wf : S → va_W} {A : Nat → Prop} {PX : String → S → Prop} {E : String} {t : State} (u : S) (hX : PX E u) (hP : va_P D vwCl (wf u) H) (hD : va_D A (wf u)) (hS : va_S A s.heap H locs) (hz : H.size ≤ t.heap.size) (hk : ∀ q : Nat, q < H.size → t.heap[q]? = H[q]?) : xX D wf A PX E s t :=
  ⟨u, trivial, ⟨hX, va_P_kept hP hk, hD⟩, Nat.le_trans hS.1 hz, fun q h1 h2 => (hk q (Nat.lt_of_lt_of_le h1 hS.1)).trans (hS.2.1 q h1 h2)⟩
/-- what goes on to the caller -/
theorem xX_on {S : Type} {wf : S → va_W} {A : Nat → Prop} {PX : String → S → Prop} {E : String} {t : State} (u : S) (hX : PX E u) (hP : va_P D vwCl (wf u) H) (hD : va_D A (wf u)) (hS : va_S A s.heap H locs) (ht : t.heap = H) : xX D wf A PX E s t :=
  ⟨u, trivial, ⟨hX, by rw [ht]; exact hP, hD⟩, hS.F ht⟩
end XT
abbrev eIA : String := "java/lang/IllegalArgumentException"
abbrev eIS : String := "java/lang/IllegalStateException"
abbrev eIO : String := "java/lang/IndexOutOfBoundsException"
abbrev eNs : List String := ["java/lang/RuntimeException", "java/lang/Exception"]
def exB (X : String) : List Cond := [.castable X X, .declares (Jvm.Bundle.initS "java/lang/RuntimeException"), .declares (Jvm.Bundle.initS "java/lang/Exception"), .declares (Jvm.Bundle.initS "java/lang/Throwable")]
theorem exB_ok {args : Array Value} {s : State} {X : String} (h : NW s) (hX : (X, X) ∈ nestC) : ∀ w ∈ exB X, w.before args s = true :=
  vx_c (va_Nw.use rfl (NW.c h hX)) (vx_c (va_Nw.use rfl (NW.d h (by decide +kernel))) (vx_c (va_Nw.use rfl (NW.d h (by decide +kernel))) (vx_c (va_Nw.use rfl (NW.d h (by decide +kernel))) vx_n)))
theorem hat_X6_eIO {args : Array Value} {s : State} (h : NW s) (h1 : ∀ w ∈ (vx_atS RX6 64 eIO eNs).filter goodWord, w.before args s = true) : ∀ w ∈ vx_atS RX6 64 eIO eNs, w.before args s = true := vx_hat h1 (B := exB eIO) (by decide +kernel) (exB_ok h (by decide +kernel))
theorem hgo_X6_eIO_60 : ∀ w ∈ Cond.classLink RX6 60 eIO :: Cond.initialized eIO :: vx_atS RX6 64 eIO eNs, vx_ot w = true := by decide +kernel
theorem hns_X : ∀ n ∈ eNs, Jvm.Bundle.fit n = true := by decide +kernel
