/-! THE LAW'S HELPERS: a call of the family, its exception as a code -/
def NC (U : State) : Prop := va_Nc eIO eIA U ∧ va_Nc eIS eIA U ∧ va_Nc eIO eIS U
theorem NC.moved {u U : State} (hvm : u.vm.Alike U.vm) (h : NC u) : NC U := ⟨va_Nc.moved hvm h.1, va_Nc.moved hvm h.2.1, va_Nc.moved hvm h.2.2⟩
def xPcH (D : va_G) (tys : List (ClassId × FieldType)) (av : List Value) (w : va_W) (sz : Nat) : Array Value → State → Prop := va_Pc av (fun U => U.heap.size = sz ∧ va_P D vwCl w U.heap ∧ xK D tys U ∧ va_D (fun _ => True) w ∧ TZ (va_A w sz) U U.heap ∧ NC U)
theorem xPcH.blind {D : va_G} {tys : List (ClassId × FieldType)} {av : List Value} {w : va_W} {sz : Nat} : FrameBlind (xPcH D tys av w sz) := fun a U g mk q => by
  obtain ⟨q0, q1, qP, qK, qD, qT, qN⟩ := q
  exact ⟨q0, q1, qP, ⟨va_K.moved (u := U) (U := U.calling g mk a) (Vm.Alike.refl U.vm) qK.1, NW.same (u := U) (U := U.calling g mk a) rfl qK.2⟩, qD, ⟨vx_Zq.moved (u := U) (U := U.calling g mk a) (Vm.Alike.refl U.vm) qT.1, vx_Zq.moved (u := U) (U := U.calling g mk a) (Vm.Alike.refl U.vm) qT.2⟩, NC.moved (u := U) (U := U.calling g mk a) (Vm.Alike.refl U.vm) qN⟩
theorem xPreSH {s : State} {H : Heap} {A0 : Nat → Prop} {locs : List Loc} {D : va_G} {tys : List (ClassId × FieldType)} {ws w0 : va_W} {As : List Value} (hK : xK D tys s) (hT : TZ A0 s s.heap) (hN : NC s) (hP : va_P D vwCl ws H) (hD : va_D A0 ws) (hS : va_S A0 s.heap H locs) (hA : ∀ q, s.heap.size ≤ q → A0 q) (isC : List Nat) (hn : va_nd isC = true) (hC : isC.map (fun i => ws[i]?) = w0.map some) : PreS s H (xPcH D tys As w0 H.size) As :=
  ⟨xPcH.blind, fun U hU hW => ⟨rfl, by rw [hU], by rw [hU]; exact va_P_pick hP isC hC, hK.warm hW, (hD.sub isC hn hC).weaken (fun _ _ _ _ => trivial), TZ.at hT hS (va_free hD hS hA isC hC) hU hW, NC.moved hW.alike hN⟩⟩
theorem tabEq {L : List ExceptionTableEntry} {hs : List (Nat × Nat × Nat × Nat)} (h : L.map (fun h => (h.startPc, h.endPc, h.handlerPc, h.catchType)) = hs) : L = hs.map (fun q => (⟨q.1, q.2.1, q.2.2.1, q.2.2.2⟩ : ExceptionTableEntry)) := by
  rw [← h, List.map_map]
  exact (List.map_id' L).symm
theorem oL_eq (f : Nat → Int64) (k : Nat) (v : Int64) : vp_updL f k v k = v := by unfold vp_updL; exact if_pos rfl
abbrev MO : Type := MS × (Nat → Int64)
def wH (ca : Nat → ClassId) (f kq : Nat → Nat) (ad : Nat → Nat → Nat) (i0 g : Nat) (u : MO) : va_W := (wX ca f kq ad) ++ (wKd kq) ++ (wMp ca kq (ad i0) u.1) ++ [(g, .inl (ca 1, 1, .inr (.inl u.2)))]
theorem xA_or {c : Int32} (h : ¬ c = 0) (hc : c = 0 ∨ c = 1 ∨ c = 2) {E : String} (hE : E = xA c) : (c = 1 ∧ E = eIA) ∨ (c = 2 ∧ E = eIO) := by
  rcases hc with rfl | rfl | rfl
  · exact absurd rfl h
  · exact Or.inl ⟨rfl, hE⟩
  · exact Or.inr ⟨rfl, hE⟩
/-- the codes that a method can have -/
theorem GG_c {A : Type} {z : A} {F : RW → A × Int32 × RW} {P : Int32 → Prop} (h1 : P 1) (hF : ∀ r, P (F r).2.1) (mm : Int32) (r : RW) : P (GG z F mm r).2.1 := by
  unfold GG
  by_cases c : isB mm 3 = true
  · rw [if_pos c]; exact hF r
  · rw [if_neg c]; exact h1
theorem co_make (k o : Int32) (r : RW) : (F_make k o r).2.1 = 0 ∨ (F_make k o r).2.1 = 1 := by unfold F_make; split <;> simp
theorem co_enter (k v : Int32) (r : RW) : (F_enter k v r).2.1 = 0 ∨ (F_enter k v r).2.1 = 1 ∨ (F_enter k v r).2.1 = 2 := by unfold F_enter; (repeat' split) <;> simp
theorem co_remove (k : Int32) (r : RW) : (F_remove k r).2.1 = 0 ∨ (F_remove k r).2.1 = 1 := by unfold F_remove; split <;> simp
theorem co_get (k : Int32) (r : RW) : (F_get k r).2.1 = 0 ∨ (F_get k r).2.1 = 1 ∨ (F_get k r).2.1 = 2 := by unfold F_get; split <;> simp
theorem co_near (w k : Int32) (r : RW) : (F_near w k r).2.1 = 0 ∨ (F_near w k r).2.1 = 1 ∨ (F_near w k r).2.1 = 2 := by unfold F_near; (repeat' split) <;> simp
theorem co_size (r : RW) : (F_size r).2.1 = 0 ∨ (F_size r).2.1 = 1 := Or.inl rfl
theorem co_rank (k : Int32) (r : RW) : (F_rank k r).2.1 = 0 ∨ (F_rank k r).2.1 = 1 := Or.inl rfl
theorem co_select (k : Int32) (r : RW) : (F_select k r).2.1 = 0 ∨ (F_select k r).2.1 = 1 ∨ (F_select k r).2.1 = 2 := by unfold F_select; split <;> simp
theorem co_sum (k : Int32) (r : RW) : (F_sum k r).2.1 = 0 ∨ (F_sum k r).2.1 = 1 := Or.inl rfl
theorem co_range (h a b : Int32) (r : RW) : (F_range h a b r).2.1 = 0 ∨ (F_range h a b r).2.1 = 1 := by unfold F_range; split <;> simp
theorem co_within (w : Int32) (r : RW) : (F_within w r).2.1 = 0 ∨ (F_within w r).2.1 = 1 ∨ (F_within w r).2.1 = 2 := by unfold F_within; (repeat' split) <;> simp
theorem co_putWithin (k v : Int32) (r : RW) : (F_putWithin k v r).2.1 = 0 ∨ (F_putWithin k v r).2.1 = 1 ∨ (F_putWithin k v r).2.1 = 2 := by
  unfold F_putWithin
  split
  · exact Or.inr (Or.inl rfl)
  · exact co_enter k v r
theorem co_poll (b : Bool) (r : RW) : (F_poll b r).2.1 = 0 ∨ (F_poll b r).2.1 = 1 ∨ (F_poll b r).2.1 = 2 := by unfold F_poll; split <;> simp
theorem co_iterate (b : Bool) (r : RW) : (F_iterate b r).2.1 = 0 ∨ (F_iterate b r).2.1 = 1 := Or.inl rfl
theorem co_next (r : RW) : (F_next r).2.1 = 0 ∨ (F_next r).2.1 = 1 ∨ (F_next r).2.1 = 2 ∨ (F_next r).2.1 = 3 := by unfold F_next; (repeat' split) <;> simp
theorem co_drop (r : RW) : (F_drop r).2.1 = 0 ∨ (F_drop r).2.1 = 1 ∨ (F_drop r).2.1 = 2 := by unfold F_drop; split <;> simp
theorem co_changes (r : RW) : (F_changes r).2.1 = 0 ∨ (F_changes r).2.1 = 1 := Or.inl rfl
theorem co_audit (r : RW) : (F_audit r).2.1 = 0 ∨ (F_audit r).2.1 = 1 := Or.inl rfl
theorem co_join (op : Int32) (r s2 : RW) : (F_join op r s2).2.1 = 0 ∨ (F_join op r s2).2.1 = 1 ∨ (F_join op r s2).2.1 = 2 := by unfold F_join; (repeat' split) <;> simp
theorem co_GJ (op mm nn : Int32) (r s2 : RW) : (GJ op mm nn r s2).2.1 = 0 ∨ (GJ op mm nn r s2).2.1 = 1 ∨ (GJ op mm nn r s2).2.1 = 2 := by
  unfold GJ
  split
  · exact co_join op r s2
  · exact Or.inr (Or.inl rfl)
theorem bO_0 {x : Int32} (h : x = 0) : (0 : Int64) = (if x = 0 then 0 else 1) := (if_pos h).symm
theorem bO_1 {x : Int32} (h : ¬ x = 0) : (1 : Int64) = (if x = 0 then 0 else 1) := (if_neg h).symm
section XL
variable {p : Program} {l : Launch} {e : Env} {R : Room} {s : State} {m : MethodId} {args : Array Value} {below : List Frame} {meth : Method} {c : Code} {H : Heap} {locs : List Loc} {cells slots : Nat} {Q : State → Prop}
variable {pc : Nat} {ls : Array Slot} {rest st0 : List Value} {av : Array Value} {A0 : Nat → Prop} {H0 : Heap} {mc ms : Nat} {D : va_G} {tys : List (ClassId × FieldType)} {ws w0 wr : va_W}
theorem xcx_l {S : Type} {post : Int64 → S → Prop} {PX : String → S → Prop} {wf : S → va_W} (hr : vx_Run p l e R s m args below meth c H locs cells slots mc ms (F0 m pc ls st0) rest (va_Ql post (xB D wf (va_A w0 H.size)) (va_A w0 H.size) av) (xX D wf (va_A w0 H.size) PX) (va_A w0 H.size)) (hP : va_P D vwCl ws H) (hD : va_D A0 ws) (hS : va_S A0 H0 H locs) (hA : ∀ q, H0.size ≤ q → A0 q) (isC isR : List Nat) (hC : isC.map (fun i => ws[i]?) = w0.map some) (hR : isR.map (fun i => ws[i]?) = wr.map some) (hn : va_nd isR = true) (hdis : ∀ i ∈ isR, i ∉ isC)
    (kx : ∀ (E : String) (ce : Cell) (q9 : Addr) (u : S) (H1 : Heap) (locs1 : List Loc), PX E u → va_P D vwCl (wr ++ wf u) H1 → va_D A0 (wr ++ wf u) → va_S A0 H0 H1 locs1 → H1[q9]? = some ce → ce.vm = .none → s.vm.findClass E = some ce.cls → vx_W p l e R s m args below meth c H1 locs1 (cells + mc) (slots + ms) Q (F0 m pc ls rest) q9)
    (kk : ∀ (r : Int64) (u : S) (H1 : Heap) (locs1 : List Loc), post r u → va_P D vwCl (wr ++ wf u) H1 → va_D A0 (wr ++ wf u) → va_S A0 H0 H1 locs1 → W p l e R s m args below meth c H1 locs1 (cells + mc) (slots + ms) Q (F0 m (pc + 3) ls (.long r :: rest))) : W p l e R s m args below meth c H locs cells slots Q (F0 m pc ls st0) := by
  have hF := va_free (wc := w0) hD hS hA isC hC
  refine vx_calll hr hS (fun q _ h => hF q h) hF (fun q _ h => hF q h) (fun E ce q9 u t H1 locs1 ht _ _ hB _ hk1 hS1 h1 h2 h3 => ?_) (fun r u t H1 locs1 ht _ hw hB _ hk1 hS1 => ?_)
  · obtain ⟨hX, hP1, hD1⟩ := hB
    rw [ht] at hP1
    obtain ⟨hP2, hD2⟩ := va_join hP hD isC isR hC hR hn hdis hk1 hF hP1 hD1
    exact kx E ce q9 u H1 locs1 hX hP2 hD2 hS1 h1 h2 h3
  · obtain ⟨hP1, hD1⟩ := hB
    rw [ht] at hP1
    obtain ⟨hP2, hD2⟩ := va_join hP hD isC isR hC hR hn hdis hk1 hF hP1 hD1
    exact kk r u H1 locs1 hw hP2 hD2 hS1
end XL
theorem cat_c {P : ExceptionTableEntry → Prop} {y : ExceptionTableEntry} {L : List ExceptionTableEntry} (h : P y) (hL : ∀ z ∈ L, P z) : ∀ z ∈ y :: L, P z := fun z hz => by
  rcases List.mem_cons.mp hz with rfl | hz
  · exact h
  · exact hL z hz
-- TreeFamilyLaw.make
set_option maxHeartbeats 4000000 in
set_option maxRecDepth 100000 in
theorem c_L_make (l : Launch) (D : va_G) (ca : Nat → ClassId) (f kq : Nat → Nat) (ad : Nat → Nat → Nat) (sz : Nat) (hl9 : l.stackTraces = false) (i0 : Nat) (m : MS) (r : RW) (N : Nat) (mm : Int32) (k9 o2 : Int32) (hR : Rel1 N m r) (hN : N ≤ 1000000) (hm : isB mm 3 = true → mm = nI i0 ∧ i0 < 3) : vx_Met l yL_make wsL_make ({ frames := 8, cells := 2, slots := 12, locals := 135 } : Room) (xPcH D (TY ca) [.ref (f 0), .int mm, .int k9, .int o2] ((wX ca f kq ad) ++ (wKd kq) ++ (wMp ca kq (ad i0) m)) sz) (va_Qi (fun (x : Int32) (u : MS) => x = (GG () (F_make k9 o2) mm r).2.1 ∧ Rel1 (N + 61) u (GG () (F_make k9 o2) mm r).2.2) (xB D (wF1 ca f kq ad i0) (va_A ((wX ca f kq ad) ++ (wKd kq) ++ (wMp ca kq (ad i0) m)) sz)) (va_A ((wX ca f kq ad) ++ (wKd kq) ++ (wMp ca kq (ad i0) m)) sz)) (xX D (wF1 ca f kq ad i0) (va_A ((wX ca f kq ad) ++ (wKd kq) ++ (wMp ca kq (ad i0) m)) sz) (fun (_ : String) (_ : MS) => False)) 2 12 (va_A ((wX ca f kq ad) ++ (wKd kq) ++ (wMp ca kq (ad i0) m)) sz) := by
  refine vx_ofWH (cc := cL_make) (maxL := 5) (ret := (some .int)) (by decide) rfl ?_
  intro p e s m9 args below meth c s₁ B hml hv
  obtain ⟨rfl, hsz, hP, hKN, hD0, hTZ, hNC⟩ := hv
  have hx := B.exec
  have hb := B.bytes
  have hr := B.returns
  have hts := atoms_spec (ws := wsL_make) B.pre
  have hown : s.vm.findClass RL = some m9.cls := findClass_of_methodNamed B.named
  have hTab : c.exceptionTable.toList = [(⟨0, 7, 10, 13⟩ : ExceptionTableEntry)] := by
    obtain ⟨m8, meth8, c8, n1, n2, n3, -, -, n6, -⟩ := Cond.codeWith_spec (hts _ List.mem_cons_self)
    cases Option.some.inj (n1.symm.trans B.named)
    cases Option.some.inj (n2.symm.trans B.method)
    cases Option.some.inj (n3.symm.trans (Stand.of_body B).code)
    exact tabEq n6
  have hlocks := B.notSynchronized
  subst hsz
  have hD := hD0.self (sz := s.heap.size)
  generalize hAe : va_A ((wX ca f kq ad) ++ (wKd kq) ++ (wMp ca kq (ad i0) m)) s.heap.size = A at hD hTZ ⊢
  have hA : ∀ q : Nat, s.heap.size ≤ q → A q := fun q h => by rw [← hAe]; exact Or.inr h
  have hS : va_S A s.heap s.heap [] := va_S.rf
  have hl := lv_entry ([.ref (f 0), .int mm, .int k9, .int o2]) (n := 5) (Nat.le_of_ble_eq_true rfl)
  rw [lg_entry_eq]
  generalize (lg_sl ([.ref (f 0), .int mm, .int k9, .int o2]) ++ List.replicate (5 - (lg_sl ([.ref (f 0), .int mm, .int k9, .int o2])).length) Slot.unset).toArray = ls at hl ⊢
  have hl : lv_has ls 5 [(0, .ref (f 0)), (1, .int mm), (2, .int k9), (3, .int o2)] := hl
  refine lv_aload_n hx hb dL_make_0 rfl (lv_at hl 0 rfl) ?_
  refine lv_iload_n hx hb dL_make_1 rfl (lv_at hl 1 rfl) ?_
  refine lv_iload_n hx hb dL_make_2 rfl (lv_at hl 2 rfl) ?_
  refine lv_iload_n hx hb dL_make_3 rfl (lv_at hl 3 rfl) ?_
  refine xcx_v (wr := []) (vx_runV (As := [.int mm, .int k9, .int o2]) (rest := []) ⟨hx, hb, hml, hown, hts⟩ (c_X10_make l D ca f kq ad _ hl9 i0 m r N mm k9 o2 hR hN hm) (cwV 3 hts gL_make_X10_make rfl rfl rfl (by decide +kernel) ⟨(Nat.le_of_ble_eq_true rfl), (Nat.le_of_ble_eq_true rfl)⟩) (xPreVT hKN hTZ hP hD hS hA [0, 1, 2, 3, 4, 5, 6, 7, 8, 9, 10, 11, 12, 13, 14, 15, 16, 17, 18, 19, 20] (by decide +kernel) rfl (q0 := 0) rfl rfl rfl) rfl rfl hl.1 rfl (lv_room (Nat.le_of_ble_eq_true rfl)) dL_make_4 ⟨(Nat.le_of_ble_eq_true rfl), (Nat.le_of_ble_eq_true rfl)⟩) hP hD hS hA [0, 1, 2, 3, 4, 5, 6, 7, 8, 9, 10, 11, 12, 13, 14, 15, 16, 17, 18, 19, 20] [] rfl rfl (by decide +kernel) (by decide +kernel) (fun E9 ce9 q9 u4 H locs hu4 hP hD hS h91 h92 h93 => ?_) (fun u4 H locs hu4 hP hD hS => ?_)
  · skip
    have hP : va_P D vwCl ((wX ca f kq ad) ++ (wKd kq) ++ (wMp ca kq (ad i0) u4)) H := hP
    have hD : va_D A ((wX ca f kq ad) ++ (wKd kq) ++ (wMp ca kq (ad i0) u4)) := hD
    obtain ⟨eE, hc9, hR9⟩ := hu4
    have hco : (GG () (F_make k9 o2) mm r).2.1 = 0 ∨ (GG () (F_make k9 o2) mm r).2.1 = 1 := GG_c (z := ()) (F := F_make k9 o2) (P := fun c => c = 0 ∨ c = 1) (by simp) (fun r => co_make k9 o2 r) mm r
    rcases hco with hc | hc
    · exact absurd hc hc9
    · rw [hc] at eE
      have eE : E9 = eIA := eE
      subst eE
      refine vx_catch hown [] (⟨0, 7, 10, 13⟩ : ExceptionTableEntry) [] hTab (fun z hz => absurd hz List.not_mem_nil) (by decide) (by show ¬ 13 = 0; decide) (name := eIA) (hts (.classLink RL 13 eIA) (by decide +kernel)) (va_Nw.use rfl (NW.c hKN.2 (by decide +kernel))) h91 h92 h93 ?_
      refine lv_astore (lv' := [(4, .ref q9), (0, .ref (f 0)), (1, .int mm), (2, .int k9), (3, .int o2)]) hx hb dL_make_10 hl (by decide) rfl (fun ls hl => ?_)
      refine lv_iconst (v := 1) hx hb dL_make_12 (by decide) ?_
      refine W.widen (k := 2) (n := 12) (by omega) (by omega) ?_
      exact vx_ret (W.iret (v := 1) hx hb hr (fun t9 e9 w9 => ⟨⟨_, u4, rfl, ⟨hc.symm, hR9⟩, by rw [e9]; exact hP, hD⟩, hS.F e9⟩) hS.2.2 dL_make_13)
  · skip
    have hP : va_P D vwCl ((wX ca f kq ad) ++ (wKd kq) ++ (wMp ca kq (ad i0) u4)) H := hP
    have hD : va_D A ((wX ca f kq ad) ++ (wKd kq) ++ (wMp ca kq (ad i0) u4)) := hD
    obtain ⟨er4, ec4, hR9⟩ := hu4
    refine lv_goto (tgt := 14) hx hb dL_make_7 (by decide) ?_
    refine lv_iconst (v := 0) hx hb dL_make_14 (by decide) ?_
    refine W.widen (k := 2) (n := 12) (by omega) (by omega) ?_
    exact vx_ret (W.iret (v := 0) hx hb hr (fun t9 e9 w9 => ⟨⟨_, u4, rfl, ⟨ec4.symm, hR9⟩, by rw [e9]; exact hP, hD⟩, hS.F e9⟩) hS.2.2 dL_make_15)

-- TreeFamilyLaw.put
set_option maxHeartbeats 4000000 in
set_option maxRecDepth 100000 in
theorem c_L_put (l : Launch) (D : va_G) (ca : Nat → ClassId) (f kq : Nat → Nat) (ad : Nat → Nat → Nat) (sz : Nat) (hl9 : l.stackTraces = false) (i0 g : Nat) (m : MS) (ov : Nat → Int64) (r : RW) (N : Nat) (mm : Int32) (key v : Int32) (hR : Rel1 N m r) (hN : N ≤ 1000000) (hm : isB mm 3 = true → mm = nI i0 ∧ i0 < 3) : vx_Met l yL_put wsL_put ({ frames := 68, cells := 2, slots := 12, locals := 1684 } : Room) (xPcH D (TY ca) [.ref (f 0), .int mm, .int key, .int v, .ref g] ((wX ca f kq ad) ++ (wKd kq) ++ (wMp ca kq (ad i0) m) ++ [(g, .inl (ca 1, 1, .inr (.inl ov)))]) sz) (va_Qi (fun (x : Int32) (u : MO) => x = (GG (0 : Int32) (F_enter key v) mm r).2.1 ∧ Rel1 (N + 61) u.1 (GG (0 : Int32) (F_enter key v) mm r).2.2 ∧ (x = 0 → u.2 0 = (if (GG (0 : Int32) (F_enter key v) mm r).1 = 0 then 0 else 1))) (xB D (wH ca f kq ad i0 g) (va_A ((wX ca f kq ad) ++ (wKd kq) ++ (wMp ca kq (ad i0) m) ++ [(g, .inl (ca 1, 1, .inr (.inl ov)))]) sz)) (va_A ((wX ca f kq ad) ++ (wKd kq) ++ (wMp ca kq (ad i0) m) ++ [(g, .inl (ca 1, 1, .inr (.inl ov)))]) sz)) (xX D (wH ca f kq ad i0 g) (va_A ((wX ca f kq ad) ++ (wKd kq) ++ (wMp ca kq (ad i0) m) ++ [(g, .inl (ca 1, 1, .inr (.inl ov)))]) sz) (fun (_ : String) (_ : MO) => False)) 2 12 (va_A ((wX ca f kq ad) ++ (wKd kq) ++ (wMp ca kq (ad i0) m) ++ [(g, .inl (ca 1, 1, .inr (.inl ov)))]) sz) := by
  refine vx_ofWH (cc := cL_put) (maxL := 6) (ret := (some .int)) (by decide) rfl ?_
  intro p e s m9 args below meth c s₁ B hml hv
  obtain ⟨rfl, hsz, hP, hKN, hD0, hTZ, hNC⟩ := hv
  have hx := B.exec
  have hb := B.bytes
  have hr := B.returns
  have hts := atoms_spec (ws := wsL_put) B.pre
  have hown : s.vm.findClass RL = some m9.cls := findClass_of_methodNamed B.named
  have hTab : c.exceptionTable.toList = [(⟨0, 19, 22, 13⟩ : ExceptionTableEntry), (⟨0, 19, 26, 19⟩ : ExceptionTableEntry)] := by
    obtain ⟨m8, meth8, c8, n1, n2, n3, -, -, n6, -⟩ := Cond.codeWith_spec (hts _ List.mem_cons_self)
    cases Option.some.inj (n1.symm.trans B.named)
    cases Option.some.inj (n2.symm.trans B.method)
    cases Option.some.inj (n3.symm.trans (Stand.of_body B).code)
    exact tabEq n6
  have hlocks := B.notSynchronized
  subst hsz
  have hD := hD0.self (sz := s.heap.size)
  generalize hAe : va_A ((wX ca f kq ad) ++ (wKd kq) ++ (wMp ca kq (ad i0) m) ++ [(g, .inl (ca 1, 1, .inr (.inl ov)))]) s.heap.size = A at hD hTZ ⊢
  have hA : ∀ q : Nat, s.heap.size ≤ q → A q := fun q h => by rw [← hAe]; exact Or.inr h
  have hS : va_S A s.heap s.heap [] := va_S.rf
  have hl := lv_entry ([.ref (f 0), .int mm, .int key, .int v, .ref g]) (n := 6) (Nat.le_of_ble_eq_true rfl)
  rw [lg_entry_eq]
  generalize (lg_sl ([.ref (f 0), .int mm, .int key, .int v, .ref g]) ++ List.replicate (6 - (lg_sl ([.ref (f 0), .int mm, .int key, .int v, .ref g])).length) Slot.unset).toArray = ls at hl ⊢
  have hl : lv_has ls 6 [(0, .ref (f 0)), (1, .int mm), (2, .int key), (3, .int v), (4, .ref g)] := hl
  refine lv_aload hx hb dL_put_0 (lv_at hl 4 rfl) ?_
  refine lv_iconst (v := 0) hx hb dL_put_2 (by decide) ?_
  refine lv_aload_n hx hb dL_put_3 rfl (lv_at hl 0 rfl) ?_
  refine lv_iload_n hx hb dL_put_4 rfl (lv_at hl 1 rfl) ?_
  refine lv_iload_n hx hb dL_put_5 rfl (lv_at hl 2 rfl) ?_
  refine lv_iload_n hx hb dL_put_6 rfl (lv_at hl 3 rfl) ?_
  refine xcx_i (wr := [(g, .inl (ca 1, 1, .inr (.inl ov)))]) (vx_runV (As := [.int mm, .int key, .int v]) (rest := [.int 0, .ref g]) ⟨hx, hb, hml, hown, hts⟩ (c_X10_put l D ca f kq ad _ hl9 i0 m r N mm key v hR hN hm) (cwV 3 hts gL_put_X10_put rfl rfl rfl (by decide +kernel) ⟨(Nat.le_of_ble_eq_true rfl), (Nat.le_of_ble_eq_true rfl)⟩) (xPreVT hKN hTZ hP hD hS hA [0, 1, 2, 3, 4, 5, 6, 7, 8, 9, 10, 11, 12, 13, 14, 15, 16, 17, 18, 19, 20] (by decide +kernel) rfl (q0 := 0) rfl rfl rfl) rfl rfl hl.1 rfl (lv_room (Nat.le_of_ble_eq_true rfl)) dL_put_7 ⟨(Nat.le_of_ble_eq_true rfl), (Nat.le_of_ble_eq_true rfl)⟩) hP hD hS hA [0, 1, 2, 3, 4, 5, 6, 7, 8, 9, 10, 11, 12, 13, 14, 15, 16, 17, 18, 19, 20] [21] rfl rfl (by decide +kernel) (by decide +kernel) (fun E9 ce9 q9 u7 H locs hu7 hP hD hS h91 h92 h93 => ?_) (fun r7 u7 H locs hu7 hP hD hS => ?_)
  · skip
    have hP : va_P D vwCl ((wX ca f kq ad) ++ (wKd kq) ++ (wMp ca kq (ad i0) u7) ++ [(g, .inl (ca 1, 1, .inr (.inl ov)))]) H := hP.sub (ws' := (wX ca f kq ad) ++ (wKd kq) ++ (wMp ca kq (ad i0) u7) ++ [(g, .inl (ca 1, 1, .inr (.inl ov)))]) [1, 2, 3, 4, 5, 6, 7, 8, 9, 10, 11, 12, 13, 14, 15, 16, 17, 18, 19, 20, 21, 0] rfl
    have hD : va_D A ((wX ca f kq ad) ++ (wKd kq) ++ (wMp ca kq (ad i0) u7) ++ [(g, .inl (ca 1, 1, .inr (.inl ov)))]) := hD.sub (ws' := (wX ca f kq ad) ++ (wKd kq) ++ (wMp ca kq (ad i0) u7) ++ [(g, .inl (ca 1, 1, .inr (.inl ov)))]) [1, 2, 3, 4, 5, 6, 7, 8, 9, 10, 11, 12, 13, 14, 15, 16, 17, 18, 19, 20, 21, 0] (by decide +kernel) rfl
    obtain ⟨eE, hc9, hR9⟩ := hu7
    have hco : (GG (0 : Int32) (F_enter key v) mm r).2.1 = 0 ∨ (GG (0 : Int32) (F_enter key v) mm r).2.1 = 1 ∨ (GG (0 : Int32) (F_enter key v) mm r).2.1 = 2 := GG_c (z := (0 : Int32)) (F := F_enter key v) (P := fun c => c = 0 ∨ c = 1 ∨ c = 2) (by simp) (fun r => co_enter key v r) mm r
    rcases hco with hc | hc | hc
    · exact absurd hc hc9
    · rw [hc] at eE
      have eE : E9 = eIA := eE
      subst eE
      refine vx_catch hown [] (⟨0, 19, 22, 13⟩ : ExceptionTableEntry) [(⟨0, 19, 26, 19⟩ : ExceptionTableEntry)] hTab (fun z hz => absurd hz List.not_mem_nil) (by decide) (by show ¬ 13 = 0; decide) (name := eIA) (hts (.classLink RL 13 eIA) (by decide +kernel)) (va_Nw.use rfl (NW.c hKN.2 (by decide +kernel))) h91 h92 h93 ?_
      refine lv_astore (lv' := [(5, .ref q9), (0, .ref (f 0)), (1, .int mm), (2, .int key), (3, .int v), (4, .ref g)]) hx hb dL_put_22 hl (by decide) rfl (fun ls hl => ?_)
      refine lv_iconst (v := 1) hx hb dL_put_24 (by decide) ?_
      refine W.widen (k := 2) (n := 12) (by omega) (by omega) ?_
      exact vx_ret (W.iret (v := 1) hx hb hr (fun t9 e9 w9 => ⟨⟨_, (u7, ov), rfl, ⟨hc.symm, hR9, fun q => absurd q (by decide)⟩, by rw [e9]; exact hP, hD⟩, hS.F e9⟩) hS.2.2 dL_put_25)
    · rw [hc] at eE
      have eE : E9 = eIO := eE
      subst eE
      skip
      refine vx_catch hown [(⟨0, 19, 22, 13⟩ : ExceptionTableEntry)] (⟨0, 19, 26, 19⟩ : ExceptionTableEntry) [] hTab (cat_c (Or.inr ⟨(by show ¬ 13 = 0; decide), eIA, hts (.classLink RL 13 eIA) (by decide +kernel), hNC.1⟩) (fun z hz => absurd hz List.not_mem_nil)) (by decide) (by show ¬ 19 = 0; decide) (name := eIO) (hts (.classLink RL 19 eIO) (by decide +kernel)) (va_Nw.use rfl (NW.c hKN.2 (by decide +kernel))) h91 h92 h93 ?_
      refine lv_astore (lv' := [(5, .ref q9), (0, .ref (f 0)), (1, .int mm), (2, .int key), (3, .int v), (4, .ref g)]) hx hb dL_put_26 hl (by decide) rfl (fun ls hl => ?_)
      refine lv_iconst (v := 2) hx hb dL_put_28 (by decide) ?_
      refine W.widen (k := 2) (n := 12) (by omega) (by omega) ?_
      exact vx_ret (W.iret (v := 2) hx hb hr (fun t9 e9 w9 => ⟨⟨_, (u7, ov), rfl, ⟨hc.symm, hR9, fun q => absurd q (by decide)⟩, by rw [e9]; exact hP, hD⟩, hS.F e9⟩) hS.2.2 dL_put_29)
  · skip
    have hP : va_P D vwCl ((wX ca f kq ad) ++ (wKd kq) ++ (wMp ca kq (ad i0) u7) ++ [(g, .inl (ca 1, 1, .inr (.inl ov)))]) H := hP.sub (ws' := (wX ca f kq ad) ++ (wKd kq) ++ (wMp ca kq (ad i0) u7) ++ [(g, .inl (ca 1, 1, .inr (.inl ov)))]) [1, 2, 3, 4, 5, 6, 7, 8, 9, 10, 11, 12, 13, 14, 15, 16, 17, 18, 19, 20, 21, 0] rfl
    have hD : va_D A ((wX ca f kq ad) ++ (wKd kq) ++ (wMp ca kq (ad i0) u7) ++ [(g, .inl (ca 1, 1, .inr (.inl ov)))]) := hD.sub (ws' := (wX ca f kq ad) ++ (wKd kq) ++ (wMp ca kq (ad i0) u7) ++ [(g, .inl (ca 1, 1, .inr (.inl ov)))]) [1, 2, 3, 4, 5, 6, 7, 8, 9, 10, 11, 12, 13, 14, 15, 16, 17, 18, 19, 20, 21, 0] (by decide +kernel) rfl
    obtain ⟨er7, ec7, hR9⟩ := hu7
    subst er7
    refine lv_if_eq (tgt := 17) hx hb dL_put_10 (by decide) (fun c10 => ?_) (fun c10 => ?_)
    · skip
      refine lv_lconst (v := 0) hx hb dL_put_17 (by decide) ?_
      refine xr_lst hx hb hKN.1 hP hD hS 21 1 rfl rfl (j := 0) (by decide) (by decide) dL_put_18 (fun H locs hP hD hS => ?_)
      have hP : va_P D vwCl ((wX ca f kq ad) ++ (wKd kq) ++ (wMp ca kq (ad i0) u7) ++ [(g, .inl (ca 1, 1, .inr (.inl (vp_updL ov 0 0))))]) H := hP
      have hD : va_D A ((wX ca f kq ad) ++ (wKd kq) ++ (wMp ca kq (ad i0) u7) ++ [(g, .inl (ca 1, 1, .inr (.inl (vp_updL ov 0 0))))]) := hD
      refine lv_goto (tgt := 30) hx hb dL_put_19 (by decide) ?_
      refine lv_iconst (v := 0) hx hb dL_put_30 (by decide) ?_
      refine W.widen (k := 2) (n := 12) (by omega) (by omega) ?_
      exact vx_ret (W.iret (v := 0) hx hb hr (fun t9 e9 w9 => ⟨⟨_, (u7, vp_updL ov 0 0), rfl, ⟨ec7.symm, hR9, fun _ => (oL_eq ov 0 _).trans (by first | exact bO_0 c10 | exact bO_1 c10)⟩, by rw [e9]; exact hP, hD⟩, hS.F e9⟩) hS.2.2 dL_put_31)
    · skip
      refine lv_lconst (v := 1) hx hb dL_put_13 (by decide) ?_
      refine lv_goto (tgt := 18) hx hb dL_put_14 (by decide) ?_
      refine xr_lst hx hb hKN.1 hP hD hS 21 1 rfl rfl (j := 0) (by decide) (by decide) dL_put_18 (fun H locs hP hD hS => ?_)
      have hP : va_P D vwCl ((wX ca f kq ad) ++ (wKd kq) ++ (wMp ca kq (ad i0) u7) ++ [(g, .inl (ca 1, 1, .inr (.inl (vp_updL ov 0 1))))]) H := hP
      have hD : va_D A ((wX ca f kq ad) ++ (wKd kq) ++ (wMp ca kq (ad i0) u7) ++ [(g, .inl (ca 1, 1, .inr (.inl (vp_updL ov 0 1))))]) := hD
      refine lv_goto (tgt := 30) hx hb dL_put_19 (by decide) ?_
      refine lv_iconst (v := 0) hx hb dL_put_30 (by decide) ?_
      refine W.widen (k := 2) (n := 12) (by omega) (by omega) ?_
      exact vx_ret (W.iret (v := 0) hx hb hr (fun t9 e9 w9 => ⟨⟨_, (u7, vp_updL ov 0 1), rfl, ⟨ec7.symm, hR9, fun _ => (oL_eq ov 0 _).trans (by first | exact bO_0 c10 | exact bO_1 c10)⟩, by rw [e9]; exact hP, hD⟩, hS.F e9⟩) hS.2.2 dL_put_31)

-- TreeFamilyLaw.remove
set_option maxHeartbeats 4000000 in
set_option maxRecDepth 100000 in
theorem c_L_remove (l : Launch) (D : va_G) (ca : Nat → ClassId) (f kq : Nat → Nat) (ad : Nat → Nat → Nat) (sz : Nat) (hl9 : l.stackTraces = false) (i0 g : Nat) (m : MS) (ov : Nat → Int64) (r : RW) (N : Nat) (mm : Int32) (key : Int32) (hR : Rel1 N m r) (hN : N ≤ 1000000) (hm : isB mm 3 = true → mm = nI i0 ∧ i0 < 3) : vx_Met l yL_remove wsL_remove ({ frames := 68, cells := 2, slots := 12, locals := 1681 } : Room) (xPcH D (TY ca) [.ref (f 0), .int mm, .int key, .ref g] ((wX ca f kq ad) ++ (wKd kq) ++ (wMp ca kq (ad i0) m) ++ [(g, .inl (ca 1, 1, .inr (.inl ov)))]) sz) (va_Qi (fun (x : Int32) (u : MO) => x = (GG (0 : Int32) (F_remove key) mm r).2.1 ∧ Rel1 (N + 61) u.1 (GG (0 : Int32) (F_remove key) mm r).2.2 ∧ (x = 0 → u.2 0 = (if (GG (0 : Int32) (F_remove key) mm r).1 = 0 then 0 else 1))) (xB D (wH ca f kq ad i0 g) (va_A ((wX ca f kq ad) ++ (wKd kq) ++ (wMp ca kq (ad i0) m) ++ [(g, .inl (ca 1, 1, .inr (.inl ov)))]) sz)) (va_A ((wX ca f kq ad) ++ (wKd kq) ++ (wMp ca kq (ad i0) m) ++ [(g, .inl (ca 1, 1, .inr (.inl ov)))]) sz)) (xX D (wH ca f kq ad i0 g) (va_A ((wX ca f kq ad) ++ (wKd kq) ++ (wMp ca kq (ad i0) m) ++ [(g, .inl (ca 1, 1, .inr (.inl ov)))]) sz) (fun (_ : String) (_ : MO) => False)) 2 12 (va_A ((wX ca f kq ad) ++ (wKd kq) ++ (wMp ca kq (ad i0) m) ++ [(g, .inl (ca 1, 1, .inr (.inl ov)))]) sz) := by
  refine vx_ofWH (cc := cL_remove) (maxL := 5) (ret := (some .int)) (by decide) rfl ?_
  intro p e s m9 args below meth c s₁ B hml hv
  obtain ⟨rfl, hsz, hP, hKN, hD0, hTZ, hNC⟩ := hv
  have hx := B.exec
  have hb := B.bytes
  have hr := B.returns
  have hts := atoms_spec (ws := wsL_remove) B.pre
  have hown : s.vm.findClass RL = some m9.cls := findClass_of_methodNamed B.named
  have hTab : c.exceptionTable.toList = [(⟨0, 17, 20, 13⟩ : ExceptionTableEntry)] := by
    obtain ⟨m8, meth8, c8, n1, n2, n3, -, -, n6, -⟩ := Cond.codeWith_spec (hts _ List.mem_cons_self)
    cases Option.some.inj (n1.symm.trans B.named)
    cases Option.some.inj (n2.symm.trans B.method)
    cases Option.some.inj (n3.symm.trans (Stand.of_body B).code)
    exact tabEq n6
  have hlocks := B.notSynchronized
  subst hsz
  have hD := hD0.self (sz := s.heap.size)
  generalize hAe : va_A ((wX ca f kq ad) ++ (wKd kq) ++ (wMp ca kq (ad i0) m) ++ [(g, .inl (ca 1, 1, .inr (.inl ov)))]) s.heap.size = A at hD hTZ ⊢
  have hA : ∀ q : Nat, s.heap.size ≤ q → A q := fun q h => by rw [← hAe]; exact Or.inr h
  have hS : va_S A s.heap s.heap [] := va_S.rf
  have hl := lv_entry ([.ref (f 0), .int mm, .int key, .ref g]) (n := 5) (Nat.le_of_ble_eq_true rfl)
  rw [lg_entry_eq]
  generalize (lg_sl ([.ref (f 0), .int mm, .int key, .ref g]) ++ List.replicate (5 - (lg_sl ([.ref (f 0), .int mm, .int key, .ref g])).length) Slot.unset).toArray = ls at hl ⊢
  have hl : lv_has ls 5 [(0, .ref (f 0)), (1, .int mm), (2, .int key), (3, .ref g)] := hl
  refine lv_aload_n hx hb dL_remove_0 rfl (lv_at hl 3 rfl) ?_
  refine lv_iconst (v := 0) hx hb dL_remove_1 (by decide) ?_
  refine lv_aload_n hx hb dL_remove_2 rfl (lv_at hl 0 rfl) ?_
  refine lv_iload_n hx hb dL_remove_3 rfl (lv_at hl 1 rfl) ?_
  refine lv_iload_n hx hb dL_remove_4 rfl (lv_at hl 2 rfl) ?_
  refine xcx_i (wr := [(g, .inl (ca 1, 1, .inr (.inl ov)))]) (vx_runV (As := [.int mm, .int key]) (rest := [.int 0, .ref g]) ⟨hx, hb, hml, hown, hts⟩ (c_X10_remove l D ca f kq ad _ hl9 i0 m r N mm key hR hN hm) (cwV 2 hts gL_remove_X10_remove rfl rfl rfl (by decide +kernel) ⟨(Nat.le_of_ble_eq_true rfl), (Nat.le_of_ble_eq_true rfl)⟩) (xPreVT hKN hTZ hP hD hS hA [0, 1, 2, 3, 4, 5, 6, 7, 8, 9, 10, 11, 12, 13, 14, 15, 16, 17, 18, 19, 20] (by decide +kernel) rfl (q0 := 0) rfl rfl rfl) rfl rfl hl.1 rfl (lv_room (Nat.le_of_ble_eq_true rfl)) dL_remove_5 ⟨(Nat.le_of_ble_eq_true rfl), (Nat.le_of_ble_eq_true rfl)⟩) hP hD hS hA [0, 1, 2, 3, 4, 5, 6, 7, 8, 9, 10, 11, 12, 13, 14, 15, 16, 17, 18, 19, 20] [21] rfl rfl (by decide +kernel) (by decide +kernel) (fun E9 ce9 q9 u5 H locs hu5 hP hD hS h91 h92 h93 => ?_) (fun r5 u5 H locs hu5 hP hD hS => ?_)
  · skip
    have hP : va_P D vwCl ((wX ca f kq ad) ++ (wKd kq) ++ (wMp ca kq (ad i0) u5) ++ [(g, .inl (ca 1, 1, .inr (.inl ov)))]) H := hP.sub (ws' := (wX ca f kq ad) ++ (wKd kq) ++ (wMp ca kq (ad i0) u5) ++ [(g, .inl (ca 1, 1, .inr (.inl ov)))]) [1, 2, 3, 4, 5, 6, 7, 8, 9, 10, 11, 12, 13, 14, 15, 16, 17, 18, 19, 20, 21, 0] rfl
    have hD : va_D A ((wX ca f kq ad) ++ (wKd kq) ++ (wMp ca kq (ad i0) u5) ++ [(g, .inl (ca 1, 1, .inr (.inl ov)))]) := hD.sub (ws' := (wX ca f kq ad) ++ (wKd kq) ++ (wMp ca kq (ad i0) u5) ++ [(g, .inl (ca 1, 1, .inr (.inl ov)))]) [1, 2, 3, 4, 5, 6, 7, 8, 9, 10, 11, 12, 13, 14, 15, 16, 17, 18, 19, 20, 21, 0] (by decide +kernel) rfl
    obtain ⟨eE, hc9, hR9⟩ := hu5
    have hco : (GG (0 : Int32) (F_remove key) mm r).2.1 = 0 ∨ (GG (0 : Int32) (F_remove key) mm r).2.1 = 1 := GG_c (z := (0 : Int32)) (F := F_remove key) (P := fun c => c = 0 ∨ c = 1) (by simp) (fun r => co_remove key r) mm r
    rcases hco with hc | hc
    · exact absurd hc hc9
    · rw [hc] at eE
      have eE : E9 = eIA := eE
      subst eE
      refine vx_catch hown [] (⟨0, 17, 20, 13⟩ : ExceptionTableEntry) [] hTab (fun z hz => absurd hz List.not_mem_nil) (by decide) (by show ¬ 13 = 0; decide) (name := eIA) (hts (.classLink RL 13 eIA) (by decide +kernel)) (va_Nw.use rfl (NW.c hKN.2 (by decide +kernel))) h91 h92 h93 ?_
      refine lv_astore (lv' := [(4, .ref q9), (0, .ref (f 0)), (1, .int mm), (2, .int key), (3, .ref g)]) hx hb dL_remove_20 hl (by decide) rfl (fun ls hl => ?_)
      refine lv_iconst (v := 1) hx hb dL_remove_22 (by decide) ?_
      refine W.widen (k := 2) (n := 12) (by omega) (by omega) ?_
      exact vx_ret (W.iret (v := 1) hx hb hr (fun t9 e9 w9 => ⟨⟨_, (u5, ov), rfl, ⟨hc.symm, hR9, fun q => absurd q (by decide)⟩, by rw [e9]; exact hP, hD⟩, hS.F e9⟩) hS.2.2 dL_remove_23)
  · skip
    have hP : va_P D vwCl ((wX ca f kq ad) ++ (wKd kq) ++ (wMp ca kq (ad i0) u5) ++ [(g, .inl (ca 1, 1, .inr (.inl ov)))]) H := hP.sub (ws' := (wX ca f kq ad) ++ (wKd kq) ++ (wMp ca kq (ad i0) u5) ++ [(g, .inl (ca 1, 1, .inr (.inl ov)))]) [1, 2, 3, 4, 5, 6, 7, 8, 9, 10, 11, 12, 13, 14, 15, 16, 17, 18, 19, 20, 21, 0] rfl
    have hD : va_D A ((wX ca f kq ad) ++ (wKd kq) ++ (wMp ca kq (ad i0) u5) ++ [(g, .inl (ca 1, 1, .inr (.inl ov)))]) := hD.sub (ws' := (wX ca f kq ad) ++ (wKd kq) ++ (wMp ca kq (ad i0) u5) ++ [(g, .inl (ca 1, 1, .inr (.inl ov)))]) [1, 2, 3, 4, 5, 6, 7, 8, 9, 10, 11, 12, 13, 14, 15, 16, 17, 18, 19, 20, 21, 0] (by decide +kernel) rfl
    obtain ⟨er5, ec5, hR9⟩ := hu5
    subst er5
    refine lv_if_eq (tgt := 15) hx hb dL_remove_8 (by decide) (fun c8 => ?_) (fun c8 => ?_)
    · skip
      refine lv_lconst (v := 0) hx hb dL_remove_15 (by decide) ?_
      refine xr_lst hx hb hKN.1 hP hD hS 21 1 rfl rfl (j := 0) (by decide) (by decide) dL_remove_16 (fun H locs hP hD hS => ?_)
      have hP : va_P D vwCl ((wX ca f kq ad) ++ (wKd kq) ++ (wMp ca kq (ad i0) u5) ++ [(g, .inl (ca 1, 1, .inr (.inl (vp_updL ov 0 0))))]) H := hP
      have hD : va_D A ((wX ca f kq ad) ++ (wKd kq) ++ (wMp ca kq (ad i0) u5) ++ [(g, .inl (ca 1, 1, .inr (.inl (vp_updL ov 0 0))))]) := hD
      refine lv_goto (tgt := 24) hx hb dL_remove_17 (by decide) ?_
      refine lv_iconst (v := 0) hx hb dL_remove_24 (by decide) ?_
      refine W.widen (k := 2) (n := 12) (by omega) (by omega) ?_
      exact vx_ret (W.iret (v := 0) hx hb hr (fun t9 e9 w9 => ⟨⟨_, (u5, vp_updL ov 0 0), rfl, ⟨ec5.symm, hR9, fun _ => (oL_eq ov 0 _).trans (by first | exact bO_0 c8 | exact bO_1 c8)⟩, by rw [e9]; exact hP, hD⟩, hS.F e9⟩) hS.2.2 dL_remove_25)
    · skip
      refine lv_lconst (v := 1) hx hb dL_remove_11 (by decide) ?_
      refine lv_goto (tgt := 16) hx hb dL_remove_12 (by decide) ?_
      refine xr_lst hx hb hKN.1 hP hD hS 21 1 rfl rfl (j := 0) (by decide) (by decide) dL_remove_16 (fun H locs hP hD hS => ?_)
      have hP : va_P D vwCl ((wX ca f kq ad) ++ (wKd kq) ++ (wMp ca kq (ad i0) u5) ++ [(g, .inl (ca 1, 1, .inr (.inl (vp_updL ov 0 1))))]) H := hP
      have hD : va_D A ((wX ca f kq ad) ++ (wKd kq) ++ (wMp ca kq (ad i0) u5) ++ [(g, .inl (ca 1, 1, .inr (.inl (vp_updL ov 0 1))))]) := hD
      refine lv_goto (tgt := 24) hx hb dL_remove_17 (by decide) ?_
      refine lv_iconst (v := 0) hx hb dL_remove_24 (by decide) ?_
      refine W.widen (k := 2) (n := 12) (by omega) (by omega) ?_
      exact vx_ret (W.iret (v := 0) hx hb hr (fun t9 e9 w9 => ⟨⟨_, (u5, vp_updL ov 0 1), rfl, ⟨ec5.symm, hR9, fun _ => (oL_eq ov 0 _).trans (by first | exact bO_0 c8 | exact bO_1 c8)⟩, by rw [e9]; exact hP, hD⟩, hS.F e9⟩) hS.2.2 dL_remove_25)

-- TreeFamilyLaw.get
set_option maxHeartbeats 4000000 in
set_option maxRecDepth 100000 in
theorem c_L_get (l : Launch) (D : va_G) (ca : Nat → ClassId) (f kq : Nat → Nat) (ad : Nat → Nat → Nat) (sz : Nat) (hl9 : l.stackTraces = false) (i0 g : Nat) (m : MS) (ov : Nat → Int64) (r : RW) (N : Nat) (mm : Int32) (key : Int32) (hR : Rel1 N m r) (hN : N ≤ 1000000) (hm : isB mm 3 = true → mm = nI i0 ∧ i0 < 3) : vx_Met l yL_get wsL_get ({ frames := 8, cells := 2, slots := 12, locals := 134 } : Room) (xPcH D (TY ca) [.ref (f 0), .int mm, .int key, .ref g] ((wX ca f kq ad) ++ (wKd kq) ++ (wMp ca kq (ad i0) m) ++ [(g, .inl (ca 1, 1, .inr (.inl ov)))]) sz) (va_Qi (fun (x : Int32) (u : MO) => x = (GG (0 : Int32) (F_get key) mm r).2.1 ∧ Rel1 (N + 61) u.1 (GG (0 : Int32) (F_get key) mm r).2.2 ∧ (x = 0 → u.2 0 = ((GG (0 : Int32) (F_get key) mm r).1).toInt64)) (xB D (wH ca f kq ad i0 g) (va_A ((wX ca f kq ad) ++ (wKd kq) ++ (wMp ca kq (ad i0) m) ++ [(g, .inl (ca 1, 1, .inr (.inl ov)))]) sz)) (va_A ((wX ca f kq ad) ++ (wKd kq) ++ (wMp ca kq (ad i0) m) ++ [(g, .inl (ca 1, 1, .inr (.inl ov)))]) sz)) (xX D (wH ca f kq ad i0 g) (va_A ((wX ca f kq ad) ++ (wKd kq) ++ (wMp ca kq (ad i0) m) ++ [(g, .inl (ca 1, 1, .inr (.inl ov)))]) sz) (fun (_ : String) (_ : MO) => False)) 2 12 (va_A ((wX ca f kq ad) ++ (wKd kq) ++ (wMp ca kq (ad i0) m) ++ [(g, .inl (ca 1, 1, .inr (.inl ov)))]) sz) := by
  refine vx_ofWH (cc := cL_get) (maxL := 5) (ret := (some .int)) (by decide) rfl ?_
  intro p e s m9 args below meth c s₁ B hml hv
  obtain ⟨rfl, hsz, hP, hKN, hD0, hTZ, hNC⟩ := hv
  have hx := B.exec
  have hb := B.bytes
  have hr := B.returns
  have hts := atoms_spec (ws := wsL_get) B.pre
  have hown : s.vm.findClass RL = some m9.cls := findClass_of_methodNamed B.named
  have hTab : c.exceptionTable.toList = [(⟨0, 10, 13, 13⟩ : ExceptionTableEntry), (⟨0, 10, 17, 19⟩ : ExceptionTableEntry)] := by
    obtain ⟨m8, meth8, c8, n1, n2, n3, -, -, n6, -⟩ := Cond.codeWith_spec (hts _ List.mem_cons_self)
    cases Option.some.inj (n1.symm.trans B.named)
    cases Option.some.inj (n2.symm.trans B.method)
    cases Option.some.inj (n3.symm.trans (Stand.of_body B).code)
    exact tabEq n6
  have hlocks := B.notSynchronized
  subst hsz
  have hD := hD0.self (sz := s.heap.size)
  generalize hAe : va_A ((wX ca f kq ad) ++ (wKd kq) ++ (wMp ca kq (ad i0) m) ++ [(g, .inl (ca 1, 1, .inr (.inl ov)))]) s.heap.size = A at hD hTZ ⊢
  have hA : ∀ q : Nat, s.heap.size ≤ q → A q := fun q h => by rw [← hAe]; exact Or.inr h
  have hS : va_S A s.heap s.heap [] := va_S.rf
  have hl := lv_entry ([.ref (f 0), .int mm, .int key, .ref g]) (n := 5) (Nat.le_of_ble_eq_true rfl)
  rw [lg_entry_eq]
  generalize (lg_sl ([.ref (f 0), .int mm, .int key, .ref g]) ++ List.replicate (5 - (lg_sl ([.ref (f 0), .int mm, .int key, .ref g])).length) Slot.unset).toArray = ls at hl ⊢
  have hl : lv_has ls 5 [(0, .ref (f 0)), (1, .int mm), (2, .int key), (3, .ref g)] := hl
  refine lv_aload_n hx hb dL_get_0 rfl (lv_at hl 3 rfl) ?_
  refine lv_iconst (v := 0) hx hb dL_get_1 (by decide) ?_
  refine lv_aload_n hx hb dL_get_2 rfl (lv_at hl 0 rfl) ?_
  refine lv_iload_n hx hb dL_get_3 rfl (lv_at hl 1 rfl) ?_
  refine lv_iload_n hx hb dL_get_4 rfl (lv_at hl 2 rfl) ?_
  refine xcx_i (wr := [(g, .inl (ca 1, 1, .inr (.inl ov)))]) (vx_runV (As := [.int mm, .int key]) (rest := [.int 0, .ref g]) ⟨hx, hb, hml, hown, hts⟩ (c_X10_get l D ca f kq ad _ hl9 i0 m r N mm key hR hN hm) (cwV 2 hts gL_get_X10_get rfl rfl rfl (by decide +kernel) ⟨(Nat.le_of_ble_eq_true rfl), (Nat.le_of_ble_eq_true rfl)⟩) (xPreVT hKN hTZ hP hD hS hA [0, 1, 2, 3, 4, 5, 6, 7, 8, 9, 10, 11, 12, 13, 14, 15, 16, 17, 18, 19, 20] (by decide +kernel) rfl (q0 := 0) rfl rfl rfl) rfl rfl hl.1 rfl (lv_room (Nat.le_of_ble_eq_true rfl)) dL_get_5 ⟨(Nat.le_of_ble_eq_true rfl), (Nat.le_of_ble_eq_true rfl)⟩) hP hD hS hA [0, 1, 2, 3, 4, 5, 6, 7, 8, 9, 10, 11, 12, 13, 14, 15, 16, 17, 18, 19, 20] [21] rfl rfl (by decide +kernel) (by decide +kernel) (fun E9 ce9 q9 u5 H locs hu5 hP hD hS h91 h92 h93 => ?_) (fun r5 u5 H locs hu5 hP hD hS => ?_)
  · skip
    have hP : va_P D vwCl ((wX ca f kq ad) ++ (wKd kq) ++ (wMp ca kq (ad i0) u5) ++ [(g, .inl (ca 1, 1, .inr (.inl ov)))]) H := hP.sub (ws' := (wX ca f kq ad) ++ (wKd kq) ++ (wMp ca kq (ad i0) u5) ++ [(g, .inl (ca 1, 1, .inr (.inl ov)))]) [1, 2, 3, 4, 5, 6, 7, 8, 9, 10, 11, 12, 13, 14, 15, 16, 17, 18, 19, 20, 21, 0] rfl
    have hD : va_D A ((wX ca f kq ad) ++ (wKd kq) ++ (wMp ca kq (ad i0) u5) ++ [(g, .inl (ca 1, 1, .inr (.inl ov)))]) := hD.sub (ws' := (wX ca f kq ad) ++ (wKd kq) ++ (wMp ca kq (ad i0) u5) ++ [(g, .inl (ca 1, 1, .inr (.inl ov)))]) [1, 2, 3, 4, 5, 6, 7, 8, 9, 10, 11, 12, 13, 14, 15, 16, 17, 18, 19, 20, 21, 0] (by decide +kernel) rfl
    obtain ⟨eE, hc9, hR9⟩ := hu5
    have hco : (GG (0 : Int32) (F_get key) mm r).2.1 = 0 ∨ (GG (0 : Int32) (F_get key) mm r).2.1 = 1 ∨ (GG (0 : Int32) (F_get key) mm r).2.1 = 2 := GG_c (z := (0 : Int32)) (F := F_get key) (P := fun c => c = 0 ∨ c = 1 ∨ c = 2) (by simp) (fun r => co_get key r) mm r
    rcases hco with hc | hc | hc
    · exact absurd hc hc9
    · rw [hc] at eE
      have eE : E9 = eIA := eE
      subst eE
      refine vx_catch hown [] (⟨0, 10, 13, 13⟩ : ExceptionTableEntry) [(⟨0, 10, 17, 19⟩ : ExceptionTableEntry)] hTab (fun z hz => absurd hz List.not_mem_nil) (by decide) (by show ¬ 13 = 0; decide) (name := eIA) (hts (.classLink RL 13 eIA) (by decide +kernel)) (va_Nw.use rfl (NW.c hKN.2 (by decide +kernel))) h91 h92 h93 ?_
      refine lv_astore (lv' := [(4, .ref q9), (0, .ref (f 0)), (1, .int mm), (2, .int key), (3, .ref g)]) hx hb dL_get_13 hl (by decide) rfl (fun ls hl => ?_)
      refine lv_iconst (v := 1) hx hb dL_get_15 (by decide) ?_
      refine W.widen (k := 2) (n := 12) (by omega) (by omega) ?_
      exact vx_ret (W.iret (v := 1) hx hb hr (fun t9 e9 w9 => ⟨⟨_, (u5, ov), rfl, ⟨hc.symm, hR9, fun q => absurd q (by decide)⟩, by rw [e9]; exact hP, hD⟩, hS.F e9⟩) hS.2.2 dL_get_16)
    · rw [hc] at eE
      have eE : E9 = eIO := eE
      subst eE
      skip
      refine vx_catch hown [(⟨0, 10, 13, 13⟩ : ExceptionTableEntry)] (⟨0, 10, 17, 19⟩ : ExceptionTableEntry) [] hTab (cat_c (Or.inr ⟨(by show ¬ 13 = 0; decide), eIA, hts (.classLink RL 13 eIA) (by decide +kernel), hNC.1⟩) (fun z hz => absurd hz List.not_mem_nil)) (by decide) (by show ¬ 19 = 0; decide) (name := eIO) (hts (.classLink RL 19 eIO) (by decide +kernel)) (va_Nw.use rfl (NW.c hKN.2 (by decide +kernel))) h91 h92 h93 ?_
      refine lv_astore (lv' := [(4, .ref q9), (0, .ref (f 0)), (1, .int mm), (2, .int key), (3, .ref g)]) hx hb dL_get_17 hl (by decide) rfl (fun ls hl => ?_)
      refine lv_iconst (v := 2) hx hb dL_get_19 (by decide) ?_
      refine W.widen (k := 2) (n := 12) (by omega) (by omega) ?_
      exact vx_ret (W.iret (v := 2) hx hb hr (fun t9 e9 w9 => ⟨⟨_, (u5, ov), rfl, ⟨hc.symm, hR9, fun q => absurd q (by decide)⟩, by rw [e9]; exact hP, hD⟩, hS.F e9⟩) hS.2.2 dL_get_20)
  · skip
    have hP : va_P D vwCl ((wX ca f kq ad) ++ (wKd kq) ++ (wMp ca kq (ad i0) u5) ++ [(g, .inl (ca 1, 1, .inr (.inl ov)))]) H := hP.sub (ws' := (wX ca f kq ad) ++ (wKd kq) ++ (wMp ca kq (ad i0) u5) ++ [(g, .inl (ca 1, 1, .inr (.inl ov)))]) [1, 2, 3, 4, 5, 6, 7, 8, 9, 10, 11, 12, 13, 14, 15, 16, 17, 18, 19, 20, 21, 0] rfl
    have hD : va_D A ((wX ca f kq ad) ++ (wKd kq) ++ (wMp ca kq (ad i0) u5) ++ [(g, .inl (ca 1, 1, .inr (.inl ov)))]) := hD.sub (ws' := (wX ca f kq ad) ++ (wKd kq) ++ (wMp ca kq (ad i0) u5) ++ [(g, .inl (ca 1, 1, .inr (.inl ov)))]) [1, 2, 3, 4, 5, 6, 7, 8, 9, 10, 11, 12, 13, 14, 15, 16, 17, 18, 19, 20, 21, 0] (by decide +kernel) rfl
    obtain ⟨er5, ec5, hR9⟩ := hu5
    subst er5
    refine lv_i2l hx hb dL_get_8 rfl ?_
    refine xr_lst hx hb hKN.1 hP hD hS 21 1 rfl rfl (j := 0) (by decide) (by decide) dL_get_9 (fun H locs hP hD hS => ?_)
    have hP : va_P D vwCl ((wX ca f kq ad) ++ (wKd kq) ++ (wMp ca kq (ad i0) u5) ++ [(g, .inl (ca 1, 1, .inr (.inl (vp_updL ov 0 (((GG (0 : Int32) (F_get key) mm r).1).toInt64)))))]) H := hP
    have hD : va_D A ((wX ca f kq ad) ++ (wKd kq) ++ (wMp ca kq (ad i0) u5) ++ [(g, .inl (ca 1, 1, .inr (.inl (vp_updL ov 0 (((GG (0 : Int32) (F_get key) mm r).1).toInt64)))))]) := hD
    refine lv_goto (tgt := 21) hx hb dL_get_10 (by decide) ?_
    refine lv_iconst (v := 0) hx hb dL_get_21 (by decide) ?_
    refine W.widen (k := 2) (n := 12) (by omega) (by omega) ?_
    exact vx_ret (W.iret (v := 0) hx hb hr (fun t9 e9 w9 => ⟨⟨_, (u5, vp_updL ov 0 (((GG (0 : Int32) (F_get key) mm r).1).toInt64)), rfl, ⟨ec5.symm, hR9, fun _ => (oL_eq ov 0 _).trans rfl⟩, by rw [e9]; exact hP, hD⟩, hS.F e9⟩) hS.2.2 dL_get_22)

-- TreeFamilyLaw.near
set_option maxHeartbeats 4000000 in
set_option maxRecDepth 100000 in
theorem c_L_near (l : Launch) (D : va_G) (ca : Nat → ClassId) (f kq : Nat → Nat) (ad : Nat → Nat → Nat) (sz : Nat) (hl9 : l.stackTraces = false) (i0 g : Nat) (m : MS) (ov : Nat → Int64) (r : RW) (N : Nat) (mm : Int32) (wh key : Int32) (hR : Rel1 N m r) (hN : N ≤ 1000000) (hm : isB mm 3 = true → mm = nI i0 ∧ i0 < 3) : vx_Met l yL_near wsL_near ({ frames := 8, cells := 2, slots := 12, locals := 136 } : Room) (xPcH D (TY ca) [.ref (f 0), .int mm, .int wh, .int key, .ref g] ((wX ca f kq ad) ++ (wKd kq) ++ (wMp ca kq (ad i0) m) ++ [(g, .inl (ca 1, 1, .inr (.inl ov)))]) sz) (va_Qi (fun (x : Int32) (u : MO) => x = (GG (0 : Int32) (F_near wh key) mm r).2.1 ∧ Rel1 (N + 61) u.1 (GG (0 : Int32) (F_near wh key) mm r).2.2 ∧ (x = 0 → u.2 0 = ((GG (0 : Int32) (F_near wh key) mm r).1).toInt64)) (xB D (wH ca f kq ad i0 g) (va_A ((wX ca f kq ad) ++ (wKd kq) ++ (wMp ca kq (ad i0) m) ++ [(g, .inl (ca 1, 1, .inr (.inl ov)))]) sz)) (va_A ((wX ca f kq ad) ++ (wKd kq) ++ (wMp ca kq (ad i0) m) ++ [(g, .inl (ca 1, 1, .inr (.inl ov)))]) sz)) (xX D (wH ca f kq ad i0 g) (va_A ((wX ca f kq ad) ++ (wKd kq) ++ (wMp ca kq (ad i0) m) ++ [(g, .inl (ca 1, 1, .inr (.inl ov)))]) sz) (fun (_ : String) (_ : MO) => False)) 2 12 (va_A ((wX ca f kq ad) ++ (wKd kq) ++ (wMp ca kq (ad i0) m) ++ [(g, .inl (ca 1, 1, .inr (.inl ov)))]) sz) := by
  refine vx_ofWH (cc := cL_near) (maxL := 6) (ret := (some .int)) (by decide) rfl ?_
  intro p e s m9 args below meth c s₁ B hml hv
  obtain ⟨rfl, hsz, hP, hKN, hD0, hTZ, hNC⟩ := hv
  have hx := B.exec
  have hb := B.bytes
  have hr := B.returns
  have hts := atoms_spec (ws := wsL_near) B.pre
  have hown : s.vm.findClass RL = some m9.cls := findClass_of_methodNamed B.named
  have hTab : c.exceptionTable.toList = [(⟨0, 12, 15, 13⟩ : ExceptionTableEntry), (⟨0, 12, 19, 19⟩ : ExceptionTableEntry)] := by
    obtain ⟨m8, meth8, c8, n1, n2, n3, -, -, n6, -⟩ := Cond.codeWith_spec (hts _ List.mem_cons_self)
    cases Option.some.inj (n1.symm.trans B.named)
    cases Option.some.inj (n2.symm.trans B.method)
    cases Option.some.inj (n3.symm.trans (Stand.of_body B).code)
    exact tabEq n6
  have hlocks := B.notSynchronized
  subst hsz
  have hD := hD0.self (sz := s.heap.size)
  generalize hAe : va_A ((wX ca f kq ad) ++ (wKd kq) ++ (wMp ca kq (ad i0) m) ++ [(g, .inl (ca 1, 1, .inr (.inl ov)))]) s.heap.size = A at hD hTZ ⊢
  have hA : ∀ q : Nat, s.heap.size ≤ q → A q := fun q h => by rw [← hAe]; exact Or.inr h
  have hS : va_S A s.heap s.heap [] := va_S.rf
  have hl := lv_entry ([.ref (f 0), .int mm, .int wh, .int key, .ref g]) (n := 6) (Nat.le_of_ble_eq_true rfl)
  rw [lg_entry_eq]
  generalize (lg_sl ([.ref (f 0), .int mm, .int wh, .int key, .ref g]) ++ List.replicate (6 - (lg_sl ([.ref (f 0), .int mm, .int wh, .int key, .ref g])).length) Slot.unset).toArray = ls at hl ⊢
  have hl : lv_has ls 6 [(0, .ref (f 0)), (1, .int mm), (2, .int wh), (3, .int key), (4, .ref g)] := hl
  refine lv_aload hx hb dL_near_0 (lv_at hl 4 rfl) ?_
  refine lv_iconst (v := 0) hx hb dL_near_2 (by decide) ?_
  refine lv_aload_n hx hb dL_near_3 rfl (lv_at hl 0 rfl) ?_
  refine lv_iload_n hx hb dL_near_4 rfl (lv_at hl 1 rfl) ?_
  refine lv_iload_n hx hb dL_near_5 rfl (lv_at hl 2 rfl) ?_
  refine lv_iload_n hx hb dL_near_6 rfl (lv_at hl 3 rfl) ?_
  refine xcx_i (wr := [(g, .inl (ca 1, 1, .inr (.inl ov)))]) (vx_runV (As := [.int mm, .int wh, .int key]) (rest := [.int 0, .ref g]) ⟨hx, hb, hml, hown, hts⟩ (c_X10_near l D ca f kq ad _ hl9 i0 m r N mm wh key hR hN hm) (cwV 3 hts gL_near_X10_near rfl rfl rfl (by decide +kernel) ⟨(Nat.le_of_ble_eq_true rfl), (Nat.le_of_ble_eq_true rfl)⟩) (xPreVT hKN hTZ hP hD hS hA [0, 1, 2, 3, 4, 5, 6, 7, 8, 9, 10, 11, 12, 13, 14, 15, 16, 17, 18, 19, 20] (by decide +kernel) rfl (q0 := 0) rfl rfl rfl) rfl rfl hl.1 rfl (lv_room (Nat.le_of_ble_eq_true rfl)) dL_near_7 ⟨(Nat.le_of_ble_eq_true rfl), (Nat.le_of_ble_eq_true rfl)⟩) hP hD hS hA [0, 1, 2, 3, 4, 5, 6, 7, 8, 9, 10, 11, 12, 13, 14, 15, 16, 17, 18, 19, 20] [21] rfl rfl (by decide +kernel) (by decide +kernel) (fun E9 ce9 q9 u7 H locs hu7 hP hD hS h91 h92 h93 => ?_) (fun r7 u7 H locs hu7 hP hD hS => ?_)
  · skip
    have hP : va_P D vwCl ((wX ca f kq ad) ++ (wKd kq) ++ (wMp ca kq (ad i0) u7) ++ [(g, .inl (ca 1, 1, .inr (.inl ov)))]) H := hP.sub (ws' := (wX ca f kq ad) ++ (wKd kq) ++ (wMp ca kq (ad i0) u7) ++ [(g, .inl (ca 1, 1, .inr (.inl ov)))]) [1, 2, 3, 4, 5, 6, 7, 8, 9, 10, 11, 12, 13, 14, 15, 16, 17, 18, 19, 20, 21, 0] rfl
    have hD : va_D A ((wX ca f kq ad) ++ (wKd kq) ++ (wMp ca kq (ad i0) u7) ++ [(g, .inl (ca 1, 1, .inr (.inl ov)))]) := hD.sub (ws' := (wX ca f kq ad) ++ (wKd kq) ++ (wMp ca kq (ad i0) u7) ++ [(g, .inl (ca 1, 1, .inr (.inl ov)))]) [1, 2, 3, 4, 5, 6, 7, 8, 9, 10, 11, 12, 13, 14, 15, 16, 17, 18, 19, 20, 21, 0] (by decide +kernel) rfl
    obtain ⟨eE, hc9, hR9⟩ := hu7
    have hco : (GG (0 : Int32) (F_near wh key) mm r).2.1 = 0 ∨ (GG (0 : Int32) (F_near wh key) mm r).2.1 = 1 ∨ (GG (0 : Int32) (F_near wh key) mm r).2.1 = 2 := GG_c (z := (0 : Int32)) (F := F_near wh key) (P := fun c => c = 0 ∨ c = 1 ∨ c = 2) (by simp) (fun r => co_near wh key r) mm r
    rcases hco with hc | hc | hc
    · exact absurd hc hc9
    · rw [hc] at eE
      have eE : E9 = eIA := eE
      subst eE
      refine vx_catch hown [] (⟨0, 12, 15, 13⟩ : ExceptionTableEntry) [(⟨0, 12, 19, 19⟩ : ExceptionTableEntry)] hTab (fun z hz => absurd hz List.not_mem_nil) (by decide) (by show ¬ 13 = 0; decide) (name := eIA) (hts (.classLink RL 13 eIA) (by decide +kernel)) (va_Nw.use rfl (NW.c hKN.2 (by decide +kernel))) h91 h92 h93 ?_
      refine lv_astore (lv' := [(5, .ref q9), (0, .ref (f 0)), (1, .int mm), (2, .int wh), (3, .int key), (4, .ref g)]) hx hb dL_near_15 hl (by decide) rfl (fun ls hl => ?_)
      refine lv_iconst (v := 1) hx hb dL_near_17 (by decide) ?_
      refine W.widen (k := 2) (n := 12) (by omega) (by omega) ?_
      exact vx_ret (W.iret (v := 1) hx hb hr (fun t9 e9 w9 => ⟨⟨_, (u7, ov), rfl, ⟨hc.symm, hR9, fun q => absurd q (by decide)⟩, by rw [e9]; exact hP, hD⟩, hS.F e9⟩) hS.2.2 dL_near_18)
    · rw [hc] at eE
      have eE : E9 = eIO := eE
      subst eE
      skip
      refine vx_catch hown [(⟨0, 12, 15, 13⟩ : ExceptionTableEntry)] (⟨0, 12, 19, 19⟩ : ExceptionTableEntry) [] hTab (cat_c (Or.inr ⟨(by show ¬ 13 = 0; decide), eIA, hts (.classLink RL 13 eIA) (by decide +kernel), hNC.1⟩) (fun z hz => absurd hz List.not_mem_nil)) (by decide) (by show ¬ 19 = 0; decide) (name := eIO) (hts (.classLink RL 19 eIO) (by decide +kernel)) (va_Nw.use rfl (NW.c hKN.2 (by decide +kernel))) h91 h92 h93 ?_
      refine lv_astore (lv' := [(5, .ref q9), (0, .ref (f 0)), (1, .int mm), (2, .int wh), (3, .int key), (4, .ref g)]) hx hb dL_near_19 hl (by decide) rfl (fun ls hl => ?_)
      refine lv_iconst (v := 2) hx hb dL_near_21 (by decide) ?_
      refine W.widen (k := 2) (n := 12) (by omega) (by omega) ?_
      exact vx_ret (W.iret (v := 2) hx hb hr (fun t9 e9 w9 => ⟨⟨_, (u7, ov), rfl, ⟨hc.symm, hR9, fun q => absurd q (by decide)⟩, by rw [e9]; exact hP, hD⟩, hS.F e9⟩) hS.2.2 dL_near_22)
  · skip
    have hP : va_P D vwCl ((wX ca f kq ad) ++ (wKd kq) ++ (wMp ca kq (ad i0) u7) ++ [(g, .inl (ca 1, 1, .inr (.inl ov)))]) H := hP.sub (ws' := (wX ca f kq ad) ++ (wKd kq) ++ (wMp ca kq (ad i0) u7) ++ [(g, .inl (ca 1, 1, .inr (.inl ov)))]) [1, 2, 3, 4, 5, 6, 7, 8, 9, 10, 11, 12, 13, 14, 15, 16, 17, 18, 19, 20, 21, 0] rfl
    have hD : va_D A ((wX ca f kq ad) ++ (wKd kq) ++ (wMp ca kq (ad i0) u7) ++ [(g, .inl (ca 1, 1, .inr (.inl ov)))]) := hD.sub (ws' := (wX ca f kq ad) ++ (wKd kq) ++ (wMp ca kq (ad i0) u7) ++ [(g, .inl (ca 1, 1, .inr (.inl ov)))]) [1, 2, 3, 4, 5, 6, 7, 8, 9, 10, 11, 12, 13, 14, 15, 16, 17, 18, 19, 20, 21, 0] (by decide +kernel) rfl
    obtain ⟨er7, ec7, hR9⟩ := hu7
    subst er7
    refine lv_i2l hx hb dL_near_10 rfl ?_
    refine xr_lst hx hb hKN.1 hP hD hS 21 1 rfl rfl (j := 0) (by decide) (by decide) dL_near_11 (fun H locs hP hD hS => ?_)
    have hP : va_P D vwCl ((wX ca f kq ad) ++ (wKd kq) ++ (wMp ca kq (ad i0) u7) ++ [(g, .inl (ca 1, 1, .inr (.inl (vp_updL ov 0 (((GG (0 : Int32) (F_near wh key) mm r).1).toInt64)))))]) H := hP
    have hD : va_D A ((wX ca f kq ad) ++ (wKd kq) ++ (wMp ca kq (ad i0) u7) ++ [(g, .inl (ca 1, 1, .inr (.inl (vp_updL ov 0 (((GG (0 : Int32) (F_near wh key) mm r).1).toInt64)))))]) := hD
    refine lv_goto (tgt := 23) hx hb dL_near_12 (by decide) ?_
    refine lv_iconst (v := 0) hx hb dL_near_23 (by decide) ?_
    refine W.widen (k := 2) (n := 12) (by omega) (by omega) ?_
    exact vx_ret (W.iret (v := 0) hx hb hr (fun t9 e9 w9 => ⟨⟨_, (u7, vp_updL ov 0 (((GG (0 : Int32) (F_near wh key) mm r).1).toInt64)), rfl, ⟨ec7.symm, hR9, fun _ => (oL_eq ov 0 _).trans rfl⟩, by rw [e9]; exact hP, hD⟩, hS.F e9⟩) hS.2.2 dL_near_24)

-- TreeFamilyLaw.size
set_option maxHeartbeats 4000000 in
set_option maxRecDepth 100000 in
theorem c_L_size (l : Launch) (D : va_G) (ca : Nat → ClassId) (f kq : Nat → Nat) (ad : Nat → Nat → Nat) (sz : Nat) (hl9 : l.stackTraces = false) (i0 g : Nat) (m : MS) (ov : Nat → Int64) (r : RW) (N : Nat) (mm : Int32) (hR : Rel1 N m r) (hN : N ≤ 1000000) (hm : isB mm 3 = true → mm = nI i0 ∧ i0 < 3) : vx_Met l yL_size wsL_size ({ frames := 8, cells := 2, slots := 12, locals := 132 } : Room) (xPcH D (TY ca) [.ref (f 0), .int mm, .ref g] ((wX ca f kq ad) ++ (wKd kq) ++ (wMp ca kq (ad i0) m) ++ [(g, .inl (ca 1, 1, .inr (.inl ov)))]) sz) (va_Qi (fun (x : Int32) (u : MO) => x = (GG (0 : Int32) (F_size) mm r).2.1 ∧ Rel1 (N + 61) u.1 (GG (0 : Int32) (F_size) mm r).2.2 ∧ (x = 0 → u.2 0 = ((GG (0 : Int32) (F_size) mm r).1).toInt64)) (xB D (wH ca f kq ad i0 g) (va_A ((wX ca f kq ad) ++ (wKd kq) ++ (wMp ca kq (ad i0) m) ++ [(g, .inl (ca 1, 1, .inr (.inl ov)))]) sz)) (va_A ((wX ca f kq ad) ++ (wKd kq) ++ (wMp ca kq (ad i0) m) ++ [(g, .inl (ca 1, 1, .inr (.inl ov)))]) sz)) (xX D (wH ca f kq ad i0 g) (va_A ((wX ca f kq ad) ++ (wKd kq) ++ (wMp ca kq (ad i0) m) ++ [(g, .inl (ca 1, 1, .inr (.inl ov)))]) sz) (fun (_ : String) (_ : MO) => False)) 2 12 (va_A ((wX ca f kq ad) ++ (wKd kq) ++ (wMp ca kq (ad i0) m) ++ [(g, .inl (ca 1, 1, .inr (.inl ov)))]) sz) := by
  refine vx_ofWH (cc := cL_size) (maxL := 4) (ret := (some .int)) (by decide) rfl ?_
  intro p e s m9 args below meth c s₁ B hml hv
  obtain ⟨rfl, hsz, hP, hKN, hD0, hTZ, hNC⟩ := hv
  have hx := B.exec
  have hb := B.bytes
  have hr := B.returns
  have hts := atoms_spec (ws := wsL_size) B.pre
  have hown : s.vm.findClass RL = some m9.cls := findClass_of_methodNamed B.named
  have hTab : c.exceptionTable.toList = [(⟨0, 9, 12, 13⟩ : ExceptionTableEntry)] := by
    obtain ⟨m8, meth8, c8, n1, n2, n3, -, -, n6, -⟩ := Cond.codeWith_spec (hts _ List.mem_cons_self)
    cases Option.some.inj (n1.symm.trans B.named)
    cases Option.some.inj (n2.symm.trans B.method)
    cases Option.some.inj (n3.symm.trans (Stand.of_body B).code)
    exact tabEq n6
  have hlocks := B.notSynchronized
  subst hsz
  have hD := hD0.self (sz := s.heap.size)
  generalize hAe : va_A ((wX ca f kq ad) ++ (wKd kq) ++ (wMp ca kq (ad i0) m) ++ [(g, .inl (ca 1, 1, .inr (.inl ov)))]) s.heap.size = A at hD hTZ ⊢
  have hA : ∀ q : Nat, s.heap.size ≤ q → A q := fun q h => by rw [← hAe]; exact Or.inr h
  have hS : va_S A s.heap s.heap [] := va_S.rf
  have hl := lv_entry ([.ref (f 0), .int mm, .ref g]) (n := 4) (Nat.le_of_ble_eq_true rfl)
  rw [lg_entry_eq]
  generalize (lg_sl ([.ref (f 0), .int mm, .ref g]) ++ List.replicate (4 - (lg_sl ([.ref (f 0), .int mm, .ref g])).length) Slot.unset).toArray = ls at hl ⊢
  have hl : lv_has ls 4 [(0, .ref (f 0)), (1, .int mm), (2, .ref g)] := hl
  refine lv_aload_n hx hb dL_size_0 rfl (lv_at hl 2 rfl) ?_
  refine lv_iconst (v := 0) hx hb dL_size_1 (by decide) ?_
  refine lv_aload_n hx hb dL_size_2 rfl (lv_at hl 0 rfl) ?_
  refine lv_iload_n hx hb dL_size_3 rfl (lv_at hl 1 rfl) ?_
  refine xcx_i (wr := [(g, .inl (ca 1, 1, .inr (.inl ov)))]) (vx_runV (As := [.int mm]) (rest := [.int 0, .ref g]) ⟨hx, hb, hml, hown, hts⟩ (c_X10_size l D ca f kq ad _ hl9 i0 m r N mm hR hN hm) (cwV 1 hts gL_size_X10_size rfl rfl rfl (by decide +kernel) ⟨(Nat.le_of_ble_eq_true rfl), (Nat.le_of_ble_eq_true rfl)⟩) (xPreVT hKN hTZ hP hD hS hA [0, 1, 2, 3, 4, 5, 6, 7, 8, 9, 10, 11, 12, 13, 14, 15, 16, 17, 18, 19, 20] (by decide +kernel) rfl (q0 := 0) rfl rfl rfl) rfl rfl hl.1 rfl (lv_room (Nat.le_of_ble_eq_true rfl)) dL_size_4 ⟨(Nat.le_of_ble_eq_true rfl), (Nat.le_of_ble_eq_true rfl)⟩) hP hD hS hA [0, 1, 2, 3, 4, 5, 6, 7, 8, 9, 10, 11, 12, 13, 14, 15, 16, 17, 18, 19, 20] [21] rfl rfl (by decide +kernel) (by decide +kernel) (fun E9 ce9 q9 u4 H locs hu4 hP hD hS h91 h92 h93 => ?_) (fun r4 u4 H locs hu4 hP hD hS => ?_)
  · skip
    have hP : va_P D vwCl ((wX ca f kq ad) ++ (wKd kq) ++ (wMp ca kq (ad i0) u4) ++ [(g, .inl (ca 1, 1, .inr (.inl ov)))]) H := hP.sub (ws' := (wX ca f kq ad) ++ (wKd kq) ++ (wMp ca kq (ad i0) u4) ++ [(g, .inl (ca 1, 1, .inr (.inl ov)))]) [1, 2, 3, 4, 5, 6, 7, 8, 9, 10, 11, 12, 13, 14, 15, 16, 17, 18, 19, 20, 21, 0] rfl
    have hD : va_D A ((wX ca f kq ad) ++ (wKd kq) ++ (wMp ca kq (ad i0) u4) ++ [(g, .inl (ca 1, 1, .inr (.inl ov)))]) := hD.sub (ws' := (wX ca f kq ad) ++ (wKd kq) ++ (wMp ca kq (ad i0) u4) ++ [(g, .inl (ca 1, 1, .inr (.inl ov)))]) [1, 2, 3, 4, 5, 6, 7, 8, 9, 10, 11, 12, 13, 14, 15, 16, 17, 18, 19, 20, 21, 0] (by decide +kernel) rfl
    obtain ⟨eE, hc9, hR9⟩ := hu4
    have hco : (GG (0 : Int32) (F_size) mm r).2.1 = 0 ∨ (GG (0 : Int32) (F_size) mm r).2.1 = 1 := GG_c (z := (0 : Int32)) (F := F_size) (P := fun c => c = 0 ∨ c = 1) (by simp) (co_size) mm r
    rcases hco with hc | hc
    · exact absurd hc hc9
    · rw [hc] at eE
      have eE : E9 = eIA := eE
      subst eE
      refine vx_catch hown [] (⟨0, 9, 12, 13⟩ : ExceptionTableEntry) [] hTab (fun z hz => absurd hz List.not_mem_nil) (by decide) (by show ¬ 13 = 0; decide) (name := eIA) (hts (.classLink RL 13 eIA) (by decide +kernel)) (va_Nw.use rfl (NW.c hKN.2 (by decide +kernel))) h91 h92 h93 ?_
      refine lv_astore_n (lv' := [(3, .ref q9), (0, .ref (f 0)), (1, .int mm), (2, .ref g)]) hx hb dL_size_12 rfl hl (by decide) rfl (fun ls hl => ?_)
      refine lv_iconst (v := 1) hx hb dL_size_13 (by decide) ?_
      refine W.widen (k := 2) (n := 12) (by omega) (by omega) ?_
      exact vx_ret (W.iret (v := 1) hx hb hr (fun t9 e9 w9 => ⟨⟨_, (u4, ov), rfl, ⟨hc.symm, hR9, fun q => absurd q (by decide)⟩, by rw [e9]; exact hP, hD⟩, hS.F e9⟩) hS.2.2 dL_size_14)
  · skip
    have hP : va_P D vwCl ((wX ca f kq ad) ++ (wKd kq) ++ (wMp ca kq (ad i0) u4) ++ [(g, .inl (ca 1, 1, .inr (.inl ov)))]) H := hP.sub (ws' := (wX ca f kq ad) ++ (wKd kq) ++ (wMp ca kq (ad i0) u4) ++ [(g, .inl (ca 1, 1, .inr (.inl ov)))]) [1, 2, 3, 4, 5, 6, 7, 8, 9, 10, 11, 12, 13, 14, 15, 16, 17, 18, 19, 20, 21, 0] rfl
    have hD : va_D A ((wX ca f kq ad) ++ (wKd kq) ++ (wMp ca kq (ad i0) u4) ++ [(g, .inl (ca 1, 1, .inr (.inl ov)))]) := hD.sub (ws' := (wX ca f kq ad) ++ (wKd kq) ++ (wMp ca kq (ad i0) u4) ++ [(g, .inl (ca 1, 1, .inr (.inl ov)))]) [1, 2, 3, 4, 5, 6, 7, 8, 9, 10, 11, 12, 13, 14, 15, 16, 17, 18, 19, 20, 21, 0] (by decide +kernel) rfl
    obtain ⟨er4, ec4, hR9⟩ := hu4
    subst er4
    refine lv_i2l hx hb dL_size_7 rfl ?_
    refine xr_lst hx hb hKN.1 hP hD hS 21 1 rfl rfl (j := 0) (by decide) (by decide) dL_size_8 (fun H locs hP hD hS => ?_)
    have hP : va_P D vwCl ((wX ca f kq ad) ++ (wKd kq) ++ (wMp ca kq (ad i0) u4) ++ [(g, .inl (ca 1, 1, .inr (.inl (vp_updL ov 0 (((GG (0 : Int32) (F_size) mm r).1).toInt64)))))]) H := hP
    have hD : va_D A ((wX ca f kq ad) ++ (wKd kq) ++ (wMp ca kq (ad i0) u4) ++ [(g, .inl (ca 1, 1, .inr (.inl (vp_updL ov 0 (((GG (0 : Int32) (F_size) mm r).1).toInt64)))))]) := hD
    refine lv_goto (tgt := 15) hx hb dL_size_9 (by decide) ?_
    refine lv_iconst (v := 0) hx hb dL_size_15 (by decide) ?_
    refine W.widen (k := 2) (n := 12) (by omega) (by omega) ?_
    exact vx_ret (W.iret (v := 0) hx hb hr (fun t9 e9 w9 => ⟨⟨_, (u4, vp_updL ov 0 (((GG (0 : Int32) (F_size) mm r).1).toInt64)), rfl, ⟨ec4.symm, hR9, fun _ => (oL_eq ov 0 _).trans rfl⟩, by rw [e9]; exact hP, hD⟩, hS.F e9⟩) hS.2.2 dL_size_16)

-- TreeFamilyLaw.rank
set_option maxHeartbeats 4000000 in
set_option maxRecDepth 100000 in
theorem c_L_rank (l : Launch) (D : va_G) (ca : Nat → ClassId) (f kq : Nat → Nat) (ad : Nat → Nat → Nat) (sz : Nat) (hl9 : l.stackTraces = false) (i0 g : Nat) (m : MS) (ov : Nat → Int64) (r : RW) (N : Nat) (mm : Int32) (key : Int32) (hR : Rel1 N m r) (hN : N ≤ 1000000) (hm : isB mm 3 = true → mm = nI i0 ∧ i0 < 3) : vx_Met l yL_rank wsL_rank ({ frames := 8, cells := 2, slots := 12, locals := 133 } : Room) (xPcH D (TY ca) [.ref (f 0), .int mm, .int key, .ref g] ((wX ca f kq ad) ++ (wKd kq) ++ (wMp ca kq (ad i0) m) ++ [(g, .inl (ca 1, 1, .inr (.inl ov)))]) sz) (va_Qi (fun (x : Int32) (u : MO) => x = (GG (0 : Int32) (F_rank key) mm r).2.1 ∧ Rel1 (N + 61) u.1 (GG (0 : Int32) (F_rank key) mm r).2.2 ∧ (x = 0 → u.2 0 = ((GG (0 : Int32) (F_rank key) mm r).1).toInt64)) (xB D (wH ca f kq ad i0 g) (va_A ((wX ca f kq ad) ++ (wKd kq) ++ (wMp ca kq (ad i0) m) ++ [(g, .inl (ca 1, 1, .inr (.inl ov)))]) sz)) (va_A ((wX ca f kq ad) ++ (wKd kq) ++ (wMp ca kq (ad i0) m) ++ [(g, .inl (ca 1, 1, .inr (.inl ov)))]) sz)) (xX D (wH ca f kq ad i0 g) (va_A ((wX ca f kq ad) ++ (wKd kq) ++ (wMp ca kq (ad i0) m) ++ [(g, .inl (ca 1, 1, .inr (.inl ov)))]) sz) (fun (_ : String) (_ : MO) => False)) 2 12 (va_A ((wX ca f kq ad) ++ (wKd kq) ++ (wMp ca kq (ad i0) m) ++ [(g, .inl (ca 1, 1, .inr (.inl ov)))]) sz) := by
  refine vx_ofWH (cc := cL_rank) (maxL := 5) (ret := (some .int)) (by decide) rfl ?_
  intro p e s m9 args below meth c s₁ B hml hv
  obtain ⟨rfl, hsz, hP, hKN, hD0, hTZ, hNC⟩ := hv
  have hx := B.exec
  have hb := B.bytes
  have hr := B.returns
  have hts := atoms_spec (ws := wsL_rank) B.pre
  have hown : s.vm.findClass RL = some m9.cls := findClass_of_methodNamed B.named
  have hTab : c.exceptionTable.toList = [(⟨0, 10, 13, 13⟩ : ExceptionTableEntry)] := by
    obtain ⟨m8, meth8, c8, n1, n2, n3, -, -, n6, -⟩ := Cond.codeWith_spec (hts _ List.mem_cons_self)
    cases Option.some.inj (n1.symm.trans B.named)
    cases Option.some.inj (n2.symm.trans B.method)
    cases Option.some.inj (n3.symm.trans (Stand.of_body B).code)
    exact tabEq n6
  have hlocks := B.notSynchronized
  subst hsz
  have hD := hD0.self (sz := s.heap.size)
  generalize hAe : va_A ((wX ca f kq ad) ++ (wKd kq) ++ (wMp ca kq (ad i0) m) ++ [(g, .inl (ca 1, 1, .inr (.inl ov)))]) s.heap.size = A at hD hTZ ⊢
  have hA : ∀ q : Nat, s.heap.size ≤ q → A q := fun q h => by rw [← hAe]; exact Or.inr h
  have hS : va_S A s.heap s.heap [] := va_S.rf
  have hl := lv_entry ([.ref (f 0), .int mm, .int key, .ref g]) (n := 5) (Nat.le_of_ble_eq_true rfl)
  rw [lg_entry_eq]
  generalize (lg_sl ([.ref (f 0), .int mm, .int key, .ref g]) ++ List.replicate (5 - (lg_sl ([.ref (f 0), .int mm, .int key, .ref g])).length) Slot.unset).toArray = ls at hl ⊢
  have hl : lv_has ls 5 [(0, .ref (f 0)), (1, .int mm), (2, .int key), (3, .ref g)] := hl
  refine lv_aload_n hx hb dL_rank_0 rfl (lv_at hl 3 rfl) ?_
  refine lv_iconst (v := 0) hx hb dL_rank_1 (by decide) ?_
  refine lv_aload_n hx hb dL_rank_2 rfl (lv_at hl 0 rfl) ?_
  refine lv_iload_n hx hb dL_rank_3 rfl (lv_at hl 1 rfl) ?_
  refine lv_iload_n hx hb dL_rank_4 rfl (lv_at hl 2 rfl) ?_
  refine xcx_i (wr := [(g, .inl (ca 1, 1, .inr (.inl ov)))]) (vx_runV (As := [.int mm, .int key]) (rest := [.int 0, .ref g]) ⟨hx, hb, hml, hown, hts⟩ (c_X10_rank l D ca f kq ad _ hl9 i0 m r N mm key hR hN hm) (cwV 2 hts gL_rank_X10_rank rfl rfl rfl (by decide +kernel) ⟨(Nat.le_of_ble_eq_true rfl), (Nat.le_of_ble_eq_true rfl)⟩) (xPreVT hKN hTZ hP hD hS hA [0, 1, 2, 3, 4, 5, 6, 7, 8, 9, 10, 11, 12, 13, 14, 15, 16, 17, 18, 19, 20] (by decide +kernel) rfl (q0 := 0) rfl rfl rfl) rfl rfl hl.1 rfl (lv_room (Nat.le_of_ble_eq_true rfl)) dL_rank_5 ⟨(Nat.le_of_ble_eq_true rfl), (Nat.le_of_ble_eq_true rfl)⟩) hP hD hS hA [0, 1, 2, 3, 4, 5, 6, 7, 8, 9, 10, 11, 12, 13, 14, 15, 16, 17, 18, 19, 20] [21] rfl rfl (by decide +kernel) (by decide +kernel) (fun E9 ce9 q9 u5 H locs hu5 hP hD hS h91 h92 h93 => ?_) (fun r5 u5 H locs hu5 hP hD hS => ?_)
  · skip
    have hP : va_P D vwCl ((wX ca f kq ad) ++ (wKd kq) ++ (wMp ca kq (ad i0) u5) ++ [(g, .inl (ca 1, 1, .inr (.inl ov)))]) H := hP.sub (ws' := (wX ca f kq ad) ++ (wKd kq) ++ (wMp ca kq (ad i0) u5) ++ [(g, .inl (ca 1, 1, .inr (.inl ov)))]) [1, 2, 3, 4, 5, 6, 7, 8, 9, 10, 11, 12, 13, 14, 15, 16, 17, 18, 19, 20, 21, 0] rfl
    have hD : va_D A ((wX ca f kq ad) ++ (wKd kq) ++ (wMp ca kq (ad i0) u5) ++ [(g, .inl (ca 1, 1, .inr (.inl ov)))]) := hD.sub (ws' := (wX ca f kq ad) ++ (wKd kq) ++ (wMp ca kq (ad i0) u5) ++ [(g, .inl (ca 1, 1, .inr (.inl ov)))]) [1, 2, 3, 4, 5, 6, 7, 8, 9, 10, 11, 12, 13, 14, 15, 16, 17, 18, 19, 20, 21, 0] (by decide +kernel) rfl
    obtain ⟨eE, hc9, hR9⟩ := hu5
    have hco : (GG (0 : Int32) (F_rank key) mm r).2.1 = 0 ∨ (GG (0 : Int32) (F_rank key) mm r).2.1 = 1 := GG_c (z := (0 : Int32)) (F := F_rank key) (P := fun c => c = 0 ∨ c = 1) (by simp) (fun r => co_rank key r) mm r
    rcases hco with hc | hc
    · exact absurd hc hc9
    · rw [hc] at eE
      have eE : E9 = eIA := eE
      subst eE
      refine vx_catch hown [] (⟨0, 10, 13, 13⟩ : ExceptionTableEntry) [] hTab (fun z hz => absurd hz List.not_mem_nil) (by decide) (by show ¬ 13 = 0; decide) (name := eIA) (hts (.classLink RL 13 eIA) (by decide +kernel)) (va_Nw.use rfl (NW.c hKN.2 (by decide +kernel))) h91 h92 h93 ?_
      refine lv_astore (lv' := [(4, .ref q9), (0, .ref (f 0)), (1, .int mm), (2, .int key), (3, .ref g)]) hx hb dL_rank_13 hl (by decide) rfl (fun ls hl => ?_)
      refine lv_iconst (v := 1) hx hb dL_rank_15 (by decide) ?_
      refine W.widen (k := 2) (n := 12) (by omega) (by omega) ?_
      exact vx_ret (W.iret (v := 1) hx hb hr (fun t9 e9 w9 => ⟨⟨_, (u5, ov), rfl, ⟨hc.symm, hR9, fun q => absurd q (by decide)⟩, by rw [e9]; exact hP, hD⟩, hS.F e9⟩) hS.2.2 dL_rank_16)
  · skip
    have hP : va_P D vwCl ((wX ca f kq ad) ++ (wKd kq) ++ (wMp ca kq (ad i0) u5) ++ [(g, .inl (ca 1, 1, .inr (.inl ov)))]) H := hP.sub (ws' := (wX ca f kq ad) ++ (wKd kq) ++ (wMp ca kq (ad i0) u5) ++ [(g, .inl (ca 1, 1, .inr (.inl ov)))]) [1, 2, 3, 4, 5, 6, 7, 8, 9, 10, 11, 12, 13, 14, 15, 16, 17, 18, 19, 20, 21, 0] rfl
    have hD : va_D A ((wX ca f kq ad) ++ (wKd kq) ++ (wMp ca kq (ad i0) u5) ++ [(g, .inl (ca 1, 1, .inr (.inl ov)))]) := hD.sub (ws' := (wX ca f kq ad) ++ (wKd kq) ++ (wMp ca kq (ad i0) u5) ++ [(g, .inl (ca 1, 1, .inr (.inl ov)))]) [1, 2, 3, 4, 5, 6, 7, 8, 9, 10, 11, 12, 13, 14, 15, 16, 17, 18, 19, 20, 21, 0] (by decide +kernel) rfl
    obtain ⟨er5, ec5, hR9⟩ := hu5
    subst er5
    refine lv_i2l hx hb dL_rank_8 rfl ?_
    refine xr_lst hx hb hKN.1 hP hD hS 21 1 rfl rfl (j := 0) (by decide) (by decide) dL_rank_9 (fun H locs hP hD hS => ?_)
    have hP : va_P D vwCl ((wX ca f kq ad) ++ (wKd kq) ++ (wMp ca kq (ad i0) u5) ++ [(g, .inl (ca 1, 1, .inr (.inl (vp_updL ov 0 (((GG (0 : Int32) (F_rank key) mm r).1).toInt64)))))]) H := hP
    have hD : va_D A ((wX ca f kq ad) ++ (wKd kq) ++ (wMp ca kq (ad i0) u5) ++ [(g, .inl (ca 1, 1, .inr (.inl (vp_updL ov 0 (((GG (0 : Int32) (F_rank key) mm r).1).toInt64)))))]) := hD
    refine lv_goto (tgt := 17) hx hb dL_rank_10 (by decide) ?_
    refine lv_iconst (v := 0) hx hb dL_rank_17 (by decide) ?_
    refine W.widen (k := 2) (n := 12) (by omega) (by omega) ?_
    exact vx_ret (W.iret (v := 0) hx hb hr (fun t9 e9 w9 => ⟨⟨_, (u5, vp_updL ov 0 (((GG (0 : Int32) (F_rank key) mm r).1).toInt64)), rfl, ⟨ec5.symm, hR9, fun _ => (oL_eq ov 0 _).trans rfl⟩, by rw [e9]; exact hP, hD⟩, hS.F e9⟩) hS.2.2 dL_rank_18)

-- TreeFamilyLaw.select
set_option maxHeartbeats 4000000 in
set_option maxRecDepth 100000 in
theorem c_L_select (l : Launch) (D : va_G) (ca : Nat → ClassId) (f kq : Nat → Nat) (ad : Nat → Nat → Nat) (sz : Nat) (hl9 : l.stackTraces = false) (i0 g : Nat) (m : MS) (ov : Nat → Int64) (r : RW) (N : Nat) (mm : Int32) (x0 : Int32) (hR : Rel1 N m r) (hN : N ≤ 1000000) (hm : isB mm 3 = true → mm = nI i0 ∧ i0 < 3) : vx_Met l yL_select wsL_select ({ frames := 8, cells := 2, slots := 12, locals := 134 } : Room) (xPcH D (TY ca) [.ref (f 0), .int mm, .int x0, .ref g] ((wX ca f kq ad) ++ (wKd kq) ++ (wMp ca kq (ad i0) m) ++ [(g, .inl (ca 1, 1, .inr (.inl ov)))]) sz) (va_Qi (fun (x : Int32) (u : MO) => x = (GG (0 : Int32) (F_select x0) mm r).2.1 ∧ Rel1 (N + 61) u.1 (GG (0 : Int32) (F_select x0) mm r).2.2 ∧ (x = 0 → u.2 0 = ((GG (0 : Int32) (F_select x0) mm r).1).toInt64)) (xB D (wH ca f kq ad i0 g) (va_A ((wX ca f kq ad) ++ (wKd kq) ++ (wMp ca kq (ad i0) m) ++ [(g, .inl (ca 1, 1, .inr (.inl ov)))]) sz)) (va_A ((wX ca f kq ad) ++ (wKd kq) ++ (wMp ca kq (ad i0) m) ++ [(g, .inl (ca 1, 1, .inr (.inl ov)))]) sz)) (xX D (wH ca f kq ad i0 g) (va_A ((wX ca f kq ad) ++ (wKd kq) ++ (wMp ca kq (ad i0) m) ++ [(g, .inl (ca 1, 1, .inr (.inl ov)))]) sz) (fun (_ : String) (_ : MO) => False)) 2 12 (va_A ((wX ca f kq ad) ++ (wKd kq) ++ (wMp ca kq (ad i0) m) ++ [(g, .inl (ca 1, 1, .inr (.inl ov)))]) sz) := by
  refine vx_ofWH (cc := cL_select) (maxL := 5) (ret := (some .int)) (by decide) rfl ?_
  intro p e s m9 args below meth c s₁ B hml hv
  obtain ⟨rfl, hsz, hP, hKN, hD0, hTZ, hNC⟩ := hv
  have hx := B.exec
  have hb := B.bytes
  have hr := B.returns
  have hts := atoms_spec (ws := wsL_select) B.pre
  have hown : s.vm.findClass RL = some m9.cls := findClass_of_methodNamed B.named
  have hTab : c.exceptionTable.toList = [(⟨0, 10, 13, 13⟩ : ExceptionTableEntry), (⟨0, 10, 17, 19⟩ : ExceptionTableEntry)] := by
    obtain ⟨m8, meth8, c8, n1, n2, n3, -, -, n6, -⟩ := Cond.codeWith_spec (hts _ List.mem_cons_self)
    cases Option.some.inj (n1.symm.trans B.named)
    cases Option.some.inj (n2.symm.trans B.method)
    cases Option.some.inj (n3.symm.trans (Stand.of_body B).code)
    exact tabEq n6
  have hlocks := B.notSynchronized
  subst hsz
  have hD := hD0.self (sz := s.heap.size)
  generalize hAe : va_A ((wX ca f kq ad) ++ (wKd kq) ++ (wMp ca kq (ad i0) m) ++ [(g, .inl (ca 1, 1, .inr (.inl ov)))]) s.heap.size = A at hD hTZ ⊢
  have hA : ∀ q : Nat, s.heap.size ≤ q → A q := fun q h => by rw [← hAe]; exact Or.inr h
  have hS : va_S A s.heap s.heap [] := va_S.rf
  have hl := lv_entry ([.ref (f 0), .int mm, .int x0, .ref g]) (n := 5) (Nat.le_of_ble_eq_true rfl)
  rw [lg_entry_eq]
  generalize (lg_sl ([.ref (f 0), .int mm, .int x0, .ref g]) ++ List.replicate (5 - (lg_sl ([.ref (f 0), .int mm, .int x0, .ref g])).length) Slot.unset).toArray = ls at hl ⊢
  have hl : lv_has ls 5 [(0, .ref (f 0)), (1, .int mm), (2, .int x0), (3, .ref g)] := hl
  refine lv_aload_n hx hb dL_select_0 rfl (lv_at hl 3 rfl) ?_
  refine lv_iconst (v := 0) hx hb dL_select_1 (by decide) ?_
  refine lv_aload_n hx hb dL_select_2 rfl (lv_at hl 0 rfl) ?_
  refine lv_iload_n hx hb dL_select_3 rfl (lv_at hl 1 rfl) ?_
  refine lv_iload_n hx hb dL_select_4 rfl (lv_at hl 2 rfl) ?_
  refine xcx_i (wr := [(g, .inl (ca 1, 1, .inr (.inl ov)))]) (vx_runV (As := [.int mm, .int x0]) (rest := [.int 0, .ref g]) ⟨hx, hb, hml, hown, hts⟩ (c_X10_select l D ca f kq ad _ hl9 i0 m r N mm x0 hR hN hm) (cwV 2 hts gL_select_X10_select rfl rfl rfl (by decide +kernel) ⟨(Nat.le_of_ble_eq_true rfl), (Nat.le_of_ble_eq_true rfl)⟩) (xPreVT hKN hTZ hP hD hS hA [0, 1, 2, 3, 4, 5, 6, 7, 8, 9, 10, 11, 12, 13, 14, 15, 16, 17, 18, 19, 20] (by decide +kernel) rfl (q0 := 0) rfl rfl rfl) rfl rfl hl.1 rfl (lv_room (Nat.le_of_ble_eq_true rfl)) dL_select_5 ⟨(Nat.le_of_ble_eq_true rfl), (Nat.le_of_ble_eq_true rfl)⟩) hP hD hS hA [0, 1, 2, 3, 4, 5, 6, 7, 8, 9, 10, 11, 12, 13, 14, 15, 16, 17, 18, 19, 20] [21] rfl rfl (by decide +kernel) (by decide +kernel) (fun E9 ce9 q9 u5 H locs hu5 hP hD hS h91 h92 h93 => ?_) (fun r5 u5 H locs hu5 hP hD hS => ?_)
  · skip
    have hP : va_P D vwCl ((wX ca f kq ad) ++ (wKd kq) ++ (wMp ca kq (ad i0) u5) ++ [(g, .inl (ca 1, 1, .inr (.inl ov)))]) H := hP.sub (ws' := (wX ca f kq ad) ++ (wKd kq) ++ (wMp ca kq (ad i0) u5) ++ [(g, .inl (ca 1, 1, .inr (.inl ov)))]) [1, 2, 3, 4, 5, 6, 7, 8, 9, 10, 11, 12, 13, 14, 15, 16, 17, 18, 19, 20, 21, 0] rfl
    have hD : va_D A ((wX ca f kq ad) ++ (wKd kq) ++ (wMp ca kq (ad i0) u5) ++ [(g, .inl (ca 1, 1, .inr (.inl ov)))]) := hD.sub (ws' := (wX ca f kq ad) ++ (wKd kq) ++ (wMp ca kq (ad i0) u5) ++ [(g, .inl (ca 1, 1, .inr (.inl ov)))]) [1, 2, 3, 4, 5, 6, 7, 8, 9, 10, 11, 12, 13, 14, 15, 16, 17, 18, 19, 20, 21, 0] (by decide +kernel) rfl
    obtain ⟨eE, hc9, hR9⟩ := hu5
    have hco : (GG (0 : Int32) (F_select x0) mm r).2.1 = 0 ∨ (GG (0 : Int32) (F_select x0) mm r).2.1 = 1 ∨ (GG (0 : Int32) (F_select x0) mm r).2.1 = 2 := GG_c (z := (0 : Int32)) (F := F_select x0) (P := fun c => c = 0 ∨ c = 1 ∨ c = 2) (by simp) (fun r => co_select x0 r) mm r
    rcases hco with hc | hc | hc
    · exact absurd hc hc9
    · rw [hc] at eE
      have eE : E9 = eIA := eE
      subst eE
      refine vx_catch hown [] (⟨0, 10, 13, 13⟩ : ExceptionTableEntry) [(⟨0, 10, 17, 19⟩ : ExceptionTableEntry)] hTab (fun z hz => absurd hz List.not_mem_nil) (by decide) (by show ¬ 13 = 0; decide) (name := eIA) (hts (.classLink RL 13 eIA) (by decide +kernel)) (va_Nw.use rfl (NW.c hKN.2 (by decide +kernel))) h91 h92 h93 ?_
      refine lv_astore (lv' := [(4, .ref q9), (0, .ref (f 0)), (1, .int mm), (2, .int x0), (3, .ref g)]) hx hb dL_select_13 hl (by decide) rfl (fun ls hl => ?_)
      refine lv_iconst (v := 1) hx hb dL_select_15 (by decide) ?_
      refine W.widen (k := 2) (n := 12) (by omega) (by omega) ?_
      exact vx_ret (W.iret (v := 1) hx hb hr (fun t9 e9 w9 => ⟨⟨_, (u5, ov), rfl, ⟨hc.symm, hR9, fun q => absurd q (by decide)⟩, by rw [e9]; exact hP, hD⟩, hS.F e9⟩) hS.2.2 dL_select_16)
    · rw [hc] at eE
      have eE : E9 = eIO := eE
      subst eE
      skip
      refine vx_catch hown [(⟨0, 10, 13, 13⟩ : ExceptionTableEntry)] (⟨0, 10, 17, 19⟩ : ExceptionTableEntry) [] hTab (cat_c (Or.inr ⟨(by show ¬ 13 = 0; decide), eIA, hts (.classLink RL 13 eIA) (by decide +kernel), hNC.1⟩) (fun z hz => absurd hz List.not_mem_nil)) (by decide) (by show ¬ 19 = 0; decide) (name := eIO) (hts (.classLink RL 19 eIO) (by decide +kernel)) (va_Nw.use rfl (NW.c hKN.2 (by decide +kernel))) h91 h92 h93 ?_
      refine lv_astore (lv' := [(4, .ref q9), (0, .ref (f 0)), (1, .int mm), (2, .int x0), (3, .ref g)]) hx hb dL_select_17 hl (by decide) rfl (fun ls hl => ?_)
      refine lv_iconst (v := 2) hx hb dL_select_19 (by decide) ?_
      refine W.widen (k := 2) (n := 12) (by omega) (by omega) ?_
      exact vx_ret (W.iret (v := 2) hx hb hr (fun t9 e9 w9 => ⟨⟨_, (u5, ov), rfl, ⟨hc.symm, hR9, fun q => absurd q (by decide)⟩, by rw [e9]; exact hP, hD⟩, hS.F e9⟩) hS.2.2 dL_select_20)
  · skip
    have hP : va_P D vwCl ((wX ca f kq ad) ++ (wKd kq) ++ (wMp ca kq (ad i0) u5) ++ [(g, .inl (ca 1, 1, .inr (.inl ov)))]) H := hP.sub (ws' := (wX ca f kq ad) ++ (wKd kq) ++ (wMp ca kq (ad i0) u5) ++ [(g, .inl (ca 1, 1, .inr (.inl ov)))]) [1, 2, 3, 4, 5, 6, 7, 8, 9, 10, 11, 12, 13, 14, 15, 16, 17, 18, 19, 20, 21, 0] rfl
    have hD : va_D A ((wX ca f kq ad) ++ (wKd kq) ++ (wMp ca kq (ad i0) u5) ++ [(g, .inl (ca 1, 1, .inr (.inl ov)))]) := hD.sub (ws' := (wX ca f kq ad) ++ (wKd kq) ++ (wMp ca kq (ad i0) u5) ++ [(g, .inl (ca 1, 1, .inr (.inl ov)))]) [1, 2, 3, 4, 5, 6, 7, 8, 9, 10, 11, 12, 13, 14, 15, 16, 17, 18, 19, 20, 21, 0] (by decide +kernel) rfl
    obtain ⟨er5, ec5, hR9⟩ := hu5
    subst er5
    refine lv_i2l hx hb dL_select_8 rfl ?_
    refine xr_lst hx hb hKN.1 hP hD hS 21 1 rfl rfl (j := 0) (by decide) (by decide) dL_select_9 (fun H locs hP hD hS => ?_)
    have hP : va_P D vwCl ((wX ca f kq ad) ++ (wKd kq) ++ (wMp ca kq (ad i0) u5) ++ [(g, .inl (ca 1, 1, .inr (.inl (vp_updL ov 0 (((GG (0 : Int32) (F_select x0) mm r).1).toInt64)))))]) H := hP
    have hD : va_D A ((wX ca f kq ad) ++ (wKd kq) ++ (wMp ca kq (ad i0) u5) ++ [(g, .inl (ca 1, 1, .inr (.inl (vp_updL ov 0 (((GG (0 : Int32) (F_select x0) mm r).1).toInt64)))))]) := hD
    refine lv_goto (tgt := 21) hx hb dL_select_10 (by decide) ?_
    refine lv_iconst (v := 0) hx hb dL_select_21 (by decide) ?_
    refine W.widen (k := 2) (n := 12) (by omega) (by omega) ?_
    exact vx_ret (W.iret (v := 0) hx hb hr (fun t9 e9 w9 => ⟨⟨_, (u5, vp_updL ov 0 (((GG (0 : Int32) (F_select x0) mm r).1).toInt64)), rfl, ⟨ec5.symm, hR9, fun _ => (oL_eq ov 0 _).trans rfl⟩, by rw [e9]; exact hP, hD⟩, hS.F e9⟩) hS.2.2 dL_select_22)

-- TreeFamilyLaw.sum
set_option maxHeartbeats 4000000 in
set_option maxRecDepth 100000 in
theorem c_L_sum (l : Launch) (D : va_G) (ca : Nat → ClassId) (f kq : Nat → Nat) (ad : Nat → Nat → Nat) (sz : Nat) (hl9 : l.stackTraces = false) (i0 g : Nat) (m : MS) (ov : Nat → Int64) (r : RW) (N : Nat) (mm : Int32) (key : Int32) (hR : Rel1 N m r) (hN : N ≤ 1000000) (hm : isB mm 3 = true → mm = nI i0 ∧ i0 < 3) : vx_Met l yL_sum wsL_sum ({ frames := 8, cells := 2, slots := 12, locals := 133 } : Room) (xPcH D (TY ca) [.ref (f 0), .int mm, .int key, .ref g] ((wX ca f kq ad) ++ (wKd kq) ++ (wMp ca kq (ad i0) m) ++ [(g, .inl (ca 1, 1, .inr (.inl ov)))]) sz) (va_Qi (fun (x : Int32) (u : MO) => x = (GG (0 : Int64) (F_sum key) mm r).2.1 ∧ Rel1 (N + 61) u.1 (GG (0 : Int64) (F_sum key) mm r).2.2 ∧ (x = 0 → u.2 0 = (GG (0 : Int64) (F_sum key) mm r).1)) (xB D (wH ca f kq ad i0 g) (va_A ((wX ca f kq ad) ++ (wKd kq) ++ (wMp ca kq (ad i0) m) ++ [(g, .inl (ca 1, 1, .inr (.inl ov)))]) sz)) (va_A ((wX ca f kq ad) ++ (wKd kq) ++ (wMp ca kq (ad i0) m) ++ [(g, .inl (ca 1, 1, .inr (.inl ov)))]) sz)) (xX D (wH ca f kq ad i0 g) (va_A ((wX ca f kq ad) ++ (wKd kq) ++ (wMp ca kq (ad i0) m) ++ [(g, .inl (ca 1, 1, .inr (.inl ov)))]) sz) (fun (_ : String) (_ : MO) => False)) 2 12 (va_A ((wX ca f kq ad) ++ (wKd kq) ++ (wMp ca kq (ad i0) m) ++ [(g, .inl (ca 1, 1, .inr (.inl ov)))]) sz) := by
  refine vx_ofWH (cc := cL_sum) (maxL := 5) (ret := (some .int)) (by decide) rfl ?_
  intro p e s m9 args below meth c s₁ B hml hv
  obtain ⟨rfl, hsz, hP, hKN, hD0, hTZ, hNC⟩ := hv
  have hx := B.exec
  have hb := B.bytes
  have hr := B.returns
  have hts := atoms_spec (ws := wsL_sum) B.pre
  have hown : s.vm.findClass RL = some m9.cls := findClass_of_methodNamed B.named
  have hTab : c.exceptionTable.toList = [(⟨0, 9, 12, 13⟩ : ExceptionTableEntry)] := by
    obtain ⟨m8, meth8, c8, n1, n2, n3, -, -, n6, -⟩ := Cond.codeWith_spec (hts _ List.mem_cons_self)
    cases Option.some.inj (n1.symm.trans B.named)
    cases Option.some.inj (n2.symm.trans B.method)
    cases Option.some.inj (n3.symm.trans (Stand.of_body B).code)
    exact tabEq n6
  have hlocks := B.notSynchronized
  subst hsz
  have hD := hD0.self (sz := s.heap.size)
  generalize hAe : va_A ((wX ca f kq ad) ++ (wKd kq) ++ (wMp ca kq (ad i0) m) ++ [(g, .inl (ca 1, 1, .inr (.inl ov)))]) s.heap.size = A at hD hTZ ⊢
  have hA : ∀ q : Nat, s.heap.size ≤ q → A q := fun q h => by rw [← hAe]; exact Or.inr h
  have hS : va_S A s.heap s.heap [] := va_S.rf
  have hl := lv_entry ([.ref (f 0), .int mm, .int key, .ref g]) (n := 5) (Nat.le_of_ble_eq_true rfl)
  rw [lg_entry_eq]
  generalize (lg_sl ([.ref (f 0), .int mm, .int key, .ref g]) ++ List.replicate (5 - (lg_sl ([.ref (f 0), .int mm, .int key, .ref g])).length) Slot.unset).toArray = ls at hl ⊢
  have hl : lv_has ls 5 [(0, .ref (f 0)), (1, .int mm), (2, .int key), (3, .ref g)] := hl
  refine lv_aload_n hx hb dL_sum_0 rfl (lv_at hl 3 rfl) ?_
  refine lv_iconst (v := 0) hx hb dL_sum_1 (by decide) ?_
  refine lv_aload_n hx hb dL_sum_2 rfl (lv_at hl 0 rfl) ?_
  refine lv_iload_n hx hb dL_sum_3 rfl (lv_at hl 1 rfl) ?_
  refine lv_iload_n hx hb dL_sum_4 rfl (lv_at hl 2 rfl) ?_
  refine xcx_l (wr := [(g, .inl (ca 1, 1, .inr (.inl ov)))]) (vx_runV (As := [.int mm, .int key]) (rest := [.int 0, .ref g]) ⟨hx, hb, hml, hown, hts⟩ (c_X10_sum l D ca f kq ad _ hl9 i0 m r N mm key hR hN hm) (cwV 2 hts gL_sum_X10_sum rfl rfl rfl (by decide +kernel) ⟨(Nat.le_of_ble_eq_true rfl), (Nat.le_of_ble_eq_true rfl)⟩) (xPreVT hKN hTZ hP hD hS hA [0, 1, 2, 3, 4, 5, 6, 7, 8, 9, 10, 11, 12, 13, 14, 15, 16, 17, 18, 19, 20] (by decide +kernel) rfl (q0 := 0) rfl rfl rfl) rfl rfl hl.1 rfl (lv_room (Nat.le_of_ble_eq_true rfl)) dL_sum_5 ⟨(Nat.le_of_ble_eq_true rfl), (Nat.le_of_ble_eq_true rfl)⟩) hP hD hS hA [0, 1, 2, 3, 4, 5, 6, 7, 8, 9, 10, 11, 12, 13, 14, 15, 16, 17, 18, 19, 20] [21] rfl rfl (by decide +kernel) (by decide +kernel) (fun E9 ce9 q9 u5 H locs hu5 hP hD hS h91 h92 h93 => ?_) (fun r5 u5 H locs hu5 hP hD hS => ?_)
  · skip
    have hP : va_P D vwCl ((wX ca f kq ad) ++ (wKd kq) ++ (wMp ca kq (ad i0) u5) ++ [(g, .inl (ca 1, 1, .inr (.inl ov)))]) H := hP.sub (ws' := (wX ca f kq ad) ++ (wKd kq) ++ (wMp ca kq (ad i0) u5) ++ [(g, .inl (ca 1, 1, .inr (.inl ov)))]) [1, 2, 3, 4, 5, 6, 7, 8, 9, 10, 11, 12, 13, 14, 15, 16, 17, 18, 19, 20, 21, 0] rfl
    have hD : va_D A ((wX ca f kq ad) ++ (wKd kq) ++ (wMp ca kq (ad i0) u5) ++ [(g, .inl (ca 1, 1, .inr (.inl ov)))]) := hD.sub (ws' := (wX ca f kq ad) ++ (wKd kq) ++ (wMp ca kq (ad i0) u5) ++ [(g, .inl (ca 1, 1, .inr (.inl ov)))]) [1, 2, 3, 4, 5, 6, 7, 8, 9, 10, 11, 12, 13, 14, 15, 16, 17, 18, 19, 20, 21, 0] (by decide +kernel) rfl
    obtain ⟨eE, hc9, hR9⟩ := hu5
    have hco : (GG (0 : Int64) (F_sum key) mm r).2.1 = 0 ∨ (GG (0 : Int64) (F_sum key) mm r).2.1 = 1 := GG_c (z := (0 : Int64)) (F := F_sum key) (P := fun c => c = 0 ∨ c = 1) (by simp) (fun r => co_sum key r) mm r
    rcases hco with hc | hc
    · exact absurd hc hc9
    · rw [hc] at eE
      have eE : E9 = eIA := eE
      subst eE
      refine vx_catch hown [] (⟨0, 9, 12, 13⟩ : ExceptionTableEntry) [] hTab (fun z hz => absurd hz List.not_mem_nil) (by decide) (by show ¬ 13 = 0; decide) (name := eIA) (hts (.classLink RL 13 eIA) (by decide +kernel)) (va_Nw.use rfl (NW.c hKN.2 (by decide +kernel))) h91 h92 h93 ?_
      refine lv_astore (lv' := [(4, .ref q9), (0, .ref (f 0)), (1, .int mm), (2, .int key), (3, .ref g)]) hx hb dL_sum_12 hl (by decide) rfl (fun ls hl => ?_)
      refine lv_iconst (v := 1) hx hb dL_sum_14 (by decide) ?_
      refine W.widen (k := 2) (n := 12) (by omega) (by omega) ?_
      exact vx_ret (W.iret (v := 1) hx hb hr (fun t9 e9 w9 => ⟨⟨_, (u5, ov), rfl, ⟨hc.symm, hR9, fun q => absurd q (by decide)⟩, by rw [e9]; exact hP, hD⟩, hS.F e9⟩) hS.2.2 dL_sum_15)
  · skip
    have hP : va_P D vwCl ((wX ca f kq ad) ++ (wKd kq) ++ (wMp ca kq (ad i0) u5) ++ [(g, .inl (ca 1, 1, .inr (.inl ov)))]) H := hP.sub (ws' := (wX ca f kq ad) ++ (wKd kq) ++ (wMp ca kq (ad i0) u5) ++ [(g, .inl (ca 1, 1, .inr (.inl ov)))]) [1, 2, 3, 4, 5, 6, 7, 8, 9, 10, 11, 12, 13, 14, 15, 16, 17, 18, 19, 20, 21, 0] rfl
    have hD : va_D A ((wX ca f kq ad) ++ (wKd kq) ++ (wMp ca kq (ad i0) u5) ++ [(g, .inl (ca 1, 1, .inr (.inl ov)))]) := hD.sub (ws' := (wX ca f kq ad) ++ (wKd kq) ++ (wMp ca kq (ad i0) u5) ++ [(g, .inl (ca 1, 1, .inr (.inl ov)))]) [1, 2, 3, 4, 5, 6, 7, 8, 9, 10, 11, 12, 13, 14, 15, 16, 17, 18, 19, 20, 21, 0] (by decide +kernel) rfl
    obtain ⟨er5, ec5, hR9⟩ := hu5
    subst er5
    refine xr_lst hx hb hKN.1 hP hD hS 21 1 rfl rfl (j := 0) (by decide) (by decide) dL_sum_8 (fun H locs hP hD hS => ?_)
    have hP : va_P D vwCl ((wX ca f kq ad) ++ (wKd kq) ++ (wMp ca kq (ad i0) u5) ++ [(g, .inl (ca 1, 1, .inr (.inl (vp_updL ov 0 ((GG (0 : Int64) (F_sum key) mm r).1)))))]) H := hP
    have hD : va_D A ((wX ca f kq ad) ++ (wKd kq) ++ (wMp ca kq (ad i0) u5) ++ [(g, .inl (ca 1, 1, .inr (.inl (vp_updL ov 0 ((GG (0 : Int64) (F_sum key) mm r).1)))))]) := hD
    refine lv_goto (tgt := 16) hx hb dL_sum_9 (by decide) ?_
    refine lv_iconst (v := 0) hx hb dL_sum_16 (by decide) ?_
    refine W.widen (k := 2) (n := 12) (by omega) (by omega) ?_
    exact vx_ret (W.iret (v := 0) hx hb hr (fun t9 e9 w9 => ⟨⟨_, (u5, vp_updL ov 0 ((GG (0 : Int64) (F_sum key) mm r).1)), rfl, ⟨ec5.symm, hR9, fun _ => (oL_eq ov 0 _).trans rfl⟩, by rw [e9]; exact hP, hD⟩, hS.F e9⟩) hS.2.2 dL_sum_17)

-- TreeFamilyLaw.range
set_option maxHeartbeats 4000000 in
set_option maxRecDepth 100000 in
theorem c_L_range (l : Launch) (D : va_G) (ca : Nat → ClassId) (f kq : Nat → Nat) (ad : Nat → Nat → Nat) (sz : Nat) (hl9 : l.stackTraces = false) (i0 : Nat) (m : MS) (r : RW) (N : Nat) (mm : Int32) (how g1 g2 : Int32) (hR : Rel1 N m r) (hN : N ≤ 1000000) (hm : isB mm 3 = true → mm = nI i0 ∧ i0 < 3) : vx_Met l yL_range wsL_range ({ frames := 8, cells := 2, slots := 12, locals := 136 } : Room) (xPcH D (TY ca) [.ref (f 0), .int mm, .int how, .int g1, .int g2] ((wX ca f kq ad) ++ (wKd kq) ++ (wMp ca kq (ad i0) m)) sz) (va_Qi (fun (x : Int32) (u : MS) => x = (GG () (F_range how g1 g2) mm r).2.1 ∧ Rel1 (N + 61) u (GG () (F_range how g1 g2) mm r).2.2) (xB D (wF1 ca f kq ad i0) (va_A ((wX ca f kq ad) ++ (wKd kq) ++ (wMp ca kq (ad i0) m)) sz)) (va_A ((wX ca f kq ad) ++ (wKd kq) ++ (wMp ca kq (ad i0) m)) sz)) (xX D (wF1 ca f kq ad i0) (va_A ((wX ca f kq ad) ++ (wKd kq) ++ (wMp ca kq (ad i0) m)) sz) (fun (_ : String) (_ : MS) => False)) 2 12 (va_A ((wX ca f kq ad) ++ (wKd kq) ++ (wMp ca kq (ad i0) m)) sz) := by
  refine vx_ofWH (cc := cL_range) (maxL := 6) (ret := (some .int)) (by decide) rfl ?_
  intro p e s m9 args below meth c s₁ B hml hv
  obtain ⟨rfl, hsz, hP, hKN, hD0, hTZ, hNC⟩ := hv
  have hx := B.exec
  have hb := B.bytes
  have hr := B.returns
  have hts := atoms_spec (ws := wsL_range) B.pre
  have hown : s.vm.findClass RL = some m9.cls := findClass_of_methodNamed B.named
  have hTab : c.exceptionTable.toList = [(⟨0, 9, 12, 13⟩ : ExceptionTableEntry)] := by
    obtain ⟨m8, meth8, c8, n1, n2, n3, -, -, n6, -⟩ := Cond.codeWith_spec (hts _ List.mem_cons_self)
    cases Option.some.inj (n1.symm.trans B.named)
    cases Option.some.inj (n2.symm.trans B.method)
    cases Option.some.inj (n3.symm.trans (Stand.of_body B).code)
    exact tabEq n6
  have hlocks := B.notSynchronized
  subst hsz
  have hD := hD0.self (sz := s.heap.size)
  generalize hAe : va_A ((wX ca f kq ad) ++ (wKd kq) ++ (wMp ca kq (ad i0) m)) s.heap.size = A at hD hTZ ⊢
  have hA : ∀ q : Nat, s.heap.size ≤ q → A q := fun q h => by rw [← hAe]; exact Or.inr h
  have hS : va_S A s.heap s.heap [] := va_S.rf
  have hl := lv_entry ([.ref (f 0), .int mm, .int how, .int g1, .int g2]) (n := 6) (Nat.le_of_ble_eq_true rfl)
  rw [lg_entry_eq]
  generalize (lg_sl ([.ref (f 0), .int mm, .int how, .int g1, .int g2]) ++ List.replicate (6 - (lg_sl ([.ref (f 0), .int mm, .int how, .int g1, .int g2])).length) Slot.unset).toArray = ls at hl ⊢
  have hl : lv_has ls 6 [(0, .ref (f 0)), (1, .int mm), (2, .int how), (3, .int g1), (4, .int g2)] := hl
  refine lv_aload_n hx hb dL_range_0 rfl (lv_at hl 0 rfl) ?_
  refine lv_iload_n hx hb dL_range_1 rfl (lv_at hl 1 rfl) ?_
  refine lv_iload_n hx hb dL_range_2 rfl (lv_at hl 2 rfl) ?_
  refine lv_iload_n hx hb dL_range_3 rfl (lv_at hl 3 rfl) ?_
  refine lv_iload hx hb dL_range_4 (lv_at hl 4 rfl) ?_
  refine xcx_v (wr := []) (vx_runV (As := [.int mm, .int how, .int g1, .int g2]) (rest := []) ⟨hx, hb, hml, hown, hts⟩ (c_X10_range l D ca f kq ad _ hl9 i0 m r N mm how g1 g2 hR hN hm) (cwV 4 hts gL_range_X10_range rfl rfl rfl (by decide +kernel) ⟨(Nat.le_of_ble_eq_true rfl), (Nat.le_of_ble_eq_true rfl)⟩) (xPreVT hKN hTZ hP hD hS hA [0, 1, 2, 3, 4, 5, 6, 7, 8, 9, 10, 11, 12, 13, 14, 15, 16, 17, 18, 19, 20] (by decide +kernel) rfl (q0 := 0) rfl rfl rfl) rfl rfl hl.1 rfl (lv_room (Nat.le_of_ble_eq_true rfl)) dL_range_6 ⟨(Nat.le_of_ble_eq_true rfl), (Nat.le_of_ble_eq_true rfl)⟩) hP hD hS hA [0, 1, 2, 3, 4, 5, 6, 7, 8, 9, 10, 11, 12, 13, 14, 15, 16, 17, 18, 19, 20] [] rfl rfl (by decide +kernel) (by decide +kernel) (fun E9 ce9 q9 u6 H locs hu6 hP hD hS h91 h92 h93 => ?_) (fun u6 H locs hu6 hP hD hS => ?_)
  · skip
    have hP : va_P D vwCl ((wX ca f kq ad) ++ (wKd kq) ++ (wMp ca kq (ad i0) u6)) H := hP
    have hD : va_D A ((wX ca f kq ad) ++ (wKd kq) ++ (wMp ca kq (ad i0) u6)) := hD
    obtain ⟨eE, hc9, hR9⟩ := hu6
    have hco : (GG () (F_range how g1 g2) mm r).2.1 = 0 ∨ (GG () (F_range how g1 g2) mm r).2.1 = 1 := GG_c (z := ()) (F := F_range how g1 g2) (P := fun c => c = 0 ∨ c = 1) (by simp) (fun r => co_range how g1 g2 r) mm r
    rcases hco with hc | hc
    · exact absurd hc hc9
    · rw [hc] at eE
      have eE : E9 = eIA := eE
      subst eE
      refine vx_catch hown [] (⟨0, 9, 12, 13⟩ : ExceptionTableEntry) [] hTab (fun z hz => absurd hz List.not_mem_nil) (by decide) (by show ¬ 13 = 0; decide) (name := eIA) (hts (.classLink RL 13 eIA) (by decide +kernel)) (va_Nw.use rfl (NW.c hKN.2 (by decide +kernel))) h91 h92 h93 ?_
      refine lv_astore (lv' := [(5, .ref q9), (0, .ref (f 0)), (1, .int mm), (2, .int how), (3, .int g1), (4, .int g2)]) hx hb dL_range_12 hl (by decide) rfl (fun ls hl => ?_)
      refine lv_iconst (v := 1) hx hb dL_range_14 (by decide) ?_
      refine W.widen (k := 2) (n := 12) (by omega) (by omega) ?_
      exact vx_ret (W.iret (v := 1) hx hb hr (fun t9 e9 w9 => ⟨⟨_, u6, rfl, ⟨hc.symm, hR9⟩, by rw [e9]; exact hP, hD⟩, hS.F e9⟩) hS.2.2 dL_range_15)
  · skip
    have hP : va_P D vwCl ((wX ca f kq ad) ++ (wKd kq) ++ (wMp ca kq (ad i0) u6)) H := hP
    have hD : va_D A ((wX ca f kq ad) ++ (wKd kq) ++ (wMp ca kq (ad i0) u6)) := hD
    obtain ⟨er6, ec6, hR9⟩ := hu6
    refine lv_goto (tgt := 16) hx hb dL_range_9 (by decide) ?_
    refine lv_iconst (v := 0) hx hb dL_range_16 (by decide) ?_
    refine W.widen (k := 2) (n := 12) (by omega) (by omega) ?_
    exact vx_ret (W.iret (v := 0) hx hb hr (fun t9 e9 w9 => ⟨⟨_, u6, rfl, ⟨ec6.symm, hR9⟩, by rw [e9]; exact hP, hD⟩, hS.F e9⟩) hS.2.2 dL_range_17)

-- TreeFamilyLaw.within
set_option maxHeartbeats 4000000 in
set_option maxRecDepth 100000 in
theorem c_L_within (l : Launch) (D : va_G) (ca : Nat → ClassId) (f kq : Nat → Nat) (ad : Nat → Nat → Nat) (sz : Nat) (hl9 : l.stackTraces = false) (i0 g : Nat) (m : MS) (ov : Nat → Int64) (r : RW) (N : Nat) (mm : Int32) (what : Int32) (hR : Rel1 N m r) (hN : N ≤ 1000000) (hm : isB mm 3 = true → mm = nI i0 ∧ i0 < 3) : vx_Met l yL_within wsL_within ({ frames := 8, cells := 2, slots := 12, locals := 135 } : Room) (xPcH D (TY ca) [.ref (f 0), .int mm, .int what, .ref g] ((wX ca f kq ad) ++ (wKd kq) ++ (wMp ca kq (ad i0) m) ++ [(g, .inl (ca 1, 1, .inr (.inl ov)))]) sz) (va_Qi (fun (x : Int32) (u : MO) => x = (GG (0 : Int32) (F_within what) mm r).2.1 ∧ Rel1 (N + 61) u.1 (GG (0 : Int32) (F_within what) mm r).2.2 ∧ (x = 0 → u.2 0 = ((GG (0 : Int32) (F_within what) mm r).1).toInt64)) (xB D (wH ca f kq ad i0 g) (va_A ((wX ca f kq ad) ++ (wKd kq) ++ (wMp ca kq (ad i0) m) ++ [(g, .inl (ca 1, 1, .inr (.inl ov)))]) sz)) (va_A ((wX ca f kq ad) ++ (wKd kq) ++ (wMp ca kq (ad i0) m) ++ [(g, .inl (ca 1, 1, .inr (.inl ov)))]) sz)) (xX D (wH ca f kq ad i0 g) (va_A ((wX ca f kq ad) ++ (wKd kq) ++ (wMp ca kq (ad i0) m) ++ [(g, .inl (ca 1, 1, .inr (.inl ov)))]) sz) (fun (_ : String) (_ : MO) => False)) 2 12 (va_A ((wX ca f kq ad) ++ (wKd kq) ++ (wMp ca kq (ad i0) m) ++ [(g, .inl (ca 1, 1, .inr (.inl ov)))]) sz) := by
  refine vx_ofWH (cc := cL_within) (maxL := 5) (ret := (some .int)) (by decide) rfl ?_
  intro p e s m9 args below meth c s₁ B hml hv
  obtain ⟨rfl, hsz, hP, hKN, hD0, hTZ, hNC⟩ := hv
  have hx := B.exec
  have hb := B.bytes
  have hr := B.returns
  have hts := atoms_spec (ws := wsL_within) B.pre
  have hown : s.vm.findClass RL = some m9.cls := findClass_of_methodNamed B.named
  have hTab : c.exceptionTable.toList = [(⟨0, 10, 13, 13⟩ : ExceptionTableEntry), (⟨0, 10, 17, 19⟩ : ExceptionTableEntry)] := by
    obtain ⟨m8, meth8, c8, n1, n2, n3, -, -, n6, -⟩ := Cond.codeWith_spec (hts _ List.mem_cons_self)
    cases Option.some.inj (n1.symm.trans B.named)
    cases Option.some.inj (n2.symm.trans B.method)
    cases Option.some.inj (n3.symm.trans (Stand.of_body B).code)
    exact tabEq n6
  have hlocks := B.notSynchronized
  subst hsz
  have hD := hD0.self (sz := s.heap.size)
  generalize hAe : va_A ((wX ca f kq ad) ++ (wKd kq) ++ (wMp ca kq (ad i0) m) ++ [(g, .inl (ca 1, 1, .inr (.inl ov)))]) s.heap.size = A at hD hTZ ⊢
  have hA : ∀ q : Nat, s.heap.size ≤ q → A q := fun q h => by rw [← hAe]; exact Or.inr h
  have hS : va_S A s.heap s.heap [] := va_S.rf
  have hl := lv_entry ([.ref (f 0), .int mm, .int what, .ref g]) (n := 5) (Nat.le_of_ble_eq_true rfl)
  rw [lg_entry_eq]
  generalize (lg_sl ([.ref (f 0), .int mm, .int what, .ref g]) ++ List.replicate (5 - (lg_sl ([.ref (f 0), .int mm, .int what, .ref g])).length) Slot.unset).toArray = ls at hl ⊢
  have hl : lv_has ls 5 [(0, .ref (f 0)), (1, .int mm), (2, .int what), (3, .ref g)] := hl
  refine lv_aload_n hx hb dL_within_0 rfl (lv_at hl 3 rfl) ?_
  refine lv_iconst (v := 0) hx hb dL_within_1 (by decide) ?_
  refine lv_aload_n hx hb dL_within_2 rfl (lv_at hl 0 rfl) ?_
  refine lv_iload_n hx hb dL_within_3 rfl (lv_at hl 1 rfl) ?_
  refine lv_iload_n hx hb dL_within_4 rfl (lv_at hl 2 rfl) ?_
  refine xcx_i (wr := [(g, .inl (ca 1, 1, .inr (.inl ov)))]) (vx_runV (As := [.int mm, .int what]) (rest := [.int 0, .ref g]) ⟨hx, hb, hml, hown, hts⟩ (c_X10_within l D ca f kq ad _ hl9 i0 m r N mm what hR hN hm) (cwV 2 hts gL_within_X10_within rfl rfl rfl (by decide +kernel) ⟨(Nat.le_of_ble_eq_true rfl), (Nat.le_of_ble_eq_true rfl)⟩) (xPreVT hKN hTZ hP hD hS hA [0, 1, 2, 3, 4, 5, 6, 7, 8, 9, 10, 11, 12, 13, 14, 15, 16, 17, 18, 19, 20] (by decide +kernel) rfl (q0 := 0) rfl rfl rfl) rfl rfl hl.1 rfl (lv_room (Nat.le_of_ble_eq_true rfl)) dL_within_5 ⟨(Nat.le_of_ble_eq_true rfl), (Nat.le_of_ble_eq_true rfl)⟩) hP hD hS hA [0, 1, 2, 3, 4, 5, 6, 7, 8, 9, 10, 11, 12, 13, 14, 15, 16, 17, 18, 19, 20] [21] rfl rfl (by decide +kernel) (by decide +kernel) (fun E9 ce9 q9 u5 H locs hu5 hP hD hS h91 h92 h93 => ?_) (fun r5 u5 H locs hu5 hP hD hS => ?_)
  · skip
    have hP : va_P D vwCl ((wX ca f kq ad) ++ (wKd kq) ++ (wMp ca kq (ad i0) u5) ++ [(g, .inl (ca 1, 1, .inr (.inl ov)))]) H := hP.sub (ws' := (wX ca f kq ad) ++ (wKd kq) ++ (wMp ca kq (ad i0) u5) ++ [(g, .inl (ca 1, 1, .inr (.inl ov)))]) [1, 2, 3, 4, 5, 6, 7, 8, 9, 10, 11, 12, 13, 14, 15, 16, 17, 18, 19, 20, 21, 0] rfl
    have hD : va_D A ((wX ca f kq ad) ++ (wKd kq) ++ (wMp ca kq (ad i0) u5) ++ [(g, .inl (ca 1, 1, .inr (.inl ov)))]) := hD.sub (ws' := (wX ca f kq ad) ++ (wKd kq) ++ (wMp ca kq (ad i0) u5) ++ [(g, .inl (ca 1, 1, .inr (.inl ov)))]) [1, 2, 3, 4, 5, 6, 7, 8, 9, 10, 11, 12, 13, 14, 15, 16, 17, 18, 19, 20, 21, 0] (by decide +kernel) rfl
    obtain ⟨eE, hc9, hR9⟩ := hu5
    have hco : (GG (0 : Int32) (F_within what) mm r).2.1 = 0 ∨ (GG (0 : Int32) (F_within what) mm r).2.1 = 1 ∨ (GG (0 : Int32) (F_within what) mm r).2.1 = 2 := GG_c (z := (0 : Int32)) (F := F_within what) (P := fun c => c = 0 ∨ c = 1 ∨ c = 2) (by simp) (fun r => co_within what r) mm r
    rcases hco with hc | hc | hc
    · exact absurd hc hc9
    · rw [hc] at eE
      have eE : E9 = eIA := eE
      subst eE
      refine vx_catch hown [] (⟨0, 10, 13, 13⟩ : ExceptionTableEntry) [(⟨0, 10, 17, 19⟩ : ExceptionTableEntry)] hTab (fun z hz => absurd hz List.not_mem_nil) (by decide) (by show ¬ 13 = 0; decide) (name := eIA) (hts (.classLink RL 13 eIA) (by decide +kernel)) (va_Nw.use rfl (NW.c hKN.2 (by decide +kernel))) h91 h92 h93 ?_
      refine lv_astore (lv' := [(4, .ref q9), (0, .ref (f 0)), (1, .int mm), (2, .int what), (3, .ref g)]) hx hb dL_within_13 hl (by decide) rfl (fun ls hl => ?_)
      refine lv_iconst (v := 1) hx hb dL_within_15 (by decide) ?_
      refine W.widen (k := 2) (n := 12) (by omega) (by omega) ?_
      exact vx_ret (W.iret (v := 1) hx hb hr (fun t9 e9 w9 => ⟨⟨_, (u5, ov), rfl, ⟨hc.symm, hR9, fun q => absurd q (by decide)⟩, by rw [e9]; exact hP, hD⟩, hS.F e9⟩) hS.2.2 dL_within_16)
    · rw [hc] at eE
      have eE : E9 = eIO := eE
      subst eE
      skip
      refine vx_catch hown [(⟨0, 10, 13, 13⟩ : ExceptionTableEntry)] (⟨0, 10, 17, 19⟩ : ExceptionTableEntry) [] hTab (cat_c (Or.inr ⟨(by show ¬ 13 = 0; decide), eIA, hts (.classLink RL 13 eIA) (by decide +kernel), hNC.1⟩) (fun z hz => absurd hz List.not_mem_nil)) (by decide) (by show ¬ 19 = 0; decide) (name := eIO) (hts (.classLink RL 19 eIO) (by decide +kernel)) (va_Nw.use rfl (NW.c hKN.2 (by decide +kernel))) h91 h92 h93 ?_
      refine lv_astore (lv' := [(4, .ref q9), (0, .ref (f 0)), (1, .int mm), (2, .int what), (3, .ref g)]) hx hb dL_within_17 hl (by decide) rfl (fun ls hl => ?_)
      refine lv_iconst (v := 2) hx hb dL_within_19 (by decide) ?_
      refine W.widen (k := 2) (n := 12) (by omega) (by omega) ?_
      exact vx_ret (W.iret (v := 2) hx hb hr (fun t9 e9 w9 => ⟨⟨_, (u5, ov), rfl, ⟨hc.symm, hR9, fun q => absurd q (by decide)⟩, by rw [e9]; exact hP, hD⟩, hS.F e9⟩) hS.2.2 dL_within_20)
  · skip
    have hP : va_P D vwCl ((wX ca f kq ad) ++ (wKd kq) ++ (wMp ca kq (ad i0) u5) ++ [(g, .inl (ca 1, 1, .inr (.inl ov)))]) H := hP.sub (ws' := (wX ca f kq ad) ++ (wKd kq) ++ (wMp ca kq (ad i0) u5) ++ [(g, .inl (ca 1, 1, .inr (.inl ov)))]) [1, 2, 3, 4, 5, 6, 7, 8, 9, 10, 11, 12, 13, 14, 15, 16, 17, 18, 19, 20, 21, 0] rfl
    have hD : va_D A ((wX ca f kq ad) ++ (wKd kq) ++ (wMp ca kq (ad i0) u5) ++ [(g, .inl (ca 1, 1, .inr (.inl ov)))]) := hD.sub (ws' := (wX ca f kq ad) ++ (wKd kq) ++ (wMp ca kq (ad i0) u5) ++ [(g, .inl (ca 1, 1, .inr (.inl ov)))]) [1, 2, 3, 4, 5, 6, 7, 8, 9, 10, 11, 12, 13, 14, 15, 16, 17, 18, 19, 20, 21, 0] (by decide +kernel) rfl
    obtain ⟨er5, ec5, hR9⟩ := hu5
    subst er5
    refine lv_i2l hx hb dL_within_8 rfl ?_
    refine xr_lst hx hb hKN.1 hP hD hS 21 1 rfl rfl (j := 0) (by decide) (by decide) dL_within_9 (fun H locs hP hD hS => ?_)
    have hP : va_P D vwCl ((wX ca f kq ad) ++ (wKd kq) ++ (wMp ca kq (ad i0) u5) ++ [(g, .inl (ca 1, 1, .inr (.inl (vp_updL ov 0 (((GG (0 : Int32) (F_within what) mm r).1).toInt64)))))]) H := hP
    have hD : va_D A ((wX ca f kq ad) ++ (wKd kq) ++ (wMp ca kq (ad i0) u5) ++ [(g, .inl (ca 1, 1, .inr (.inl (vp_updL ov 0 (((GG (0 : Int32) (F_within what) mm r).1).toInt64)))))]) := hD
    refine lv_goto (tgt := 21) hx hb dL_within_10 (by decide) ?_
    refine lv_iconst (v := 0) hx hb dL_within_21 (by decide) ?_
    refine W.widen (k := 2) (n := 12) (by omega) (by omega) ?_
    exact vx_ret (W.iret (v := 0) hx hb hr (fun t9 e9 w9 => ⟨⟨_, (u5, vp_updL ov 0 (((GG (0 : Int32) (F_within what) mm r).1).toInt64)), rfl, ⟨ec5.symm, hR9, fun _ => (oL_eq ov 0 _).trans rfl⟩, by rw [e9]; exact hP, hD⟩, hS.F e9⟩) hS.2.2 dL_within_22)

-- TreeFamilyLaw.putWithin
set_option maxHeartbeats 4000000 in
set_option maxRecDepth 100000 in
theorem c_L_putWithin (l : Launch) (D : va_G) (ca : Nat → ClassId) (f kq : Nat → Nat) (ad : Nat → Nat → Nat) (sz : Nat) (hl9 : l.stackTraces = false) (i0 g : Nat) (m : MS) (ov : Nat → Int64) (r : RW) (N : Nat) (mm : Int32) (key v : Int32) (hR : Rel1 N m r) (hN : N ≤ 1000000) (hm : isB mm 3 = true → mm = nI i0 ∧ i0 < 3) : vx_Met l yL_putWithin wsL_putWithin ({ frames := 68, cells := 2, slots := 12, locals := 1685 } : Room) (xPcH D (TY ca) [.ref (f 0), .int mm, .int key, .int v, .ref g] ((wX ca f kq ad) ++ (wKd kq) ++ (wMp ca kq (ad i0) m) ++ [(g, .inl (ca 1, 1, .inr (.inl ov)))]) sz) (va_Qi (fun (x : Int32) (u : MO) => x = (GG (0 : Int32) (F_putWithin key v) mm r).2.1 ∧ Rel1 (N + 61) u.1 (GG (0 : Int32) (F_putWithin key v) mm r).2.2 ∧ (x = 0 → u.2 0 = (if (GG (0 : Int32) (F_putWithin key v) mm r).1 = 0 then 0 else 1))) (xB D (wH ca f kq ad i0 g) (va_A ((wX ca f kq ad) ++ (wKd kq) ++ (wMp ca kq (ad i0) m) ++ [(g, .inl (ca 1, 1, .inr (.inl ov)))]) sz)) (va_A ((wX ca f kq ad) ++ (wKd kq) ++ (wMp ca kq (ad i0) m) ++ [(g, .inl (ca 1, 1, .inr (.inl ov)))]) sz)) (xX D (wH ca f kq ad i0 g) (va_A ((wX ca f kq ad) ++ (wKd kq) ++ (wMp ca kq (ad i0) m) ++ [(g, .inl (ca 1, 1, .inr (.inl ov)))]) sz) (fun (_ : String) (_ : MO) => False)) 2 12 (va_A ((wX ca f kq ad) ++ (wKd kq) ++ (wMp ca kq (ad i0) m) ++ [(g, .inl (ca 1, 1, .inr (.inl ov)))]) sz) := by
  refine vx_ofWH (cc := cL_putWithin) (maxL := 6) (ret := (some .int)) (by decide) rfl ?_
  intro p e s m9 args below meth c s₁ B hml hv
  obtain ⟨rfl, hsz, hP, hKN, hD0, hTZ, hNC⟩ := hv
  have hx := B.exec
  have hb := B.bytes
  have hr := B.returns
  have hts := atoms_spec (ws := wsL_putWithin) B.pre
  have hown : s.vm.findClass RL = some m9.cls := findClass_of_methodNamed B.named
  have hTab : c.exceptionTable.toList = [(⟨0, 19, 22, 13⟩ : ExceptionTableEntry), (⟨0, 19, 26, 19⟩ : ExceptionTableEntry)] := by
    obtain ⟨m8, meth8, c8, n1, n2, n3, -, -, n6, -⟩ := Cond.codeWith_spec (hts _ List.mem_cons_self)
    cases Option.some.inj (n1.symm.trans B.named)
    cases Option.some.inj (n2.symm.trans B.method)
    cases Option.some.inj (n3.symm.trans (Stand.of_body B).code)
    exact tabEq n6
  have hlocks := B.notSynchronized
  subst hsz
  have hD := hD0.self (sz := s.heap.size)
  generalize hAe : va_A ((wX ca f kq ad) ++ (wKd kq) ++ (wMp ca kq (ad i0) m) ++ [(g, .inl (ca 1, 1, .inr (.inl ov)))]) s.heap.size = A at hD hTZ ⊢
  have hA : ∀ q : Nat, s.heap.size ≤ q → A q := fun q h => by rw [← hAe]; exact Or.inr h
  have hS : va_S A s.heap s.heap [] := va_S.rf
  have hl := lv_entry ([.ref (f 0), .int mm, .int key, .int v, .ref g]) (n := 6) (Nat.le_of_ble_eq_true rfl)
  rw [lg_entry_eq]
  generalize (lg_sl ([.ref (f 0), .int mm, .int key, .int v, .ref g]) ++ List.replicate (6 - (lg_sl ([.ref (f 0), .int mm, .int key, .int v, .ref g])).length) Slot.unset).toArray = ls at hl ⊢
  have hl : lv_has ls 6 [(0, .ref (f 0)), (1, .int mm), (2, .int key), (3, .int v), (4, .ref g)] := hl
  refine lv_aload hx hb dL_putWithin_0 (lv_at hl 4 rfl) ?_
  refine lv_iconst (v := 0) hx hb dL_putWithin_2 (by decide) ?_
  refine lv_aload_n hx hb dL_putWithin_3 rfl (lv_at hl 0 rfl) ?_
  refine lv_iload_n hx hb dL_putWithin_4 rfl (lv_at hl 1 rfl) ?_
  refine lv_iload_n hx hb dL_putWithin_5 rfl (lv_at hl 2 rfl) ?_
  refine lv_iload_n hx hb dL_putWithin_6 rfl (lv_at hl 3 rfl) ?_
  refine xcx_i (wr := [(g, .inl (ca 1, 1, .inr (.inl ov)))]) (vx_runV (As := [.int mm, .int key, .int v]) (rest := [.int 0, .ref g]) ⟨hx, hb, hml, hown, hts⟩ (c_X10_putWithin l D ca f kq ad _ hl9 i0 m r N mm key v hR hN hm) (cwV 3 hts gL_putWithin_X10_putWithin rfl rfl rfl (by decide +kernel) ⟨(Nat.le_of_ble_eq_true rfl), (Nat.le_of_ble_eq_true rfl)⟩) (xPreVT hKN hTZ hP hD hS hA [0, 1, 2, 3, 4, 5, 6, 7, 8, 9, 10, 11, 12, 13, 14, 15, 16, 17, 18, 19, 20] (by decide +kernel) rfl (q0 := 0) rfl rfl rfl) rfl rfl hl.1 rfl (lv_room (Nat.le_of_ble_eq_true rfl)) dL_putWithin_7 ⟨(Nat.le_of_ble_eq_true rfl), (Nat.le_of_ble_eq_true rfl)⟩) hP hD hS hA [0, 1, 2, 3, 4, 5, 6, 7, 8, 9, 10, 11, 12, 13, 14, 15, 16, 17, 18, 19, 20] [21] rfl rfl (by decide +kernel) (by decide +kernel) (fun E9 ce9 q9 u7 H locs hu7 hP hD hS h91 h92 h93 => ?_) (fun r7 u7 H locs hu7 hP hD hS => ?_)
  · skip
    have hP : va_P D vwCl ((wX ca f kq ad) ++ (wKd kq) ++ (wMp ca kq (ad i0) u7) ++ [(g, .inl (ca 1, 1, .inr (.inl ov)))]) H := hP.sub (ws' := (wX ca f kq ad) ++ (wKd kq) ++ (wMp ca kq (ad i0) u7) ++ [(g, .inl (ca 1, 1, .inr (.inl ov)))]) [1, 2, 3, 4, 5, 6, 7, 8, 9, 10, 11, 12, 13, 14, 15, 16, 17, 18, 19, 20, 21, 0] rfl
    have hD : va_D A ((wX ca f kq ad) ++ (wKd kq) ++ (wMp ca kq (ad i0) u7) ++ [(g, .inl (ca 1, 1, .inr (.inl ov)))]) := hD.sub (ws' := (wX ca f kq ad) ++ (wKd kq) ++ (wMp ca kq (ad i0) u7) ++ [(g, .inl (ca 1, 1, .inr (.inl ov)))]) [1, 2, 3, 4, 5, 6, 7, 8, 9, 10, 11, 12, 13, 14, 15, 16, 17, 18, 19, 20, 21, 0] (by decide +kernel) rfl
    obtain ⟨eE, hc9, hR9⟩ := hu7
    have hco : (GG (0 : Int32) (F_putWithin key v) mm r).2.1 = 0 ∨ (GG (0 : Int32) (F_putWithin key v) mm r).2.1 = 1 ∨ (GG (0 : Int32) (F_putWithin key v) mm r).2.1 = 2 := GG_c (z := (0 : Int32)) (F := F_putWithin key v) (P := fun c => c = 0 ∨ c = 1 ∨ c = 2) (by simp) (fun r => co_putWithin key v r) mm r
    rcases hco with hc | hc | hc
    · exact absurd hc hc9
    · rw [hc] at eE
      have eE : E9 = eIA := eE
      subst eE
      refine vx_catch hown [] (⟨0, 19, 22, 13⟩ : ExceptionTableEntry) [(⟨0, 19, 26, 19⟩ : ExceptionTableEntry)] hTab (fun z hz => absurd hz List.not_mem_nil) (by decide) (by show ¬ 13 = 0; decide) (name := eIA) (hts (.classLink RL 13 eIA) (by decide +kernel)) (va_Nw.use rfl (NW.c hKN.2 (by decide +kernel))) h91 h92 h93 ?_
      refine lv_astore (lv' := [(5, .ref q9), (0, .ref (f 0)), (1, .int mm), (2, .int key), (3, .int v), (4, .ref g)]) hx hb dL_putWithin_22 hl (by decide) rfl (fun ls hl => ?_)
      refine lv_iconst (v := 1) hx hb dL_putWithin_24 (by decide) ?_
      refine W.widen (k := 2) (n := 12) (by omega) (by omega) ?_
      exact vx_ret (W.iret (v := 1) hx hb hr (fun t9 e9 w9 => ⟨⟨_, (u7, ov), rfl, ⟨hc.symm, hR9, fun q => absurd q (by decide)⟩, by rw [e9]; exact hP, hD⟩, hS.F e9⟩) hS.2.2 dL_putWithin_25)
    · rw [hc] at eE
      have eE : E9 = eIO := eE
      subst eE
      skip
      refine vx_catch hown [(⟨0, 19, 22, 13⟩ : ExceptionTableEntry)] (⟨0, 19, 26, 19⟩ : ExceptionTableEntry) [] hTab (cat_c (Or.inr ⟨(by show ¬ 13 = 0; decide), eIA, hts (.classLink RL 13 eIA) (by decide +kernel), hNC.1⟩) (fun z hz => absurd hz List.not_mem_nil)) (by decide) (by show ¬ 19 = 0; decide) (name := eIO) (hts (.classLink RL 19 eIO) (by decide +kernel)) (va_Nw.use rfl (NW.c hKN.2 (by decide +kernel))) h91 h92 h93 ?_
      refine lv_astore (lv' := [(5, .ref q9), (0, .ref (f 0)), (1, .int mm), (2, .int key), (3, .int v), (4, .ref g)]) hx hb dL_putWithin_26 hl (by decide) rfl (fun ls hl => ?_)
      refine lv_iconst (v := 2) hx hb dL_putWithin_28 (by decide) ?_
      refine W.widen (k := 2) (n := 12) (by omega) (by omega) ?_
      exact vx_ret (W.iret (v := 2) hx hb hr (fun t9 e9 w9 => ⟨⟨_, (u7, ov), rfl, ⟨hc.symm, hR9, fun q => absurd q (by decide)⟩, by rw [e9]; exact hP, hD⟩, hS.F e9⟩) hS.2.2 dL_putWithin_29)
  · skip
    have hP : va_P D vwCl ((wX ca f kq ad) ++ (wKd kq) ++ (wMp ca kq (ad i0) u7) ++ [(g, .inl (ca 1, 1, .inr (.inl ov)))]) H := hP.sub (ws' := (wX ca f kq ad) ++ (wKd kq) ++ (wMp ca kq (ad i0) u7) ++ [(g, .inl (ca 1, 1, .inr (.inl ov)))]) [1, 2, 3, 4, 5, 6, 7, 8, 9, 10, 11, 12, 13, 14, 15, 16, 17, 18, 19, 20, 21, 0] rfl
    have hD : va_D A ((wX ca f kq ad) ++ (wKd kq) ++ (wMp ca kq (ad i0) u7) ++ [(g, .inl (ca 1, 1, .inr (.inl ov)))]) := hD.sub (ws' := (wX ca f kq ad) ++ (wKd kq) ++ (wMp ca kq (ad i0) u7) ++ [(g, .inl (ca 1, 1, .inr (.inl ov)))]) [1, 2, 3, 4, 5, 6, 7, 8, 9, 10, 11, 12, 13, 14, 15, 16, 17, 18, 19, 20, 21, 0] (by decide +kernel) rfl
    obtain ⟨er7, ec7, hR9⟩ := hu7
    subst er7
    refine lv_if_eq (tgt := 17) hx hb dL_putWithin_10 (by decide) (fun c10 => ?_) (fun c10 => ?_)
    · skip
      refine lv_lconst (v := 0) hx hb dL_putWithin_17 (by decide) ?_
      refine xr_lst hx hb hKN.1 hP hD hS 21 1 rfl rfl (j := 0) (by decide) (by decide) dL_putWithin_18 (fun H locs hP hD hS => ?_)
      have hP : va_P D vwCl ((wX ca f kq ad) ++ (wKd kq) ++ (wMp ca kq (ad i0) u7) ++ [(g, .inl (ca 1, 1, .inr (.inl (vp_updL ov 0 0))))]) H := hP
      have hD : va_D A ((wX ca f kq ad) ++ (wKd kq) ++ (wMp ca kq (ad i0) u7) ++ [(g, .inl (ca 1, 1, .inr (.inl (vp_updL ov 0 0))))]) := hD
      refine lv_goto (tgt := 30) hx hb dL_putWithin_19 (by decide) ?_
      refine lv_iconst (v := 0) hx hb dL_putWithin_30 (by decide) ?_
      refine W.widen (k := 2) (n := 12) (by omega) (by omega) ?_
      exact vx_ret (W.iret (v := 0) hx hb hr (fun t9 e9 w9 => ⟨⟨_, (u7, vp_updL ov 0 0), rfl, ⟨ec7.symm, hR9, fun _ => (oL_eq ov 0 _).trans (by first | exact bO_0 c10 | exact bO_1 c10)⟩, by rw [e9]; exact hP, hD⟩, hS.F e9⟩) hS.2.2 dL_putWithin_31)
    · skip
      refine lv_lconst (v := 1) hx hb dL_putWithin_13 (by decide) ?_
      refine lv_goto (tgt := 18) hx hb dL_putWithin_14 (by decide) ?_
      refine xr_lst hx hb hKN.1 hP hD hS 21 1 rfl rfl (j := 0) (by decide) (by decide) dL_putWithin_18 (fun H locs hP hD hS => ?_)
      have hP : va_P D vwCl ((wX ca f kq ad) ++ (wKd kq) ++ (wMp ca kq (ad i0) u7) ++ [(g, .inl (ca 1, 1, .inr (.inl (vp_updL ov 0 1))))]) H := hP
      have hD : va_D A ((wX ca f kq ad) ++ (wKd kq) ++ (wMp ca kq (ad i0) u7) ++ [(g, .inl (ca 1, 1, .inr (.inl (vp_updL ov 0 1))))]) := hD
      refine lv_goto (tgt := 30) hx hb dL_putWithin_19 (by decide) ?_
      refine lv_iconst (v := 0) hx hb dL_putWithin_30 (by decide) ?_
      refine W.widen (k := 2) (n := 12) (by omega) (by omega) ?_
      exact vx_ret (W.iret (v := 0) hx hb hr (fun t9 e9 w9 => ⟨⟨_, (u7, vp_updL ov 0 1), rfl, ⟨ec7.symm, hR9, fun _ => (oL_eq ov 0 _).trans (by first | exact bO_0 c10 | exact bO_1 c10)⟩, by rw [e9]; exact hP, hD⟩, hS.F e9⟩) hS.2.2 dL_putWithin_31)

-- TreeFamilyLaw.poll
set_option maxHeartbeats 4000000 in
set_option maxRecDepth 100000 in
theorem c_L_poll (l : Launch) (D : va_G) (ca : Nat → ClassId) (f kq : Nat → Nat) (ad : Nat → Nat → Nat) (sz : Nat) (hl9 : l.stackTraces = false) (i0 g : Nat) (m : MS) (ov : Nat → Int64) (r : RW) (N : Nat) (mm : Int32) (b0 : Bool) (hR : Rel1 N m r) (hN : N ≤ 1000000) (hm : isB mm 3 = true → mm = nI i0 ∧ i0 < 3) : vx_Met l yL_poll wsL_poll ({ frames := 68, cells := 2, slots := 12, locals := 1683 } : Room) (xPcH D (TY ca) [.ref (f 0), .int mm, .int (bI b0), .ref g] ((wX ca f kq ad) ++ (wKd kq) ++ (wMp ca kq (ad i0) m) ++ [(g, .inl (ca 1, 1, .inr (.inl ov)))]) sz) (va_Qi (fun (x : Int32) (u : MO) => x = (GG (0 : Int32) (F_poll b0) mm r).2.1 ∧ Rel1 (N + 61) u.1 (GG (0 : Int32) (F_poll b0) mm r).2.2 ∧ (x = 0 → u.2 0 = ((GG (0 : Int32) (F_poll b0) mm r).1).toInt64)) (xB D (wH ca f kq ad i0 g) (va_A ((wX ca f kq ad) ++ (wKd kq) ++ (wMp ca kq (ad i0) m) ++ [(g, .inl (ca 1, 1, .inr (.inl ov)))]) sz)) (va_A ((wX ca f kq ad) ++ (wKd kq) ++ (wMp ca kq (ad i0) m) ++ [(g, .inl (ca 1, 1, .inr (.inl ov)))]) sz)) (xX D (wH ca f kq ad i0 g) (va_A ((wX ca f kq ad) ++ (wKd kq) ++ (wMp ca kq (ad i0) m) ++ [(g, .inl (ca 1, 1, .inr (.inl ov)))]) sz) (fun (_ : String) (_ : MO) => False)) 2 12 (va_A ((wX ca f kq ad) ++ (wKd kq) ++ (wMp ca kq (ad i0) m) ++ [(g, .inl (ca 1, 1, .inr (.inl ov)))]) sz) := by
  refine vx_ofWH (cc := cL_poll) (maxL := 5) (ret := (some .int)) (by decide) rfl ?_
  intro p e s m9 args below meth c s₁ B hml hv
  obtain ⟨rfl, hsz, hP, hKN, hD0, hTZ, hNC⟩ := hv
  have hx := B.exec
  have hb := B.bytes
  have hr := B.returns
  have hts := atoms_spec (ws := wsL_poll) B.pre
  have hown : s.vm.findClass RL = some m9.cls := findClass_of_methodNamed B.named
  have hTab : c.exceptionTable.toList = [(⟨0, 10, 13, 13⟩ : ExceptionTableEntry), (⟨0, 10, 17, 19⟩ : ExceptionTableEntry)] := by
    obtain ⟨m8, meth8, c8, n1, n2, n3, -, -, n6, -⟩ := Cond.codeWith_spec (hts _ List.mem_cons_self)
    cases Option.some.inj (n1.symm.trans B.named)
    cases Option.some.inj (n2.symm.trans B.method)
    cases Option.some.inj (n3.symm.trans (Stand.of_body B).code)
    exact tabEq n6
  have hlocks := B.notSynchronized
  subst hsz
  have hD := hD0.self (sz := s.heap.size)
  generalize hAe : va_A ((wX ca f kq ad) ++ (wKd kq) ++ (wMp ca kq (ad i0) m) ++ [(g, .inl (ca 1, 1, .inr (.inl ov)))]) s.heap.size = A at hD hTZ ⊢
  have hA : ∀ q : Nat, s.heap.size ≤ q → A q := fun q h => by rw [← hAe]; exact Or.inr h
  have hS : va_S A s.heap s.heap [] := va_S.rf
  have hl := lv_entry ([.ref (f 0), .int mm, .int (bI b0), .ref g]) (n := 5) (Nat.le_of_ble_eq_true rfl)
  rw [lg_entry_eq]
  generalize (lg_sl ([.ref (f 0), .int mm, .int (bI b0), .ref g]) ++ List.replicate (5 - (lg_sl ([.ref (f 0), .int mm, .int (bI b0), .ref g])).length) Slot.unset).toArray = ls at hl ⊢
  have hl : lv_has ls 5 [(0, .ref (f 0)), (1, .int mm), (2, .int (bI b0)), (3, .ref g)] := hl
  refine lv_aload_n hx hb dL_poll_0 rfl (lv_at hl 3 rfl) ?_
  refine lv_iconst (v := 0) hx hb dL_poll_1 (by decide) ?_
  refine lv_aload_n hx hb dL_poll_2 rfl (lv_at hl 0 rfl) ?_
  refine lv_iload_n hx hb dL_poll_3 rfl (lv_at hl 1 rfl) ?_
  refine lv_iload_n hx hb dL_poll_4 rfl (lv_at hl 2 rfl) ?_
  refine xcx_i (wr := [(g, .inl (ca 1, 1, .inr (.inl ov)))]) (vx_runV (As := [.int mm, .int (bI b0)]) (rest := [.int 0, .ref g]) ⟨hx, hb, hml, hown, hts⟩ (c_X10_poll l D ca f kq ad _ hl9 i0 m r N mm b0 hR hN hm) (cwV 2 hts gL_poll_X10_poll rfl rfl rfl (by decide +kernel) ⟨(Nat.le_of_ble_eq_true rfl), (Nat.le_of_ble_eq_true rfl)⟩) (xPreVT hKN hTZ hP hD hS hA [0, 1, 2, 3, 4, 5, 6, 7, 8, 9, 10, 11, 12, 13, 14, 15, 16, 17, 18, 19, 20] (by decide +kernel) rfl (q0 := 0) rfl rfl rfl) rfl rfl hl.1 rfl (lv_room (Nat.le_of_ble_eq_true rfl)) dL_poll_5 ⟨(Nat.le_of_ble_eq_true rfl), (Nat.le_of_ble_eq_true rfl)⟩) hP hD hS hA [0, 1, 2, 3, 4, 5, 6, 7, 8, 9, 10, 11, 12, 13, 14, 15, 16, 17, 18, 19, 20] [21] rfl rfl (by decide +kernel) (by decide +kernel) (fun E9 ce9 q9 u5 H locs hu5 hP hD hS h91 h92 h93 => ?_) (fun r5 u5 H locs hu5 hP hD hS => ?_)
  · skip
    have hP : va_P D vwCl ((wX ca f kq ad) ++ (wKd kq) ++ (wMp ca kq (ad i0) u5) ++ [(g, .inl (ca 1, 1, .inr (.inl ov)))]) H := hP.sub (ws' := (wX ca f kq ad) ++ (wKd kq) ++ (wMp ca kq (ad i0) u5) ++ [(g, .inl (ca 1, 1, .inr (.inl ov)))]) [1, 2, 3, 4, 5, 6, 7, 8, 9, 10, 11, 12, 13, 14, 15, 16, 17, 18, 19, 20, 21, 0] rfl
    have hD : va_D A ((wX ca f kq ad) ++ (wKd kq) ++ (wMp ca kq (ad i0) u5) ++ [(g, .inl (ca 1, 1, .inr (.inl ov)))]) := hD.sub (ws' := (wX ca f kq ad) ++ (wKd kq) ++ (wMp ca kq (ad i0) u5) ++ [(g, .inl (ca 1, 1, .inr (.inl ov)))]) [1, 2, 3, 4, 5, 6, 7, 8, 9, 10, 11, 12, 13, 14, 15, 16, 17, 18, 19, 20, 21, 0] (by decide +kernel) rfl
    obtain ⟨eE, hc9, hR9⟩ := hu5
    have hco : (GG (0 : Int32) (F_poll b0) mm r).2.1 = 0 ∨ (GG (0 : Int32) (F_poll b0) mm r).2.1 = 1 ∨ (GG (0 : Int32) (F_poll b0) mm r).2.1 = 2 := GG_c (z := (0 : Int32)) (F := F_poll b0) (P := fun c => c = 0 ∨ c = 1 ∨ c = 2) (by simp) (fun r => co_poll b0 r) mm r
    rcases hco with hc | hc | hc
    · exact absurd hc hc9
    · rw [hc] at eE
      have eE : E9 = eIA := eE
      subst eE
      refine vx_catch hown [] (⟨0, 10, 13, 13⟩ : ExceptionTableEntry) [(⟨0, 10, 17, 19⟩ : ExceptionTableEntry)] hTab (fun z hz => absurd hz List.not_mem_nil) (by decide) (by show ¬ 13 = 0; decide) (name := eIA) (hts (.classLink RL 13 eIA) (by decide +kernel)) (va_Nw.use rfl (NW.c hKN.2 (by decide +kernel))) h91 h92 h93 ?_
      refine lv_astore (lv' := [(4, .ref q9), (0, .ref (f 0)), (1, .int mm), (2, .int (bI b0)), (3, .ref g)]) hx hb dL_poll_13 hl (by decide) rfl (fun ls hl => ?_)
      refine lv_iconst (v := 1) hx hb dL_poll_15 (by decide) ?_
      refine W.widen (k := 2) (n := 12) (by omega) (by omega) ?_
      exact vx_ret (W.iret (v := 1) hx hb hr (fun t9 e9 w9 => ⟨⟨_, (u5, ov), rfl, ⟨hc.symm, hR9, fun q => absurd q (by decide)⟩, by rw [e9]; exact hP, hD⟩, hS.F e9⟩) hS.2.2 dL_poll_16)
    · rw [hc] at eE
      have eE : E9 = eIO := eE
      subst eE
      skip
      refine vx_catch hown [(⟨0, 10, 13, 13⟩ : ExceptionTableEntry)] (⟨0, 10, 17, 19⟩ : ExceptionTableEntry) [] hTab (cat_c (Or.inr ⟨(by show ¬ 13 = 0; decide), eIA, hts (.classLink RL 13 eIA) (by decide +kernel), hNC.1⟩) (fun z hz => absurd hz List.not_mem_nil)) (by decide) (by show ¬ 19 = 0; decide) (name := eIO) (hts (.classLink RL 19 eIO) (by decide +kernel)) (va_Nw.use rfl (NW.c hKN.2 (by decide +kernel))) h91 h92 h93 ?_
      refine lv_astore (lv' := [(4, .ref q9), (0, .ref (f 0)), (1, .int mm), (2, .int (bI b0)), (3, .ref g)]) hx hb dL_poll_17 hl (by decide) rfl (fun ls hl => ?_)
      refine lv_iconst (v := 2) hx hb dL_poll_19 (by decide) ?_
      refine W.widen (k := 2) (n := 12) (by omega) (by omega) ?_
      exact vx_ret (W.iret (v := 2) hx hb hr (fun t9 e9 w9 => ⟨⟨_, (u5, ov), rfl, ⟨hc.symm, hR9, fun q => absurd q (by decide)⟩, by rw [e9]; exact hP, hD⟩, hS.F e9⟩) hS.2.2 dL_poll_20)
  · skip
    have hP : va_P D vwCl ((wX ca f kq ad) ++ (wKd kq) ++ (wMp ca kq (ad i0) u5) ++ [(g, .inl (ca 1, 1, .inr (.inl ov)))]) H := hP.sub (ws' := (wX ca f kq ad) ++ (wKd kq) ++ (wMp ca kq (ad i0) u5) ++ [(g, .inl (ca 1, 1, .inr (.inl ov)))]) [1, 2, 3, 4, 5, 6, 7, 8, 9, 10, 11, 12, 13, 14, 15, 16, 17, 18, 19, 20, 21, 0] rfl
    have hD : va_D A ((wX ca f kq ad) ++ (wKd kq) ++ (wMp ca kq (ad i0) u5) ++ [(g, .inl (ca 1, 1, .inr (.inl ov)))]) := hD.sub (ws' := (wX ca f kq ad) ++ (wKd kq) ++ (wMp ca kq (ad i0) u5) ++ [(g, .inl (ca 1, 1, .inr (.inl ov)))]) [1, 2, 3, 4, 5, 6, 7, 8, 9, 10, 11, 12, 13, 14, 15, 16, 17, 18, 19, 20, 21, 0] (by decide +kernel) rfl
    obtain ⟨er5, ec5, hR9⟩ := hu5
    subst er5
    refine lv_i2l hx hb dL_poll_8 rfl ?_
    refine xr_lst hx hb hKN.1 hP hD hS 21 1 rfl rfl (j := 0) (by decide) (by decide) dL_poll_9 (fun H locs hP hD hS => ?_)
    have hP : va_P D vwCl ((wX ca f kq ad) ++ (wKd kq) ++ (wMp ca kq (ad i0) u5) ++ [(g, .inl (ca 1, 1, .inr (.inl (vp_updL ov 0 (((GG (0 : Int32) (F_poll b0) mm r).1).toInt64)))))]) H := hP
    have hD : va_D A ((wX ca f kq ad) ++ (wKd kq) ++ (wMp ca kq (ad i0) u5) ++ [(g, .inl (ca 1, 1, .inr (.inl (vp_updL ov 0 (((GG (0 : Int32) (F_poll b0) mm r).1).toInt64)))))]) := hD
    refine lv_goto (tgt := 21) hx hb dL_poll_10 (by decide) ?_
    refine lv_iconst (v := 0) hx hb dL_poll_21 (by decide) ?_
    refine W.widen (k := 2) (n := 12) (by omega) (by omega) ?_
    exact vx_ret (W.iret (v := 0) hx hb hr (fun t9 e9 w9 => ⟨⟨_, (u5, vp_updL ov 0 (((GG (0 : Int32) (F_poll b0) mm r).1).toInt64)), rfl, ⟨ec5.symm, hR9, fun _ => (oL_eq ov 0 _).trans rfl⟩, by rw [e9]; exact hP, hD⟩, hS.F e9⟩) hS.2.2 dL_poll_22)

-- TreeFamilyLaw.iterate
set_option maxHeartbeats 4000000 in
set_option maxRecDepth 100000 in
theorem c_L_iterate (l : Launch) (D : va_G) (ca : Nat → ClassId) (f kq : Nat → Nat) (ad : Nat → Nat → Nat) (sz : Nat) (hl9 : l.stackTraces = false) (i0 : Nat) (m : MS) (r : RW) (N : Nat) (mm : Int32) (b0 : Bool) (hR : Rel1 N m r) (hN : N ≤ 1000000) (hm : isB mm 3 = true → mm = nI i0 ∧ i0 < 3) : vx_Met l yL_iterate wsL_iterate ({ frames := 8, cells := 2, slots := 12, locals := 133 } : Room) (xPcH D (TY ca) [.ref (f 0), .int mm, .int (bI b0)] ((wX ca f kq ad) ++ (wKd kq) ++ (wMp ca kq (ad i0) m)) sz) (va_Qi (fun (x : Int32) (u : MS) => x = (GG () (F_iterate b0) mm r).2.1 ∧ Rel1 (N + 61) u (GG () (F_iterate b0) mm r).2.2) (xB D (wF1 ca f kq ad i0) (va_A ((wX ca f kq ad) ++ (wKd kq) ++ (wMp ca kq (ad i0) m)) sz)) (va_A ((wX ca f kq ad) ++ (wKd kq) ++ (wMp ca kq (ad i0) m)) sz)) (xX D (wF1 ca f kq ad i0) (va_A ((wX ca f kq ad) ++ (wKd kq) ++ (wMp ca kq (ad i0) m)) sz) (fun (_ : String) (_ : MS) => False)) 2 12 (va_A ((wX ca f kq ad) ++ (wKd kq) ++ (wMp ca kq (ad i0) m)) sz) := by
  refine vx_ofWH (cc := cL_iterate) (maxL := 4) (ret := (some .int)) (by decide) rfl ?_
  intro p e s m9 args below meth c s₁ B hml hv
  obtain ⟨rfl, hsz, hP, hKN, hD0, hTZ, hNC⟩ := hv
  have hx := B.exec
  have hb := B.bytes
  have hr := B.returns
  have hts := atoms_spec (ws := wsL_iterate) B.pre
  have hown : s.vm.findClass RL = some m9.cls := findClass_of_methodNamed B.named
  have hTab : c.exceptionTable.toList = [(⟨0, 6, 9, 13⟩ : ExceptionTableEntry)] := by
    obtain ⟨m8, meth8, c8, n1, n2, n3, -, -, n6, -⟩ := Cond.codeWith_spec (hts _ List.mem_cons_self)
    cases Option.some.inj (n1.symm.trans B.named)
    cases Option.some.inj (n2.symm.trans B.method)
    cases Option.some.inj (n3.symm.trans (Stand.of_body B).code)
    exact tabEq n6
  have hlocks := B.notSynchronized
  subst hsz
  have hD := hD0.self (sz := s.heap.size)
  generalize hAe : va_A ((wX ca f kq ad) ++ (wKd kq) ++ (wMp ca kq (ad i0) m)) s.heap.size = A at hD hTZ ⊢
  have hA : ∀ q : Nat, s.heap.size ≤ q → A q := fun q h => by rw [← hAe]; exact Or.inr h
  have hS : va_S A s.heap s.heap [] := va_S.rf
  have hl := lv_entry ([.ref (f 0), .int mm, .int (bI b0)]) (n := 4) (Nat.le_of_ble_eq_true rfl)
  rw [lg_entry_eq]
  generalize (lg_sl ([.ref (f 0), .int mm, .int (bI b0)]) ++ List.replicate (4 - (lg_sl ([.ref (f 0), .int mm, .int (bI b0)])).length) Slot.unset).toArray = ls at hl ⊢
  have hl : lv_has ls 4 [(0, .ref (f 0)), (1, .int mm), (2, .int (bI b0))] := hl
  refine lv_aload_n hx hb dL_iterate_0 rfl (lv_at hl 0 rfl) ?_
  refine lv_iload_n hx hb dL_iterate_1 rfl (lv_at hl 1 rfl) ?_
  refine lv_iload_n hx hb dL_iterate_2 rfl (lv_at hl 2 rfl) ?_
  refine xcx_v (wr := []) (vx_runV (As := [.int mm, .int (bI b0)]) (rest := []) ⟨hx, hb, hml, hown, hts⟩ (c_X10_iterate l D ca f kq ad _ hl9 i0 m r N mm b0 hR hN hm) (cwV 2 hts gL_iterate_X10_iterate rfl rfl rfl (by decide +kernel) ⟨(Nat.le_of_ble_eq_true rfl), (Nat.le_of_ble_eq_true rfl)⟩) (xPreVT hKN hTZ hP hD hS hA [0, 1, 2, 3, 4, 5, 6, 7, 8, 9, 10, 11, 12, 13, 14, 15, 16, 17, 18, 19, 20] (by decide +kernel) rfl (q0 := 0) rfl rfl rfl) rfl rfl hl.1 rfl (lv_room (Nat.le_of_ble_eq_true rfl)) dL_iterate_3 ⟨(Nat.le_of_ble_eq_true rfl), (Nat.le_of_ble_eq_true rfl)⟩) hP hD hS hA [0, 1, 2, 3, 4, 5, 6, 7, 8, 9, 10, 11, 12, 13, 14, 15, 16, 17, 18, 19, 20] [] rfl rfl (by decide +kernel) (by decide +kernel) (fun E9 ce9 q9 u3 H locs hu3 hP hD hS h91 h92 h93 => ?_) (fun u3 H locs hu3 hP hD hS => ?_)
  · skip
    have hP : va_P D vwCl ((wX ca f kq ad) ++ (wKd kq) ++ (wMp ca kq (ad i0) u3)) H := hP
    have hD : va_D A ((wX ca f kq ad) ++ (wKd kq) ++ (wMp ca kq (ad i0) u3)) := hD
    obtain ⟨eE, hc9, hR9⟩ := hu3
    have hco : (GG () (F_iterate b0) mm r).2.1 = 0 ∨ (GG () (F_iterate b0) mm r).2.1 = 1 := GG_c (z := ()) (F := F_iterate b0) (P := fun c => c = 0 ∨ c = 1) (by simp) (fun r => co_iterate b0 r) mm r
    rcases hco with hc | hc
    · exact absurd hc hc9
    · rw [hc] at eE
      have eE : E9 = eIA := eE
      subst eE
      refine vx_catch hown [] (⟨0, 6, 9, 13⟩ : ExceptionTableEntry) [] hTab (fun z hz => absurd hz List.not_mem_nil) (by decide) (by show ¬ 13 = 0; decide) (name := eIA) (hts (.classLink RL 13 eIA) (by decide +kernel)) (va_Nw.use rfl (NW.c hKN.2 (by decide +kernel))) h91 h92 h93 ?_
      refine lv_astore_n (lv' := [(3, .ref q9), (0, .ref (f 0)), (1, .int mm), (2, .int (bI b0))]) hx hb dL_iterate_9 rfl hl (by decide) rfl (fun ls hl => ?_)
      refine lv_iconst (v := 1) hx hb dL_iterate_10 (by decide) ?_
      refine W.widen (k := 2) (n := 12) (by omega) (by omega) ?_
      exact vx_ret (W.iret (v := 1) hx hb hr (fun t9 e9 w9 => ⟨⟨_, u3, rfl, ⟨hc.symm, hR9⟩, by rw [e9]; exact hP, hD⟩, hS.F e9⟩) hS.2.2 dL_iterate_11)
  · skip
    have hP : va_P D vwCl ((wX ca f kq ad) ++ (wKd kq) ++ (wMp ca kq (ad i0) u3)) H := hP
    have hD : va_D A ((wX ca f kq ad) ++ (wKd kq) ++ (wMp ca kq (ad i0) u3)) := hD
    obtain ⟨er3, ec3, hR9⟩ := hu3
    refine lv_goto (tgt := 12) hx hb dL_iterate_6 (by decide) ?_
    refine lv_iconst (v := 0) hx hb dL_iterate_12 (by decide) ?_
    refine W.widen (k := 2) (n := 12) (by omega) (by omega) ?_
    exact vx_ret (W.iret (v := 0) hx hb hr (fun t9 e9 w9 => ⟨⟨_, u3, rfl, ⟨ec3.symm, hR9⟩, by rw [e9]; exact hP, hD⟩, hS.F e9⟩) hS.2.2 dL_iterate_13)

-- TreeFamilyLaw.next
set_option maxHeartbeats 4000000 in
set_option maxRecDepth 100000 in
theorem c_L_next (l : Launch) (D : va_G) (ca : Nat → ClassId) (f kq : Nat → Nat) (ad : Nat → Nat → Nat) (sz : Nat) (hl9 : l.stackTraces = false) (i0 g : Nat) (m : MS) (ov : Nat → Int64) (r : RW) (N : Nat) (mm : Int32) (hR : Rel1 N m r) (hN : N ≤ 1000000) (hm : isB mm 3 = true → mm = nI i0 ∧ i0 < 3) : vx_Met l yL_next wsL_next ({ frames := 9, cells := 2, slots := 12, locals := 155 } : Room) (xPcH D (TY ca) [.ref (f 0), .int mm, .ref g] ((wX ca f kq ad) ++ (wKd kq) ++ (wMp ca kq (ad i0) m) ++ [(g, .inl (ca 1, 1, .inr (.inl ov)))]) sz) (va_Qi (fun (x : Int32) (u : MO) => x = (GG (0 : Int32) (F_next) mm r).2.1 ∧ Rel1 (N + 61) u.1 (GG (0 : Int32) (F_next) mm r).2.2 ∧ (x = 0 → u.2 0 = ((GG (0 : Int32) (F_next) mm r).1).toInt64)) (xB D (wH ca f kq ad i0 g) (va_A ((wX ca f kq ad) ++ (wKd kq) ++ (wMp ca kq (ad i0) m) ++ [(g, .inl (ca 1, 1, .inr (.inl ov)))]) sz)) (va_A ((wX ca f kq ad) ++ (wKd kq) ++ (wMp ca kq (ad i0) m) ++ [(g, .inl (ca 1, 1, .inr (.inl ov)))]) sz)) (xX D (wH ca f kq ad i0 g) (va_A ((wX ca f kq ad) ++ (wKd kq) ++ (wMp ca kq (ad i0) m) ++ [(g, .inl (ca 1, 1, .inr (.inl ov)))]) sz) (fun (_ : String) (_ : MO) => False)) 2 12 (va_A ((wX ca f kq ad) ++ (wKd kq) ++ (wMp ca kq (ad i0) m) ++ [(g, .inl (ca 1, 1, .inr (.inl ov)))]) sz) := by
  refine vx_ofWH (cc := cL_next) (maxL := 4) (ret := (some .int)) (by decide) rfl ?_
  intro p e s m9 args below meth c s₁ B hml hv
  obtain ⟨rfl, hsz, hP, hKN, hD0, hTZ, hNC⟩ := hv
  have hx := B.exec
  have hb := B.bytes
  have hr := B.returns
  have hts := atoms_spec (ws := wsL_next) B.pre
  have hown : s.vm.findClass RL = some m9.cls := findClass_of_methodNamed B.named
  have hTab : c.exceptionTable.toList = [(⟨0, 9, 12, 13⟩ : ExceptionTableEntry), (⟨0, 9, 15, 68⟩ : ExceptionTableEntry), (⟨0, 9, 18, 19⟩ : ExceptionTableEntry)] := by
    obtain ⟨m8, meth8, c8, n1, n2, n3, -, -, n6, -⟩ := Cond.codeWith_spec (hts _ List.mem_cons_self)
    cases Option.some.inj (n1.symm.trans B.named)
    cases Option.some.inj (n2.symm.trans B.method)
    cases Option.some.inj (n3.symm.trans (Stand.of_body B).code)
    exact tabEq n6
  have hlocks := B.notSynchronized
  subst hsz
  have hD := hD0.self (sz := s.heap.size)
  generalize hAe : va_A ((wX ca f kq ad) ++ (wKd kq) ++ (wMp ca kq (ad i0) m) ++ [(g, .inl (ca 1, 1, .inr (.inl ov)))]) s.heap.size = A at hD hTZ ⊢
  have hA : ∀ q : Nat, s.heap.size ≤ q → A q := fun q h => by rw [← hAe]; exact Or.inr h
  have hS : va_S A s.heap s.heap [] := va_S.rf
  have hl := lv_entry ([.ref (f 0), .int mm, .ref g]) (n := 4) (Nat.le_of_ble_eq_true rfl)
  rw [lg_entry_eq]
  generalize (lg_sl ([.ref (f 0), .int mm, .ref g]) ++ List.replicate (4 - (lg_sl ([.ref (f 0), .int mm, .ref g])).length) Slot.unset).toArray = ls at hl ⊢
  have hl : lv_has ls 4 [(0, .ref (f 0)), (1, .int mm), (2, .ref g)] := hl
  refine lv_aload_n hx hb dL_next_0 rfl (lv_at hl 2 rfl) ?_
  refine lv_iconst (v := 0) hx hb dL_next_1 (by decide) ?_
  refine lv_aload_n hx hb dL_next_2 rfl (lv_at hl 0 rfl) ?_
  refine lv_iload_n hx hb dL_next_3 rfl (lv_at hl 1 rfl) ?_
  refine xcx_i (wr := [(g, .inl (ca 1, 1, .inr (.inl ov)))]) (vx_runV (As := [.int mm]) (rest := [.int 0, .ref g]) ⟨hx, hb, hml, hown, hts⟩ (c_X10_next l D ca f kq ad _ hl9 i0 m r N mm hR hN hm) (cwV 1 hts gL_next_X10_next rfl rfl rfl (by decide +kernel) ⟨(Nat.le_of_ble_eq_true rfl), (Nat.le_of_ble_eq_true rfl)⟩) (xPreVT hKN hTZ hP hD hS hA [0, 1, 2, 3, 4, 5, 6, 7, 8, 9, 10, 11, 12, 13, 14, 15, 16, 17, 18, 19, 20] (by decide +kernel) rfl (q0 := 0) rfl rfl rfl) rfl rfl hl.1 rfl (lv_room (Nat.le_of_ble_eq_true rfl)) dL_next_4 ⟨(Nat.le_of_ble_eq_true rfl), (Nat.le_of_ble_eq_true rfl)⟩) hP hD hS hA [0, 1, 2, 3, 4, 5, 6, 7, 8, 9, 10, 11, 12, 13, 14, 15, 16, 17, 18, 19, 20] [21] rfl rfl (by decide +kernel) (by decide +kernel) (fun E9 ce9 q9 u4 H locs hu4 hP hD hS h91 h92 h93 => ?_) (fun r4 u4 H locs hu4 hP hD hS => ?_)
  · skip
    have hP : va_P D vwCl ((wX ca f kq ad) ++ (wKd kq) ++ (wMp ca kq (ad i0) u4) ++ [(g, .inl (ca 1, 1, .inr (.inl ov)))]) H := hP.sub (ws' := (wX ca f kq ad) ++ (wKd kq) ++ (wMp ca kq (ad i0) u4) ++ [(g, .inl (ca 1, 1, .inr (.inl ov)))]) [1, 2, 3, 4, 5, 6, 7, 8, 9, 10, 11, 12, 13, 14, 15, 16, 17, 18, 19, 20, 21, 0] rfl
    have hD : va_D A ((wX ca f kq ad) ++ (wKd kq) ++ (wMp ca kq (ad i0) u4) ++ [(g, .inl (ca 1, 1, .inr (.inl ov)))]) := hD.sub (ws' := (wX ca f kq ad) ++ (wKd kq) ++ (wMp ca kq (ad i0) u4) ++ [(g, .inl (ca 1, 1, .inr (.inl ov)))]) [1, 2, 3, 4, 5, 6, 7, 8, 9, 10, 11, 12, 13, 14, 15, 16, 17, 18, 19, 20, 21, 0] (by decide +kernel) rfl
    obtain ⟨eE, hc9, hR9⟩ := hu4
    have hco : (GG (0 : Int32) (F_next) mm r).2.1 = 0 ∨ (GG (0 : Int32) (F_next) mm r).2.1 = 1 ∨ (GG (0 : Int32) (F_next) mm r).2.1 = 2 ∨ (GG (0 : Int32) (F_next) mm r).2.1 = 3 := GG_c (z := (0 : Int32)) (F := F_next) (P := fun c => c = 0 ∨ c = 1 ∨ c = 2 ∨ c = 3) (by simp) (co_next) mm r
    rcases hco with hc | hc | hc | hc
    · exact absurd hc hc9
    · rw [hc] at eE
      have eE : E9 = eIA := eE
      subst eE
      refine vx_catch hown [] (⟨0, 9, 12, 13⟩ : ExceptionTableEntry) [(⟨0, 9, 15, 68⟩ : ExceptionTableEntry), (⟨0, 9, 18, 19⟩ : ExceptionTableEntry)] hTab (fun z hz => absurd hz List.not_mem_nil) (by decide) (by show ¬ 13 = 0; decide) (name := eIA) (hts (.classLink RL 13 eIA) (by decide +kernel)) (va_Nw.use rfl (NW.c hKN.2 (by decide +kernel))) h91 h92 h93 ?_
      refine lv_astore_n (lv' := [(3, .ref q9), (0, .ref (f 0)), (1, .int mm), (2, .ref g)]) hx hb dL_next_12 rfl hl (by decide) rfl (fun ls hl => ?_)
      refine lv_iconst (v := 1) hx hb dL_next_13 (by decide) ?_
      refine W.widen (k := 2) (n := 12) (by omega) (by omega) ?_
      exact vx_ret (W.iret (v := 1) hx hb hr (fun t9 e9 w9 => ⟨⟨_, (u4, ov), rfl, ⟨hc.symm, hR9, fun q => absurd q (by decide)⟩, by rw [e9]; exact hP, hD⟩, hS.F e9⟩) hS.2.2 dL_next_14)
    · rw [hc] at eE
      have eE : E9 = eIS := eE
      subst eE
      skip
      refine vx_catch hown [(⟨0, 9, 12, 13⟩ : ExceptionTableEntry)] (⟨0, 9, 15, 68⟩ : ExceptionTableEntry) [(⟨0, 9, 18, 19⟩ : ExceptionTableEntry)] hTab (cat_c (Or.inr ⟨(by show ¬ 13 = 0; decide), eIA, hts (.classLink RL 13 eIA) (by decide +kernel), hNC.2.1⟩) (fun z hz => absurd hz List.not_mem_nil)) (by decide) (by show ¬ 68 = 0; decide) (name := eIS) (hts (.classLink RL 68 eIS) (by decide +kernel)) (va_Nw.use rfl (NW.c hKN.2 (by decide +kernel))) h91 h92 h93 ?_
      refine lv_astore_n (lv' := [(3, .ref q9), (0, .ref (f 0)), (1, .int mm), (2, .ref g)]) hx hb dL_next_15 rfl hl (by decide) rfl (fun ls hl => ?_)
      refine lv_iconst (v := 2) hx hb dL_next_16 (by decide) ?_
      refine W.widen (k := 2) (n := 12) (by omega) (by omega) ?_
      exact vx_ret (W.iret (v := 2) hx hb hr (fun t9 e9 w9 => ⟨⟨_, (u4, ov), rfl, ⟨hc.symm, hR9, fun q => absurd q (by decide)⟩, by rw [e9]; exact hP, hD⟩, hS.F e9⟩) hS.2.2 dL_next_17)
    · rw [hc] at eE
      have eE : E9 = eIO := eE
      subst eE
      skip
      skip
      refine vx_catch hown [(⟨0, 9, 12, 13⟩ : ExceptionTableEntry), (⟨0, 9, 15, 68⟩ : ExceptionTableEntry)] (⟨0, 9, 18, 19⟩ : ExceptionTableEntry) [] hTab (cat_c (Or.inr ⟨(by show ¬ 13 = 0; decide), eIA, hts (.classLink RL 13 eIA) (by decide +kernel), hNC.1⟩) (cat_c (Or.inr ⟨(by show ¬ 68 = 0; decide), eIS, hts (.classLink RL 68 eIS) (by decide +kernel), hNC.2.2⟩) (fun z hz => absurd hz List.not_mem_nil))) (by decide) (by show ¬ 19 = 0; decide) (name := eIO) (hts (.classLink RL 19 eIO) (by decide +kernel)) (va_Nw.use rfl (NW.c hKN.2 (by decide +kernel))) h91 h92 h93 ?_
      refine lv_astore_n (lv' := [(3, .ref q9), (0, .ref (f 0)), (1, .int mm), (2, .ref g)]) hx hb dL_next_18 rfl hl (by decide) rfl (fun ls hl => ?_)
      refine lv_iconst (v := 3) hx hb dL_next_19 (by decide) ?_
      refine W.widen (k := 2) (n := 12) (by omega) (by omega) ?_
      exact vx_ret (W.iret (v := 3) hx hb hr (fun t9 e9 w9 => ⟨⟨_, (u4, ov), rfl, ⟨hc.symm, hR9, fun q => absurd q (by decide)⟩, by rw [e9]; exact hP, hD⟩, hS.F e9⟩) hS.2.2 dL_next_20)
  · skip
    have hP : va_P D vwCl ((wX ca f kq ad) ++ (wKd kq) ++ (wMp ca kq (ad i0) u4) ++ [(g, .inl (ca 1, 1, .inr (.inl ov)))]) H := hP.sub (ws' := (wX ca f kq ad) ++ (wKd kq) ++ (wMp ca kq (ad i0) u4) ++ [(g, .inl (ca 1, 1, .inr (.inl ov)))]) [1, 2, 3, 4, 5, 6, 7, 8, 9, 10, 11, 12, 13, 14, 15, 16, 17, 18, 19, 20, 21, 0] rfl
    have hD : va_D A ((wX ca f kq ad) ++ (wKd kq) ++ (wMp ca kq (ad i0) u4) ++ [(g, .inl (ca 1, 1, .inr (.inl ov)))]) := hD.sub (ws' := (wX ca f kq ad) ++ (wKd kq) ++ (wMp ca kq (ad i0) u4) ++ [(g, .inl (ca 1, 1, .inr (.inl ov)))]) [1, 2, 3, 4, 5, 6, 7, 8, 9, 10, 11, 12, 13, 14, 15, 16, 17, 18, 19, 20, 21, 0] (by decide +kernel) rfl
    obtain ⟨er4, ec4, hR9⟩ := hu4
    subst er4
    refine lv_i2l hx hb dL_next_7 rfl ?_
    refine xr_lst hx hb hKN.1 hP hD hS 21 1 rfl rfl (j := 0) (by decide) (by decide) dL_next_8 (fun H locs hP hD hS => ?_)
    have hP : va_P D vwCl ((wX ca f kq ad) ++ (wKd kq) ++ (wMp ca kq (ad i0) u4) ++ [(g, .inl (ca 1, 1, .inr (.inl (vp_updL ov 0 (((GG (0 : Int32) (F_next) mm r).1).toInt64)))))]) H := hP
    have hD : va_D A ((wX ca f kq ad) ++ (wKd kq) ++ (wMp ca kq (ad i0) u4) ++ [(g, .inl (ca 1, 1, .inr (.inl (vp_updL ov 0 (((GG (0 : Int32) (F_next) mm r).1).toInt64)))))]) := hD
    refine lv_goto (tgt := 21) hx hb dL_next_9 (by decide) ?_
    refine lv_iconst (v := 0) hx hb dL_next_21 (by decide) ?_
    refine W.widen (k := 2) (n := 12) (by omega) (by omega) ?_
    exact vx_ret (W.iret (v := 0) hx hb hr (fun t9 e9 w9 => ⟨⟨_, (u4, vp_updL ov 0 (((GG (0 : Int32) (F_next) mm r).1).toInt64)), rfl, ⟨ec4.symm, hR9, fun _ => (oL_eq ov 0 _).trans rfl⟩, by rw [e9]; exact hP, hD⟩, hS.F e9⟩) hS.2.2 dL_next_22)

-- TreeFamilyLaw.drop
set_option maxHeartbeats 4000000 in
set_option maxRecDepth 100000 in
theorem c_L_drop (l : Launch) (D : va_G) (ca : Nat → ClassId) (f kq : Nat → Nat) (ad : Nat → Nat → Nat) (sz : Nat) (hl9 : l.stackTraces = false) (i0 : Nat) (m : MS) (r : RW) (N : Nat) (mm : Int32) (hR : Rel1 N m r) (hN : N ≤ 1000000) (hm : isB mm 3 = true → mm = nI i0 ∧ i0 < 3) : vx_Met l yL_drop wsL_drop ({ frames := 68, cells := 2, slots := 12, locals := 1679 } : Room) (xPcH D (TY ca) [.ref (f 0), .int mm] ((wX ca f kq ad) ++ (wKd kq) ++ (wMp ca kq (ad i0) m)) sz) (va_Qi (fun (x : Int32) (u : MS) => x = (GG () (F_drop) mm r).2.1 ∧ Rel1 (N + 61) u (GG () (F_drop) mm r).2.2) (xB D (wF1 ca f kq ad i0) (va_A ((wX ca f kq ad) ++ (wKd kq) ++ (wMp ca kq (ad i0) m)) sz)) (va_A ((wX ca f kq ad) ++ (wKd kq) ++ (wMp ca kq (ad i0) m)) sz)) (xX D (wF1 ca f kq ad i0) (va_A ((wX ca f kq ad) ++ (wKd kq) ++ (wMp ca kq (ad i0) m)) sz) (fun (_ : String) (_ : MS) => False)) 2 12 (va_A ((wX ca f kq ad) ++ (wKd kq) ++ (wMp ca kq (ad i0) m)) sz) := by
  refine vx_ofWH (cc := cL_drop) (maxL := 3) (ret := (some .int)) (by decide) rfl ?_
  intro p e s m9 args below meth c s₁ B hml hv
  obtain ⟨rfl, hsz, hP, hKN, hD0, hTZ, hNC⟩ := hv
  have hx := B.exec
  have hb := B.bytes
  have hr := B.returns
  have hts := atoms_spec (ws := wsL_drop) B.pre
  have hown : s.vm.findClass RL = some m9.cls := findClass_of_methodNamed B.named
  have hTab : c.exceptionTable.toList = [(⟨0, 5, 8, 13⟩ : ExceptionTableEntry), (⟨0, 5, 11, 68⟩ : ExceptionTableEntry)] := by
    obtain ⟨m8, meth8, c8, n1, n2, n3, -, -, n6, -⟩ := Cond.codeWith_spec (hts _ List.mem_cons_self)
    cases Option.some.inj (n1.symm.trans B.named)
    cases Option.some.inj (n2.symm.trans B.method)
    cases Option.some.inj (n3.symm.trans (Stand.of_body B).code)
    exact tabEq n6
  have hlocks := B.notSynchronized
  subst hsz
  have hD := hD0.self (sz := s.heap.size)
  generalize hAe : va_A ((wX ca f kq ad) ++ (wKd kq) ++ (wMp ca kq (ad i0) m)) s.heap.size = A at hD hTZ ⊢
  have hA : ∀ q : Nat, s.heap.size ≤ q → A q := fun q h => by rw [← hAe]; exact Or.inr h
  have hS : va_S A s.heap s.heap [] := va_S.rf
  have hl := lv_entry ([.ref (f 0), .int mm]) (n := 3) (Nat.le_of_ble_eq_true rfl)
  rw [lg_entry_eq]
  generalize (lg_sl ([.ref (f 0), .int mm]) ++ List.replicate (3 - (lg_sl ([.ref (f 0), .int mm])).length) Slot.unset).toArray = ls at hl ⊢
  have hl : lv_has ls 3 [(0, .ref (f 0)), (1, .int mm)] := hl
  refine lv_aload_n hx hb dL_drop_0 rfl (lv_at hl 0 rfl) ?_
  refine lv_iload_n hx hb dL_drop_1 rfl (lv_at hl 1 rfl) ?_
  refine xcx_v (wr := []) (vx_runV (As := [.int mm]) (rest := []) ⟨hx, hb, hml, hown, hts⟩ (c_X10_drop l D ca f kq ad _ hl9 i0 m r N mm hR hN hm) (cwV 1 hts gL_drop_X10_drop rfl rfl rfl (by decide +kernel) ⟨(Nat.le_of_ble_eq_true rfl), (Nat.le_of_ble_eq_true rfl)⟩) (xPreVT hKN hTZ hP hD hS hA [0, 1, 2, 3, 4, 5, 6, 7, 8, 9, 10, 11, 12, 13, 14, 15, 16, 17, 18, 19, 20] (by decide +kernel) rfl (q0 := 0) rfl rfl rfl) rfl rfl hl.1 rfl (lv_room (Nat.le_of_ble_eq_true rfl)) dL_drop_2 ⟨(Nat.le_of_ble_eq_true rfl), (Nat.le_of_ble_eq_true rfl)⟩) hP hD hS hA [0, 1, 2, 3, 4, 5, 6, 7, 8, 9, 10, 11, 12, 13, 14, 15, 16, 17, 18, 19, 20] [] rfl rfl (by decide +kernel) (by decide +kernel) (fun E9 ce9 q9 u2 H locs hu2 hP hD hS h91 h92 h93 => ?_) (fun u2 H locs hu2 hP hD hS => ?_)
  · skip
    have hP : va_P D vwCl ((wX ca f kq ad) ++ (wKd kq) ++ (wMp ca kq (ad i0) u2)) H := hP
    have hD : va_D A ((wX ca f kq ad) ++ (wKd kq) ++ (wMp ca kq (ad i0) u2)) := hD
    obtain ⟨eE, hc9, hR9⟩ := hu2
    have hco : (GG () (F_drop) mm r).2.1 = 0 ∨ (GG () (F_drop) mm r).2.1 = 1 ∨ (GG () (F_drop) mm r).2.1 = 2 := GG_c (z := ()) (F := F_drop) (P := fun c => c = 0 ∨ c = 1 ∨ c = 2) (by simp) (co_drop) mm r
    rcases hco with hc | hc | hc
    · exact absurd hc hc9
    · rw [hc] at eE
      have eE : E9 = eIA := eE
      subst eE
      refine vx_catch hown [] (⟨0, 5, 8, 13⟩ : ExceptionTableEntry) [(⟨0, 5, 11, 68⟩ : ExceptionTableEntry)] hTab (fun z hz => absurd hz List.not_mem_nil) (by decide) (by show ¬ 13 = 0; decide) (name := eIA) (hts (.classLink RL 13 eIA) (by decide +kernel)) (va_Nw.use rfl (NW.c hKN.2 (by decide +kernel))) h91 h92 h93 ?_
      refine lv_astore_n (lv' := [(2, .ref q9), (0, .ref (f 0)), (1, .int mm)]) hx hb dL_drop_8 rfl hl (by decide) rfl (fun ls hl => ?_)
      refine lv_iconst (v := 1) hx hb dL_drop_9 (by decide) ?_
      refine W.widen (k := 2) (n := 12) (by omega) (by omega) ?_
      exact vx_ret (W.iret (v := 1) hx hb hr (fun t9 e9 w9 => ⟨⟨_, u2, rfl, ⟨hc.symm, hR9⟩, by rw [e9]; exact hP, hD⟩, hS.F e9⟩) hS.2.2 dL_drop_10)
    · rw [hc] at eE
      have eE : E9 = eIS := eE
      subst eE
      skip
      refine vx_catch hown [(⟨0, 5, 8, 13⟩ : ExceptionTableEntry)] (⟨0, 5, 11, 68⟩ : ExceptionTableEntry) [] hTab (cat_c (Or.inr ⟨(by show ¬ 13 = 0; decide), eIA, hts (.classLink RL 13 eIA) (by decide +kernel), hNC.2.1⟩) (fun z hz => absurd hz List.not_mem_nil)) (by decide) (by show ¬ 68 = 0; decide) (name := eIS) (hts (.classLink RL 68 eIS) (by decide +kernel)) (va_Nw.use rfl (NW.c hKN.2 (by decide +kernel))) h91 h92 h93 ?_
      refine lv_astore_n (lv' := [(2, .ref q9), (0, .ref (f 0)), (1, .int mm)]) hx hb dL_drop_11 rfl hl (by decide) rfl (fun ls hl => ?_)
      refine lv_iconst (v := 2) hx hb dL_drop_12 (by decide) ?_
      refine W.widen (k := 2) (n := 12) (by omega) (by omega) ?_
      exact vx_ret (W.iret (v := 2) hx hb hr (fun t9 e9 w9 => ⟨⟨_, u2, rfl, ⟨hc.symm, hR9⟩, by rw [e9]; exact hP, hD⟩, hS.F e9⟩) hS.2.2 dL_drop_13)
  · skip
    have hP : va_P D vwCl ((wX ca f kq ad) ++ (wKd kq) ++ (wMp ca kq (ad i0) u2)) H := hP
    have hD : va_D A ((wX ca f kq ad) ++ (wKd kq) ++ (wMp ca kq (ad i0) u2)) := hD
    obtain ⟨er2, ec2, hR9⟩ := hu2
    refine lv_goto (tgt := 14) hx hb dL_drop_5 (by decide) ?_
    refine lv_iconst (v := 0) hx hb dL_drop_14 (by decide) ?_
    refine W.widen (k := 2) (n := 12) (by omega) (by omega) ?_
    exact vx_ret (W.iret (v := 0) hx hb hr (fun t9 e9 w9 => ⟨⟨_, u2, rfl, ⟨ec2.symm, hR9⟩, by rw [e9]; exact hP, hD⟩, hS.F e9⟩) hS.2.2 dL_drop_15)

-- TreeFamilyLaw.changes
set_option maxHeartbeats 4000000 in
set_option maxRecDepth 100000 in
theorem c_L_changes (l : Launch) (D : va_G) (ca : Nat → ClassId) (f kq : Nat → Nat) (ad : Nat → Nat → Nat) (sz : Nat) (hl9 : l.stackTraces = false) (i0 g : Nat) (m : MS) (ov : Nat → Int64) (r : RW) (N : Nat) (mm : Int32) (hR : Rel1 N m r) (hN : N ≤ 1000000) (hm : isB mm 3 = true → mm = nI i0 ∧ i0 < 3) : vx_Met l yL_changes wsL_changes ({ frames := 8, cells := 2, slots := 12, locals := 132 } : Room) (xPcH D (TY ca) [.ref (f 0), .int mm, .ref g] ((wX ca f kq ad) ++ (wKd kq) ++ (wMp ca kq (ad i0) m) ++ [(g, .inl (ca 1, 1, .inr (.inl ov)))]) sz) (va_Qi (fun (x : Int32) (u : MO) => x = (GG (0 : Int32) (F_changes) mm r).2.1 ∧ Rel1 (N + 61) u.1 (GG (0 : Int32) (F_changes) mm r).2.2 ∧ (x = 0 → u.2 0 = ((GG (0 : Int32) (F_changes) mm r).1).toInt64)) (xB D (wH ca f kq ad i0 g) (va_A ((wX ca f kq ad) ++ (wKd kq) ++ (wMp ca kq (ad i0) m) ++ [(g, .inl (ca 1, 1, .inr (.inl ov)))]) sz)) (va_A ((wX ca f kq ad) ++ (wKd kq) ++ (wMp ca kq (ad i0) m) ++ [(g, .inl (ca 1, 1, .inr (.inl ov)))]) sz)) (xX D (wH ca f kq ad i0 g) (va_A ((wX ca f kq ad) ++ (wKd kq) ++ (wMp ca kq (ad i0) m) ++ [(g, .inl (ca 1, 1, .inr (.inl ov)))]) sz) (fun (_ : String) (_ : MO) => False)) 2 12 (va_A ((wX ca f kq ad) ++ (wKd kq) ++ (wMp ca kq (ad i0) m) ++ [(g, .inl (ca 1, 1, .inr (.inl ov)))]) sz) := by
  refine vx_ofWH (cc := cL_changes) (maxL := 4) (ret := (some .int)) (by decide) rfl ?_
  intro p e s m9 args below meth c s₁ B hml hv
  obtain ⟨rfl, hsz, hP, hKN, hD0, hTZ, hNC⟩ := hv
  have hx := B.exec
  have hb := B.bytes
  have hr := B.returns
  have hts := atoms_spec (ws := wsL_changes) B.pre
  have hown : s.vm.findClass RL = some m9.cls := findClass_of_methodNamed B.named
  have hTab : c.exceptionTable.toList = [(⟨0, 9, 12, 13⟩ : ExceptionTableEntry)] := by
    obtain ⟨m8, meth8, c8, n1, n2, n3, -, -, n6, -⟩ := Cond.codeWith_spec (hts _ List.mem_cons_self)
    cases Option.some.inj (n1.symm.trans B.named)
    cases Option.some.inj (n2.symm.trans B.method)
    cases Option.some.inj (n3.symm.trans (Stand.of_body B).code)
    exact tabEq n6
  have hlocks := B.notSynchronized
  subst hsz
  have hD := hD0.self (sz := s.heap.size)
  generalize hAe : va_A ((wX ca f kq ad) ++ (wKd kq) ++ (wMp ca kq (ad i0) m) ++ [(g, .inl (ca 1, 1, .inr (.inl ov)))]) s.heap.size = A at hD hTZ ⊢
  have hA : ∀ q : Nat, s.heap.size ≤ q → A q := fun q h => by rw [← hAe]; exact Or.inr h
  have hS : va_S A s.heap s.heap [] := va_S.rf
  have hl := lv_entry ([.ref (f 0), .int mm, .ref g]) (n := 4) (Nat.le_of_ble_eq_true rfl)
  rw [lg_entry_eq]
  generalize (lg_sl ([.ref (f 0), .int mm, .ref g]) ++ List.replicate (4 - (lg_sl ([.ref (f 0), .int mm, .ref g])).length) Slot.unset).toArray = ls at hl ⊢
  have hl : lv_has ls 4 [(0, .ref (f 0)), (1, .int mm), (2, .ref g)] := hl
  refine lv_aload_n hx hb dL_changes_0 rfl (lv_at hl 2 rfl) ?_
  refine lv_iconst (v := 0) hx hb dL_changes_1 (by decide) ?_
  refine lv_aload_n hx hb dL_changes_2 rfl (lv_at hl 0 rfl) ?_
  refine lv_iload_n hx hb dL_changes_3 rfl (lv_at hl 1 rfl) ?_
  refine xcx_i (wr := [(g, .inl (ca 1, 1, .inr (.inl ov)))]) (vx_runV (As := [.int mm]) (rest := [.int 0, .ref g]) ⟨hx, hb, hml, hown, hts⟩ (c_X10_changes l D ca f kq ad _ hl9 i0 m r N mm hR hN hm) (cwV 1 hts gL_changes_X10_changes rfl rfl rfl (by decide +kernel) ⟨(Nat.le_of_ble_eq_true rfl), (Nat.le_of_ble_eq_true rfl)⟩) (xPreVT hKN hTZ hP hD hS hA [0, 1, 2, 3, 4, 5, 6, 7, 8, 9, 10, 11, 12, 13, 14, 15, 16, 17, 18, 19, 20] (by decide +kernel) rfl (q0 := 0) rfl rfl rfl) rfl rfl hl.1 rfl (lv_room (Nat.le_of_ble_eq_true rfl)) dL_changes_4 ⟨(Nat.le_of_ble_eq_true rfl), (Nat.le_of_ble_eq_true rfl)⟩) hP hD hS hA [0, 1, 2, 3, 4, 5, 6, 7, 8, 9, 10, 11, 12, 13, 14, 15, 16, 17, 18, 19, 20] [21] rfl rfl (by decide +kernel) (by decide +kernel) (fun E9 ce9 q9 u4 H locs hu4 hP hD hS h91 h92 h93 => ?_) (fun r4 u4 H locs hu4 hP hD hS => ?_)
  · skip
    have hP : va_P D vwCl ((wX ca f kq ad) ++ (wKd kq) ++ (wMp ca kq (ad i0) u4) ++ [(g, .inl (ca 1, 1, .inr (.inl ov)))]) H := hP.sub (ws' := (wX ca f kq ad) ++ (wKd kq) ++ (wMp ca kq (ad i0) u4) ++ [(g, .inl (ca 1, 1, .inr (.inl ov)))]) [1, 2, 3, 4, 5, 6, 7, 8, 9, 10, 11, 12, 13, 14, 15, 16, 17, 18, 19, 20, 21, 0] rfl
    have hD : va_D A ((wX ca f kq ad) ++ (wKd kq) ++ (wMp ca kq (ad i0) u4) ++ [(g, .inl (ca 1, 1, .inr (.inl ov)))]) := hD.sub (ws' := (wX ca f kq ad) ++ (wKd kq) ++ (wMp ca kq (ad i0) u4) ++ [(g, .inl (ca 1, 1, .inr (.inl ov)))]) [1, 2, 3, 4, 5, 6, 7, 8, 9, 10, 11, 12, 13, 14, 15, 16, 17, 18, 19, 20, 21, 0] (by decide +kernel) rfl
    obtain ⟨eE, hc9, hR9⟩ := hu4
    have hco : (GG (0 : Int32) (F_changes) mm r).2.1 = 0 ∨ (GG (0 : Int32) (F_changes) mm r).2.1 = 1 := GG_c (z := (0 : Int32)) (F := F_changes) (P := fun c => c = 0 ∨ c = 1) (by simp) (co_changes) mm r
    rcases hco with hc | hc
    · exact absurd hc hc9
    · rw [hc] at eE
      have eE : E9 = eIA := eE
      subst eE
      refine vx_catch hown [] (⟨0, 9, 12, 13⟩ : ExceptionTableEntry) [] hTab (fun z hz => absurd hz List.not_mem_nil) (by decide) (by show ¬ 13 = 0; decide) (name := eIA) (hts (.classLink RL 13 eIA) (by decide +kernel)) (va_Nw.use rfl (NW.c hKN.2 (by decide +kernel))) h91 h92 h93 ?_
      refine lv_astore_n (lv' := [(3, .ref q9), (0, .ref (f 0)), (1, .int mm), (2, .ref g)]) hx hb dL_changes_12 rfl hl (by decide) rfl (fun ls hl => ?_)
      refine lv_iconst (v := 1) hx hb dL_changes_13 (by decide) ?_
      refine W.widen (k := 2) (n := 12) (by omega) (by omega) ?_
      exact vx_ret (W.iret (v := 1) hx hb hr (fun t9 e9 w9 => ⟨⟨_, (u4, ov), rfl, ⟨hc.symm, hR9, fun q => absurd q (by decide)⟩, by rw [e9]; exact hP, hD⟩, hS.F e9⟩) hS.2.2 dL_changes_14)
  · skip
    have hP : va_P D vwCl ((wX ca f kq ad) ++ (wKd kq) ++ (wMp ca kq (ad i0) u4) ++ [(g, .inl (ca 1, 1, .inr (.inl ov)))]) H := hP.sub (ws' := (wX ca f kq ad) ++ (wKd kq) ++ (wMp ca kq (ad i0) u4) ++ [(g, .inl (ca 1, 1, .inr (.inl ov)))]) [1, 2, 3, 4, 5, 6, 7, 8, 9, 10, 11, 12, 13, 14, 15, 16, 17, 18, 19, 20, 21, 0] rfl
    have hD : va_D A ((wX ca f kq ad) ++ (wKd kq) ++ (wMp ca kq (ad i0) u4) ++ [(g, .inl (ca 1, 1, .inr (.inl ov)))]) := hD.sub (ws' := (wX ca f kq ad) ++ (wKd kq) ++ (wMp ca kq (ad i0) u4) ++ [(g, .inl (ca 1, 1, .inr (.inl ov)))]) [1, 2, 3, 4, 5, 6, 7, 8, 9, 10, 11, 12, 13, 14, 15, 16, 17, 18, 19, 20, 21, 0] (by decide +kernel) rfl
    obtain ⟨er4, ec4, hR9⟩ := hu4
    subst er4
    refine lv_i2l hx hb dL_changes_7 rfl ?_
    refine xr_lst hx hb hKN.1 hP hD hS 21 1 rfl rfl (j := 0) (by decide) (by decide) dL_changes_8 (fun H locs hP hD hS => ?_)
    have hP : va_P D vwCl ((wX ca f kq ad) ++ (wKd kq) ++ (wMp ca kq (ad i0) u4) ++ [(g, .inl (ca 1, 1, .inr (.inl (vp_updL ov 0 (((GG (0 : Int32) (F_changes) mm r).1).toInt64)))))]) H := hP
    have hD : va_D A ((wX ca f kq ad) ++ (wKd kq) ++ (wMp ca kq (ad i0) u4) ++ [(g, .inl (ca 1, 1, .inr (.inl (vp_updL ov 0 (((GG (0 : Int32) (F_changes) mm r).1).toInt64)))))]) := hD
    refine lv_goto (tgt := 15) hx hb dL_changes_9 (by decide) ?_
    refine lv_iconst (v := 0) hx hb dL_changes_15 (by decide) ?_
    refine W.widen (k := 2) (n := 12) (by omega) (by omega) ?_
    exact vx_ret (W.iret (v := 0) hx hb hr (fun t9 e9 w9 => ⟨⟨_, (u4, vp_updL ov 0 (((GG (0 : Int32) (F_changes) mm r).1).toInt64)), rfl, ⟨ec4.symm, hR9, fun _ => (oL_eq ov 0 _).trans rfl⟩, by rw [e9]; exact hP, hD⟩, hS.F e9⟩) hS.2.2 dL_changes_16)

-- TreeFamilyLaw.audit
set_option maxHeartbeats 4000000 in
set_option maxRecDepth 100000 in
theorem c_L_audit (l : Launch) (D : va_G) (ca : Nat → ClassId) (f kq : Nat → Nat) (ad : Nat → Nat → Nat) (sz : Nat) (hl9 : l.stackTraces = false) (i0 g : Nat) (m : MS) (ov : Nat → Int64) (r : RW) (N : Nat) (mm : Int32) (hR : Rel1 N m r) (hN : N ≤ 1000000) (hm : isB mm 3 = true → mm = nI i0 ∧ i0 < 3) : vx_Met l yL_audit wsL_audit ({ frames := 8, cells := 2, slots := 12, locals := 132 } : Room) (xPcH D (TY ca) [.ref (f 0), .int mm, .ref g] ((wX ca f kq ad) ++ (wKd kq) ++ (wMp ca kq (ad i0) m) ++ [(g, .inl (ca 1, 1, .inr (.inl ov)))]) sz) (va_Qi (fun (x : Int32) (u : MO) => x = (GG (0 : Int32) (F_audit) mm r).2.1 ∧ Rel1 (N + 61) u.1 (GG (0 : Int32) (F_audit) mm r).2.2 ∧ (x = 0 → u.2 0 = (if (GG (0 : Int32) (F_audit) mm r).1 = 0 then 0 else 1))) (xB D (wH ca f kq ad i0 g) (va_A ((wX ca f kq ad) ++ (wKd kq) ++ (wMp ca kq (ad i0) m) ++ [(g, .inl (ca 1, 1, .inr (.inl ov)))]) sz)) (va_A ((wX ca f kq ad) ++ (wKd kq) ++ (wMp ca kq (ad i0) m) ++ [(g, .inl (ca 1, 1, .inr (.inl ov)))]) sz)) (xX D (wH ca f kq ad i0 g) (va_A ((wX ca f kq ad) ++ (wKd kq) ++ (wMp ca kq (ad i0) m) ++ [(g, .inl (ca 1, 1, .inr (.inl ov)))]) sz) (fun (_ : String) (_ : MO) => False)) 2 12 (va_A ((wX ca f kq ad) ++ (wKd kq) ++ (wMp ca kq (ad i0) m) ++ [(g, .inl (ca 1, 1, .inr (.inl ov)))]) sz) := by
  refine vx_ofWH (cc := cL_audit) (maxL := 4) (ret := (some .int)) (by decide) rfl ?_
  intro p e s m9 args below meth c s₁ B hml hv
  obtain ⟨rfl, hsz, hP, hKN, hD0, hTZ, hNC⟩ := hv
  have hx := B.exec
  have hb := B.bytes
  have hr := B.returns
  have hts := atoms_spec (ws := wsL_audit) B.pre
  have hown : s.vm.findClass RL = some m9.cls := findClass_of_methodNamed B.named
  have hTab : c.exceptionTable.toList = [(⟨0, 16, 19, 13⟩ : ExceptionTableEntry)] := by
    obtain ⟨m8, meth8, c8, n1, n2, n3, -, -, n6, -⟩ := Cond.codeWith_spec (hts _ List.mem_cons_self)
    cases Option.some.inj (n1.symm.trans B.named)
    cases Option.some.inj (n2.symm.trans B.method)
    cases Option.some.inj (n3.symm.trans (Stand.of_body B).code)
    exact tabEq n6
  have hlocks := B.notSynchronized
  subst hsz
  have hD := hD0.self (sz := s.heap.size)
  generalize hAe : va_A ((wX ca f kq ad) ++ (wKd kq) ++ (wMp ca kq (ad i0) m) ++ [(g, .inl (ca 1, 1, .inr (.inl ov)))]) s.heap.size = A at hD hTZ ⊢
  have hA : ∀ q : Nat, s.heap.size ≤ q → A q := fun q h => by rw [← hAe]; exact Or.inr h
  have hS : va_S A s.heap s.heap [] := va_S.rf
  have hl := lv_entry ([.ref (f 0), .int mm, .ref g]) (n := 4) (Nat.le_of_ble_eq_true rfl)
  rw [lg_entry_eq]
  generalize (lg_sl ([.ref (f 0), .int mm, .ref g]) ++ List.replicate (4 - (lg_sl ([.ref (f 0), .int mm, .ref g])).length) Slot.unset).toArray = ls at hl ⊢
  have hl : lv_has ls 4 [(0, .ref (f 0)), (1, .int mm), (2, .ref g)] := hl
  refine lv_aload_n hx hb dL_audit_0 rfl (lv_at hl 2 rfl) ?_
  refine lv_iconst (v := 0) hx hb dL_audit_1 (by decide) ?_
  refine lv_aload_n hx hb dL_audit_2 rfl (lv_at hl 0 rfl) ?_
  refine lv_iload_n hx hb dL_audit_3 rfl (lv_at hl 1 rfl) ?_
  refine xcx_i (wr := [(g, .inl (ca 1, 1, .inr (.inl ov)))]) (vx_runV (As := [.int mm]) (rest := [.int 0, .ref g]) ⟨hx, hb, hml, hown, hts⟩ (c_X10_audit l D ca f kq ad _ hl9 i0 m r N mm hR hN hm) (cwV 1 hts gL_audit_X10_audit rfl rfl rfl (by decide +kernel) ⟨(Nat.le_of_ble_eq_true rfl), (Nat.le_of_ble_eq_true rfl)⟩) (xPreVT hKN hTZ hP hD hS hA [0, 1, 2, 3, 4, 5, 6, 7, 8, 9, 10, 11, 12, 13, 14, 15, 16, 17, 18, 19, 20] (by decide +kernel) rfl (q0 := 0) rfl rfl rfl) rfl rfl hl.1 rfl (lv_room (Nat.le_of_ble_eq_true rfl)) dL_audit_4 ⟨(Nat.le_of_ble_eq_true rfl), (Nat.le_of_ble_eq_true rfl)⟩) hP hD hS hA [0, 1, 2, 3, 4, 5, 6, 7, 8, 9, 10, 11, 12, 13, 14, 15, 16, 17, 18, 19, 20] [21] rfl rfl (by decide +kernel) (by decide +kernel) (fun E9 ce9 q9 u4 H locs hu4 hP hD hS h91 h92 h93 => ?_) (fun r4 u4 H locs hu4 hP hD hS => ?_)
  · skip
    have hP : va_P D vwCl ((wX ca f kq ad) ++ (wKd kq) ++ (wMp ca kq (ad i0) u4) ++ [(g, .inl (ca 1, 1, .inr (.inl ov)))]) H := hP.sub (ws' := (wX ca f kq ad) ++ (wKd kq) ++ (wMp ca kq (ad i0) u4) ++ [(g, .inl (ca 1, 1, .inr (.inl ov)))]) [1, 2, 3, 4, 5, 6, 7, 8, 9, 10, 11, 12, 13, 14, 15, 16, 17, 18, 19, 20, 21, 0] rfl
    have hD : va_D A ((wX ca f kq ad) ++ (wKd kq) ++ (wMp ca kq (ad i0) u4) ++ [(g, .inl (ca 1, 1, .inr (.inl ov)))]) := hD.sub (ws' := (wX ca f kq ad) ++ (wKd kq) ++ (wMp ca kq (ad i0) u4) ++ [(g, .inl (ca 1, 1, .inr (.inl ov)))]) [1, 2, 3, 4, 5, 6, 7, 8, 9, 10, 11, 12, 13, 14, 15, 16, 17, 18, 19, 20, 21, 0] (by decide +kernel) rfl
    obtain ⟨eE, hc9, hR9⟩ := hu4
    have hco : (GG (0 : Int32) (F_audit) mm r).2.1 = 0 ∨ (GG (0 : Int32) (F_audit) mm r).2.1 = 1 := GG_c (z := (0 : Int32)) (F := F_audit) (P := fun c => c = 0 ∨ c = 1) (by simp) (co_audit) mm r
    rcases hco with hc | hc
    · exact absurd hc hc9
    · rw [hc] at eE
      have eE : E9 = eIA := eE
      subst eE
      refine vx_catch hown [] (⟨0, 16, 19, 13⟩ : ExceptionTableEntry) [] hTab (fun z hz => absurd hz List.not_mem_nil) (by decide) (by show ¬ 13 = 0; decide) (name := eIA) (hts (.classLink RL 13 eIA) (by decide +kernel)) (va_Nw.use rfl (NW.c hKN.2 (by decide +kernel))) h91 h92 h93 ?_
      refine lv_astore_n (lv' := [(3, .ref q9), (0, .ref (f 0)), (1, .int mm), (2, .ref g)]) hx hb dL_audit_19 rfl hl (by decide) rfl (fun ls hl => ?_)
      refine lv_iconst (v := 1) hx hb dL_audit_20 (by decide) ?_
      refine W.widen (k := 2) (n := 12) (by omega) (by omega) ?_
      exact vx_ret (W.iret (v := 1) hx hb hr (fun t9 e9 w9 => ⟨⟨_, (u4, ov), rfl, ⟨hc.symm, hR9, fun q => absurd q (by decide)⟩, by rw [e9]; exact hP, hD⟩, hS.F e9⟩) hS.2.2 dL_audit_21)
  · skip
    have hP : va_P D vwCl ((wX ca f kq ad) ++ (wKd kq) ++ (wMp ca kq (ad i0) u4) ++ [(g, .inl (ca 1, 1, .inr (.inl ov)))]) H := hP.sub (ws' := (wX ca f kq ad) ++ (wKd kq) ++ (wMp ca kq (ad i0) u4) ++ [(g, .inl (ca 1, 1, .inr (.inl ov)))]) [1, 2, 3, 4, 5, 6, 7, 8, 9, 10, 11, 12, 13, 14, 15, 16, 17, 18, 19, 20, 21, 0] rfl
    have hD : va_D A ((wX ca f kq ad) ++ (wKd kq) ++ (wMp ca kq (ad i0) u4) ++ [(g, .inl (ca 1, 1, .inr (.inl ov)))]) := hD.sub (ws' := (wX ca f kq ad) ++ (wKd kq) ++ (wMp ca kq (ad i0) u4) ++ [(g, .inl (ca 1, 1, .inr (.inl ov)))]) [1, 2, 3, 4, 5, 6, 7, 8, 9, 10, 11, 12, 13, 14, 15, 16, 17, 18, 19, 20, 21, 0] (by decide +kernel) rfl
    obtain ⟨er4, ec4, hR9⟩ := hu4
    subst er4
    refine lv_if_eq (tgt := 14) hx hb dL_audit_7 (by decide) (fun c7 => ?_) (fun c7 => ?_)
    · skip
      refine lv_lconst (v := 0) hx hb dL_audit_14 (by decide) ?_
      refine xr_lst hx hb hKN.1 hP hD hS 21 1 rfl rfl (j := 0) (by decide) (by decide) dL_audit_15 (fun H locs hP hD hS => ?_)
      have hP : va_P D vwCl ((wX ca f kq ad) ++ (wKd kq) ++ (wMp ca kq (ad i0) u4) ++ [(g, .inl (ca 1, 1, .inr (.inl (vp_updL ov 0 0))))]) H := hP
      have hD : va_D A ((wX ca f kq ad) ++ (wKd kq) ++ (wMp ca kq (ad i0) u4) ++ [(g, .inl (ca 1, 1, .inr (.inl (vp_updL ov 0 0))))]) := hD
      refine lv_goto (tgt := 22) hx hb dL_audit_16 (by decide) ?_
      refine lv_iconst (v := 0) hx hb dL_audit_22 (by decide) ?_
      refine W.widen (k := 2) (n := 12) (by omega) (by omega) ?_
      exact vx_ret (W.iret (v := 0) hx hb hr (fun t9 e9 w9 => ⟨⟨_, (u4, vp_updL ov 0 0), rfl, ⟨ec4.symm, hR9, fun _ => (oL_eq ov 0 _).trans (by first | exact bO_0 c7 | exact bO_1 c7)⟩, by rw [e9]; exact hP, hD⟩, hS.F e9⟩) hS.2.2 dL_audit_23)
    · skip
      refine lv_lconst (v := 1) hx hb dL_audit_10 (by decide) ?_
      refine lv_goto (tgt := 15) hx hb dL_audit_11 (by decide) ?_
      refine xr_lst hx hb hKN.1 hP hD hS 21 1 rfl rfl (j := 0) (by decide) (by decide) dL_audit_15 (fun H locs hP hD hS => ?_)
      have hP : va_P D vwCl ((wX ca f kq ad) ++ (wKd kq) ++ (wMp ca kq (ad i0) u4) ++ [(g, .inl (ca 1, 1, .inr (.inl (vp_updL ov 0 1))))]) H := hP
      have hD : va_D A ((wX ca f kq ad) ++ (wKd kq) ++ (wMp ca kq (ad i0) u4) ++ [(g, .inl (ca 1, 1, .inr (.inl (vp_updL ov 0 1))))]) := hD
      refine lv_goto (tgt := 22) hx hb dL_audit_16 (by decide) ?_
      refine lv_iconst (v := 0) hx hb dL_audit_22 (by decide) ?_
      refine W.widen (k := 2) (n := 12) (by omega) (by omega) ?_
      exact vx_ret (W.iret (v := 0) hx hb hr (fun t9 e9 w9 => ⟨⟨_, (u4, vp_updL ov 0 1), rfl, ⟨ec4.symm, hR9, fun _ => (oL_eq ov 0 _).trans (by first | exact bO_0 c7 | exact bO_1 c7)⟩, by rw [e9]; exact hP, hD⟩, hS.F e9⟩) hS.2.2 dL_audit_23)
