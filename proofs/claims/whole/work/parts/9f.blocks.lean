/-! CALLS BY BLOCKS: the callee's world stands behind the rest, no list of places -/
theorem va_P.perm {D : va_G} {cl : List vw_C} {ws ws' : va_W} {H : Heap} (h : va_P D cl ws H) (hp : ws.Perm ws') : va_P D cl ws' H := fun k q hq => by
  obtain ⟨i, hi⟩ := List.mem_iff_getElem?.mp (hp.mem_iff.mpr (List.mem_of_getElem? hq))
  exact h i q hi
theorem va_D_iff {A : Nat → Prop} {ws : va_W} : va_D A ws ↔ ws.Pairwise (fun p q => p.1 ≠ q.1) ∧ ∀ q ∈ ws, A q.1 := by
  constructor
  · intro h
    refine ⟨List.pairwise_iff_getElem.mpr (fun i j hi hj hij e => ?_), fun q hq => ?_⟩
    · have := h.1 i j _ _ (List.getElem?_eq_getElem hi) (List.getElem?_eq_getElem hj) e
      omega
    · obtain ⟨i, hi⟩ := List.mem_iff_getElem?.mp hq
      exact h.2 i q hi
  · intro h
    have h1 := List.pairwise_iff_getElem.mp h.1
    refine ⟨fun i j p q hi hj e => ?_, fun k q hq => h.2 q (List.mem_of_getElem? hq)⟩
    obtain ⟨a1, rfl⟩ := List.getElem?_eq_some_iff.mp hi
    obtain ⟨b1, rfl⟩ := List.getElem?_eq_some_iff.mp hj
    rcases Nat.lt_trichotomy i j with g | g | g
    · exact absurd e (h1 i j a1 b1 g)
    · exact g
    · exact absurd e.symm (h1 j i b1 a1 g)
theorem va_D.perm {A : Nat → Prop} {ws ws' : va_W} (h : va_D A ws) (hp : ws.Perm ws') : va_D A ws' := by
  obtain ⟨h1, h2⟩ := va_D_iff.mp h
  exact va_D_iff.mpr ⟨(hp.pairwise_iff (fun e => fun e2 => e e2.symm)).mp h1, fun q hq => h2 q (hp.mem_iff.mpr hq)⟩
theorem nd_map : ∀ (l : List Nat), l.Nodup → va_nd l = true
  | [], _ => rfl
  | a :: l, h => by
    have h := List.nodup_cons.mp h
    simp only [va_nd, Bool.and_eq_true, decide_eq_true_eq]
    exact ⟨h.1, nd_map l h.2⟩
theorem blk_C {wr w0 : va_W} : ((List.range w0.length).map (fun i => wr.length + i)).map (fun i => (wr ++ w0)[i]?) = w0.map some := by
  rw [List.map_map]
  refine List.ext_getElem? (fun i => ?_)
  rw [List.getElem?_map, List.getElem?_map]
  by_cases h : i < w0.length
  · rw [List.getElem?_range h, List.getElem?_eq_getElem h]
    show some ((wr ++ w0)[wr.length + i]?) = some (some w0[i])
    rw [List.getElem?_append_right (Nat.le_add_right _ _), Nat.add_sub_cancel_left, List.getElem?_eq_getElem h]
  · rw [List.getElem?_eq_none (by simpa using h), List.getElem?_eq_none (by omega)]
    rfl
theorem blk_R {wr w0 : va_W} : (List.range wr.length).map (fun i => (wr ++ w0)[i]?) = wr.map some := by
  refine List.ext_getElem? (fun i => ?_)
  rw [List.getElem?_map, List.getElem?_map]
  by_cases h : i < wr.length
  · rw [List.getElem?_range h, List.getElem?_eq_getElem h]
    show some ((wr ++ w0)[i]?) = some (some wr[i])
    rw [List.getElem?_append_left h, List.getElem?_eq_getElem h]
  · rw [List.getElem?_eq_none (by simpa using h), List.getElem?_eq_none (by omega)]
    rfl
theorem blk_n (n : Nat) : va_nd (List.range n) = true := nd_map _ List.nodup_range
theorem blk_nC (n k : Nat) : va_nd ((List.range n).map (fun i => k + i)) = true := nd_map _ (by
  refine List.pairwise_iff_getElem.mpr (fun i j hi hj hij => ?_)
  rw [List.getElem_map, List.getElem_map, List.getElem_range, List.getElem_range]
  omega)
theorem blk_d {n k : Nat} : ∀ i ∈ List.range n, i ∉ (List.range k).map (fun i => n + i) := fun i hi h => by
  obtain ⟨j, -, e⟩ := List.mem_map.mp h
  have := List.mem_range.mp hi
  omega
section XB
variable {p : Program} {l : Launch} {e : Env} {R : Room} {s : State} {m : MethodId} {args : Array Value} {below : List Frame} {meth : Method} {c : Code} {H : Heap} {locs : List Loc} {cells slots : Nat} {Q : State → Prop}
variable {pc : Nat} {ls : Array Slot} {rest st0 : List Value} {av : Array Value} {A0 : Nat → Prop} {H0 : Heap} {mc ms : Nat} {D : va_G} {tys : List (ClassId × FieldType)} {w0 wr : va_W}
theorem xcb_i {S : Type} {post : Int32 → S → Prop} {PX : String → S → Prop} {wf : S → va_W} (hr : vx_Run p l e R s m args below meth c H locs cells slots mc ms (F0 m pc ls st0) rest (va_Qi post (xB D wf (va_A w0 H.size)) (va_A w0 H.size) av) (xX D wf (va_A w0 H.size) PX) (va_A w0 H.size)) (hno : ∀ E u, ¬ PX E u) (hP : va_P D vwCl (wr ++ w0) H) (hD : va_D A0 (wr ++ w0)) (hS : va_S A0 H0 H locs) (hA : ∀ q, H0.size ≤ q → A0 q)
    (kk : ∀ (r : Int32) (u : S) (H1 : Heap) (locs1 : List Loc), post r u → va_P D vwCl (wr ++ wf u) H1 → va_D A0 (wr ++ wf u) → va_S A0 H0 H1 locs1 → W p l e R s m args below meth c H1 locs1 (cells + mc) (slots + ms) Q (F0 m (pc + 3) ls (.int r :: rest))) : W p l e R s m args below meth c H locs cells slots Q (F0 m pc ls st0) :=
  xcx_i hr hP hD hS hA _ _ blk_C blk_R (blk_n _) blk_d (fun E _ _ u _ _ hu _ _ _ _ _ _ => absurd hu (hno E u)) kk
theorem xb_i {S : Type} {post : Int32 → S → Prop} {wf : S → va_W} (hr : va_Run p l e R s m args below meth c H locs cells slots mc ms (F0 m pc ls st0) rest (va_Qi post (xB D wf (va_A w0 H.size)) (va_A w0 H.size) av) (va_A w0 H.size)) (hP : va_P D vwCl (wr ++ w0) H) (hD : va_D A0 (wr ++ w0)) (hS : va_S A0 H0 H locs) (hA : ∀ q, H0.size ≤ q → A0 q)
    (kk : ∀ (r : Int32) (u : S) (H1 : Heap) (locs1 : List Loc), post r u → va_P D vwCl (wr ++ wf u) H1 → va_D A0 (wr ++ wf u) → va_S A0 H0 H1 locs1 → W p l e R s m args below meth c H1 locs1 (cells + mc) (slots + ms) Q (F0 m (pc + 3) ls (.int r :: rest))) : W p l e R s m args below meth c H locs cells slots Q (F0 m pc ls st0) :=
  xc_i hr hP hD hS hA _ _ blk_C blk_R (blk_n _) blk_d kk
theorem xb_l {S : Type} {post : Int64 → S → Prop} {wf : S → va_W} (hr : va_Run p l e R s m args below meth c H locs cells slots mc ms (F0 m pc ls st0) rest (va_Ql post (xB D wf (va_A w0 H.size)) (va_A w0 H.size) av) (va_A w0 H.size)) (hP : va_P D vwCl (wr ++ w0) H) (hD : va_D A0 (wr ++ w0)) (hS : va_S A0 H0 H locs) (hA : ∀ q, H0.size ≤ q → A0 q)
    (kk : ∀ (r : Int64) (u : S) (H1 : Heap) (locs1 : List Loc), post r u → va_P D vwCl (wr ++ wf u) H1 → va_D A0 (wr ++ wf u) → va_S A0 H0 H1 locs1 → W p l e R s m args below meth c H1 locs1 (cells + mc) (slots + ms) Q (F0 m (pc + 3) ls (.long r :: rest))) : W p l e R s m args below meth c H locs cells slots Q (F0 m pc ls st0) :=
  xc_l hr hP hD hS hA _ _ blk_C blk_R (blk_n _) blk_d kk
theorem xb_v {S : Type} {post : S → Prop} {wf : S → va_W} (hr : va_Run p l e R s m args below meth c H locs cells slots mc ms (F0 m pc ls st0) rest (va_Qv post (xB D wf (va_A w0 H.size)) (va_A w0 H.size) av) (va_A w0 H.size)) (hP : va_P D vwCl (wr ++ w0) H) (hD : va_D A0 (wr ++ w0)) (hS : va_S A0 H0 H locs) (hA : ∀ q, H0.size ≤ q → A0 q)
    (kk : ∀ (u : S) (H1 : Heap) (locs1 : List Loc), post u → va_P D vwCl (wr ++ wf u) H1 → va_D A0 (wr ++ wf u) → va_S A0 H0 H1 locs1 → W p l e R s m args below meth c H1 locs1 (cells + mc) (slots + ms) Q (F0 m (pc + 3) ls rest)) : W p l e R s m args below meth c H locs cells slots Q (F0 m pc ls st0) :=
  xc_v hr hP hD hS hA _ _ blk_C blk_R (blk_n _) blk_d kk
theorem xPbS {As : List Value} (hK : xK D tys s) (hT : TZ A0 s s.heap) (hN : NC s) (hP : va_P D vwCl (wr ++ w0) H) (hD : va_D A0 (wr ++ w0)) (hS : va_S A0 s.heap H locs) (hA : ∀ q, s.heap.size ≤ q → A0 q) : PreS s H (xPcH D tys As w0 H.size) As := xPreSH hK hT hN hP hD hS hA _ (blk_nC _ _) blk_C
theorem xPbV {As : List Value} {b ci : Nat} {fs : List Value} {q : vw_C} {C : String} {w1 : va_W} (hK : xK D tys s) (hP : va_P D vwCl (wr ++ w0) H) (hD : va_D A0 (wr ++ w0)) (he : w0 = (b, .inr (ci, fs)) :: w1) (hc : vwCl[ci]? = some q) (hq : q.1 = C) : PreV s H C b (xPc D tys (.ref b :: As) w0 H.size) As := xPreV hK hP hD _ (blk_nC _ _) blk_C (q0 := wr.length) (ci := ci) (fs := fs) (by rw [List.getElem?_append_right (Nat.le_refl _), Nat.sub_self, he]; rfl) hc hq
end XB
