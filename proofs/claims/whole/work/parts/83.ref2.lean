/-! THE REFERENCE'S PUBLIC METHODS: the roads of F_* -/
theorem row_getD {f g : Nat → Int32} {z i : Nat} (j : Nat) (h : i < z) : (rowL f g z j).getD i (0, 0) = (f (64 * j + i), g (64 * j + i)) := by
  rw [List.getD_eq_getElem?_getD, rowL_at j h]
  rfl
theorem col_getD {f : Nat → Int32} {z i : Nat} (j : Nat) (h : i < z) : (colL f z j).getD i 0 = f (64 * j + i) := by
  rw [List.getD_eq_getElem?_getD, colL_at j h]
  rfl
theorem F_make_a {kind o : Int32} {r : RW} (h : isB kind 4 = false) : F_make kind o r = ((), 1, r) := by unfold F_make; rw [if_neg (by rw [h]; exact fun q => absurd q.1 (by decide))]
theorem F_make_b {kind o : Int32} {r : RW} (h : isB o 3 = false) : F_make kind o r = ((), 1, r) := by unfold F_make; rw [if_neg (by rw [h]; exact fun q => absurd q.2 (by decide))]
theorem F_make_c {kind o : Int32} {r : RW} (h1 : isB kind 4 = true) (h2 : isB o 3 = true) : F_make kind o r = ((), 0, rNew r o) := by unfold F_make; rw [if_pos ⟨h1, h2⟩]
theorem F_enter_1 {key v : Int32} {r : RW} (h : ¬ (F_enter key v r).1 = 0) : (F_enter key v r).1 = 1 := by
  by_cases c : hitE r.od key r.en = true
  · rw [F_enter_hit c] at h; exact absurd rfl h
  · have c' : hitE r.od key r.en = false := by cases e : hitE r.od key r.en with | true => exact absurd e c | false => rfl
    by_cases d : r.en.length = 60
    · rw [F_enter_full c' d] at h; exact absurd rfl h
    · rw [F_enter_new c' d]
theorem F_remove_0 {key : Int32} {r : RW} (h : hitE r.od key r.en = false) : F_remove key r = (0, 0, r) := by unfold F_remove; rw [if_neg (by rw [h]; decide)]
theorem F_remove_1 {key : Int32} {r : RW} (h : hitE r.od key r.en = true) : F_remove key r = (1, 0, rEn r (cutE (plE r.od key r.en) r.en) (r.cg + 1)) := by unfold F_remove; rw [if_pos h]
theorem F_get_0 {key : Int32} {r : RW} (h : hitE r.od key r.en = false) : F_get key r = (0, 2, r) := by unfold F_get; rw [if_neg (by rw [h]; decide)]
theorem F_get_1 {key x : Int32} {r : RW} (h : hitE r.od key r.en = true) (hx : (r.en.getD (plE r.od key r.en) (0, 0)).2 = x) : F_get key r = (x, 0, r) := by unfold F_get; rw [if_pos h, hx]
theorem F_near_1 {which key : Int32} {r : RW} (h : isB which 4 = false) : F_near which key r = (0, 1, r) := by unfold F_near; rw [if_neg (by rw [h]; decide)]
theorem F_near_2 {which key : Int32} {r : RW} {n : Nat} (h : isB which 4 = true) (hk : nearK which (plE r.od key r.en) (hitE r.od key r.en) = n) (hn : n = 0 ∨ r.en.length < n) : F_near which key r = (0, 2, r) := by unfold F_near; rw [if_pos h, hk, if_pos hn]
theorem F_near_0 {which key x : Int32} {r : RW} {k : Nat} (h : isB which 4 = true) (hk : nearK which (plE r.od key r.en) (hitE r.od key r.en) = k + 1) (hn : k < r.en.length) (hx : (r.en.getD k (0, 0)).1 = x) : F_near which key r = (x, 0, r) := by unfold F_near; rw [if_pos h, hk, if_neg (by omega), Nat.add_sub_cancel, hx]
theorem m1_lt {p : Nat} (h : p ≤ 60) : nI p - 1 < 0 ↔ p = 0 := by
  constructor
  · intro q
    by_cases e : p = 0
    · exact e
    · have e1 : nI p - 1 = nI (p - 1) := pk_sub (b := 1) (by omega)
      rw [e1] at q
      have := (xn_lt (a := p - 1) (b := 0) (by omega) (by omega)).mp q
      omega
  · rintro rfl
    decide
theorem F_size_1 (q : QS) (j : Nat) : F_size (ab q j) = (nI (q.zz j), 0, ab q j) := by unfold F_size; rw [ab_len]
theorem F_select_0 {i : Int32} {r : RW} (h : isB i (nI r.en.length) = false) : F_select i r = (0, 2, r) := by unfold F_select; rw [if_neg (by rw [h]; decide)]
theorem F_select_1 {i x : Int32} {r : RW} (h : isB i (nI r.en.length) = true) (hx : (r.en.getD (iN i) (0, 0)).1 = x) : F_select i r = (x, 0, r) := by unfold F_select; rw [if_pos h, hx]
theorem sumE_app : ∀ (A B : List (Int32 × Int32)), sumE (A ++ B) = sumE A + sumE B := by
  intro A B
  induction A with
  | nil => rw [List.nil_append, sumE, Int64.zero_add]
  | cons e A ih => rw [List.cons_append, sumE, sumE, ih, Int64.add_assoc]
theorem sumE_s {f g : Nat → Int32} {z i : Nat} (j : Nat) (h : i < z) : sumE ((rowL f g z j).take (i + 1)) = sumE ((rowL f g z j).take i) + (g (64 * j + i)).toInt64 := by
  rw [List.take_add_one, rowL_at j h, sumE_app]
  show _ + ((g (64 * j + i)).toInt64 + 0) = _
  rw [Int64.add_zero]
theorem gt34' {x : Int32} (h : 3 < x) : (4 : Int32) ≤ x := by
  rw [Int32.lt_iff_toInt_lt] at h
  rw [Int32.le_iff_toInt_le]
  have : (3 : Int32).toInt = 3 := rfl
  have : (4 : Int32).toInt = 4 := rfl
  omega
theorem le34' {x : Int32} (h : ¬ 3 < x) : ¬ (4 : Int32) ≤ x := by
  rw [Int32.lt_iff_toInt_lt] at h
  rw [Int32.le_iff_toInt_le]
  have : (3 : Int32).toInt = 3 := rfl
  have : (4 : Int32).toInt = 4 := rfl
  omega
theorem F_range_0 {how f s : Int32} {r : RW} (h : isB how 4 = false) : F_range how f s r = ((), 1, r) := by unfold F_range; rw [if_neg (by rw [h]; exact fun q => absurd q.1 (by decide))]
theorem F_range_3 {how f s : Int32} {r : RW} (h : how = 3) (g : gB r.od s f = true) : F_range how f s r = ((), 1, r) := by unfold F_range; rw [if_neg (fun q => q.2 ⟨h, g⟩)]
theorem F_range_1 {how f s : Int32} {r : RW} (h : isB how 4 = true) (g : ¬ (how = 3 ∧ gB r.od s f = true)) : F_range how f s r = ((), 0, (r.od, r.en, r.cg, iN how, f, s, r.wk, r.kw, r.cp, r.gv, r.ho)) := by unfold F_range; rw [if_pos ⟨h, g⟩]
theorem F_within_0 {what : Int32} {r : RW} (h : isB what 3 = false) : F_within what r = (0, 1, r) := by unfold F_within; rw [if_neg (by rw [h]; decide)]
theorem F_within_1 {what : Int32} {r : RW} (h : isB what 3 = true) (h0 : what = 0) : F_within what r = (nI (endR r - begR r), 0, r) := by unfold F_within; rw [if_pos h, if_pos h0]
theorem F_within_2 {what : Int32} {r : RW} (h : isB what 3 = true) (h0 : ¬ what = 0) (he : endR r = begR r) : F_within what r = (0, 2, r) := by unfold F_within; rw [if_pos h, if_neg h0, if_pos he]
theorem F_within_3 {what x : Int32} {r : RW} (h : isB what 3 = true) (h0 : ¬ what = 0) (he : ¬ endR r = begR r) (h1 : what = 1) (hx : (r.en.getD (begR r) (0, 0)).1 = x) : F_within what r = (x, 0, r) := by unfold F_within; rw [if_pos h, if_neg h0, if_neg he, if_pos h1, hx]
theorem F_within_4 {what x : Int32} {r : RW} (h : isB what 3 = true) (h0 : ¬ what = 0) (he : ¬ endR r = begR r) (h1 : ¬ what = 1) (hx : (r.en.getD (endR r - 1) (0, 0)).1 = x) : F_within what r = (x, 0, r) := by unfold F_within; rw [if_pos h, if_neg h0, if_neg he, if_neg h1, hx]
theorem F_pw_0 {key v : Int32} {r : RW} (h : outR key r) : F_putWithin key v r = (0, 1, r) := by unfold F_putWithin; rw [if_pos h]
theorem F_pw_1 {key v : Int32} {r : RW} (h : ¬ outR key r) : F_putWithin key v r = F_enter key v r := by unfold F_putWithin; rw [if_neg h]
theorem not_out {key : Int32} {r : RW} (ha : ¬ r.hw % 2 = 1 ∨ gB r.od key r.lo = false) (hb : ¬ 1 < r.hw ∨ gB r.od key r.hg = true) : ¬ outR key r := by
  rintro (⟨h1, h2⟩ | ⟨h1, h2⟩)
  · rcases ha with q | q
    · exact q h1
    · rw [q] at h2; cases h2
  · rcases hb with q | q
    · exact q h1
    · rw [q] at h2; cases h2
theorem PO_cg {A : Type} {z : A} {F G : RW → A × Int32 × RW} {j : Nat} {q u : QS} {r : A} (hj : j < 3) (h : G (ab q j) = F (ab q j)) (p : PO z F (nI j) q r u) : PO z G (nI j) q r u := by
  obtain ⟨p1, _, p3⟩ := p
  obtain ⟨a, b, c⟩ := p3 j hj rfl
  exact PO_ok hj p1 (by rw [h]; exact a) (by rw [h]; exact b) (by rw [h]; exact c)
theorem F_poll_0 {b : Bool} {r : RW} (h : begR r = endR r) : F_poll b r = (0, 2, r) := by unfold F_poll; rw [if_pos h]
theorem F_poll_1 {x : Int32} {b : Bool} {r : RW} (h : ¬ begR r = endR r) (hb : b = true) (hx : (r.en.getD (endR r - 1) (0, 0)).1 = x) : F_poll b r = (x, 0, rEn r (cutE (endR r - 1) r.en) (r.cg + 1)) := by unfold F_poll; rw [if_neg h, if_pos hb, hx]
theorem F_poll_2 {x : Int32} {b : Bool} {r : RW} (h : ¬ begR r = endR r) (hb : b = false) (hx : (r.en.getD (begR r) (0, 0)).1 = x) : F_poll b r = (x, 0, rEn r (cutE (begR r) r.en) (r.cg + 1)) := by unfold F_poll; rw [if_neg h, if_neg (by rw [hb]; decide), hx]
/-- the copy that an iterator walks -/
theorem walkL_len (b : Bool) {r : RW} : (walkL b r).length = endR r - begR r := by
  have := end_le r
  unfold walkL
  cases b
  · rw [if_neg (by decide), List.length_map, List.length_drop, List.length_take]; omega
  · rw [if_pos rfl, List.length_reverse, List.length_map, List.length_drop, List.length_take]; omega
theorem walkL_at {b : Bool} {q : QS} {j i : Nat} (h : i < endR (ab q j) - begR (ab q j)) : (walkL b (ab q j))[i]? = some (q.ks (64 * j + (if b = true then endR (ab q j) - 1 - i else begR (ab q j) + i))) := by
  have hl := end_le (ab q j)
  rw [ab_len] at hl
  have key : ∀ k, begR (ab q j) + k < endR (ab q j) → (((ab q j).en.take (endR (ab q j))).drop (begR (ab q j)))[k]? = some (q.ks (64 * j + (begR (ab q j) + k)), q.vs (64 * j + (begR (ab q j) + k))) := by
    intro k hk
    rw [List.getElem?_drop, List.getElem?_take, if_pos (by omega)]
    exact rowL_at j (by omega)
  unfold walkL
  cases b
  · rw [if_neg (by decide), if_neg (by decide), List.getElem?_map, key i (by omega)]
    rfl
  · rw [if_pos rfl, if_pos rfl, List.getElem?_reverse (by rw [List.length_map, List.length_drop, List.length_take, ab_len]; omega), List.length_map, List.length_drop, List.length_take, ab_len, List.getElem?_map, show min (endR (ab q j)) (q.zz j) - begR (ab q j) - 1 - i = endR (ab q j) - begR (ab q j) - 1 - i by omega, key _ (by omega), show begR (ab q j) + (endR (ab q j) - begR (ab q j) - 1 - i) = endR (ab q j) - 1 - i by omega]
    rfl
def cpI (q : QS) (j : Nat) (b : Bool) (f : Nat → Int32) (i : Nat) : Prop := ∀ x, f x = if 64 * j ≤ x ∧ x < 64 * j + i then q.ks (64 * j + (if b = true then endR (ab q j) - 1 - (x - 64 * j) else begR (ab q j) + (x - 64 * j))) else q.cp x
theorem cpI_0 (q : QS) (j : Nat) (b : Bool) : cpI q j b q.cp 0 := fun x => by rw [if_neg (by omega)]
theorem cpI_s {q : QS} {j i y : Nat} {b : Bool} {f : Nat → Int32} (h : cpI q j b f i) (hy : y = 64 * j + (if b = true then endR (ab q j) - 1 - i else begR (ab q j) + i)) : cpI q j b (upd f (64 * j + i) (q.ks y)) (i + 1) := fun x => by
  by_cases e : x = 64 * j + i
  · subst e
    rw [ux_eq, if_pos (show 64 * j ≤ 64 * j + i ∧ 64 * j + i < 64 * j + (i + 1) by omega), hy, Nat.add_sub_cancel_left]
  · rw [ux_ne e, h]
    by_cases c : 64 * j ≤ x ∧ x < 64 * j + i
    · rw [if_pos c, if_pos (show 64 * j ≤ x ∧ x < 64 * j + (i + 1) by omega)]
    · rw [if_neg c, if_neg (show ¬ (64 * j ≤ x ∧ x < 64 * j + (i + 1)) by omega)]
theorem cpI_col {q : QS} {j n : Nat} {b : Bool} {f : Nat → Int32} (h : cpI q j b f n) (hn : n = endR (ab q j) - begR (ab q j)) : colL f n j = walkL b (ab q j) := by
  refine colL_of (by rw [walkL_len, hn]) fun i hi => ?_
  rw [walkL_at (by omega), h, if_pos (show 64 * j ≤ 64 * j + i ∧ 64 * j + i < 64 * j + n by omega), Nat.add_sub_cancel_left]
theorem cpI_far {q : QS} {j n : Nat} {b : Bool} {f : Nat → Int32} (h : cpI q j b f n) (hn : n ≤ 60) : ∀ x, ¬ (64 * j ≤ x ∧ x < 64 * j + 64) → f x = q.cp x := fun x hx => by rw [h, if_neg (by omega)]
theorem F_next_2 {r : RW} (h : r.wk = false ∨ r.kw ≠ r.cg) : F_next r = (0, 2, r) := by unfold F_next; rw [if_pos h]
theorem F_next_3 {r : RW} (h1 : r.wk = true) (h2 : r.kw = r.cg) (h : r.gv = r.cp.length) : F_next r = (0, 3, r) := by
  unfold F_next
  rw [if_neg, if_pos h]
  intro q
  rcases q with q | q
  · rw [h1] at q; cases q
  · exact q h2
theorem F_next_0 {x : Int32} {r : RW} (h1 : r.wk = true) (h2 : r.kw = r.cg) (h : ¬ r.gv = r.cp.length) (hx : r.cp.getD r.gv 0 = x) : F_next r = (x, 0, (r.od, r.en, r.cg, r.hw, r.lo, r.hg, r.wk, r.kw, r.cp, r.gv + 1, true)) := by
  unfold F_next
  rw [if_neg, if_neg h, hx]
  intro q
  rcases q with q | q
  · rw [h1] at q; cases q
  · exact q h2
theorem F_drop_2 {r : RW} (h : r.wk = false ∨ r.kw ≠ r.cg ∨ r.ho = false) : F_drop r = ((), 2, r) := by unfold F_drop; rw [if_pos h]
theorem F_drop_0 {x : Int32} {r : RW} (h1 : r.wk = true) (h2 : r.kw = r.cg) (h3 : r.ho = true) (hx : r.cp.getD (r.gv - 1) 0 = x) : F_drop r = ((), 0, (r.od, cutE (plE r.od x r.en) r.en, r.cg + 1, r.hw, r.lo, r.hg, r.wk, r.cg + 1, r.cp, r.gv, false)) := by
  unfold F_drop
  rw [if_neg, hx]
  intro q
  rcases q with q | q | q
  · rw [h1] at q; cases q
  · exact q h2
  · rw [h3] at q; cases q
theorem ab_cplen (q : QS) (j : Nat) : (ab q j).cp.length = q.mn j := colL_len _ _ _
theorem ge_of_nlt {x y : Int32} (h : ¬ x < y) : y ≤ x := by
  rw [Int32.lt_iff_toInt_lt] at h
  rw [Int32.le_iff_toInt_le]
  omega
theorem drop_by {q u u' : QS} {j : Nat} (hj : j < 3) (h1 : q.wk j = true) (h2 : q.kw j = q.cg j) (h3 : q.ho j = true) (hg : 1 ≤ q.gv j) (hw : WQ u) (hc : u.co = 0) (ha : ab u = va_up (ab q) j (rEn (ab q j) (cutE (plQ q j (q.cp (64 * j + q.gv j - 1))) (enQ q j)) (q.cg j + 1))) (hq : WQ q) (he : u' = (u.co, u.oo, u.zz, u.ks, u.vs, u.cg, u.hw, u.lo, u.hg, u.wk, upd u.kw j (u.cg j), u.mn, u.gv, u.cp, va_up u.ho j false, u.nk, u.nv)) : PO () F_drop (nI j) q () u' := by
  have hx : (ab q j).cp.getD ((ab q j).gv - 1) 0 = q.cp (64 * j + q.gv j - 1) := by
    have := hq.2.2.2.1 j
    refine (col_getD j (show q.gv j - 1 < q.mn j by omega)).trans (congrArg q.cp (by omega))
  have hj' : ab u j = rEn (ab q j) (cutE (plQ q j (q.cp (64 * j + q.gv j - 1))) (enQ q j)) (q.cg j + 1) := by rw [ha, vup_eq]
  have hcg : u.cg j = q.cg j + 1 := congrArg RW.cg hj'
  refine PO_by hj (F_drop_0 (r := ab q j) h1 h2 h3 hx) ?_ ?_ ?_
  · rw [he]; exact hw
  · rw [he]; exact hc
  · rw [he, ab_kh u, ha, vup_up, hcg, vup_eq]
    rfl

-- TreeFamilyModel.make
set_option maxHeartbeats 4000000 in
set_option maxRecDepth 100000 in
theorem c_X11_make (l : Launch) (D : va_G) (ca : Nat → ClassId) (b : Nat → Nat) (sz : Nat) (q : QS) (kind o2 : Int32) (mm : Int32) (hq : WQ q) : Met l yX11_make wsX11_make ({ frames := 1, cells := 0, slots := 0, locals := 22 } : Room) (xPc D (TY ca) [.ref (b 0), .int mm, .int kind, .int o2] (wQ ca b q) sz) (va_Qv (fun u : QS => PO () (F_make kind o2) mm q () u) (xB D (wQ ca b) (va_A (wQ ca b q) sz)) (va_A (wQ ca b q) sz)) 0 0 (va_A (wQ ca b q) sz) := by
  refine Met.ofW (cc := cX11_make) (maxL := 4) (ret := none) (by decide) rfl ?_
  intro p e s m args below meth c s₁ B hml hv
  obtain ⟨rfl, hsz, hP, hKN, hD0⟩ := hv
  have hx := B.exec
  have hb := B.bytes
  have hr := B.returns
  have hts := atoms_spec (ws := wsX11_make) B.pre
  have hown : s.vm.findClass RX11 = some m.cls := findClass_of_methodNamed B.named
  have hlocks := B.notSynchronized
  have inX11 : ∀ w ∈ wsX110, w ∈ wsX11_make := by decide +kernel
  subst hsz
  have hD := hD0.self (sz := s.heap.size)
  generalize hAe : va_A (wQ ca b q) s.heap.size = A at hD ⊢
  have hA : ∀ q : Nat, s.heap.size ≤ q → A q := fun q h => by rw [← hAe]; exact Or.inr h
  have hS : va_S A s.heap s.heap [] := va_S.rf
  have hl := lv_entry ([.ref (b 0), .int mm, .int kind, .int o2]) (n := 4) (Nat.le_of_ble_eq_true rfl)
  rw [lg_entry_eq]
  generalize (lg_sl ([.ref (b 0), .int mm, .int kind, .int o2]) ++ List.replicate (4 - (lg_sl ([.ref (b 0), .int mm, .int kind, .int o2])).length) Slot.unset).toArray = ls at hl ⊢
  have hl : lv_has ls 4 [(0, .ref (b 0)), (1, .int mm), (2, .int kind), (3, .int o2)] := hl
  rcases isB3 mm with hmm | ⟨j, hj, hmj⟩
  · skip
    refine lv_aload_n hx hb dX11_make_0 rfl (lv_at hl 0 rfl) ?_
    refine lv_iload_n hx hb dX11_make_1 rfl (lv_at hl 1 rfl) ?_
    refine xs_i (va_runS (As := [.int mm]) (rest := [.ref (b 0)]) ⟨hx, hb, hml, hown, hts⟩ (c_X11_isMap l _) (va_cwS 1 hts gX11_make_X11_isMap rfl rfl rfl (by decide +kernel) ⟨(Nat.le_of_ble_eq_true rfl), (Nat.le_of_ble_eq_true rfl)⟩) xPreT rfl rfl hl.1 rfl (lv_room (Nat.le_of_ble_eq_true rfl)) dX11_make_2 ⟨(Nat.le_of_ble_eq_true rfl), (Nat.le_of_ble_eq_true rfl)⟩) (fun r2 er2 => ?_)
    subst er2
    refine xr_top (y := 0) (by rw [hmm]; rfl) ?_
    refine lv_if_eq (tgt := 30) hx hb dX11_make_5 (by decide) (fun c5 => ?_) (fun c5 => ?_)
    · skip
      refine lv_iconst (v := 1) hx hb dX11_make_30 (by decide) ?_
      refine va_put (D := D) (ci := 9) (v := .int 1) (ty := .int) (C := RX11) (T := TX11) (N := 17) hx hb hts inX11 tyX11 tyX11_ok nmX11 hown hKN.1 hP hD hS 0 rfl rfl 0 (by decide) (hts (.fieldLink RX11 59 "TreeFamilyModel" "code" "I") (by decide +kernel)) (fun _ h9 => h9) rfl (by decide +kernel) rfl rfl (Nat.le_of_ble_eq_true rfl) dX11_make_31 (fun H locs hP hD hS => ?_)
      have hP : va_P D vwCl (wQx ca b 1 q.oo q.zz q.ks q.vs q.cg q.hw q.lo q.hg q.wk q.kw q.mn q.gv q.cp q.ho q.nk q.nv) H := hP
      have hD : va_D A (wQx ca b 1 q.oo q.zz q.ks q.vs q.cg q.hw q.lo q.hg q.wk q.kw q.mn q.gv q.cp q.ho q.nk q.nv) := hD
      refine lv_aload_n hx hb dX11_make_34 rfl (lv_at hl 0 rfl) ?_
      refine va_get (D := D) (ci := 9) (v := .int 1) (C := RX11) (T := TX11) (N := 17) hx hb hts inX11 hown hKN.1 hP 0 rfl rfl 0 (by decide) (hts (.fieldLink RX11 59 "TreeFamilyModel" "code" "I") (by decide +kernel)) (fun _ h9 => h9) rfl dX11_make_35 ?_
      refine lv_if_ne (tgt := 47) hx hb dX11_make_38 (by decide) (fun c38 => ?_) (fun c38 => ?_)
      · skip
        exact W.vret hx hb hr (fun t9 e9 w9 => ⟨⟨(1, q.oo, q.zz, q.ks, q.vs, q.cg, q.hw, q.lo, q.hg, q.wk, q.kw, q.mn, q.gv, q.cp, q.ho, q.nk, q.nv), rfl, PO_bad hmm hq rfl rfl rfl, by rw [e9]; exact hP, hD⟩, hS.F e9⟩) hS.2.2 dX11_make_47
      · skip
        exact absurd c38 (by decide)
    · skip
      exact absurd c5 (by decide)
  · subst hmj
    have hz6 := hq.1 j
    have hh3 := hq.2.1 j
    refine lv_aload_n hx hb dX11_make_0 rfl (lv_at hl 0 rfl) ?_
    refine lv_iload_n hx hb dX11_make_1 rfl (lv_at hl 1 rfl) ?_
    refine xs_i (va_runS (As := [.int (nI j)]) (rest := [.ref (b 0)]) ⟨hx, hb, hml, hown, hts⟩ (c_X11_isMap l _) (va_cwS 1 hts gX11_make_X11_isMap rfl rfl rfl (by decide +kernel) ⟨(Nat.le_of_ble_eq_true rfl), (Nat.le_of_ble_eq_true rfl)⟩) xPreT rfl rfl hl.1 rfl (lv_room (Nat.le_of_ble_eq_true rfl)) dX11_make_2 ⟨(Nat.le_of_ble_eq_true rfl), (Nat.le_of_ble_eq_true rfl)⟩) (fun r2 er2 => ?_)
    subst er2
    refine xr_top (y := 1) (by rw [isB3_ok hj]; rfl) ?_
    refine lv_if_eq (tgt := 30) hx hb dX11_make_5 (by decide) (fun c5 => ?_) (fun c5 => ?_)
    · skip
      exact absurd c5 (by decide)
    · skip
      refine lv_iload_n hx hb dX11_make_8 rfl (lv_at hl 2 rfl) ?_
      refine lv_if_lt (tgt := 30) hx hb dX11_make_9 (by decide) (fun c9 => ?_) (fun c9 => ?_)
      · skip
        refine lv_iconst (v := 1) hx hb dX11_make_30 (by decide) ?_
        refine va_put (D := D) (ci := 9) (v := .int 1) (ty := .int) (C := RX11) (T := TX11) (N := 17) hx hb hts inX11 tyX11 tyX11_ok nmX11 hown hKN.1 hP hD hS 0 rfl rfl 0 (by decide) (hts (.fieldLink RX11 59 "TreeFamilyModel" "code" "I") (by decide +kernel)) (fun _ h9 => h9) rfl (by decide +kernel) rfl rfl (Nat.le_of_ble_eq_true rfl) dX11_make_31 (fun H locs hP hD hS => ?_)
        have hP : va_P D vwCl (wQx ca b 1 q.oo q.zz q.ks q.vs q.cg q.hw q.lo q.hg q.wk q.kw q.mn q.gv q.cp q.ho q.nk q.nv) H := hP
        have hD : va_D A (wQx ca b 1 q.oo q.zz q.ks q.vs q.cg q.hw q.lo q.hg q.wk q.kw q.mn q.gv q.cp q.ho q.nk q.nv) := hD
        refine lv_aload_n hx hb dX11_make_34 rfl (lv_at hl 0 rfl) ?_
        refine va_get (D := D) (ci := 9) (v := .int 1) (C := RX11) (T := TX11) (N := 17) hx hb hts inX11 hown hKN.1 hP 0 rfl rfl 0 (by decide) (hts (.fieldLink RX11 59 "TreeFamilyModel" "code" "I") (by decide +kernel)) (fun _ h9 => h9) rfl dX11_make_35 ?_
        refine lv_if_ne (tgt := 47) hx hb dX11_make_38 (by decide) (fun c38 => ?_) (fun c38 => ?_)
        · skip
          exact W.vret hx hb hr (fun t9 e9 w9 => ⟨⟨(1, q.oo, q.zz, q.ks, q.vs, q.cg, q.hw, q.lo, q.hg, q.wk, q.kw, q.mn, q.gv, q.cp, q.ho, q.nk, q.nv), rfl, by first | exact PO_same hj (F_make_a (isB_lt c9)) hq rfl rfl | exact PO_same hj (F_make_a (isB_ge c14)) hq rfl rfl | exact PO_same hj (F_make_b (isB_lt c18)) hq rfl rfl | exact PO_same hj (F_make_b (isB_ge c23)) hq rfl rfl, by rw [e9]; exact hP, hD⟩, hS.F e9⟩) hS.2.2 dX11_make_47
        · skip
          exact absurd c38 (by decide)
      · skip
        refine lv_iload_n hx hb dX11_make_12 rfl (lv_at hl 2 rfl) ?_
        refine lv_iconst (v := 4) hx hb dX11_make_13 (by decide) ?_
        refine lv_icmp_ge (tgt := 30) hx hb dX11_make_14 (by decide) (fun c14 => ?_) (fun c14 => ?_)
        · skip
          refine lv_iconst (v := 1) hx hb dX11_make_30 (by decide) ?_
          refine va_put (D := D) (ci := 9) (v := .int 1) (ty := .int) (C := RX11) (T := TX11) (N := 17) hx hb hts inX11 tyX11 tyX11_ok nmX11 hown hKN.1 hP hD hS 0 rfl rfl 0 (by decide) (hts (.fieldLink RX11 59 "TreeFamilyModel" "code" "I") (by decide +kernel)) (fun _ h9 => h9) rfl (by decide +kernel) rfl rfl (Nat.le_of_ble_eq_true rfl) dX11_make_31 (fun H locs hP hD hS => ?_)
          have hP : va_P D vwCl (wQx ca b 1 q.oo q.zz q.ks q.vs q.cg q.hw q.lo q.hg q.wk q.kw q.mn q.gv q.cp q.ho q.nk q.nv) H := hP
          have hD : va_D A (wQx ca b 1 q.oo q.zz q.ks q.vs q.cg q.hw q.lo q.hg q.wk q.kw q.mn q.gv q.cp q.ho q.nk q.nv) := hD
          refine lv_aload_n hx hb dX11_make_34 rfl (lv_at hl 0 rfl) ?_
          refine va_get (D := D) (ci := 9) (v := .int 1) (C := RX11) (T := TX11) (N := 17) hx hb hts inX11 hown hKN.1 hP 0 rfl rfl 0 (by decide) (hts (.fieldLink RX11 59 "TreeFamilyModel" "code" "I") (by decide +kernel)) (fun _ h9 => h9) rfl dX11_make_35 ?_
          refine lv_if_ne (tgt := 47) hx hb dX11_make_38 (by decide) (fun c38 => ?_) (fun c38 => ?_)
          · skip
            exact W.vret hx hb hr (fun t9 e9 w9 => ⟨⟨(1, q.oo, q.zz, q.ks, q.vs, q.cg, q.hw, q.lo, q.hg, q.wk, q.kw, q.mn, q.gv, q.cp, q.ho, q.nk, q.nv), rfl, by first | exact PO_same hj (F_make_a (isB_lt c9)) hq rfl rfl | exact PO_same hj (F_make_a (isB_ge c14)) hq rfl rfl | exact PO_same hj (F_make_b (isB_lt c18)) hq rfl rfl | exact PO_same hj (F_make_b (isB_ge c23)) hq rfl rfl, by rw [e9]; exact hP, hD⟩, hS.F e9⟩) hS.2.2 dX11_make_47
          · skip
            exact absurd c38 (by decide)
        · skip
          refine lv_iload_n hx hb dX11_make_17 rfl (lv_at hl 3 rfl) ?_
          refine lv_if_lt (tgt := 30) hx hb dX11_make_18 (by decide) (fun c18 => ?_) (fun c18 => ?_)
          · skip
            refine lv_iconst (v := 1) hx hb dX11_make_30 (by decide) ?_
            refine va_put (D := D) (ci := 9) (v := .int 1) (ty := .int) (C := RX11) (T := TX11) (N := 17) hx hb hts inX11 tyX11 tyX11_ok nmX11 hown hKN.1 hP hD hS 0 rfl rfl 0 (by decide) (hts (.fieldLink RX11 59 "TreeFamilyModel" "code" "I") (by decide +kernel)) (fun _ h9 => h9) rfl (by decide +kernel) rfl rfl (Nat.le_of_ble_eq_true rfl) dX11_make_31 (fun H locs hP hD hS => ?_)
            have hP : va_P D vwCl (wQx ca b 1 q.oo q.zz q.ks q.vs q.cg q.hw q.lo q.hg q.wk q.kw q.mn q.gv q.cp q.ho q.nk q.nv) H := hP
            have hD : va_D A (wQx ca b 1 q.oo q.zz q.ks q.vs q.cg q.hw q.lo q.hg q.wk q.kw q.mn q.gv q.cp q.ho q.nk q.nv) := hD
            refine lv_aload_n hx hb dX11_make_34 rfl (lv_at hl 0 rfl) ?_
            refine va_get (D := D) (ci := 9) (v := .int 1) (C := RX11) (T := TX11) (N := 17) hx hb hts inX11 hown hKN.1 hP 0 rfl rfl 0 (by decide) (hts (.fieldLink RX11 59 "TreeFamilyModel" "code" "I") (by decide +kernel)) (fun _ h9 => h9) rfl dX11_make_35 ?_
            refine lv_if_ne (tgt := 47) hx hb dX11_make_38 (by decide) (fun c38 => ?_) (fun c38 => ?_)
            · skip
              exact W.vret hx hb hr (fun t9 e9 w9 => ⟨⟨(1, q.oo, q.zz, q.ks, q.vs, q.cg, q.hw, q.lo, q.hg, q.wk, q.kw, q.mn, q.gv, q.cp, q.ho, q.nk, q.nv), rfl, by first | exact PO_same hj (F_make_a (isB_lt c9)) hq rfl rfl | exact PO_same hj (F_make_a (isB_ge c14)) hq rfl rfl | exact PO_same hj (F_make_b (isB_lt c18)) hq rfl rfl | exact PO_same hj (F_make_b (isB_ge c23)) hq rfl rfl, by rw [e9]; exact hP, hD⟩, hS.F e9⟩) hS.2.2 dX11_make_47
            · skip
              exact absurd c38 (by decide)
          · skip
            refine lv_iload_n hx hb dX11_make_21 rfl (lv_at hl 3 rfl) ?_
            refine lv_iconst (v := 3) hx hb dX11_make_22 (by decide) ?_
            refine lv_icmp_ge (tgt := 30) hx hb dX11_make_23 (by decide) (fun c23 => ?_) (fun c23 => ?_)
            · skip
              refine lv_iconst (v := 1) hx hb dX11_make_30 (by decide) ?_
              refine va_put (D := D) (ci := 9) (v := .int 1) (ty := .int) (C := RX11) (T := TX11) (N := 17) hx hb hts inX11 tyX11 tyX11_ok nmX11 hown hKN.1 hP hD hS 0 rfl rfl 0 (by decide) (hts (.fieldLink RX11 59 "TreeFamilyModel" "code" "I") (by decide +kernel)) (fun _ h9 => h9) rfl (by decide +kernel) rfl rfl (Nat.le_of_ble_eq_true rfl) dX11_make_31 (fun H locs hP hD hS => ?_)
              have hP : va_P D vwCl (wQx ca b 1 q.oo q.zz q.ks q.vs q.cg q.hw q.lo q.hg q.wk q.kw q.mn q.gv q.cp q.ho q.nk q.nv) H := hP
              have hD : va_D A (wQx ca b 1 q.oo q.zz q.ks q.vs q.cg q.hw q.lo q.hg q.wk q.kw q.mn q.gv q.cp q.ho q.nk q.nv) := hD
              refine lv_aload_n hx hb dX11_make_34 rfl (lv_at hl 0 rfl) ?_
              refine va_get (D := D) (ci := 9) (v := .int 1) (C := RX11) (T := TX11) (N := 17) hx hb hts inX11 hown hKN.1 hP 0 rfl rfl 0 (by decide) (hts (.fieldLink RX11 59 "TreeFamilyModel" "code" "I") (by decide +kernel)) (fun _ h9 => h9) rfl dX11_make_35 ?_
              refine lv_if_ne (tgt := 47) hx hb dX11_make_38 (by decide) (fun c38 => ?_) (fun c38 => ?_)
              · skip
                exact W.vret hx hb hr (fun t9 e9 w9 => ⟨⟨(1, q.oo, q.zz, q.ks, q.vs, q.cg, q.hw, q.lo, q.hg, q.wk, q.kw, q.mn, q.gv, q.cp, q.ho, q.nk, q.nv), rfl, by first | exact PO_same hj (F_make_a (isB_lt c9)) hq rfl rfl | exact PO_same hj (F_make_a (isB_ge c14)) hq rfl rfl | exact PO_same hj (F_make_b (isB_lt c18)) hq rfl rfl | exact PO_same hj (F_make_b (isB_ge c23)) hq rfl rfl, by rw [e9]; exact hP, hD⟩, hS.F e9⟩) hS.2.2 dX11_make_47
              · skip
                exact absurd c38 (by decide)
            · skip
              refine lv_iconst (v := 0) hx hb dX11_make_26 (by decide) ?_
              refine lv_goto (tgt := 31) hx hb dX11_make_27 (by decide) ?_
              refine va_put (D := D) (ci := 9) (v := .int 0) (ty := .int) (C := RX11) (T := TX11) (N := 17) hx hb hts inX11 tyX11 tyX11_ok nmX11 hown hKN.1 hP hD hS 0 rfl rfl 0 (by decide) (hts (.fieldLink RX11 59 "TreeFamilyModel" "code" "I") (by decide +kernel)) (fun _ h9 => h9) rfl (by decide +kernel) rfl rfl (Nat.le_of_ble_eq_true rfl) dX11_make_31 (fun H locs hP hD hS => ?_)
              have hP : va_P D vwCl (wQx ca b 0 q.oo q.zz q.ks q.vs q.cg q.hw q.lo q.hg q.wk q.kw q.mn q.gv q.cp q.ho q.nk q.nv) H := hP
              have hD : va_D A (wQx ca b 0 q.oo q.zz q.ks q.vs q.cg q.hw q.lo q.hg q.wk q.kw q.mn q.gv q.cp q.ho q.nk q.nv) := hD
              refine lv_aload_n hx hb dX11_make_34 rfl (lv_at hl 0 rfl) ?_
              refine va_get (D := D) (ci := 9) (v := .int 0) (C := RX11) (T := TX11) (N := 17) hx hb hts inX11 hown hKN.1 hP 0 rfl rfl 0 (by decide) (hts (.fieldLink RX11 59 "TreeFamilyModel" "code" "I") (by decide +kernel)) (fun _ h9 => h9) rfl dX11_make_35 ?_
              refine lv_if_ne (tgt := 47) hx hb dX11_make_38 (by decide) (fun c38 => ?_) (fun c38 => ?_)
              · skip
                exact absurd c38 (by decide)
              · skip
                refine lv_aload_n hx hb dX11_make_41 rfl (lv_at hl 0 rfl) ?_
                refine lv_iload_n hx hb dX11_make_42 rfl (lv_at hl 1 rfl) ?_
                refine lv_iload_n hx hb dX11_make_43 rfl (lv_at hl 3 rfl) ?_
                refine xc_v (wr := []) (va_runV (As := [.int (nI j), .int o2]) (rest := []) ⟨hx, hb, hml, hown, hts⟩ (c_X11_renew l D ca b _ (0, q.oo, q.zz, q.ks, q.vs, q.cg, q.hw, q.lo, q.hg, q.wk, q.kw, q.mn, q.gv, q.cp, q.ho, q.nk, q.nv) j o2 hj) (cwV 2 hts gX11_make_X11_renew rfl rfl rfl (by decide +kernel) ⟨(Nat.le_of_ble_eq_true rfl), (Nat.le_of_ble_eq_true rfl)⟩) (xPreV hKN hP hD [0, 1, 2, 3, 4, 5, 6, 7, 8, 9, 10, 11, 12, 13, 14, 15, 16] (by decide) rfl (q0 := 0) rfl rfl rfl) rfl rfl hl.1 rfl (lv_room (Nat.le_of_ble_eq_true rfl)) dX11_make_44 ⟨(Nat.le_of_ble_eq_true rfl), (Nat.le_of_ble_eq_true rfl)⟩) hP hD hS hA [0, 1, 2, 3, 4, 5, 6, 7, 8, 9, 10, 11, 12, 13, 14, 15, 16] [] rfl rfl (by decide) (by decide) (fun u44 H locs hu44 hP hD hS => ?_)
                obtain ⟨hw44, hc44, ha44⟩ := renew_of (q := (0, q.oo, q.zz, q.ks, q.vs, q.cg, q.hw, q.lo, q.hg, q.wk, q.kw, q.mn, q.gv, q.cp, q.ho, q.nk, q.nv)) hq hu44
                have hP : va_P D vwCl (wQ ca b u44) H := hP
                have hD : va_D A (wQ ca b u44) := hD
                exact W.vret hx hb hr (fun t9 e9 w9 => ⟨⟨u44, rfl, PO_by hj (F_make_c (isB_in c9 c14) (isB_in c18 c23)) hw44 hc44 ha44, by rw [e9]; exact hP, hD⟩, hS.F e9⟩) hS.2.2 dX11_make_47

-- TreeFamilyModel.put
set_option maxHeartbeats 4000000 in
set_option maxRecDepth 100000 in
theorem c_X11_put (l : Launch) (D : va_G) (ca : Nat → ClassId) (b : Nat → Nat) (sz : Nat) (q : QS) (key v : Int32) (mm : Int32) (hq : WQ q) : Met l yX11_put wsX11_put ({ frames := 3, cells := 0, slots := 0, locals := 70 } : Room) (xPc D (TY ca) [.ref (b 0), .int mm, .int key, .int v] (wQ ca b q) sz) (va_Qi (fun (r : Int32) (u : QS) => PO 0 (F_enter key v) mm q r u) (xB D (wQ ca b) (va_A (wQ ca b q) sz)) (va_A (wQ ca b q) sz)) 0 0 (va_A (wQ ca b q) sz) := by
  refine Met.ofW (cc := cX11_put) (maxL := 4) (ret := (some .boolean)) (by decide) rfl ?_
  intro p e s m args below meth c s₁ B hml hv
  obtain ⟨rfl, hsz, hP, hKN, hD0⟩ := hv
  have hx := B.exec
  have hb := B.bytes
  have hr := B.returns
  have hts := atoms_spec (ws := wsX11_put) B.pre
  have hown : s.vm.findClass RX11 = some m.cls := findClass_of_methodNamed B.named
  have hlocks := B.notSynchronized
  have inX11 : ∀ w ∈ wsX110, w ∈ wsX11_put := by decide +kernel
  subst hsz
  have hD := hD0.self (sz := s.heap.size)
  generalize hAe : va_A (wQ ca b q) s.heap.size = A at hD ⊢
  have hA : ∀ q : Nat, s.heap.size ≤ q → A q := fun q h => by rw [← hAe]; exact Or.inr h
  have hS : va_S A s.heap s.heap [] := va_S.rf
  have hl := lv_entry ([.ref (b 0), .int mm, .int key, .int v]) (n := 4) (Nat.le_of_ble_eq_true rfl)
  rw [lg_entry_eq]
  generalize (lg_sl ([.ref (b 0), .int mm, .int key, .int v]) ++ List.replicate (4 - (lg_sl ([.ref (b 0), .int mm, .int key, .int v])).length) Slot.unset).toArray = ls at hl ⊢
  have hl : lv_has ls 4 [(0, .ref (b 0)), (1, .int mm), (2, .int key), (3, .int v)] := hl
  rcases isB3 mm with hmm | ⟨j, hj, hmj⟩
  · skip
    refine lv_aload_n hx hb dX11_put_0 rfl (lv_at hl 0 rfl) ?_
    refine lv_iload_n hx hb dX11_put_1 rfl (lv_at hl 1 rfl) ?_
    refine xs_i (va_runS (As := [.int mm]) (rest := [.ref (b 0)]) ⟨hx, hb, hml, hown, hts⟩ (c_X11_isMap l _) (va_cwS 1 hts gX11_put_X11_isMap rfl rfl rfl (by decide +kernel) ⟨(Nat.le_of_ble_eq_true rfl), (Nat.le_of_ble_eq_true rfl)⟩) xPreT rfl rfl hl.1 rfl (lv_room (Nat.le_of_ble_eq_true rfl)) dX11_put_2 ⟨(Nat.le_of_ble_eq_true rfl), (Nat.le_of_ble_eq_true rfl)⟩) (fun r2 er2 => ?_)
    subst er2
    refine xr_top (y := 0) (by rw [hmm]; rfl) ?_
    refine lv_if_eq (tgt := 12) hx hb dX11_put_5 (by decide) (fun c5 => ?_) (fun c5 => ?_)
    · skip
      refine lv_iconst (v := 1) hx hb dX11_put_12 (by decide) ?_
      refine va_put (D := D) (ci := 9) (v := .int 1) (ty := .int) (C := RX11) (T := TX11) (N := 17) hx hb hts inX11 tyX11 tyX11_ok nmX11 hown hKN.1 hP hD hS 0 rfl rfl 0 (by decide) (hts (.fieldLink RX11 59 "TreeFamilyModel" "code" "I") (by decide +kernel)) (fun _ h9 => h9) rfl (by decide +kernel) rfl rfl (Nat.le_of_ble_eq_true rfl) dX11_put_13 (fun H locs hP hD hS => ?_)
      have hP : va_P D vwCl (wQx ca b 1 q.oo q.zz q.ks q.vs q.cg q.hw q.lo q.hg q.wk q.kw q.mn q.gv q.cp q.ho q.nk q.nv) H := hP
      have hD : va_D A (wQx ca b 1 q.oo q.zz q.ks q.vs q.cg q.hw q.lo q.hg q.wk q.kw q.mn q.gv q.cp q.ho q.nk q.nv) := hD
      refine lv_aload_n hx hb dX11_put_16 rfl (lv_at hl 0 rfl) ?_
      refine va_get (D := D) (ci := 9) (v := .int 1) (C := RX11) (T := TX11) (N := 17) hx hb hts inX11 hown hKN.1 hP 0 rfl rfl 0 (by decide) (hts (.fieldLink RX11 59 "TreeFamilyModel" "code" "I") (by decide +kernel)) (fun _ h9 => h9) rfl dX11_put_17 ?_
      refine lv_if_ne (tgt := 37) hx hb dX11_put_20 (by decide) (fun c20 => ?_) (fun c20 => ?_)
      · skip
        refine lv_iconst (v := 0) hx hb dX11_put_37 (by decide) ?_
        exact W.zret (v := 0) hx hb hr (by decide) (fun t9 e9 w9 => ⟨⟨_, (1, q.oo, q.zz, q.ks, q.vs, q.cg, q.hw, q.lo, q.hg, q.wk, q.kw, q.mn, q.gv, q.cp, q.ho, q.nk, q.nv), rfl, PO_bad hmm hq rfl rfl rfl, by rw [e9]; exact hP, hD⟩, hS.F e9⟩) hS.2.2 dX11_put_38
      · skip
        exact absurd c20 (by decide)
    · skip
      exact absurd c5 (by decide)
  · subst hmj
    have hz6 := hq.1 j
    have hh3 := hq.2.1 j
    refine lv_aload_n hx hb dX11_put_0 rfl (lv_at hl 0 rfl) ?_
    refine lv_iload_n hx hb dX11_put_1 rfl (lv_at hl 1 rfl) ?_
    refine xs_i (va_runS (As := [.int (nI j)]) (rest := [.ref (b 0)]) ⟨hx, hb, hml, hown, hts⟩ (c_X11_isMap l _) (va_cwS 1 hts gX11_put_X11_isMap rfl rfl rfl (by decide +kernel) ⟨(Nat.le_of_ble_eq_true rfl), (Nat.le_of_ble_eq_true rfl)⟩) xPreT rfl rfl hl.1 rfl (lv_room (Nat.le_of_ble_eq_true rfl)) dX11_put_2 ⟨(Nat.le_of_ble_eq_true rfl), (Nat.le_of_ble_eq_true rfl)⟩) (fun r2 er2 => ?_)
    subst er2
    refine xr_top (y := 1) (by rw [isB3_ok hj]; rfl) ?_
    refine lv_if_eq (tgt := 12) hx hb dX11_put_5 (by decide) (fun c5 => ?_) (fun c5 => ?_)
    · skip
      exact absurd c5 (by decide)
    · skip
      refine lv_iconst (v := 0) hx hb dX11_put_8 (by decide) ?_
      refine lv_goto (tgt := 13) hx hb dX11_put_9 (by decide) ?_
      refine va_put (D := D) (ci := 9) (v := .int 0) (ty := .int) (C := RX11) (T := TX11) (N := 17) hx hb hts inX11 tyX11 tyX11_ok nmX11 hown hKN.1 hP hD hS 0 rfl rfl 0 (by decide) (hts (.fieldLink RX11 59 "TreeFamilyModel" "code" "I") (by decide +kernel)) (fun _ h9 => h9) rfl (by decide +kernel) rfl rfl (Nat.le_of_ble_eq_true rfl) dX11_put_13 (fun H locs hP hD hS => ?_)
      have hP : va_P D vwCl (wQx ca b 0 q.oo q.zz q.ks q.vs q.cg q.hw q.lo q.hg q.wk q.kw q.mn q.gv q.cp q.ho q.nk q.nv) H := hP
      have hD : va_D A (wQx ca b 0 q.oo q.zz q.ks q.vs q.cg q.hw q.lo q.hg q.wk q.kw q.mn q.gv q.cp q.ho q.nk q.nv) := hD
      refine lv_aload_n hx hb dX11_put_16 rfl (lv_at hl 0 rfl) ?_
      refine va_get (D := D) (ci := 9) (v := .int 0) (C := RX11) (T := TX11) (N := 17) hx hb hts inX11 hown hKN.1 hP 0 rfl rfl 0 (by decide) (hts (.fieldLink RX11 59 "TreeFamilyModel" "code" "I") (by decide +kernel)) (fun _ h9 => h9) rfl dX11_put_17 ?_
      refine lv_if_ne (tgt := 37) hx hb dX11_put_20 (by decide) (fun c20 => ?_) (fun c20 => ?_)
      · skip
        exact absurd c20 (by decide)
      · skip
        refine lv_aload_n hx hb dX11_put_23 rfl (lv_at hl 0 rfl) ?_
        refine lv_iload_n hx hb dX11_put_24 rfl (lv_at hl 1 rfl) ?_
        refine lv_iload_n hx hb dX11_put_25 rfl (lv_at hl 2 rfl) ?_
        refine lv_iload_n hx hb dX11_put_26 rfl (lv_at hl 3 rfl) ?_
        refine xc_i (wr := []) (va_runV (As := [.int (nI j), .int key, .int v]) (rest := []) ⟨hx, hb, hml, hown, hts⟩ (c_X11_enter l D ca b _ (0, q.oo, q.zz, q.ks, q.vs, q.cg, q.hw, q.lo, q.hg, q.wk, q.kw, q.mn, q.gv, q.cp, q.ho, q.nk, q.nv) j key v hq hj rfl) (cwV 3 hts gX11_put_X11_enter rfl rfl rfl (by decide +kernel) ⟨(Nat.le_of_ble_eq_true rfl), (Nat.le_of_ble_eq_true rfl)⟩) (xPreV hKN hP hD [0, 1, 2, 3, 4, 5, 6, 7, 8, 9, 10, 11, 12, 13, 14, 15, 16] (by decide) rfl (q0 := 0) rfl rfl rfl) rfl rfl hl.1 rfl (lv_room (Nat.le_of_ble_eq_true rfl)) dX11_put_27 ⟨(Nat.le_of_ble_eq_true rfl), (Nat.le_of_ble_eq_true rfl)⟩) hP hD hS hA [0, 1, 2, 3, 4, 5, 6, 7, 8, 9, 10, 11, 12, 13, 14, 15, 16] [] rfl rfl (by decide) (by decide) (fun r27 u27 H locs hu27 hP hD hS => ?_)
        obtain ⟨hw27, er27, hc27, ha27⟩ := hu27
        have er27 : r27 = (F_enter key v (ab q j)).1 := er27
        subst er27
        have hP : va_P D vwCl (wQ ca b u27) H := hP
        have hD : va_D A (wQ ca b u27) := hD
        refine lv_if_eq (tgt := 37) hx hb dX11_put_30 (by decide) (fun c30 => ?_) (fun c30 => ?_)
        · skip
          refine lv_iconst (v := 0) hx hb dX11_put_37 (by decide) ?_
          exact W.zret (v := 0) hx hb hr (by decide) (fun t9 e9 w9 => ⟨⟨_, u27, rfl, PO_ok hj hw27 c30.symm hc27 ha27, by rw [e9]; exact hP, hD⟩, hS.F e9⟩) hS.2.2 dX11_put_38
        · skip
          refine lv_iconst (v := 1) hx hb dX11_put_33 (by decide) ?_
          refine lv_goto (tgt := 38) hx hb dX11_put_34 (by decide) ?_
          exact W.zret (v := 1) hx hb hr (by decide) (fun t9 e9 w9 => ⟨⟨_, u27, rfl, PO_ok hj hw27 (F_enter_1 c30).symm hc27 ha27, by rw [e9]; exact hP, hD⟩, hS.F e9⟩) hS.2.2 dX11_put_38

-- TreeFamilyModel.remove
set_option maxHeartbeats 4000000 in
set_option maxRecDepth 100000 in
theorem c_X11_remove (l : Launch) (D : va_G) (ca : Nat → ClassId) (b : Nat → Nat) (sz : Nat) (q : QS) (key : Int32) (mm : Int32) (hq : WQ q) : Met l yX11_remove wsX11_remove ({ frames := 2, cells := 0, slots := 0, locals := 46 } : Room) (xPc D (TY ca) [.ref (b 0), .int mm, .int key] (wQ ca b q) sz) (va_Qi (fun (r : Int32) (u : QS) => PO 0 (F_remove key) mm q r u) (xB D (wQ ca b) (va_A (wQ ca b q) sz)) (va_A (wQ ca b q) sz)) 0 0 (va_A (wQ ca b q) sz) := by
  refine Met.ofW (cc := cX11_remove) (maxL := 5) (ret := (some .boolean)) (by decide) rfl ?_
  intro p e s m args below meth c s₁ B hml hv
  obtain ⟨rfl, hsz, hP, hKN, hD0⟩ := hv
  have hx := B.exec
  have hb := B.bytes
  have hr := B.returns
  have hts := atoms_spec (ws := wsX11_remove) B.pre
  have hown : s.vm.findClass RX11 = some m.cls := findClass_of_methodNamed B.named
  have hlocks := B.notSynchronized
  have inX11 : ∀ w ∈ wsX110, w ∈ wsX11_remove := by decide +kernel
  subst hsz
  have hD := hD0.self (sz := s.heap.size)
  generalize hAe : va_A (wQ ca b q) s.heap.size = A at hD ⊢
  have hA : ∀ q : Nat, s.heap.size ≤ q → A q := fun q h => by rw [← hAe]; exact Or.inr h
  have hS : va_S A s.heap s.heap [] := va_S.rf
  have hl := lv_entry ([.ref (b 0), .int mm, .int key]) (n := 5) (Nat.le_of_ble_eq_true rfl)
  rw [lg_entry_eq]
  generalize (lg_sl ([.ref (b 0), .int mm, .int key]) ++ List.replicate (5 - (lg_sl ([.ref (b 0), .int mm, .int key])).length) Slot.unset).toArray = ls at hl ⊢
  have hl : lv_has ls 5 [(0, .ref (b 0)), (1, .int mm), (2, .int key)] := hl
  rcases isB3 mm with hmm | ⟨j, hj, hmj⟩
  · skip
    refine lv_aload_n hx hb dX11_remove_0 rfl (lv_at hl 0 rfl) ?_
    refine lv_iload_n hx hb dX11_remove_1 rfl (lv_at hl 1 rfl) ?_
    refine xs_i (va_runS (As := [.int mm]) (rest := [.ref (b 0)]) ⟨hx, hb, hml, hown, hts⟩ (c_X11_isMap l _) (va_cwS 1 hts gX11_remove_X11_isMap rfl rfl rfl (by decide +kernel) ⟨(Nat.le_of_ble_eq_true rfl), (Nat.le_of_ble_eq_true rfl)⟩) xPreT rfl rfl hl.1 rfl (lv_room (Nat.le_of_ble_eq_true rfl)) dX11_remove_2 ⟨(Nat.le_of_ble_eq_true rfl), (Nat.le_of_ble_eq_true rfl)⟩) (fun r2 er2 => ?_)
    subst er2
    refine xr_top (y := 0) (by rw [hmm]; rfl) ?_
    refine lv_if_eq (tgt := 12) hx hb dX11_remove_5 (by decide) (fun c5 => ?_) (fun c5 => ?_)
    · skip
      refine lv_iconst (v := 1) hx hb dX11_remove_12 (by decide) ?_
      refine va_put (D := D) (ci := 9) (v := .int 1) (ty := .int) (C := RX11) (T := TX11) (N := 17) hx hb hts inX11 tyX11 tyX11_ok nmX11 hown hKN.1 hP hD hS 0 rfl rfl 0 (by decide) (hts (.fieldLink RX11 59 "TreeFamilyModel" "code" "I") (by decide +kernel)) (fun _ h9 => h9) rfl (by decide +kernel) rfl rfl (Nat.le_of_ble_eq_true rfl) dX11_remove_13 (fun H locs hP hD hS => ?_)
      have hP : va_P D vwCl (wQx ca b 1 q.oo q.zz q.ks q.vs q.cg q.hw q.lo q.hg q.wk q.kw q.mn q.gv q.cp q.ho q.nk q.nv) H := hP
      have hD : va_D A (wQx ca b 1 q.oo q.zz q.ks q.vs q.cg q.hw q.lo q.hg q.wk q.kw q.mn q.gv q.cp q.ho q.nk q.nv) := hD
      refine lv_aload_n hx hb dX11_remove_16 rfl (lv_at hl 0 rfl) ?_
      refine va_get (D := D) (ci := 9) (v := .int 1) (C := RX11) (T := TX11) (N := 17) hx hb hts inX11 hown hKN.1 hP 0 rfl rfl 0 (by decide) (hts (.fieldLink RX11 59 "TreeFamilyModel" "code" "I") (by decide +kernel)) (fun _ h9 => h9) rfl dX11_remove_17 ?_
      refine lv_if_le (tgt := 25) hx hb dX11_remove_20 (by decide) (fun c20 => ?_) (fun c20 => ?_)
      · skip
        exact absurd c20 (by decide)
      · skip
        refine lv_iconst (v := 0) hx hb dX11_remove_23 (by decide) ?_
        exact W.zret (v := 0) hx hb hr (by decide) (fun t9 e9 w9 => ⟨⟨_, (1, q.oo, q.zz, q.ks, q.vs, q.cg, q.hw, q.lo, q.hg, q.wk, q.kw, q.mn, q.gv, q.cp, q.ho, q.nk, q.nv), rfl, PO_bad hmm hq rfl rfl rfl, by rw [e9]; exact hP, hD⟩, hS.F e9⟩) hS.2.2 dX11_remove_24
    · skip
      exact absurd c5 (by decide)
  · subst hmj
    have hz6 := hq.1 j
    have hh3 := hq.2.1 j
    refine lv_aload_n hx hb dX11_remove_0 rfl (lv_at hl 0 rfl) ?_
    refine lv_iload_n hx hb dX11_remove_1 rfl (lv_at hl 1 rfl) ?_
    refine xs_i (va_runS (As := [.int (nI j)]) (rest := [.ref (b 0)]) ⟨hx, hb, hml, hown, hts⟩ (c_X11_isMap l _) (va_cwS 1 hts gX11_remove_X11_isMap rfl rfl rfl (by decide +kernel) ⟨(Nat.le_of_ble_eq_true rfl), (Nat.le_of_ble_eq_true rfl)⟩) xPreT rfl rfl hl.1 rfl (lv_room (Nat.le_of_ble_eq_true rfl)) dX11_remove_2 ⟨(Nat.le_of_ble_eq_true rfl), (Nat.le_of_ble_eq_true rfl)⟩) (fun r2 er2 => ?_)
    subst er2
    refine xr_top (y := 1) (by rw [isB3_ok hj]; rfl) ?_
    refine lv_if_eq (tgt := 12) hx hb dX11_remove_5 (by decide) (fun c5 => ?_) (fun c5 => ?_)
    · skip
      exact absurd c5 (by decide)
    · skip
      refine lv_iconst (v := 0) hx hb dX11_remove_8 (by decide) ?_
      refine lv_goto (tgt := 13) hx hb dX11_remove_9 (by decide) ?_
      refine va_put (D := D) (ci := 9) (v := .int 0) (ty := .int) (C := RX11) (T := TX11) (N := 17) hx hb hts inX11 tyX11 tyX11_ok nmX11 hown hKN.1 hP hD hS 0 rfl rfl 0 (by decide) (hts (.fieldLink RX11 59 "TreeFamilyModel" "code" "I") (by decide +kernel)) (fun _ h9 => h9) rfl (by decide +kernel) rfl rfl (Nat.le_of_ble_eq_true rfl) dX11_remove_13 (fun H locs hP hD hS => ?_)
      have hP : va_P D vwCl (wQx ca b 0 q.oo q.zz q.ks q.vs q.cg q.hw q.lo q.hg q.wk q.kw q.mn q.gv q.cp q.ho q.nk q.nv) H := hP
      have hD : va_D A (wQx ca b 0 q.oo q.zz q.ks q.vs q.cg q.hw q.lo q.hg q.wk q.kw q.mn q.gv q.cp q.ho q.nk q.nv) := hD
      refine lv_aload_n hx hb dX11_remove_16 rfl (lv_at hl 0 rfl) ?_
      refine va_get (D := D) (ci := 9) (v := .int 0) (C := RX11) (T := TX11) (N := 17) hx hb hts inX11 hown hKN.1 hP 0 rfl rfl 0 (by decide) (hts (.fieldLink RX11 59 "TreeFamilyModel" "code" "I") (by decide +kernel)) (fun _ h9 => h9) rfl dX11_remove_17 ?_
      refine lv_if_le (tgt := 25) hx hb dX11_remove_20 (by decide) (fun c20 => ?_) (fun c20 => ?_)
      · skip
        refine lv_aload_n hx hb dX11_remove_25 rfl (lv_at hl 0 rfl) ?_
        refine lv_iload_n hx hb dX11_remove_26 rfl (lv_at hl 1 rfl) ?_
        refine lv_iload_n hx hb dX11_remove_27 rfl (lv_at hl 2 rfl) ?_
        refine xc_i (wr := []) (va_runV (As := [.int (nI j), .int key]) (rest := []) ⟨hx, hb, hml, hown, hts⟩ (c_X11_place l D ca b _ (0, q.oo, q.zz, q.ks, q.vs, q.cg, q.hw, q.lo, q.hg, q.wk, q.kw, q.mn, q.gv, q.cp, q.ho, q.nk, q.nv) j key hq hj) (cwV 2 hts gX11_remove_X11_place rfl rfl rfl (by decide +kernel) ⟨(Nat.le_of_ble_eq_true rfl), (Nat.le_of_ble_eq_true rfl)⟩) (xPreV hKN hP hD [0, 1, 2, 3, 4, 5, 6, 7, 8, 9, 10, 11, 12, 13, 14, 15, 16] (by decide) rfl (q0 := 0) rfl rfl rfl) rfl rfl hl.1 rfl (lv_room (Nat.le_of_ble_eq_true rfl)) dX11_remove_28 ⟨(Nat.le_of_ble_eq_true rfl), (Nat.le_of_ble_eq_true rfl)⟩) hP hD hS hA [0, 1, 2, 3, 4, 5, 6, 7, 8, 9, 10, 11, 12, 13, 14, 15, 16] [] rfl rfl (by decide) (by decide) (fun r28 u28 H locs hu28 hP hD hS => ?_)
        obtain ⟨er28, eu28⟩ := hu28
        have eu28 := eu28.symm
        subst eu28
        have hP : va_P D vwCl (wQx ca b 0 q.oo q.zz q.ks q.vs q.cg q.hw q.lo q.hg q.wk q.kw q.mn q.gv q.cp q.ho q.nk q.nv) H := hP
        have hD : va_D A (wQx ca b 0 q.oo q.zz q.ks q.vs q.cg q.hw q.lo q.hg q.wk q.kw q.mn q.gv q.cp q.ho q.nk q.nv) := hD
        have er28 : r28 = nI (plQ q j key) := er28
        subst er28
        refine lv_istore_n (lv' := [(3, .int (nI (plQ q j key))), (0, .ref (b 0)), (1, .int (nI j)), (2, .int key)]) hx hb dX11_remove_31 rfl hl (by decide) rfl (fun ls hl => ?_)
        refine lv_aload_n hx hb dX11_remove_32 rfl (lv_at hl 1 rfl) ?_
        refine lv_iload_n hx hb dX11_remove_33 rfl (lv_at hl 2 rfl) ?_
        refine lv_iload_n hx hb dX11_remove_34 rfl (lv_at hl 0 rfl) ?_
        refine lv_iload_n hx hb dX11_remove_35 rfl (lv_at hl 3 rfl) ?_
        refine xc_i (wr := []) (va_runV (As := [.int (nI j), .int (nI (plQ q j key)), .int key]) (rest := []) ⟨hx, hb, hml, hown, hts⟩ (c_X11_isAt l D ca b _ (0, q.oo, q.zz, q.ks, q.vs, q.cg, q.hw, q.lo, q.hg, q.wk, q.kw, q.mn, q.gv, q.cp, q.ho, q.nk, q.nv) j (plQ q j key) key hq hj (pl60 (q := q) hq j key)) (cwV 3 hts gX11_remove_X11_isAt rfl rfl rfl (by decide +kernel) ⟨(Nat.le_of_ble_eq_true rfl), (Nat.le_of_ble_eq_true rfl)⟩) (xPreV hKN hP hD [0, 1, 2, 3, 4, 5, 6, 7, 8, 9, 10, 11, 12, 13, 14, 15, 16] (by decide) rfl (q0 := 0) rfl rfl rfl) rfl rfl hl.1 rfl (lv_room (Nat.le_of_ble_eq_true rfl)) dX11_remove_36 ⟨(Nat.le_of_ble_eq_true rfl), (Nat.le_of_ble_eq_true rfl)⟩) hP hD hS hA [0, 1, 2, 3, 4, 5, 6, 7, 8, 9, 10, 11, 12, 13, 14, 15, 16] [] rfl rfl (by decide) (by decide) (fun r36 u36 H locs hu36 hP hD hS => ?_)
        obtain ⟨er36, eu36⟩ := hu36
        have eu36 := eu36.symm
        subst eu36
        have hP : va_P D vwCl (wQx ca b 0 q.oo q.zz q.ks q.vs q.cg q.hw q.lo q.hg q.wk q.kw q.mn q.gv q.cp q.ho q.nk q.nv) H := hP
        have hD : va_D A (wQx ca b 0 q.oo q.zz q.ks q.vs q.cg q.hw q.lo q.hg q.wk q.kw q.mn q.gv q.cp q.ho q.nk q.nv) := hD
        have er36 : r36 = bI (atE (q.oo j) key (plQ q j key) (enQ q j)) := er36
        subst er36
        refine xr_top (y := bI (hitQ q j key)) (congrArg bI (atE_hit _ _ _)) ?_
        refine lv_if_ne (tgt := 44) hx hb dX11_remove_39 (by decide) (fun c39 => ?_) (fun c39 => ?_)
        · skip
          have c39 := bI_ne.mp c39
          refine lv_aload_n hx hb dX11_remove_44 rfl (lv_at hl 1 rfl) ?_
          refine lv_iload_n hx hb dX11_remove_45 rfl (lv_at hl 2 rfl) ?_
          refine lv_iload_n hx hb dX11_remove_46 rfl (lv_at hl 0 rfl) ?_
          refine xc_i (wr := []) (va_runV (As := [.int (nI j), .int (nI (plQ q j key))]) (rest := []) ⟨hx, hb, hml, hown, hts⟩ (c_X11_close l D ca b _ (0, q.oo, q.zz, q.ks, q.vs, q.cg, q.hw, q.lo, q.hg, q.wk, q.kw, q.mn, q.gv, q.cp, q.ho, q.nk, q.nv) j (plQ q j key) hq hj (hitz c39)) (cwV 2 hts gX11_remove_X11_close rfl rfl rfl (by decide +kernel) ⟨(Nat.le_of_ble_eq_true rfl), (Nat.le_of_ble_eq_true rfl)⟩) (xPreV hKN hP hD [0, 1, 2, 3, 4, 5, 6, 7, 8, 9, 10, 11, 12, 13, 14, 15, 16] (by decide) rfl (q0 := 0) rfl rfl rfl) rfl rfl hl.1 rfl (lv_room (Nat.le_of_ble_eq_true rfl)) dX11_remove_47 ⟨(Nat.le_of_ble_eq_true rfl), (Nat.le_of_ble_eq_true rfl)⟩) hP hD hS hA [0, 1, 2, 3, 4, 5, 6, 7, 8, 9, 10, 11, 12, 13, 14, 15, 16] [] rfl rfl (by decide) (by decide) (fun r47 u47 H locs hu47 hP hD hS => ?_)
          obtain ⟨er47, hw47, hc47, ha47⟩ := hu47
          have er47 : r47 = q.ks (64 * j + (plQ q j key)) := er47
          subst er47
          have hP : va_P D vwCl (wQ ca b u47) H := hP
          have hD : va_D A (wQ ca b u47) := hD
          refine lv_istore (lv' := [(4, .int (q.ks (64 * j + (plQ q j key)))), (3, .int (nI (plQ q j key))), (0, .ref (b 0)), (1, .int (nI j)), (2, .int key)]) hx hb dX11_remove_50 hl (by decide) rfl (fun ls hl => ?_)
          refine lv_iconst (v := 1) hx hb dX11_remove_52 (by decide) ?_
          exact W.zret (v := 1) hx hb hr (by decide) (fun t9 e9 w9 => ⟨⟨_, u47, rfl, PO_by hj (F_remove_1 c39) hw47 hc47 ha47, by rw [e9]; exact hP, hD⟩, hS.F e9⟩) hS.2.2 dX11_remove_53
        · skip
          have c39 := bI_0.mp c39
          refine lv_iconst (v := 0) hx hb dX11_remove_42 (by decide) ?_
          exact W.zret (v := 0) hx hb hr (by decide) (fun t9 e9 w9 => ⟨⟨_, (0, q.oo, q.zz, q.ks, q.vs, q.cg, q.hw, q.lo, q.hg, q.wk, q.kw, q.mn, q.gv, q.cp, q.ho, q.nk, q.nv), rfl, PO_same hj (F_remove_0 c39) hq rfl rfl, by rw [e9]; exact hP, hD⟩, hS.F e9⟩) hS.2.2 dX11_remove_43
      · skip
        exact absurd c20 (by decide)

-- TreeFamilyModel.get
set_option maxHeartbeats 4000000 in
set_option maxRecDepth 100000 in
theorem c_X11_get (l : Launch) (D : va_G) (ca : Nat → ClassId) (b : Nat → Nat) (sz : Nat) (q : QS) (key : Int32) (mm : Int32) (hq : WQ q) : Met l yX11_get wsX11_get ({ frames := 2, cells := 0, slots := 0, locals := 46 } : Room) (xPc D (TY ca) [.ref (b 0), .int mm, .int key] (wQ ca b q) sz) (va_Qi (fun (r : Int32) (u : QS) => PO 0 (F_get key) mm q r u) (xB D (wQ ca b) (va_A (wQ ca b q) sz)) (va_A (wQ ca b q) sz)) 0 0 (va_A (wQ ca b q) sz) := by
  refine Met.ofW (cc := cX11_get) (maxL := 4) (ret := (some .int)) (by decide) rfl ?_
  intro p e s m args below meth c s₁ B hml hv
  obtain ⟨rfl, hsz, hP, hKN, hD0⟩ := hv
  have hx := B.exec
  have hb := B.bytes
  have hr := B.returns
  have hts := atoms_spec (ws := wsX11_get) B.pre
  have hown : s.vm.findClass RX11 = some m.cls := findClass_of_methodNamed B.named
  have hlocks := B.notSynchronized
  have inX11 : ∀ w ∈ wsX110, w ∈ wsX11_get := by decide +kernel
  subst hsz
  have hD := hD0.self (sz := s.heap.size)
  generalize hAe : va_A (wQ ca b q) s.heap.size = A at hD ⊢
  have hA : ∀ q : Nat, s.heap.size ≤ q → A q := fun q h => by rw [← hAe]; exact Or.inr h
  have hS : va_S A s.heap s.heap [] := va_S.rf
  have hl := lv_entry ([.ref (b 0), .int mm, .int key]) (n := 4) (Nat.le_of_ble_eq_true rfl)
  rw [lg_entry_eq]
  generalize (lg_sl ([.ref (b 0), .int mm, .int key]) ++ List.replicate (4 - (lg_sl ([.ref (b 0), .int mm, .int key])).length) Slot.unset).toArray = ls at hl ⊢
  have hl : lv_has ls 4 [(0, .ref (b 0)), (1, .int mm), (2, .int key)] := hl
  rcases isB3 mm with hmm | ⟨j, hj, hmj⟩
  · skip
    refine lv_aload_n hx hb dX11_get_0 rfl (lv_at hl 0 rfl) ?_
    refine lv_iconst (v := 0) hx hb dX11_get_1 (by decide) ?_
    refine va_put (D := D) (ci := 9) (v := .int 0) (ty := .int) (C := RX11) (T := TX11) (N := 17) hx hb hts inX11 tyX11 tyX11_ok nmX11 hown hKN.1 hP hD hS 0 rfl rfl 0 (by decide) (hts (.fieldLink RX11 59 "TreeFamilyModel" "code" "I") (by decide +kernel)) (fun _ h9 => h9) rfl (by decide +kernel) rfl rfl (Nat.le_of_ble_eq_true rfl) dX11_get_2 (fun H locs hP hD hS => ?_)
    have hP : va_P D vwCl (wQx ca b 0 q.oo q.zz q.ks q.vs q.cg q.hw q.lo q.hg q.wk q.kw q.mn q.gv q.cp q.ho q.nk q.nv) H := hP
    have hD : va_D A (wQx ca b 0 q.oo q.zz q.ks q.vs q.cg q.hw q.lo q.hg q.wk q.kw q.mn q.gv q.cp q.ho q.nk q.nv) := hD
    refine lv_iload_n hx hb dX11_get_5 rfl (lv_at hl 1 rfl) ?_
    refine xs_i (va_runS (As := [.int mm]) (rest := []) ⟨hx, hb, hml, hown, hts⟩ (c_X11_isMap l _) (va_cwS 1 hts gX11_get_X11_isMap rfl rfl rfl (by decide +kernel) ⟨(Nat.le_of_ble_eq_true rfl), (Nat.le_of_ble_eq_true rfl)⟩) xPreT rfl rfl hl.1 rfl (lv_room (Nat.le_of_ble_eq_true rfl)) dX11_get_6 ⟨(Nat.le_of_ble_eq_true rfl), (Nat.le_of_ble_eq_true rfl)⟩) (fun r6 er6 => ?_)
    subst er6
    refine xr_top (y := 0) (by rw [hmm]; rfl) ?_
    refine lv_if_ne (tgt := 18) hx hb dX11_get_9 (by decide) (fun c9 => ?_) (fun c9 => ?_)
    · skip
      exact absurd c9 (by decide)
    · skip
      refine lv_aload_n hx hb dX11_get_12 rfl (lv_at hl 0 rfl) ?_
      refine lv_iconst (v := 1) hx hb dX11_get_13 (by decide) ?_
      refine xc_i (wr := []) (va_runV (As := [.int 1]) (rest := []) ⟨hx, hb, hml, hown, hts⟩ (c_X11_refuse l D ca b _ (0, q.oo, q.zz, q.ks, q.vs, q.cg, q.hw, q.lo, q.hg, q.wk, q.kw, q.mn, q.gv, q.cp, q.ho, q.nk, q.nv) 1) (cwV 1 hts gX11_get_X11_refuse rfl rfl rfl (by decide +kernel) ⟨(Nat.le_of_ble_eq_true rfl), (Nat.le_of_ble_eq_true rfl)⟩) (xPreV hKN hP hD [0, 1, 2, 3, 4, 5, 6, 7, 8, 9, 10, 11, 12, 13, 14, 15, 16] (by decide) rfl (q0 := 0) rfl rfl rfl) rfl rfl hl.1 rfl (lv_room (Nat.le_of_ble_eq_true rfl)) dX11_get_14 ⟨(Nat.le_of_ble_eq_true rfl), (Nat.le_of_ble_eq_true rfl)⟩) hP hD hS hA [0, 1, 2, 3, 4, 5, 6, 7, 8, 9, 10, 11, 12, 13, 14, 15, 16] [] rfl rfl (by decide) (by decide) (fun r14 u14 H locs hu14 hP hD hS => ?_)
      obtain ⟨er14, eu14⟩ := hu14
      have eu14 := eu14.symm
      subst eu14
      subst er14
      have hP : va_P D vwCl (wQx ca b 1 q.oo q.zz q.ks q.vs q.cg q.hw q.lo q.hg q.wk q.kw q.mn q.gv q.cp q.ho q.nk q.nv) H := hP
      have hD : va_D A (wQx ca b 1 q.oo q.zz q.ks q.vs q.cg q.hw q.lo q.hg q.wk q.kw q.mn q.gv q.cp q.ho q.nk q.nv) := hD
      exact W.iret (v := 0) hx hb hr (fun t9 e9 w9 => ⟨⟨_, (1, q.oo, q.zz, q.ks, q.vs, q.cg, q.hw, q.lo, q.hg, q.wk, q.kw, q.mn, q.gv, q.cp, q.ho, q.nk, q.nv), rfl, PO_bad hmm hq rfl rfl rfl, by rw [e9]; exact hP, hD⟩, hS.F e9⟩) hS.2.2 dX11_get_17
  · subst hmj
    have hz6 := hq.1 j
    have hh3 := hq.2.1 j
    refine lv_aload_n hx hb dX11_get_0 rfl (lv_at hl 0 rfl) ?_
    refine lv_iconst (v := 0) hx hb dX11_get_1 (by decide) ?_
    refine va_put (D := D) (ci := 9) (v := .int 0) (ty := .int) (C := RX11) (T := TX11) (N := 17) hx hb hts inX11 tyX11 tyX11_ok nmX11 hown hKN.1 hP hD hS 0 rfl rfl 0 (by decide) (hts (.fieldLink RX11 59 "TreeFamilyModel" "code" "I") (by decide +kernel)) (fun _ h9 => h9) rfl (by decide +kernel) rfl rfl (Nat.le_of_ble_eq_true rfl) dX11_get_2 (fun H locs hP hD hS => ?_)
    have hP : va_P D vwCl (wQx ca b 0 q.oo q.zz q.ks q.vs q.cg q.hw q.lo q.hg q.wk q.kw q.mn q.gv q.cp q.ho q.nk q.nv) H := hP
    have hD : va_D A (wQx ca b 0 q.oo q.zz q.ks q.vs q.cg q.hw q.lo q.hg q.wk q.kw q.mn q.gv q.cp q.ho q.nk q.nv) := hD
    refine lv_iload_n hx hb dX11_get_5 rfl (lv_at hl 1 rfl) ?_
    refine xs_i (va_runS (As := [.int (nI j)]) (rest := []) ⟨hx, hb, hml, hown, hts⟩ (c_X11_isMap l _) (va_cwS 1 hts gX11_get_X11_isMap rfl rfl rfl (by decide +kernel) ⟨(Nat.le_of_ble_eq_true rfl), (Nat.le_of_ble_eq_true rfl)⟩) xPreT rfl rfl hl.1 rfl (lv_room (Nat.le_of_ble_eq_true rfl)) dX11_get_6 ⟨(Nat.le_of_ble_eq_true rfl), (Nat.le_of_ble_eq_true rfl)⟩) (fun r6 er6 => ?_)
    subst er6
    refine xr_top (y := 1) (by rw [isB3_ok hj]; rfl) ?_
    refine lv_if_ne (tgt := 18) hx hb dX11_get_9 (by decide) (fun c9 => ?_) (fun c9 => ?_)
    · skip
      refine lv_aload_n hx hb dX11_get_18 rfl (lv_at hl 0 rfl) ?_
      refine lv_iload_n hx hb dX11_get_19 rfl (lv_at hl 1 rfl) ?_
      refine lv_iload_n hx hb dX11_get_20 rfl (lv_at hl 2 rfl) ?_
      refine xc_i (wr := []) (va_runV (As := [.int (nI j), .int key]) (rest := []) ⟨hx, hb, hml, hown, hts⟩ (c_X11_place l D ca b _ (0, q.oo, q.zz, q.ks, q.vs, q.cg, q.hw, q.lo, q.hg, q.wk, q.kw, q.mn, q.gv, q.cp, q.ho, q.nk, q.nv) j key hq hj) (cwV 2 hts gX11_get_X11_place rfl rfl rfl (by decide +kernel) ⟨(Nat.le_of_ble_eq_true rfl), (Nat.le_of_ble_eq_true rfl)⟩) (xPreV hKN hP hD [0, 1, 2, 3, 4, 5, 6, 7, 8, 9, 10, 11, 12, 13, 14, 15, 16] (by decide) rfl (q0 := 0) rfl rfl rfl) rfl rfl hl.1 rfl (lv_room (Nat.le_of_ble_eq_true rfl)) dX11_get_21 ⟨(Nat.le_of_ble_eq_true rfl), (Nat.le_of_ble_eq_true rfl)⟩) hP hD hS hA [0, 1, 2, 3, 4, 5, 6, 7, 8, 9, 10, 11, 12, 13, 14, 15, 16] [] rfl rfl (by decide) (by decide) (fun r21 u21 H locs hu21 hP hD hS => ?_)
      obtain ⟨er21, eu21⟩ := hu21
      have eu21 := eu21.symm
      subst eu21
      have hP : va_P D vwCl (wQx ca b 0 q.oo q.zz q.ks q.vs q.cg q.hw q.lo q.hg q.wk q.kw q.mn q.gv q.cp q.ho q.nk q.nv) H := hP
      have hD : va_D A (wQx ca b 0 q.oo q.zz q.ks q.vs q.cg q.hw q.lo q.hg q.wk q.kw q.mn q.gv q.cp q.ho q.nk q.nv) := hD
      have er21 : r21 = nI (plQ q j key) := er21
      subst er21
      refine lv_istore_n (lv' := [(3, .int (nI (plQ q j key))), (0, .ref (b 0)), (1, .int (nI j)), (2, .int key)]) hx hb dX11_get_24 rfl hl (by decide) rfl (fun ls hl => ?_)
      refine lv_aload_n hx hb dX11_get_25 rfl (lv_at hl 1 rfl) ?_
      refine lv_iload_n hx hb dX11_get_26 rfl (lv_at hl 2 rfl) ?_
      refine lv_iload_n hx hb dX11_get_27 rfl (lv_at hl 0 rfl) ?_
      refine lv_iload_n hx hb dX11_get_28 rfl (lv_at hl 3 rfl) ?_
      refine xc_i (wr := []) (va_runV (As := [.int (nI j), .int (nI (plQ q j key)), .int key]) (rest := []) ⟨hx, hb, hml, hown, hts⟩ (c_X11_isAt l D ca b _ (0, q.oo, q.zz, q.ks, q.vs, q.cg, q.hw, q.lo, q.hg, q.wk, q.kw, q.mn, q.gv, q.cp, q.ho, q.nk, q.nv) j (plQ q j key) key hq hj (pl60 (q := q) hq j key)) (cwV 3 hts gX11_get_X11_isAt rfl rfl rfl (by decide +kernel) ⟨(Nat.le_of_ble_eq_true rfl), (Nat.le_of_ble_eq_true rfl)⟩) (xPreV hKN hP hD [0, 1, 2, 3, 4, 5, 6, 7, 8, 9, 10, 11, 12, 13, 14, 15, 16] (by decide) rfl (q0 := 0) rfl rfl rfl) rfl rfl hl.1 rfl (lv_room (Nat.le_of_ble_eq_true rfl)) dX11_get_29 ⟨(Nat.le_of_ble_eq_true rfl), (Nat.le_of_ble_eq_true rfl)⟩) hP hD hS hA [0, 1, 2, 3, 4, 5, 6, 7, 8, 9, 10, 11, 12, 13, 14, 15, 16] [] rfl rfl (by decide) (by decide) (fun r29 u29 H locs hu29 hP hD hS => ?_)
      obtain ⟨er29, eu29⟩ := hu29
      have eu29 := eu29.symm
      subst eu29
      have hP : va_P D vwCl (wQx ca b 0 q.oo q.zz q.ks q.vs q.cg q.hw q.lo q.hg q.wk q.kw q.mn q.gv q.cp q.ho q.nk q.nv) H := hP
      have hD : va_D A (wQx ca b 0 q.oo q.zz q.ks q.vs q.cg q.hw q.lo q.hg q.wk q.kw q.mn q.gv q.cp q.ho q.nk q.nv) := hD
      have er29 : r29 = bI (atE (q.oo j) key (plQ q j key) (enQ q j)) := er29
      subst er29
      refine xr_top (y := bI (hitQ q j key)) (congrArg bI (atE_hit _ _ _)) ?_
      refine lv_if_eq (tgt := 49) hx hb dX11_get_32 (by decide) (fun c32 => ?_) (fun c32 => ?_)
      · skip
        have c32 := bI_0.mp c32
        refine lv_aload_n hx hb dX11_get_49 rfl (lv_at hl 1 rfl) ?_
        refine lv_iconst (v := 2) hx hb dX11_get_50 (by decide) ?_
        refine xc_i (wr := []) (va_runV (As := [.int 2]) (rest := []) ⟨hx, hb, hml, hown, hts⟩ (c_X11_refuse l D ca b _ (0, q.oo, q.zz, q.ks, q.vs, q.cg, q.hw, q.lo, q.hg, q.wk, q.kw, q.mn, q.gv, q.cp, q.ho, q.nk, q.nv) 2) (cwV 1 hts gX11_get_X11_refuse rfl rfl rfl (by decide +kernel) ⟨(Nat.le_of_ble_eq_true rfl), (Nat.le_of_ble_eq_true rfl)⟩) (xPreV hKN hP hD [0, 1, 2, 3, 4, 5, 6, 7, 8, 9, 10, 11, 12, 13, 14, 15, 16] (by decide) rfl (q0 := 0) rfl rfl rfl) rfl rfl hl.1 rfl (lv_room (Nat.le_of_ble_eq_true rfl)) dX11_get_51 ⟨(Nat.le_of_ble_eq_true rfl), (Nat.le_of_ble_eq_true rfl)⟩) hP hD hS hA [0, 1, 2, 3, 4, 5, 6, 7, 8, 9, 10, 11, 12, 13, 14, 15, 16] [] rfl rfl (by decide) (by decide) (fun r51 u51 H locs hu51 hP hD hS => ?_)
        obtain ⟨er51, eu51⟩ := hu51
        have eu51 := eu51.symm
        subst eu51
        subst er51
        have hP : va_P D vwCl (wQx ca b 2 q.oo q.zz q.ks q.vs q.cg q.hw q.lo q.hg q.wk q.kw q.mn q.gv q.cp q.ho q.nk q.nv) H := hP
        have hD : va_D A (wQx ca b 2 q.oo q.zz q.ks q.vs q.cg q.hw q.lo q.hg q.wk q.kw q.mn q.gv q.cp q.ho q.nk q.nv) := hD
        exact W.iret (v := 0) hx hb hr (fun t9 e9 w9 => ⟨⟨_, (2, q.oo, q.zz, q.ks, q.vs, q.cg, q.hw, q.lo, q.hg, q.wk, q.kw, q.mn, q.gv, q.cp, q.ho, q.nk, q.nv), rfl, PO_same hj (F_get_0 c32) hq rfl rfl, by rw [e9]; exact hP, hD⟩, hS.F e9⟩) hS.2.2 dX11_get_54
      · skip
        have c32 := bI_ne.mp c32
        have hlt := hitz c32
        refine lv_aload_n hx hb dX11_get_35 rfl (lv_at hl 1 rfl) ?_
        refine va_get (D := D) (ci := 9) (v := .ref (b 4)) (C := RX11) (T := TX11) (N := 17) hx hb hts inX11 hown hKN.1 hP 0 rfl rfl 4 (by decide) (hts (.fieldLink RX11 19 "TreeFamilyModel" "values" "[I") (by decide +kernel)) (fun _ h9 => h9) rfl dX11_get_36 ?_
        refine lv_bipush (v := 64) hx hb dX11_get_39 (by decide) ?_
        refine lv_iload_n hx hb dX11_get_41 rfl (lv_at hl 2 rfl) ?_
        refine lv_imul hx hb dX11_get_42 ?_
        refine xr_top (y := nI (64 * j)) (pk_mul 64 j) ?_
        refine lv_iload_n hx hb dX11_get_43 rfl (lv_at hl 0 rfl) ?_
        refine lv_iadd hx hb dX11_get_44 ?_
        refine xr_top (y := nI ((64 * j) + (plQ q j key))) (nI_add (64 * j) (plQ q j key)) ?_
        refine xr_ild hx hb hKN.1 hP 4 0 rfl rfl (j := (64 * j) + (plQ q j key)) (by omega) (by decide) dX11_get_45 ?_
        refine lv_goto (tgt := 54) hx hb dX11_get_46 (by decide) ?_
        exact W.iret (v := (q.vs ((64 * j) + (plQ q j key)))) hx hb hr (fun t9 e9 w9 => ⟨⟨_, (0, q.oo, q.zz, q.ks, q.vs, q.cg, q.hw, q.lo, q.hg, q.wk, q.kw, q.mn, q.gv, q.cp, q.ho, q.nk, q.nv), rfl, PO_same hj (F_get_1 c32 (congrArg Prod.snd (row_getD j (hitz c32)))) hq rfl rfl, by rw [e9]; exact hP, hD⟩, hS.F e9⟩) hS.2.2 dX11_get_54
    · skip
      exact absurd c9 (by decide)

-- TreeFamilyModel.near
set_option maxHeartbeats 4000000 in
set_option maxRecDepth 100000 in
theorem c_X11_near (l : Launch) (D : va_G) (ca : Nat → ClassId) (b : Nat → Nat) (sz : Nat) (q : QS) (which key : Int32) (mm : Int32) (hq : WQ q) : Met l yX11_near wsX11_near ({ frames := 2, cells := 0, slots := 0, locals := 46 } : Room) (xPc D (TY ca) [.ref (b 0), .int mm, .int which, .int key] (wQ ca b q) sz) (va_Qi (fun (r : Int32) (u : QS) => PO 0 (F_near which key) mm q r u) (xB D (wQ ca b) (va_A (wQ ca b q) sz)) (va_A (wQ ca b q) sz)) 0 0 (va_A (wQ ca b q) sz) := by
  refine Met.ofW (cc := cX11_near) (maxL := 7) (ret := (some .int)) (by decide) rfl ?_
  intro p e s m args below meth c s₁ B hml hv
  obtain ⟨rfl, hsz, hP, hKN, hD0⟩ := hv
  have hx := B.exec
  have hb := B.bytes
  have hr := B.returns
  have hts := atoms_spec (ws := wsX11_near) B.pre
  have hown : s.vm.findClass RX11 = some m.cls := findClass_of_methodNamed B.named
  have hlocks := B.notSynchronized
  have inX11 : ∀ w ∈ wsX110, w ∈ wsX11_near := by decide +kernel
  subst hsz
  have hD := hD0.self (sz := s.heap.size)
  generalize hAe : va_A (wQ ca b q) s.heap.size = A at hD ⊢
  have hA : ∀ q : Nat, s.heap.size ≤ q → A q := fun q h => by rw [← hAe]; exact Or.inr h
  have hS : va_S A s.heap s.heap [] := va_S.rf
  have hl := lv_entry ([.ref (b 0), .int mm, .int which, .int key]) (n := 7) (Nat.le_of_ble_eq_true rfl)
  rw [lg_entry_eq]
  generalize (lg_sl ([.ref (b 0), .int mm, .int which, .int key]) ++ List.replicate (7 - (lg_sl ([.ref (b 0), .int mm, .int which, .int key])).length) Slot.unset).toArray = ls at hl ⊢
  have hl : lv_has ls 7 [(0, .ref (b 0)), (1, .int mm), (2, .int which), (3, .int key)] := hl
  rcases isB3 mm with hmm | ⟨j, hj, hmj⟩
  · skip
    refine lv_aload_n hx hb dX11_near_0 rfl (lv_at hl 0 rfl) ?_
    refine lv_iconst (v := 0) hx hb dX11_near_1 (by decide) ?_
    refine va_put (D := D) (ci := 9) (v := .int 0) (ty := .int) (C := RX11) (T := TX11) (N := 17) hx hb hts inX11 tyX11 tyX11_ok nmX11 hown hKN.1 hP hD hS 0 rfl rfl 0 (by decide) (hts (.fieldLink RX11 59 "TreeFamilyModel" "code" "I") (by decide +kernel)) (fun _ h9 => h9) rfl (by decide +kernel) rfl rfl (Nat.le_of_ble_eq_true rfl) dX11_near_2 (fun H locs hP hD hS => ?_)
    have hP : va_P D vwCl (wQx ca b 0 q.oo q.zz q.ks q.vs q.cg q.hw q.lo q.hg q.wk q.kw q.mn q.gv q.cp q.ho q.nk q.nv) H := hP
    have hD : va_D A (wQx ca b 0 q.oo q.zz q.ks q.vs q.cg q.hw q.lo q.hg q.wk q.kw q.mn q.gv q.cp q.ho q.nk q.nv) := hD
    refine lv_iload_n hx hb dX11_near_5 rfl (lv_at hl 1 rfl) ?_
    refine xs_i (va_runS (As := [.int mm]) (rest := []) ⟨hx, hb, hml, hown, hts⟩ (c_X11_isMap l _) (va_cwS 1 hts gX11_near_X11_isMap rfl rfl rfl (by decide +kernel) ⟨(Nat.le_of_ble_eq_true rfl), (Nat.le_of_ble_eq_true rfl)⟩) xPreT rfl rfl hl.1 rfl (lv_room (Nat.le_of_ble_eq_true rfl)) dX11_near_6 ⟨(Nat.le_of_ble_eq_true rfl), (Nat.le_of_ble_eq_true rfl)⟩) (fun r6 er6 => ?_)
    subst er6
    refine xr_top (y := 0) (by rw [hmm]; rfl) ?_
    refine lv_if_eq (tgt := 21) hx hb dX11_near_9 (by decide) (fun c9 => ?_) (fun c9 => ?_)
    · skip
      refine lv_aload_n hx hb dX11_near_21 rfl (lv_at hl 0 rfl) ?_
      refine lv_iconst (v := 1) hx hb dX11_near_22 (by decide) ?_
      refine xc_i (wr := []) (va_runV (As := [.int 1]) (rest := []) ⟨hx, hb, hml, hown, hts⟩ (c_X11_refuse l D ca b _ (0, q.oo, q.zz, q.ks, q.vs, q.cg, q.hw, q.lo, q.hg, q.wk, q.kw, q.mn, q.gv, q.cp, q.ho, q.nk, q.nv) 1) (cwV 1 hts gX11_near_X11_refuse rfl rfl rfl (by decide +kernel) ⟨(Nat.le_of_ble_eq_true rfl), (Nat.le_of_ble_eq_true rfl)⟩) (xPreV hKN hP hD [0, 1, 2, 3, 4, 5, 6, 7, 8, 9, 10, 11, 12, 13, 14, 15, 16] (by decide) rfl (q0 := 0) rfl rfl rfl) rfl rfl hl.1 rfl (lv_room (Nat.le_of_ble_eq_true rfl)) dX11_near_23 ⟨(Nat.le_of_ble_eq_true rfl), (Nat.le_of_ble_eq_true rfl)⟩) hP hD hS hA [0, 1, 2, 3, 4, 5, 6, 7, 8, 9, 10, 11, 12, 13, 14, 15, 16] [] rfl rfl (by decide) (by decide) (fun r23 u23 H locs hu23 hP hD hS => ?_)
      obtain ⟨er23, eu23⟩ := hu23
      have eu23 := eu23.symm
      subst eu23
      subst er23
      have hP : va_P D vwCl (wQx ca b 1 q.oo q.zz q.ks q.vs q.cg q.hw q.lo q.hg q.wk q.kw q.mn q.gv q.cp q.ho q.nk q.nv) H := hP
      have hD : va_D A (wQx ca b 1 q.oo q.zz q.ks q.vs q.cg q.hw q.lo q.hg q.wk q.kw q.mn q.gv q.cp q.ho q.nk q.nv) := hD
      exact W.iret (v := 0) hx hb hr (fun t9 e9 w9 => ⟨⟨_, (1, q.oo, q.zz, q.ks, q.vs, q.cg, q.hw, q.lo, q.hg, q.wk, q.kw, q.mn, q.gv, q.cp, q.ho, q.nk, q.nv), rfl, PO_bad hmm hq rfl rfl rfl, by rw [e9]; exact hP, hD⟩, hS.F e9⟩) hS.2.2 dX11_near_26
    · skip
      exact absurd c9 (by decide)
  · subst hmj
    have hz6 := hq.1 j
    have hh3 := hq.2.1 j
    refine lv_aload_n hx hb dX11_near_0 rfl (lv_at hl 0 rfl) ?_
    refine lv_iconst (v := 0) hx hb dX11_near_1 (by decide) ?_
    refine va_put (D := D) (ci := 9) (v := .int 0) (ty := .int) (C := RX11) (T := TX11) (N := 17) hx hb hts inX11 tyX11 tyX11_ok nmX11 hown hKN.1 hP hD hS 0 rfl rfl 0 (by decide) (hts (.fieldLink RX11 59 "TreeFamilyModel" "code" "I") (by decide +kernel)) (fun _ h9 => h9) rfl (by decide +kernel) rfl rfl (Nat.le_of_ble_eq_true rfl) dX11_near_2 (fun H locs hP hD hS => ?_)
    have hP : va_P D vwCl (wQx ca b 0 q.oo q.zz q.ks q.vs q.cg q.hw q.lo q.hg q.wk q.kw q.mn q.gv q.cp q.ho q.nk q.nv) H := hP
    have hD : va_D A (wQx ca b 0 q.oo q.zz q.ks q.vs q.cg q.hw q.lo q.hg q.wk q.kw q.mn q.gv q.cp q.ho q.nk q.nv) := hD
    refine lv_iload_n hx hb dX11_near_5 rfl (lv_at hl 1 rfl) ?_
    refine xs_i (va_runS (As := [.int (nI j)]) (rest := []) ⟨hx, hb, hml, hown, hts⟩ (c_X11_isMap l _) (va_cwS 1 hts gX11_near_X11_isMap rfl rfl rfl (by decide +kernel) ⟨(Nat.le_of_ble_eq_true rfl), (Nat.le_of_ble_eq_true rfl)⟩) xPreT rfl rfl hl.1 rfl (lv_room (Nat.le_of_ble_eq_true rfl)) dX11_near_6 ⟨(Nat.le_of_ble_eq_true rfl), (Nat.le_of_ble_eq_true rfl)⟩) (fun r6 er6 => ?_)
    subst er6
    refine xr_top (y := 1) (by rw [isB3_ok hj]; rfl) ?_
    refine lv_if_eq (tgt := 21) hx hb dX11_near_9 (by decide) (fun c9 => ?_) (fun c9 => ?_)
    · skip
      exact absurd c9 (by decide)
    · skip
      refine lv_iload_n hx hb dX11_near_12 rfl (lv_at hl 2 rfl) ?_
      refine lv_if_lt (tgt := 21) hx hb dX11_near_13 (by decide) (fun c13 => ?_) (fun c13 => ?_)
      · skip
        refine lv_aload_n hx hb dX11_near_21 rfl (lv_at hl 0 rfl) ?_
        refine lv_iconst (v := 1) hx hb dX11_near_22 (by decide) ?_
        refine xc_i (wr := []) (va_runV (As := [.int 1]) (rest := []) ⟨hx, hb, hml, hown, hts⟩ (c_X11_refuse l D ca b _ (0, q.oo, q.zz, q.ks, q.vs, q.cg, q.hw, q.lo, q.hg, q.wk, q.kw, q.mn, q.gv, q.cp, q.ho, q.nk, q.nv) 1) (cwV 1 hts gX11_near_X11_refuse rfl rfl rfl (by decide +kernel) ⟨(Nat.le_of_ble_eq_true rfl), (Nat.le_of_ble_eq_true rfl)⟩) (xPreV hKN hP hD [0, 1, 2, 3, 4, 5, 6, 7, 8, 9, 10, 11, 12, 13, 14, 15, 16] (by decide) rfl (q0 := 0) rfl rfl rfl) rfl rfl hl.1 rfl (lv_room (Nat.le_of_ble_eq_true rfl)) dX11_near_23 ⟨(Nat.le_of_ble_eq_true rfl), (Nat.le_of_ble_eq_true rfl)⟩) hP hD hS hA [0, 1, 2, 3, 4, 5, 6, 7, 8, 9, 10, 11, 12, 13, 14, 15, 16] [] rfl rfl (by decide) (by decide) (fun r23 u23 H locs hu23 hP hD hS => ?_)
        obtain ⟨er23, eu23⟩ := hu23
        have eu23 := eu23.symm
        subst eu23
        subst er23
        have hP : va_P D vwCl (wQx ca b 1 q.oo q.zz q.ks q.vs q.cg q.hw q.lo q.hg q.wk q.kw q.mn q.gv q.cp q.ho q.nk q.nv) H := hP
        have hD : va_D A (wQx ca b 1 q.oo q.zz q.ks q.vs q.cg q.hw q.lo q.hg q.wk q.kw q.mn q.gv q.cp q.ho q.nk q.nv) := hD
        exact W.iret (v := 0) hx hb hr (fun t9 e9 w9 => ⟨⟨_, (1, q.oo, q.zz, q.ks, q.vs, q.cg, q.hw, q.lo, q.hg, q.wk, q.kw, q.mn, q.gv, q.cp, q.ho, q.nk, q.nv), rfl, by first | exact PO_same hj (F_near_1 (isB_lt c13)) hq rfl rfl | exact PO_same hj (F_near_1 (isB_ge (gt34 c18))) hq rfl rfl, by rw [e9]; exact hP, hD⟩, hS.F e9⟩) hS.2.2 dX11_near_26
      · skip
        refine lv_iload_n hx hb dX11_near_16 rfl (lv_at hl 2 rfl) ?_
        refine lv_iconst (v := 3) hx hb dX11_near_17 (by decide) ?_
        refine lv_icmp_le (tgt := 27) hx hb dX11_near_18 (by decide) (fun c18 => ?_) (fun c18 => ?_)
        · skip
          refine lv_aload_n hx hb dX11_near_27 rfl (lv_at hl 0 rfl) ?_
          refine lv_iload_n hx hb dX11_near_28 rfl (lv_at hl 1 rfl) ?_
          refine lv_iload_n hx hb dX11_near_29 rfl (lv_at hl 3 rfl) ?_
          refine xc_i (wr := []) (va_runV (As := [.int (nI j), .int key]) (rest := []) ⟨hx, hb, hml, hown, hts⟩ (c_X11_place l D ca b _ (0, q.oo, q.zz, q.ks, q.vs, q.cg, q.hw, q.lo, q.hg, q.wk, q.kw, q.mn, q.gv, q.cp, q.ho, q.nk, q.nv) j key hq hj) (cwV 2 hts gX11_near_X11_place rfl rfl rfl (by decide +kernel) ⟨(Nat.le_of_ble_eq_true rfl), (Nat.le_of_ble_eq_true rfl)⟩) (xPreV hKN hP hD [0, 1, 2, 3, 4, 5, 6, 7, 8, 9, 10, 11, 12, 13, 14, 15, 16] (by decide) rfl (q0 := 0) rfl rfl rfl) rfl rfl hl.1 rfl (lv_room (Nat.le_of_ble_eq_true rfl)) dX11_near_30 ⟨(Nat.le_of_ble_eq_true rfl), (Nat.le_of_ble_eq_true rfl)⟩) hP hD hS hA [0, 1, 2, 3, 4, 5, 6, 7, 8, 9, 10, 11, 12, 13, 14, 15, 16] [] rfl rfl (by decide) (by decide) (fun r30 u30 H locs hu30 hP hD hS => ?_)
          obtain ⟨er30, eu30⟩ := hu30
          have eu30 := eu30.symm
          subst eu30
          have hP : va_P D vwCl (wQx ca b 0 q.oo q.zz q.ks q.vs q.cg q.hw q.lo q.hg q.wk q.kw q.mn q.gv q.cp q.ho q.nk q.nv) H := hP
          have hD : va_D A (wQx ca b 0 q.oo q.zz q.ks q.vs q.cg q.hw q.lo q.hg q.wk q.kw q.mn q.gv q.cp q.ho q.nk q.nv) := hD
          have er30 : r30 = nI (plQ q j key) := er30
          subst er30
          refine lv_istore (lv' := [(4, .int (nI (plQ q j key))), (0, .ref (b 0)), (1, .int (nI j)), (2, .int which), (3, .int key)]) hx hb dX11_near_33 hl (by decide) rfl (fun ls hl => ?_)
          refine lv_aload_n hx hb dX11_near_35 rfl (lv_at hl 1 rfl) ?_
          refine lv_iload_n hx hb dX11_near_36 rfl (lv_at hl 2 rfl) ?_
          refine lv_iload hx hb dX11_near_37 (lv_at hl 0 rfl) ?_
          refine lv_iload_n hx hb dX11_near_39 rfl (lv_at hl 4 rfl) ?_
          refine xc_i (wr := []) (va_runV (As := [.int (nI j), .int (nI (plQ q j key)), .int key]) (rest := []) ⟨hx, hb, hml, hown, hts⟩ (c_X11_isAt l D ca b _ (0, q.oo, q.zz, q.ks, q.vs, q.cg, q.hw, q.lo, q.hg, q.wk, q.kw, q.mn, q.gv, q.cp, q.ho, q.nk, q.nv) j (plQ q j key) key hq hj (pl60 (q := q) hq j key)) (cwV 3 hts gX11_near_X11_isAt rfl rfl rfl (by decide +kernel) ⟨(Nat.le_of_ble_eq_true rfl), (Nat.le_of_ble_eq_true rfl)⟩) (xPreV hKN hP hD [0, 1, 2, 3, 4, 5, 6, 7, 8, 9, 10, 11, 12, 13, 14, 15, 16] (by decide) rfl (q0 := 0) rfl rfl rfl) rfl rfl hl.1 rfl (lv_room (Nat.le_of_ble_eq_true rfl)) dX11_near_40 ⟨(Nat.le_of_ble_eq_true rfl), (Nat.le_of_ble_eq_true rfl)⟩) hP hD hS hA [0, 1, 2, 3, 4, 5, 6, 7, 8, 9, 10, 11, 12, 13, 14, 15, 16] [] rfl rfl (by decide) (by decide) (fun r40 u40 H locs hu40 hP hD hS => ?_)
          obtain ⟨er40, eu40⟩ := hu40
          have eu40 := eu40.symm
          subst eu40
          have hP : va_P D vwCl (wQx ca b 0 q.oo q.zz q.ks q.vs q.cg q.hw q.lo q.hg q.wk q.kw q.mn q.gv q.cp q.ho q.nk q.nv) H := hP
          have hD : va_D A (wQx ca b 0 q.oo q.zz q.ks q.vs q.cg q.hw q.lo q.hg q.wk q.kw q.mn q.gv q.cp q.ho q.nk q.nv) := hD
          have er40 : r40 = bI (atE (q.oo j) key (plQ q j key) (enQ q j)) := er40
          subst er40
          refine xr_top (y := bI (hitQ q j key)) (congrArg bI (atE_hit _ _ _)) ?_
          refine lv_istore (lv' := [(5, .int (bI (hitQ q j key))), (4, .int (nI (plQ q j key))), (0, .ref (b 0)), (1, .int (nI j)), (2, .int which), (3, .int key)]) hx hb dX11_near_43 hl (by decide) rfl (fun ls hl => ?_)
          have hpl := pl60 hq j key
          refine lv_iload_n hx hb dX11_near_45 rfl (lv_at hl 4 rfl) ?_
          refine lv_iconst (v := 1) hx hb dX11_near_46 (by decide) ?_
          refine lv_icmp_ne (tgt := 55) hx hb dX11_near_47 (by decide) (fun c47 => ?_) (fun c47 => ?_)
          · skip
            refine lv_iload_n hx hb dX11_near_55 rfl (lv_at hl 4 rfl) ?_
            refine lv_iconst (v := 2) hx hb dX11_near_56 (by decide) ?_
            refine lv_icmp_ne (tgt := 67) hx hb dX11_near_57 (by decide) (fun c57 => ?_) (fun c57 => ?_)
            · skip
              refine lv_iload_n hx hb dX11_near_67 rfl (lv_at hl 4 rfl) ?_
              refine lv_if_ne (tgt := 88) hx hb dX11_near_68 (by decide) (fun c68 => ?_) (fun c68 => ?_)
              · skip
                refine lv_iload hx hb dX11_near_88 (lv_at hl 0 rfl) ?_
                refine lv_if_eq (tgt := 100) hx hb dX11_near_90 (by decide) (fun c90 => ?_) (fun c90 => ?_)
                · skip
                  have c90 := bI_0.mp c90
                  refine lv_iload hx hb dX11_near_100 (lv_at hl 1 rfl) ?_
                  refine lv_istore (lv' := [(6, .int (nI (plQ q j key))), (5, .int (bI (hitQ q j key))), (4, .int (nI (plQ q j key))), (0, .ref (b 0)), (1, .int (nI j)), (2, .int which), (3, .int key)]) hx hb dX11_near_102 hl (by decide) rfl (fun ls hl => ?_)
                  refine lv_iload hx hb dX11_near_104 (lv_at hl 0 rfl) ?_
                  refine lv_if_lt (tgt := 120) hx hb dX11_near_106 (by decide) (fun c106 => ?_) (fun c106 => ?_)
                  · skip
                    exact absurd ((xn_lt (a := plQ q j key) (b := 0) (by omega) (by decide)).mp c106) (Nat.not_lt_zero _)
                  · skip
                    refine lv_iload hx hb dX11_near_109 (lv_at hl 0 rfl) ?_
                    refine lv_aload_n hx hb dX11_near_111 rfl (lv_at hl 3 rfl) ?_
                    refine va_get (D := D) (ci := 9) (v := .ref (b 2)) (C := RX11) (T := TX11) (N := 17) hx hb hts inX11 hown hKN.1 hP 0 rfl rfl 2 (by decide) (hts (.fieldLink RX11 13 "TreeFamilyModel" "size" "[I") (by decide +kernel)) (fun _ h9 => h9) rfl dX11_near_112 ?_
                    refine lv_iload_n hx hb dX11_near_115 rfl (lv_at hl 4 rfl) ?_
                    refine xr_ild hx hb hKN.1 hP 2 0 rfl rfl (j := j) (by omega) (by decide) dX11_near_116 ?_
                    refine lv_icmp_lt (tgt := 128) hx hb dX11_near_117 (by decide) (fun c117 => ?_) (fun c117 => ?_)
                    · skip
                      have c117 : (plQ q j key) < (q.zz j) := (xn_lt (a := (plQ q j key)) (b := (q.zz j)) (Nat.lt_of_le_of_lt (pl60 (q := q) hq j key) (by decide)) (Nat.lt_of_le_of_lt (hq.1 j) (by decide))).mp c117
                      refine lv_aload_n hx hb dX11_near_128 rfl (lv_at hl 3 rfl) ?_
                      refine va_get (D := D) (ci := 9) (v := .ref (b 3)) (C := RX11) (T := TX11) (N := 17) hx hb hts inX11 hown hKN.1 hP 0 rfl rfl 3 (by decide) (hts (.fieldLink RX11 16 "TreeFamilyModel" "keys" "[I") (by decide +kernel)) (fun _ h9 => h9) rfl dX11_near_129 ?_
                      refine lv_bipush (v := 64) hx hb dX11_near_132 (by decide) ?_
                      refine lv_iload_n hx hb dX11_near_134 rfl (lv_at hl 4 rfl) ?_
                      refine lv_imul hx hb dX11_near_135 ?_
                      refine xr_top (y := nI (64 * j)) (pk_mul 64 j) ?_
                      refine lv_iload hx hb dX11_near_136 (lv_at hl 0 rfl) ?_
                      refine lv_iadd hx hb dX11_near_138 ?_
                      refine xr_top (y := nI ((64 * j) + (plQ q j key))) (nI_add (64 * j) (plQ q j key)) ?_
                      refine xr_ild hx hb hKN.1 hP 3 0 rfl rfl (j := (64 * j) + (plQ q j key)) (by omega) (by decide) dX11_near_139 ?_
                      exact W.iret (v := (q.ks ((64 * j) + (plQ q j key)))) hx hb hr (fun t9 e9 w9 => ⟨⟨_, (0, q.oo, q.zz, q.ks, q.vs, q.cg, q.hw, q.lo, q.hg, q.wk, q.kw, q.mn, q.gv, q.cp, q.ho, q.nk, q.nv), rfl, PO_same hj (F_near_0 (k := plQ q j key) (isB_in c13 (le34 c18)) (by show nearK which (plQ q j key) (hitQ q j key) = _; first | rw [nearK, if_pos c47] | (rw [nearK, if_neg c47, if_pos c57]; omega) | (rw [nearK, if_neg c47, if_neg c57, if_pos c68, if_pos c73]) | (rw [nearK, if_neg c47, if_neg c57, if_pos c68, if_neg (by rw [c73]; decide)]; omega) | (rw [nearK, if_neg c47, if_neg c57, if_neg c68, if_pos c90]) | (rw [nearK, if_neg c47, if_neg c57, if_neg c68, if_neg (by rw [c90]; decide)])) (by rw [ab_len]; omega) (congrArg Prod.fst (row_getD j (by omega)))) hq rfl rfl, by rw [e9]; exact hP, hD⟩, hS.F e9⟩) hS.2.2 dX11_near_140
                    · skip
                      have c117 : ¬ (plQ q j key) < (q.zz j) := fun h9 => c117 ((xn_lt (a := (plQ q j key)) (b := (q.zz j)) (Nat.lt_of_le_of_lt (pl60 (q := q) hq j key) (by decide)) (Nat.lt_of_le_of_lt (hq.1 j) (by decide))).mpr h9)
                      refine lv_aload_n hx hb dX11_near_120 rfl (lv_at hl 3 rfl) ?_
                      refine lv_iconst (v := 2) hx hb dX11_near_121 (by decide) ?_
                      refine xc_i (wr := []) (va_runV (As := [.int 2]) (rest := []) ⟨hx, hb, hml, hown, hts⟩ (c_X11_refuse l D ca b _ (0, q.oo, q.zz, q.ks, q.vs, q.cg, q.hw, q.lo, q.hg, q.wk, q.kw, q.mn, q.gv, q.cp, q.ho, q.nk, q.nv) 2) (cwV 1 hts gX11_near_X11_refuse rfl rfl rfl (by decide +kernel) ⟨(Nat.le_of_ble_eq_true rfl), (Nat.le_of_ble_eq_true rfl)⟩) (xPreV hKN hP hD [0, 1, 2, 3, 4, 5, 6, 7, 8, 9, 10, 11, 12, 13, 14, 15, 16] (by decide) rfl (q0 := 0) rfl rfl rfl) rfl rfl hl.1 rfl (lv_room (Nat.le_of_ble_eq_true rfl)) dX11_near_122 ⟨(Nat.le_of_ble_eq_true rfl), (Nat.le_of_ble_eq_true rfl)⟩) hP hD hS hA [0, 1, 2, 3, 4, 5, 6, 7, 8, 9, 10, 11, 12, 13, 14, 15, 16] [] rfl rfl (by decide) (by decide) (fun r122 u122 H locs hu122 hP hD hS => ?_)
                      obtain ⟨er122, eu122⟩ := hu122
                      have eu122 := eu122.symm
                      subst eu122
                      subst er122
                      have hP : va_P D vwCl (wQx ca b 2 q.oo q.zz q.ks q.vs q.cg q.hw q.lo q.hg q.wk q.kw q.mn q.gv q.cp q.ho q.nk q.nv) H := hP
                      have hD : va_D A (wQx ca b 2 q.oo q.zz q.ks q.vs q.cg q.hw q.lo q.hg q.wk q.kw q.mn q.gv q.cp q.ho q.nk q.nv) := hD
                      refine lv_goto (tgt := 140) hx hb dX11_near_125 (by decide) ?_
                      exact W.iret (v := 0) hx hb hr (fun t9 e9 w9 => ⟨⟨_, (2, q.oo, q.zz, q.ks, q.vs, q.cg, q.hw, q.lo, q.hg, q.wk, q.kw, q.mn, q.gv, q.cp, q.ho, q.nk, q.nv), rfl, PO_same hj (F_near_2 (n := plQ q j key + 1) (isB_in c13 (le34 c18)) (by show nearK which (plQ q j key) (hitQ q j key) = _; first | rw [nearK, if_pos c47] | (rw [nearK, if_neg c47, if_pos c57]; omega) | (rw [nearK, if_neg c47, if_neg c57, if_pos c68, if_pos c73]) | (rw [nearK, if_neg c47, if_neg c57, if_pos c68, if_neg (by rw [c73]; decide)]; omega) | (rw [nearK, if_neg c47, if_neg c57, if_neg c68, if_pos c90]) | (rw [nearK, if_neg c47, if_neg c57, if_neg c68, if_neg (by rw [c90]; decide)])) (Or.inr (by rw [ab_len]; omega))) hq rfl rfl, by rw [e9]; exact hP, hD⟩, hS.F e9⟩) hS.2.2 dX11_near_140
                · skip
                  have c90 := bI_ne.mp c90
                  refine lv_iload hx hb dX11_near_93 (lv_at hl 1 rfl) ?_
                  refine lv_iconst (v := 1) hx hb dX11_near_95 (by decide) ?_
                  refine lv_iadd hx hb dX11_near_96 ?_
                  refine xr_top (y := nI ((plQ q j key) + 1)) (nI_add (plQ q j key) 1) ?_
                  refine lv_goto (tgt := 102) hx hb dX11_near_97 (by decide) ?_
                  refine lv_istore (lv' := [(6, .int (nI ((plQ q j key) + 1))), (5, .int (bI (hitQ q j key))), (4, .int (nI (plQ q j key))), (0, .ref (b 0)), (1, .int (nI j)), (2, .int which), (3, .int key)]) hx hb dX11_near_102 hl (by decide) rfl (fun ls hl => ?_)
                  refine lv_iload hx hb dX11_near_104 (lv_at hl 0 rfl) ?_
                  refine lv_if_lt (tgt := 120) hx hb dX11_near_106 (by decide) (fun c106 => ?_) (fun c106 => ?_)
                  · skip
                    exact absurd ((xn_lt (a := (plQ q j key) + 1) (b := 0) (by omega) (by decide)).mp c106) (Nat.not_lt_zero _)
                  · skip
                    refine lv_iload hx hb dX11_near_109 (lv_at hl 0 rfl) ?_
                    refine lv_aload_n hx hb dX11_near_111 rfl (lv_at hl 3 rfl) ?_
                    refine va_get (D := D) (ci := 9) (v := .ref (b 2)) (C := RX11) (T := TX11) (N := 17) hx hb hts inX11 hown hKN.1 hP 0 rfl rfl 2 (by decide) (hts (.fieldLink RX11 13 "TreeFamilyModel" "size" "[I") (by decide +kernel)) (fun _ h9 => h9) rfl dX11_near_112 ?_
                    refine lv_iload_n hx hb dX11_near_115 rfl (lv_at hl 4 rfl) ?_
                    refine xr_ild hx hb hKN.1 hP 2 0 rfl rfl (j := j) (by omega) (by decide) dX11_near_116 ?_
                    refine lv_icmp_lt (tgt := 128) hx hb dX11_near_117 (by decide) (fun c117 => ?_) (fun c117 => ?_)
                    · skip
                      have c117 : ((plQ q j key) + 1) < (q.zz j) := (xn_lt (a := ((plQ q j key) + 1)) (b := (q.zz j)) (by omega) (Nat.lt_of_le_of_lt (hq.1 j) (by decide))).mp c117
                      refine lv_aload_n hx hb dX11_near_128 rfl (lv_at hl 3 rfl) ?_
                      refine va_get (D := D) (ci := 9) (v := .ref (b 3)) (C := RX11) (T := TX11) (N := 17) hx hb hts inX11 hown hKN.1 hP 0 rfl rfl 3 (by decide) (hts (.fieldLink RX11 16 "TreeFamilyModel" "keys" "[I") (by decide +kernel)) (fun _ h9 => h9) rfl dX11_near_129 ?_
                      refine lv_bipush (v := 64) hx hb dX11_near_132 (by decide) ?_
                      refine lv_iload_n hx hb dX11_near_134 rfl (lv_at hl 4 rfl) ?_
                      refine lv_imul hx hb dX11_near_135 ?_
                      refine xr_top (y := nI (64 * j)) (pk_mul 64 j) ?_
                      refine lv_iload hx hb dX11_near_136 (lv_at hl 0 rfl) ?_
                      refine lv_iadd hx hb dX11_near_138 ?_
                      refine xr_top (y := nI ((64 * j) + ((plQ q j key) + 1))) (nI_add (64 * j) ((plQ q j key) + 1)) ?_
                      refine xr_ild hx hb hKN.1 hP 3 0 rfl rfl (j := (64 * j) + ((plQ q j key) + 1)) (by omega) (by decide) dX11_near_139 ?_
                      exact W.iret (v := (q.ks ((64 * j) + ((plQ q j key) + 1)))) hx hb hr (fun t9 e9 w9 => ⟨⟨_, (0, q.oo, q.zz, q.ks, q.vs, q.cg, q.hw, q.lo, q.hg, q.wk, q.kw, q.mn, q.gv, q.cp, q.ho, q.nk, q.nv), rfl, PO_same hj (F_near_0 (k := (plQ q j key) + 1) (isB_in c13 (le34 c18)) (by show nearK which (plQ q j key) (hitQ q j key) = _; first | rw [nearK, if_pos c47] | (rw [nearK, if_neg c47, if_pos c57]; omega) | (rw [nearK, if_neg c47, if_neg c57, if_pos c68, if_pos c73]) | (rw [nearK, if_neg c47, if_neg c57, if_pos c68, if_neg (by rw [c73]; decide)]; omega) | (rw [nearK, if_neg c47, if_neg c57, if_neg c68, if_pos c90]) | (rw [nearK, if_neg c47, if_neg c57, if_neg c68, if_neg (by rw [c90]; decide)])) (by rw [ab_len]; omega) (congrArg Prod.fst (row_getD j (by omega)))) hq rfl rfl, by rw [e9]; exact hP, hD⟩, hS.F e9⟩) hS.2.2 dX11_near_140
                    · skip
                      have c117 : ¬ ((plQ q j key) + 1) < (q.zz j) := fun h9 => c117 ((xn_lt (a := ((plQ q j key) + 1)) (b := (q.zz j)) (by omega) (Nat.lt_of_le_of_lt (hq.1 j) (by decide))).mpr h9)
                      refine lv_aload_n hx hb dX11_near_120 rfl (lv_at hl 3 rfl) ?_
                      refine lv_iconst (v := 2) hx hb dX11_near_121 (by decide) ?_
                      refine xc_i (wr := []) (va_runV (As := [.int 2]) (rest := []) ⟨hx, hb, hml, hown, hts⟩ (c_X11_refuse l D ca b _ (0, q.oo, q.zz, q.ks, q.vs, q.cg, q.hw, q.lo, q.hg, q.wk, q.kw, q.mn, q.gv, q.cp, q.ho, q.nk, q.nv) 2) (cwV 1 hts gX11_near_X11_refuse rfl rfl rfl (by decide +kernel) ⟨(Nat.le_of_ble_eq_true rfl), (Nat.le_of_ble_eq_true rfl)⟩) (xPreV hKN hP hD [0, 1, 2, 3, 4, 5, 6, 7, 8, 9, 10, 11, 12, 13, 14, 15, 16] (by decide) rfl (q0 := 0) rfl rfl rfl) rfl rfl hl.1 rfl (lv_room (Nat.le_of_ble_eq_true rfl)) dX11_near_122 ⟨(Nat.le_of_ble_eq_true rfl), (Nat.le_of_ble_eq_true rfl)⟩) hP hD hS hA [0, 1, 2, 3, 4, 5, 6, 7, 8, 9, 10, 11, 12, 13, 14, 15, 16] [] rfl rfl (by decide) (by decide) (fun r122 u122 H locs hu122 hP hD hS => ?_)
                      obtain ⟨er122, eu122⟩ := hu122
                      have eu122 := eu122.symm
                      subst eu122
                      subst er122
                      have hP : va_P D vwCl (wQx ca b 2 q.oo q.zz q.ks q.vs q.cg q.hw q.lo q.hg q.wk q.kw q.mn q.gv q.cp q.ho q.nk q.nv) H := hP
                      have hD : va_D A (wQx ca b 2 q.oo q.zz q.ks q.vs q.cg q.hw q.lo q.hg q.wk q.kw q.mn q.gv q.cp q.ho q.nk q.nv) := hD
                      refine lv_goto (tgt := 140) hx hb dX11_near_125 (by decide) ?_
                      exact W.iret (v := 0) hx hb hr (fun t9 e9 w9 => ⟨⟨_, (2, q.oo, q.zz, q.ks, q.vs, q.cg, q.hw, q.lo, q.hg, q.wk, q.kw, q.mn, q.gv, q.cp, q.ho, q.nk, q.nv), rfl, PO_same hj (F_near_2 (n := (plQ q j key) + 1 + 1) (isB_in c13 (le34 c18)) (by show nearK which (plQ q j key) (hitQ q j key) = _; first | rw [nearK, if_pos c47] | (rw [nearK, if_neg c47, if_pos c57]; omega) | (rw [nearK, if_neg c47, if_neg c57, if_pos c68, if_pos c73]) | (rw [nearK, if_neg c47, if_neg c57, if_pos c68, if_neg (by rw [c73]; decide)]; omega) | (rw [nearK, if_neg c47, if_neg c57, if_neg c68, if_pos c90]) | (rw [nearK, if_neg c47, if_neg c57, if_neg c68, if_neg (by rw [c90]; decide)])) (Or.inr (by rw [ab_len]; omega))) hq rfl rfl, by rw [e9]; exact hP, hD⟩, hS.F e9⟩) hS.2.2 dX11_near_140
              · skip
                refine lv_iload hx hb dX11_near_71 (lv_at hl 0 rfl) ?_
                refine lv_if_eq (tgt := 81) hx hb dX11_near_73 (by decide) (fun c73 => ?_) (fun c73 => ?_)
                · skip
                  have c73 := bI_0.mp c73
                  refine lv_iload hx hb dX11_near_81 (lv_at hl 1 rfl) ?_
                  refine lv_iconst (v := 1) hx hb dX11_near_83 (by decide) ?_
                  refine lv_isub hx hb dX11_near_84 ?_
                  refine lv_goto (tgt := 102) hx hb dX11_near_85 (by decide) ?_
                  refine lv_istore (lv' := [(6, .int ((nI (plQ q j key)) - 1)), (5, .int (bI (hitQ q j key))), (4, .int (nI (plQ q j key))), (0, .ref (b 0)), (1, .int (nI j)), (2, .int which), (3, .int key)]) hx hb dX11_near_102 hl (by decide) rfl (fun ls hl => ?_)
                  refine lv_iload hx hb dX11_near_104 (lv_at hl 0 rfl) ?_
                  refine lv_if_lt (tgt := 120) hx hb dX11_near_106 (by decide) (fun c106 => ?_) (fun c106 => ?_)
                  · skip
                    have c106 := (m1_lt hpl).mp c106
                    refine lv_aload_n hx hb dX11_near_120 rfl (lv_at hl 3 rfl) ?_
                    refine lv_iconst (v := 2) hx hb dX11_near_121 (by decide) ?_
                    refine xc_i (wr := []) (va_runV (As := [.int 2]) (rest := []) ⟨hx, hb, hml, hown, hts⟩ (c_X11_refuse l D ca b _ (0, q.oo, q.zz, q.ks, q.vs, q.cg, q.hw, q.lo, q.hg, q.wk, q.kw, q.mn, q.gv, q.cp, q.ho, q.nk, q.nv) 2) (cwV 1 hts gX11_near_X11_refuse rfl rfl rfl (by decide +kernel) ⟨(Nat.le_of_ble_eq_true rfl), (Nat.le_of_ble_eq_true rfl)⟩) (xPreV hKN hP hD [0, 1, 2, 3, 4, 5, 6, 7, 8, 9, 10, 11, 12, 13, 14, 15, 16] (by decide) rfl (q0 := 0) rfl rfl rfl) rfl rfl hl.1 rfl (lv_room (Nat.le_of_ble_eq_true rfl)) dX11_near_122 ⟨(Nat.le_of_ble_eq_true rfl), (Nat.le_of_ble_eq_true rfl)⟩) hP hD hS hA [0, 1, 2, 3, 4, 5, 6, 7, 8, 9, 10, 11, 12, 13, 14, 15, 16] [] rfl rfl (by decide) (by decide) (fun r122 u122 H locs hu122 hP hD hS => ?_)
                    obtain ⟨er122, eu122⟩ := hu122
                    have eu122 := eu122.symm
                    subst eu122
                    subst er122
                    have hP : va_P D vwCl (wQx ca b 2 q.oo q.zz q.ks q.vs q.cg q.hw q.lo q.hg q.wk q.kw q.mn q.gv q.cp q.ho q.nk q.nv) H := hP
                    have hD : va_D A (wQx ca b 2 q.oo q.zz q.ks q.vs q.cg q.hw q.lo q.hg q.wk q.kw q.mn q.gv q.cp q.ho q.nk q.nv) := hD
                    refine lv_goto (tgt := 140) hx hb dX11_near_125 (by decide) ?_
                    exact W.iret (v := 0) hx hb hr (fun t9 e9 w9 => ⟨⟨_, (2, q.oo, q.zz, q.ks, q.vs, q.cg, q.hw, q.lo, q.hg, q.wk, q.kw, q.mn, q.gv, q.cp, q.ho, q.nk, q.nv), rfl, PO_same hj (F_near_2 (n := 0) (isB_in c13 (le34 c18)) (by show nearK which (plQ q j key) (hitQ q j key) = _; first | rw [nearK, if_pos c47] | (rw [nearK, if_neg c47, if_pos c57]; omega) | (rw [nearK, if_neg c47, if_neg c57, if_pos c68, if_pos c73]) | (rw [nearK, if_neg c47, if_neg c57, if_pos c68, if_neg (by rw [c73]; decide)]; omega) | (rw [nearK, if_neg c47, if_neg c57, if_neg c68, if_pos c90]) | (rw [nearK, if_neg c47, if_neg c57, if_neg c68, if_neg (by rw [c90]; decide)])) (Or.inl rfl)) hq rfl rfl, by rw [e9]; exact hP, hD⟩, hS.F e9⟩) hS.2.2 dX11_near_140
                  · skip
                    have c106 : ¬ plQ q j key = 0 := fun h9 => c106 ((m1_lt hpl).mpr h9)
                    have e6 : nI (plQ q j key) - 1 = nI (plQ q j key - 1) := pk_sub (b := 1) (by omega)
                    rw [e6] at hl
                    refine lv_iload hx hb dX11_near_109 (lv_at hl 0 rfl) ?_
                    refine lv_aload_n hx hb dX11_near_111 rfl (lv_at hl 3 rfl) ?_
                    refine va_get (D := D) (ci := 9) (v := .ref (b 2)) (C := RX11) (T := TX11) (N := 17) hx hb hts inX11 hown hKN.1 hP 0 rfl rfl 2 (by decide) (hts (.fieldLink RX11 13 "TreeFamilyModel" "size" "[I") (by decide +kernel)) (fun _ h9 => h9) rfl dX11_near_112 ?_
                    refine lv_iload_n hx hb dX11_near_115 rfl (lv_at hl 4 rfl) ?_
                    refine xr_ild hx hb hKN.1 hP 2 0 rfl rfl (j := j) (by omega) (by decide) dX11_near_116 ?_
                    refine lv_icmp_lt (tgt := 128) hx hb dX11_near_117 (by decide) (fun c117 => ?_) (fun c117 => ?_)
                    · skip
                      have c117 : (plQ q j key - 1) < (q.zz j) := (xn_lt (a := (plQ q j key - 1)) (b := (q.zz j)) (by omega) (Nat.lt_of_le_of_lt (hq.1 j) (by decide))).mp c117
                      refine lv_aload_n hx hb dX11_near_128 rfl (lv_at hl 3 rfl) ?_
                      refine va_get (D := D) (ci := 9) (v := .ref (b 3)) (C := RX11) (T := TX11) (N := 17) hx hb hts inX11 hown hKN.1 hP 0 rfl rfl 3 (by decide) (hts (.fieldLink RX11 16 "TreeFamilyModel" "keys" "[I") (by decide +kernel)) (fun _ h9 => h9) rfl dX11_near_129 ?_
                      refine lv_bipush (v := 64) hx hb dX11_near_132 (by decide) ?_
                      refine lv_iload_n hx hb dX11_near_134 rfl (lv_at hl 4 rfl) ?_
                      refine lv_imul hx hb dX11_near_135 ?_
                      refine xr_top (y := nI (64 * j)) (pk_mul 64 j) ?_
                      refine lv_iload hx hb dX11_near_136 (lv_at hl 0 rfl) ?_
                      refine lv_iadd hx hb dX11_near_138 ?_
                      refine xr_top (y := nI ((64 * j) + (plQ q j key - 1))) (nI_add (64 * j) (plQ q j key - 1)) ?_
                      refine xr_ild hx hb hKN.1 hP 3 0 rfl rfl (j := (64 * j) + (plQ q j key - 1)) (by omega) (by decide) dX11_near_139 ?_
                      exact W.iret (v := (q.ks ((64 * j) + (plQ q j key - 1)))) hx hb hr (fun t9 e9 w9 => ⟨⟨_, (0, q.oo, q.zz, q.ks, q.vs, q.cg, q.hw, q.lo, q.hg, q.wk, q.kw, q.mn, q.gv, q.cp, q.ho, q.nk, q.nv), rfl, PO_same hj (F_near_0 (k := plQ q j key - 1) (isB_in c13 (le34 c18)) (by show nearK which (plQ q j key) (hitQ q j key) = _; first | rw [nearK, if_pos c47] | (rw [nearK, if_neg c47, if_pos c57]; omega) | (rw [nearK, if_neg c47, if_neg c57, if_pos c68, if_pos c73]) | (rw [nearK, if_neg c47, if_neg c57, if_pos c68, if_neg (by rw [c73]; decide)]; omega) | (rw [nearK, if_neg c47, if_neg c57, if_neg c68, if_pos c90]) | (rw [nearK, if_neg c47, if_neg c57, if_neg c68, if_neg (by rw [c90]; decide)])) (by rw [ab_len]; omega) (congrArg Prod.fst (row_getD j (by omega)))) hq rfl rfl, by rw [e9]; exact hP, hD⟩, hS.F e9⟩) hS.2.2 dX11_near_140
                    · skip
                      have c117 : ¬ (plQ q j key - 1) < (q.zz j) := fun h9 => c117 ((xn_lt (a := (plQ q j key - 1)) (b := (q.zz j)) (by omega) (Nat.lt_of_le_of_lt (hq.1 j) (by decide))).mpr h9)
                      refine lv_aload_n hx hb dX11_near_120 rfl (lv_at hl 3 rfl) ?_
                      refine lv_iconst (v := 2) hx hb dX11_near_121 (by decide) ?_
                      refine xc_i (wr := []) (va_runV (As := [.int 2]) (rest := []) ⟨hx, hb, hml, hown, hts⟩ (c_X11_refuse l D ca b _ (0, q.oo, q.zz, q.ks, q.vs, q.cg, q.hw, q.lo, q.hg, q.wk, q.kw, q.mn, q.gv, q.cp, q.ho, q.nk, q.nv) 2) (cwV 1 hts gX11_near_X11_refuse rfl rfl rfl (by decide +kernel) ⟨(Nat.le_of_ble_eq_true rfl), (Nat.le_of_ble_eq_true rfl)⟩) (xPreV hKN hP hD [0, 1, 2, 3, 4, 5, 6, 7, 8, 9, 10, 11, 12, 13, 14, 15, 16] (by decide) rfl (q0 := 0) rfl rfl rfl) rfl rfl hl.1 rfl (lv_room (Nat.le_of_ble_eq_true rfl)) dX11_near_122 ⟨(Nat.le_of_ble_eq_true rfl), (Nat.le_of_ble_eq_true rfl)⟩) hP hD hS hA [0, 1, 2, 3, 4, 5, 6, 7, 8, 9, 10, 11, 12, 13, 14, 15, 16] [] rfl rfl (by decide) (by decide) (fun r122 u122 H locs hu122 hP hD hS => ?_)
                      obtain ⟨er122, eu122⟩ := hu122
                      have eu122 := eu122.symm
                      subst eu122
                      subst er122
                      have hP : va_P D vwCl (wQx ca b 2 q.oo q.zz q.ks q.vs q.cg q.hw q.lo q.hg q.wk q.kw q.mn q.gv q.cp q.ho q.nk q.nv) H := hP
                      have hD : va_D A (wQx ca b 2 q.oo q.zz q.ks q.vs q.cg q.hw q.lo q.hg q.wk q.kw q.mn q.gv q.cp q.ho q.nk q.nv) := hD
                      refine lv_goto (tgt := 140) hx hb dX11_near_125 (by decide) ?_
                      exact W.iret (v := 0) hx hb hr (fun t9 e9 w9 => ⟨⟨_, (2, q.oo, q.zz, q.ks, q.vs, q.cg, q.hw, q.lo, q.hg, q.wk, q.kw, q.mn, q.gv, q.cp, q.ho, q.nk, q.nv), rfl, PO_same hj (F_near_2 (n := plQ q j key - 1 + 1) (isB_in c13 (le34 c18)) (by show nearK which (plQ q j key) (hitQ q j key) = _; first | rw [nearK, if_pos c47] | (rw [nearK, if_neg c47, if_pos c57]; omega) | (rw [nearK, if_neg c47, if_neg c57, if_pos c68, if_pos c73]) | (rw [nearK, if_neg c47, if_neg c57, if_pos c68, if_neg (by rw [c73]; decide)]; omega) | (rw [nearK, if_neg c47, if_neg c57, if_neg c68, if_pos c90]) | (rw [nearK, if_neg c47, if_neg c57, if_neg c68, if_neg (by rw [c90]; decide)])) (Or.inr (by rw [ab_len]; omega))) hq rfl rfl, by rw [e9]; exact hP, hD⟩, hS.F e9⟩) hS.2.2 dX11_near_140
                · skip
                  have c73 := bI_ne.mp c73
                  refine lv_iload hx hb dX11_near_76 (lv_at hl 1 rfl) ?_
                  refine lv_goto (tgt := 102) hx hb dX11_near_78 (by decide) ?_
                  refine lv_istore (lv' := [(6, .int (nI (plQ q j key))), (5, .int (bI (hitQ q j key))), (4, .int (nI (plQ q j key))), (0, .ref (b 0)), (1, .int (nI j)), (2, .int which), (3, .int key)]) hx hb dX11_near_102 hl (by decide) rfl (fun ls hl => ?_)
                  refine lv_iload hx hb dX11_near_104 (lv_at hl 0 rfl) ?_
                  refine lv_if_lt (tgt := 120) hx hb dX11_near_106 (by decide) (fun c106 => ?_) (fun c106 => ?_)
                  · skip
                    exact absurd ((xn_lt (a := plQ q j key) (b := 0) (by omega) (by decide)).mp c106) (Nat.not_lt_zero _)
                  · skip
                    refine lv_iload hx hb dX11_near_109 (lv_at hl 0 rfl) ?_
                    refine lv_aload_n hx hb dX11_near_111 rfl (lv_at hl 3 rfl) ?_
                    refine va_get (D := D) (ci := 9) (v := .ref (b 2)) (C := RX11) (T := TX11) (N := 17) hx hb hts inX11 hown hKN.1 hP 0 rfl rfl 2 (by decide) (hts (.fieldLink RX11 13 "TreeFamilyModel" "size" "[I") (by decide +kernel)) (fun _ h9 => h9) rfl dX11_near_112 ?_
                    refine lv_iload_n hx hb dX11_near_115 rfl (lv_at hl 4 rfl) ?_
                    refine xr_ild hx hb hKN.1 hP 2 0 rfl rfl (j := j) (by omega) (by decide) dX11_near_116 ?_
                    refine lv_icmp_lt (tgt := 128) hx hb dX11_near_117 (by decide) (fun c117 => ?_) (fun c117 => ?_)
                    · skip
                      have c117 : (plQ q j key) < (q.zz j) := (xn_lt (a := (plQ q j key)) (b := (q.zz j)) (Nat.lt_of_le_of_lt (pl60 (q := q) hq j key) (by decide)) (Nat.lt_of_le_of_lt (hq.1 j) (by decide))).mp c117
                      refine lv_aload_n hx hb dX11_near_128 rfl (lv_at hl 3 rfl) ?_
                      refine va_get (D := D) (ci := 9) (v := .ref (b 3)) (C := RX11) (T := TX11) (N := 17) hx hb hts inX11 hown hKN.1 hP 0 rfl rfl 3 (by decide) (hts (.fieldLink RX11 16 "TreeFamilyModel" "keys" "[I") (by decide +kernel)) (fun _ h9 => h9) rfl dX11_near_129 ?_
                      refine lv_bipush (v := 64) hx hb dX11_near_132 (by decide) ?_
                      refine lv_iload_n hx hb dX11_near_134 rfl (lv_at hl 4 rfl) ?_
                      refine lv_imul hx hb dX11_near_135 ?_
                      refine xr_top (y := nI (64 * j)) (pk_mul 64 j) ?_
                      refine lv_iload hx hb dX11_near_136 (lv_at hl 0 rfl) ?_
                      refine lv_iadd hx hb dX11_near_138 ?_
                      refine xr_top (y := nI ((64 * j) + (plQ q j key))) (nI_add (64 * j) (plQ q j key)) ?_
                      refine xr_ild hx hb hKN.1 hP 3 0 rfl rfl (j := (64 * j) + (plQ q j key)) (by omega) (by decide) dX11_near_139 ?_
                      exact W.iret (v := (q.ks ((64 * j) + (plQ q j key)))) hx hb hr (fun t9 e9 w9 => ⟨⟨_, (0, q.oo, q.zz, q.ks, q.vs, q.cg, q.hw, q.lo, q.hg, q.wk, q.kw, q.mn, q.gv, q.cp, q.ho, q.nk, q.nv), rfl, PO_same hj (F_near_0 (k := plQ q j key) (isB_in c13 (le34 c18)) (by show nearK which (plQ q j key) (hitQ q j key) = _; first | rw [nearK, if_pos c47] | (rw [nearK, if_neg c47, if_pos c57]; omega) | (rw [nearK, if_neg c47, if_neg c57, if_pos c68, if_pos c73]) | (rw [nearK, if_neg c47, if_neg c57, if_pos c68, if_neg (by rw [c73]; decide)]; omega) | (rw [nearK, if_neg c47, if_neg c57, if_neg c68, if_pos c90]) | (rw [nearK, if_neg c47, if_neg c57, if_neg c68, if_neg (by rw [c90]; decide)])) (by rw [ab_len]; omega) (congrArg Prod.fst (row_getD j (by omega)))) hq rfl rfl, by rw [e9]; exact hP, hD⟩, hS.F e9⟩) hS.2.2 dX11_near_140
                    · skip
                      have c117 : ¬ (plQ q j key) < (q.zz j) := fun h9 => c117 ((xn_lt (a := (plQ q j key)) (b := (q.zz j)) (Nat.lt_of_le_of_lt (pl60 (q := q) hq j key) (by decide)) (Nat.lt_of_le_of_lt (hq.1 j) (by decide))).mpr h9)
                      refine lv_aload_n hx hb dX11_near_120 rfl (lv_at hl 3 rfl) ?_
                      refine lv_iconst (v := 2) hx hb dX11_near_121 (by decide) ?_
                      refine xc_i (wr := []) (va_runV (As := [.int 2]) (rest := []) ⟨hx, hb, hml, hown, hts⟩ (c_X11_refuse l D ca b _ (0, q.oo, q.zz, q.ks, q.vs, q.cg, q.hw, q.lo, q.hg, q.wk, q.kw, q.mn, q.gv, q.cp, q.ho, q.nk, q.nv) 2) (cwV 1 hts gX11_near_X11_refuse rfl rfl rfl (by decide +kernel) ⟨(Nat.le_of_ble_eq_true rfl), (Nat.le_of_ble_eq_true rfl)⟩) (xPreV hKN hP hD [0, 1, 2, 3, 4, 5, 6, 7, 8, 9, 10, 11, 12, 13, 14, 15, 16] (by decide) rfl (q0 := 0) rfl rfl rfl) rfl rfl hl.1 rfl (lv_room (Nat.le_of_ble_eq_true rfl)) dX11_near_122 ⟨(Nat.le_of_ble_eq_true rfl), (Nat.le_of_ble_eq_true rfl)⟩) hP hD hS hA [0, 1, 2, 3, 4, 5, 6, 7, 8, 9, 10, 11, 12, 13, 14, 15, 16] [] rfl rfl (by decide) (by decide) (fun r122 u122 H locs hu122 hP hD hS => ?_)
                      obtain ⟨er122, eu122⟩ := hu122
                      have eu122 := eu122.symm
                      subst eu122
                      subst er122
                      have hP : va_P D vwCl (wQx ca b 2 q.oo q.zz q.ks q.vs q.cg q.hw q.lo q.hg q.wk q.kw q.mn q.gv q.cp q.ho q.nk q.nv) H := hP
                      have hD : va_D A (wQx ca b 2 q.oo q.zz q.ks q.vs q.cg q.hw q.lo q.hg q.wk q.kw q.mn q.gv q.cp q.ho q.nk q.nv) := hD
                      refine lv_goto (tgt := 140) hx hb dX11_near_125 (by decide) ?_
                      exact W.iret (v := 0) hx hb hr (fun t9 e9 w9 => ⟨⟨_, (2, q.oo, q.zz, q.ks, q.vs, q.cg, q.hw, q.lo, q.hg, q.wk, q.kw, q.mn, q.gv, q.cp, q.ho, q.nk, q.nv), rfl, PO_same hj (F_near_2 (n := plQ q j key + 1) (isB_in c13 (le34 c18)) (by show nearK which (plQ q j key) (hitQ q j key) = _; first | rw [nearK, if_pos c47] | (rw [nearK, if_neg c47, if_pos c57]; omega) | (rw [nearK, if_neg c47, if_neg c57, if_pos c68, if_pos c73]) | (rw [nearK, if_neg c47, if_neg c57, if_pos c68, if_neg (by rw [c73]; decide)]; omega) | (rw [nearK, if_neg c47, if_neg c57, if_neg c68, if_pos c90]) | (rw [nearK, if_neg c47, if_neg c57, if_neg c68, if_neg (by rw [c90]; decide)])) (Or.inr (by rw [ab_len]; omega))) hq rfl rfl, by rw [e9]; exact hP, hD⟩, hS.F e9⟩) hS.2.2 dX11_near_140
            · skip
              refine lv_iload hx hb dX11_near_60 (lv_at hl 1 rfl) ?_
              refine lv_iconst (v := 1) hx hb dX11_near_62 (by decide) ?_
              refine lv_isub hx hb dX11_near_63 ?_
              refine lv_goto (tgt := 102) hx hb dX11_near_64 (by decide) ?_
              refine lv_istore (lv' := [(6, .int ((nI (plQ q j key)) - 1)), (5, .int (bI (hitQ q j key))), (4, .int (nI (plQ q j key))), (0, .ref (b 0)), (1, .int (nI j)), (2, .int which), (3, .int key)]) hx hb dX11_near_102 hl (by decide) rfl (fun ls hl => ?_)
              refine lv_iload hx hb dX11_near_104 (lv_at hl 0 rfl) ?_
              refine lv_if_lt (tgt := 120) hx hb dX11_near_106 (by decide) (fun c106 => ?_) (fun c106 => ?_)
              · skip
                have c106 := (m1_lt hpl).mp c106
                refine lv_aload_n hx hb dX11_near_120 rfl (lv_at hl 3 rfl) ?_
                refine lv_iconst (v := 2) hx hb dX11_near_121 (by decide) ?_
                refine xc_i (wr := []) (va_runV (As := [.int 2]) (rest := []) ⟨hx, hb, hml, hown, hts⟩ (c_X11_refuse l D ca b _ (0, q.oo, q.zz, q.ks, q.vs, q.cg, q.hw, q.lo, q.hg, q.wk, q.kw, q.mn, q.gv, q.cp, q.ho, q.nk, q.nv) 2) (cwV 1 hts gX11_near_X11_refuse rfl rfl rfl (by decide +kernel) ⟨(Nat.le_of_ble_eq_true rfl), (Nat.le_of_ble_eq_true rfl)⟩) (xPreV hKN hP hD [0, 1, 2, 3, 4, 5, 6, 7, 8, 9, 10, 11, 12, 13, 14, 15, 16] (by decide) rfl (q0 := 0) rfl rfl rfl) rfl rfl hl.1 rfl (lv_room (Nat.le_of_ble_eq_true rfl)) dX11_near_122 ⟨(Nat.le_of_ble_eq_true rfl), (Nat.le_of_ble_eq_true rfl)⟩) hP hD hS hA [0, 1, 2, 3, 4, 5, 6, 7, 8, 9, 10, 11, 12, 13, 14, 15, 16] [] rfl rfl (by decide) (by decide) (fun r122 u122 H locs hu122 hP hD hS => ?_)
                obtain ⟨er122, eu122⟩ := hu122
                have eu122 := eu122.symm
                subst eu122
                subst er122
                have hP : va_P D vwCl (wQx ca b 2 q.oo q.zz q.ks q.vs q.cg q.hw q.lo q.hg q.wk q.kw q.mn q.gv q.cp q.ho q.nk q.nv) H := hP
                have hD : va_D A (wQx ca b 2 q.oo q.zz q.ks q.vs q.cg q.hw q.lo q.hg q.wk q.kw q.mn q.gv q.cp q.ho q.nk q.nv) := hD
                refine lv_goto (tgt := 140) hx hb dX11_near_125 (by decide) ?_
                exact W.iret (v := 0) hx hb hr (fun t9 e9 w9 => ⟨⟨_, (2, q.oo, q.zz, q.ks, q.vs, q.cg, q.hw, q.lo, q.hg, q.wk, q.kw, q.mn, q.gv, q.cp, q.ho, q.nk, q.nv), rfl, PO_same hj (F_near_2 (n := 0) (isB_in c13 (le34 c18)) (by show nearK which (plQ q j key) (hitQ q j key) = _; first | rw [nearK, if_pos c47] | (rw [nearK, if_neg c47, if_pos c57]; omega) | (rw [nearK, if_neg c47, if_neg c57, if_pos c68, if_pos c73]) | (rw [nearK, if_neg c47, if_neg c57, if_pos c68, if_neg (by rw [c73]; decide)]; omega) | (rw [nearK, if_neg c47, if_neg c57, if_neg c68, if_pos c90]) | (rw [nearK, if_neg c47, if_neg c57, if_neg c68, if_neg (by rw [c90]; decide)])) (Or.inl rfl)) hq rfl rfl, by rw [e9]; exact hP, hD⟩, hS.F e9⟩) hS.2.2 dX11_near_140
              · skip
                have c106 : ¬ plQ q j key = 0 := fun h9 => c106 ((m1_lt hpl).mpr h9)
                have e6 : nI (plQ q j key) - 1 = nI (plQ q j key - 1) := pk_sub (b := 1) (by omega)
                rw [e6] at hl
                refine lv_iload hx hb dX11_near_109 (lv_at hl 0 rfl) ?_
                refine lv_aload_n hx hb dX11_near_111 rfl (lv_at hl 3 rfl) ?_
                refine va_get (D := D) (ci := 9) (v := .ref (b 2)) (C := RX11) (T := TX11) (N := 17) hx hb hts inX11 hown hKN.1 hP 0 rfl rfl 2 (by decide) (hts (.fieldLink RX11 13 "TreeFamilyModel" "size" "[I") (by decide +kernel)) (fun _ h9 => h9) rfl dX11_near_112 ?_
                refine lv_iload_n hx hb dX11_near_115 rfl (lv_at hl 4 rfl) ?_
                refine xr_ild hx hb hKN.1 hP 2 0 rfl rfl (j := j) (by omega) (by decide) dX11_near_116 ?_
                refine lv_icmp_lt (tgt := 128) hx hb dX11_near_117 (by decide) (fun c117 => ?_) (fun c117 => ?_)
                · skip
                  have c117 : (plQ q j key - 1) < (q.zz j) := (xn_lt (a := (plQ q j key - 1)) (b := (q.zz j)) (by omega) (Nat.lt_of_le_of_lt (hq.1 j) (by decide))).mp c117
                  refine lv_aload_n hx hb dX11_near_128 rfl (lv_at hl 3 rfl) ?_
                  refine va_get (D := D) (ci := 9) (v := .ref (b 3)) (C := RX11) (T := TX11) (N := 17) hx hb hts inX11 hown hKN.1 hP 0 rfl rfl 3 (by decide) (hts (.fieldLink RX11 16 "TreeFamilyModel" "keys" "[I") (by decide +kernel)) (fun _ h9 => h9) rfl dX11_near_129 ?_
                  refine lv_bipush (v := 64) hx hb dX11_near_132 (by decide) ?_
                  refine lv_iload_n hx hb dX11_near_134 rfl (lv_at hl 4 rfl) ?_
                  refine lv_imul hx hb dX11_near_135 ?_
                  refine xr_top (y := nI (64 * j)) (pk_mul 64 j) ?_
                  refine lv_iload hx hb dX11_near_136 (lv_at hl 0 rfl) ?_
                  refine lv_iadd hx hb dX11_near_138 ?_
                  refine xr_top (y := nI ((64 * j) + (plQ q j key - 1))) (nI_add (64 * j) (plQ q j key - 1)) ?_
                  refine xr_ild hx hb hKN.1 hP 3 0 rfl rfl (j := (64 * j) + (plQ q j key - 1)) (by omega) (by decide) dX11_near_139 ?_
                  exact W.iret (v := (q.ks ((64 * j) + (plQ q j key - 1)))) hx hb hr (fun t9 e9 w9 => ⟨⟨_, (0, q.oo, q.zz, q.ks, q.vs, q.cg, q.hw, q.lo, q.hg, q.wk, q.kw, q.mn, q.gv, q.cp, q.ho, q.nk, q.nv), rfl, PO_same hj (F_near_0 (k := plQ q j key - 1) (isB_in c13 (le34 c18)) (by show nearK which (plQ q j key) (hitQ q j key) = _; first | rw [nearK, if_pos c47] | (rw [nearK, if_neg c47, if_pos c57]; omega) | (rw [nearK, if_neg c47, if_neg c57, if_pos c68, if_pos c73]) | (rw [nearK, if_neg c47, if_neg c57, if_pos c68, if_neg (by rw [c73]; decide)]; omega) | (rw [nearK, if_neg c47, if_neg c57, if_neg c68, if_pos c90]) | (rw [nearK, if_neg c47, if_neg c57, if_neg c68, if_neg (by rw [c90]; decide)])) (by rw [ab_len]; omega) (congrArg Prod.fst (row_getD j (by omega)))) hq rfl rfl, by rw [e9]; exact hP, hD⟩, hS.F e9⟩) hS.2.2 dX11_near_140
                · skip
                  have c117 : ¬ (plQ q j key - 1) < (q.zz j) := fun h9 => c117 ((xn_lt (a := (plQ q j key - 1)) (b := (q.zz j)) (by omega) (Nat.lt_of_le_of_lt (hq.1 j) (by decide))).mpr h9)
                  refine lv_aload_n hx hb dX11_near_120 rfl (lv_at hl 3 rfl) ?_
                  refine lv_iconst (v := 2) hx hb dX11_near_121 (by decide) ?_
                  refine xc_i (wr := []) (va_runV (As := [.int 2]) (rest := []) ⟨hx, hb, hml, hown, hts⟩ (c_X11_refuse l D ca b _ (0, q.oo, q.zz, q.ks, q.vs, q.cg, q.hw, q.lo, q.hg, q.wk, q.kw, q.mn, q.gv, q.cp, q.ho, q.nk, q.nv) 2) (cwV 1 hts gX11_near_X11_refuse rfl rfl rfl (by decide +kernel) ⟨(Nat.le_of_ble_eq_true rfl), (Nat.le_of_ble_eq_true rfl)⟩) (xPreV hKN hP hD [0, 1, 2, 3, 4, 5, 6, 7, 8, 9, 10, 11, 12, 13, 14, 15, 16] (by decide) rfl (q0 := 0) rfl rfl rfl) rfl rfl hl.1 rfl (lv_room (Nat.le_of_ble_eq_true rfl)) dX11_near_122 ⟨(Nat.le_of_ble_eq_true rfl), (Nat.le_of_ble_eq_true rfl)⟩) hP hD hS hA [0, 1, 2, 3, 4, 5, 6, 7, 8, 9, 10, 11, 12, 13, 14, 15, 16] [] rfl rfl (by decide) (by decide) (fun r122 u122 H locs hu122 hP hD hS => ?_)
                  obtain ⟨er122, eu122⟩ := hu122
                  have eu122 := eu122.symm
                  subst eu122
                  subst er122
                  have hP : va_P D vwCl (wQx ca b 2 q.oo q.zz q.ks q.vs q.cg q.hw q.lo q.hg q.wk q.kw q.mn q.gv q.cp q.ho q.nk q.nv) H := hP
                  have hD : va_D A (wQx ca b 2 q.oo q.zz q.ks q.vs q.cg q.hw q.lo q.hg q.wk q.kw q.mn q.gv q.cp q.ho q.nk q.nv) := hD
                  refine lv_goto (tgt := 140) hx hb dX11_near_125 (by decide) ?_
                  exact W.iret (v := 0) hx hb hr (fun t9 e9 w9 => ⟨⟨_, (2, q.oo, q.zz, q.ks, q.vs, q.cg, q.hw, q.lo, q.hg, q.wk, q.kw, q.mn, q.gv, q.cp, q.ho, q.nk, q.nv), rfl, PO_same hj (F_near_2 (n := plQ q j key - 1 + 1) (isB_in c13 (le34 c18)) (by show nearK which (plQ q j key) (hitQ q j key) = _; first | rw [nearK, if_pos c47] | (rw [nearK, if_neg c47, if_pos c57]; omega) | (rw [nearK, if_neg c47, if_neg c57, if_pos c68, if_pos c73]) | (rw [nearK, if_neg c47, if_neg c57, if_pos c68, if_neg (by rw [c73]; decide)]; omega) | (rw [nearK, if_neg c47, if_neg c57, if_neg c68, if_pos c90]) | (rw [nearK, if_neg c47, if_neg c57, if_neg c68, if_neg (by rw [c90]; decide)])) (Or.inr (by rw [ab_len]; omega))) hq rfl rfl, by rw [e9]; exact hP, hD⟩, hS.F e9⟩) hS.2.2 dX11_near_140
          · skip
            refine lv_iload hx hb dX11_near_50 (lv_at hl 1 rfl) ?_
            refine lv_goto (tgt := 102) hx hb dX11_near_52 (by decide) ?_
            refine lv_istore (lv' := [(6, .int (nI (plQ q j key))), (5, .int (bI (hitQ q j key))), (4, .int (nI (plQ q j key))), (0, .ref (b 0)), (1, .int (nI j)), (2, .int which), (3, .int key)]) hx hb dX11_near_102 hl (by decide) rfl (fun ls hl => ?_)
            refine lv_iload hx hb dX11_near_104 (lv_at hl 0 rfl) ?_
            refine lv_if_lt (tgt := 120) hx hb dX11_near_106 (by decide) (fun c106 => ?_) (fun c106 => ?_)
            · skip
              exact absurd ((xn_lt (a := plQ q j key) (b := 0) (by omega) (by decide)).mp c106) (Nat.not_lt_zero _)
            · skip
              refine lv_iload hx hb dX11_near_109 (lv_at hl 0 rfl) ?_
              refine lv_aload_n hx hb dX11_near_111 rfl (lv_at hl 3 rfl) ?_
              refine va_get (D := D) (ci := 9) (v := .ref (b 2)) (C := RX11) (T := TX11) (N := 17) hx hb hts inX11 hown hKN.1 hP 0 rfl rfl 2 (by decide) (hts (.fieldLink RX11 13 "TreeFamilyModel" "size" "[I") (by decide +kernel)) (fun _ h9 => h9) rfl dX11_near_112 ?_
              refine lv_iload_n hx hb dX11_near_115 rfl (lv_at hl 4 rfl) ?_
              refine xr_ild hx hb hKN.1 hP 2 0 rfl rfl (j := j) (by omega) (by decide) dX11_near_116 ?_
              refine lv_icmp_lt (tgt := 128) hx hb dX11_near_117 (by decide) (fun c117 => ?_) (fun c117 => ?_)
              · skip
                have c117 : (plQ q j key) < (q.zz j) := (xn_lt (a := (plQ q j key)) (b := (q.zz j)) (Nat.lt_of_le_of_lt (pl60 (q := q) hq j key) (by decide)) (Nat.lt_of_le_of_lt (hq.1 j) (by decide))).mp c117
                refine lv_aload_n hx hb dX11_near_128 rfl (lv_at hl 3 rfl) ?_
                refine va_get (D := D) (ci := 9) (v := .ref (b 3)) (C := RX11) (T := TX11) (N := 17) hx hb hts inX11 hown hKN.1 hP 0 rfl rfl 3 (by decide) (hts (.fieldLink RX11 16 "TreeFamilyModel" "keys" "[I") (by decide +kernel)) (fun _ h9 => h9) rfl dX11_near_129 ?_
                refine lv_bipush (v := 64) hx hb dX11_near_132 (by decide) ?_
                refine lv_iload_n hx hb dX11_near_134 rfl (lv_at hl 4 rfl) ?_
                refine lv_imul hx hb dX11_near_135 ?_
                refine xr_top (y := nI (64 * j)) (pk_mul 64 j) ?_
                refine lv_iload hx hb dX11_near_136 (lv_at hl 0 rfl) ?_
                refine lv_iadd hx hb dX11_near_138 ?_
                refine xr_top (y := nI ((64 * j) + (plQ q j key))) (nI_add (64 * j) (plQ q j key)) ?_
                refine xr_ild hx hb hKN.1 hP 3 0 rfl rfl (j := (64 * j) + (plQ q j key)) (by omega) (by decide) dX11_near_139 ?_
                exact W.iret (v := (q.ks ((64 * j) + (plQ q j key)))) hx hb hr (fun t9 e9 w9 => ⟨⟨_, (0, q.oo, q.zz, q.ks, q.vs, q.cg, q.hw, q.lo, q.hg, q.wk, q.kw, q.mn, q.gv, q.cp, q.ho, q.nk, q.nv), rfl, PO_same hj (F_near_0 (k := plQ q j key) (isB_in c13 (le34 c18)) (by show nearK which (plQ q j key) (hitQ q j key) = _; first | rw [nearK, if_pos c47] | (rw [nearK, if_neg c47, if_pos c57]; omega) | (rw [nearK, if_neg c47, if_neg c57, if_pos c68, if_pos c73]) | (rw [nearK, if_neg c47, if_neg c57, if_pos c68, if_neg (by rw [c73]; decide)]; omega) | (rw [nearK, if_neg c47, if_neg c57, if_neg c68, if_pos c90]) | (rw [nearK, if_neg c47, if_neg c57, if_neg c68, if_neg (by rw [c90]; decide)])) (by rw [ab_len]; omega) (congrArg Prod.fst (row_getD j (by omega)))) hq rfl rfl, by rw [e9]; exact hP, hD⟩, hS.F e9⟩) hS.2.2 dX11_near_140
              · skip
                have c117 : ¬ (plQ q j key) < (q.zz j) := fun h9 => c117 ((xn_lt (a := (plQ q j key)) (b := (q.zz j)) (Nat.lt_of_le_of_lt (pl60 (q := q) hq j key) (by decide)) (Nat.lt_of_le_of_lt (hq.1 j) (by decide))).mpr h9)
                refine lv_aload_n hx hb dX11_near_120 rfl (lv_at hl 3 rfl) ?_
                refine lv_iconst (v := 2) hx hb dX11_near_121 (by decide) ?_
                refine xc_i (wr := []) (va_runV (As := [.int 2]) (rest := []) ⟨hx, hb, hml, hown, hts⟩ (c_X11_refuse l D ca b _ (0, q.oo, q.zz, q.ks, q.vs, q.cg, q.hw, q.lo, q.hg, q.wk, q.kw, q.mn, q.gv, q.cp, q.ho, q.nk, q.nv) 2) (cwV 1 hts gX11_near_X11_refuse rfl rfl rfl (by decide +kernel) ⟨(Nat.le_of_ble_eq_true rfl), (Nat.le_of_ble_eq_true rfl)⟩) (xPreV hKN hP hD [0, 1, 2, 3, 4, 5, 6, 7, 8, 9, 10, 11, 12, 13, 14, 15, 16] (by decide) rfl (q0 := 0) rfl rfl rfl) rfl rfl hl.1 rfl (lv_room (Nat.le_of_ble_eq_true rfl)) dX11_near_122 ⟨(Nat.le_of_ble_eq_true rfl), (Nat.le_of_ble_eq_true rfl)⟩) hP hD hS hA [0, 1, 2, 3, 4, 5, 6, 7, 8, 9, 10, 11, 12, 13, 14, 15, 16] [] rfl rfl (by decide) (by decide) (fun r122 u122 H locs hu122 hP hD hS => ?_)
                obtain ⟨er122, eu122⟩ := hu122
                have eu122 := eu122.symm
                subst eu122
                subst er122
                have hP : va_P D vwCl (wQx ca b 2 q.oo q.zz q.ks q.vs q.cg q.hw q.lo q.hg q.wk q.kw q.mn q.gv q.cp q.ho q.nk q.nv) H := hP
                have hD : va_D A (wQx ca b 2 q.oo q.zz q.ks q.vs q.cg q.hw q.lo q.hg q.wk q.kw q.mn q.gv q.cp q.ho q.nk q.nv) := hD
                refine lv_goto (tgt := 140) hx hb dX11_near_125 (by decide) ?_
                exact W.iret (v := 0) hx hb hr (fun t9 e9 w9 => ⟨⟨_, (2, q.oo, q.zz, q.ks, q.vs, q.cg, q.hw, q.lo, q.hg, q.wk, q.kw, q.mn, q.gv, q.cp, q.ho, q.nk, q.nv), rfl, PO_same hj (F_near_2 (n := plQ q j key + 1) (isB_in c13 (le34 c18)) (by show nearK which (plQ q j key) (hitQ q j key) = _; first | rw [nearK, if_pos c47] | (rw [nearK, if_neg c47, if_pos c57]; omega) | (rw [nearK, if_neg c47, if_neg c57, if_pos c68, if_pos c73]) | (rw [nearK, if_neg c47, if_neg c57, if_pos c68, if_neg (by rw [c73]; decide)]; omega) | (rw [nearK, if_neg c47, if_neg c57, if_neg c68, if_pos c90]) | (rw [nearK, if_neg c47, if_neg c57, if_neg c68, if_neg (by rw [c90]; decide)])) (Or.inr (by rw [ab_len]; omega))) hq rfl rfl, by rw [e9]; exact hP, hD⟩, hS.F e9⟩) hS.2.2 dX11_near_140
        · skip
          refine lv_aload_n hx hb dX11_near_21 rfl (lv_at hl 0 rfl) ?_
          refine lv_iconst (v := 1) hx hb dX11_near_22 (by decide) ?_
          refine xc_i (wr := []) (va_runV (As := [.int 1]) (rest := []) ⟨hx, hb, hml, hown, hts⟩ (c_X11_refuse l D ca b _ (0, q.oo, q.zz, q.ks, q.vs, q.cg, q.hw, q.lo, q.hg, q.wk, q.kw, q.mn, q.gv, q.cp, q.ho, q.nk, q.nv) 1) (cwV 1 hts gX11_near_X11_refuse rfl rfl rfl (by decide +kernel) ⟨(Nat.le_of_ble_eq_true rfl), (Nat.le_of_ble_eq_true rfl)⟩) (xPreV hKN hP hD [0, 1, 2, 3, 4, 5, 6, 7, 8, 9, 10, 11, 12, 13, 14, 15, 16] (by decide) rfl (q0 := 0) rfl rfl rfl) rfl rfl hl.1 rfl (lv_room (Nat.le_of_ble_eq_true rfl)) dX11_near_23 ⟨(Nat.le_of_ble_eq_true rfl), (Nat.le_of_ble_eq_true rfl)⟩) hP hD hS hA [0, 1, 2, 3, 4, 5, 6, 7, 8, 9, 10, 11, 12, 13, 14, 15, 16] [] rfl rfl (by decide) (by decide) (fun r23 u23 H locs hu23 hP hD hS => ?_)
          obtain ⟨er23, eu23⟩ := hu23
          have eu23 := eu23.symm
          subst eu23
          subst er23
          have hP : va_P D vwCl (wQx ca b 1 q.oo q.zz q.ks q.vs q.cg q.hw q.lo q.hg q.wk q.kw q.mn q.gv q.cp q.ho q.nk q.nv) H := hP
          have hD : va_D A (wQx ca b 1 q.oo q.zz q.ks q.vs q.cg q.hw q.lo q.hg q.wk q.kw q.mn q.gv q.cp q.ho q.nk q.nv) := hD
          exact W.iret (v := 0) hx hb hr (fun t9 e9 w9 => ⟨⟨_, (1, q.oo, q.zz, q.ks, q.vs, q.cg, q.hw, q.lo, q.hg, q.wk, q.kw, q.mn, q.gv, q.cp, q.ho, q.nk, q.nv), rfl, by first | exact PO_same hj (F_near_1 (isB_lt c13)) hq rfl rfl | exact PO_same hj (F_near_1 (isB_ge (gt34 c18))) hq rfl rfl, by rw [e9]; exact hP, hD⟩, hS.F e9⟩) hS.2.2 dX11_near_26

-- TreeFamilyModel.size
set_option maxHeartbeats 4000000 in
set_option maxRecDepth 100000 in
theorem c_X11_size (l : Launch) (D : va_G) (ca : Nat → ClassId) (b : Nat → Nat) (sz : Nat) (q : QS) (mm : Int32) (hq : WQ q) : Met l yX11_size wsX11_size ({ frames := 1, cells := 0, slots := 0, locals := 20 } : Room) (xPc D (TY ca) [.ref (b 0), .int mm] (wQ ca b q) sz) (va_Qi (fun (r : Int32) (u : QS) => PO 0 (F_size) mm q r u) (xB D (wQ ca b) (va_A (wQ ca b q) sz)) (va_A (wQ ca b q) sz)) 0 0 (va_A (wQ ca b q) sz) := by
  refine Met.ofW (cc := cX11_size) (maxL := 2) (ret := (some .int)) (by decide) rfl ?_
  intro p e s m args below meth c s₁ B hml hv
  obtain ⟨rfl, hsz, hP, hKN, hD0⟩ := hv
  have hx := B.exec
  have hb := B.bytes
  have hr := B.returns
  have hts := atoms_spec (ws := wsX11_size) B.pre
  have hown : s.vm.findClass RX11 = some m.cls := findClass_of_methodNamed B.named
  have hlocks := B.notSynchronized
  have inX11 : ∀ w ∈ wsX110, w ∈ wsX11_size := by decide +kernel
  subst hsz
  have hD := hD0.self (sz := s.heap.size)
  generalize hAe : va_A (wQ ca b q) s.heap.size = A at hD ⊢
  have hA : ∀ q : Nat, s.heap.size ≤ q → A q := fun q h => by rw [← hAe]; exact Or.inr h
  have hS : va_S A s.heap s.heap [] := va_S.rf
  have hl := lv_entry ([.ref (b 0), .int mm]) (n := 2) (Nat.le_of_ble_eq_true rfl)
  rw [lg_entry_eq]
  generalize (lg_sl ([.ref (b 0), .int mm]) ++ List.replicate (2 - (lg_sl ([.ref (b 0), .int mm])).length) Slot.unset).toArray = ls at hl ⊢
  have hl : lv_has ls 2 [(0, .ref (b 0)), (1, .int mm)] := hl
  rcases isB3 mm with hmm | ⟨j, hj, hmj⟩
  · skip
    refine lv_aload_n hx hb dX11_size_0 rfl (lv_at hl 0 rfl) ?_
    refine lv_iload_n hx hb dX11_size_1 rfl (lv_at hl 1 rfl) ?_
    refine xs_i (va_runS (As := [.int mm]) (rest := [.ref (b 0)]) ⟨hx, hb, hml, hown, hts⟩ (c_X11_isMap l _) (va_cwS 1 hts gX11_size_X11_isMap rfl rfl rfl (by decide +kernel) ⟨(Nat.le_of_ble_eq_true rfl), (Nat.le_of_ble_eq_true rfl)⟩) xPreT rfl rfl hl.1 rfl (lv_room (Nat.le_of_ble_eq_true rfl)) dX11_size_2 ⟨(Nat.le_of_ble_eq_true rfl), (Nat.le_of_ble_eq_true rfl)⟩) (fun r2 er2 => ?_)
    subst er2
    refine xr_top (y := 0) (by rw [hmm]; rfl) ?_
    refine lv_if_eq (tgt := 12) hx hb dX11_size_5 (by decide) (fun c5 => ?_) (fun c5 => ?_)
    · skip
      refine lv_iconst (v := 1) hx hb dX11_size_12 (by decide) ?_
      refine va_put (D := D) (ci := 9) (v := .int 1) (ty := .int) (C := RX11) (T := TX11) (N := 17) hx hb hts inX11 tyX11 tyX11_ok nmX11 hown hKN.1 hP hD hS 0 rfl rfl 0 (by decide) (hts (.fieldLink RX11 59 "TreeFamilyModel" "code" "I") (by decide +kernel)) (fun _ h9 => h9) rfl (by decide +kernel) rfl rfl (Nat.le_of_ble_eq_true rfl) dX11_size_13 (fun H locs hP hD hS => ?_)
      have hP : va_P D vwCl (wQx ca b 1 q.oo q.zz q.ks q.vs q.cg q.hw q.lo q.hg q.wk q.kw q.mn q.gv q.cp q.ho q.nk q.nv) H := hP
      have hD : va_D A (wQx ca b 1 q.oo q.zz q.ks q.vs q.cg q.hw q.lo q.hg q.wk q.kw q.mn q.gv q.cp q.ho q.nk q.nv) := hD
      refine lv_aload_n hx hb dX11_size_16 rfl (lv_at hl 0 rfl) ?_
      refine va_get (D := D) (ci := 9) (v := .int 1) (C := RX11) (T := TX11) (N := 17) hx hb hts inX11 hown hKN.1 hP 0 rfl rfl 0 (by decide) (hts (.fieldLink RX11 59 "TreeFamilyModel" "code" "I") (by decide +kernel)) (fun _ h9 => h9) rfl dX11_size_17 ?_
      refine lv_if_ne (tgt := 32) hx hb dX11_size_20 (by decide) (fun c20 => ?_) (fun c20 => ?_)
      · skip
        refine lv_iconst (v := 0) hx hb dX11_size_32 (by decide) ?_
        exact W.iret (v := 0) hx hb hr (fun t9 e9 w9 => ⟨⟨_, (1, q.oo, q.zz, q.ks, q.vs, q.cg, q.hw, q.lo, q.hg, q.wk, q.kw, q.mn, q.gv, q.cp, q.ho, q.nk, q.nv), rfl, PO_bad hmm hq rfl rfl rfl, by rw [e9]; exact hP, hD⟩, hS.F e9⟩) hS.2.2 dX11_size_33
      · skip
        exact absurd c20 (by decide)
    · skip
      exact absurd c5 (by decide)
  · subst hmj
    have hz6 := hq.1 j
    have hh3 := hq.2.1 j
    refine lv_aload_n hx hb dX11_size_0 rfl (lv_at hl 0 rfl) ?_
    refine lv_iload_n hx hb dX11_size_1 rfl (lv_at hl 1 rfl) ?_
    refine xs_i (va_runS (As := [.int (nI j)]) (rest := [.ref (b 0)]) ⟨hx, hb, hml, hown, hts⟩ (c_X11_isMap l _) (va_cwS 1 hts gX11_size_X11_isMap rfl rfl rfl (by decide +kernel) ⟨(Nat.le_of_ble_eq_true rfl), (Nat.le_of_ble_eq_true rfl)⟩) xPreT rfl rfl hl.1 rfl (lv_room (Nat.le_of_ble_eq_true rfl)) dX11_size_2 ⟨(Nat.le_of_ble_eq_true rfl), (Nat.le_of_ble_eq_true rfl)⟩) (fun r2 er2 => ?_)
    subst er2
    refine xr_top (y := 1) (by rw [isB3_ok hj]; rfl) ?_
    refine lv_if_eq (tgt := 12) hx hb dX11_size_5 (by decide) (fun c5 => ?_) (fun c5 => ?_)
    · skip
      exact absurd c5 (by decide)
    · skip
      refine lv_iconst (v := 0) hx hb dX11_size_8 (by decide) ?_
      refine lv_goto (tgt := 13) hx hb dX11_size_9 (by decide) ?_
      refine va_put (D := D) (ci := 9) (v := .int 0) (ty := .int) (C := RX11) (T := TX11) (N := 17) hx hb hts inX11 tyX11 tyX11_ok nmX11 hown hKN.1 hP hD hS 0 rfl rfl 0 (by decide) (hts (.fieldLink RX11 59 "TreeFamilyModel" "code" "I") (by decide +kernel)) (fun _ h9 => h9) rfl (by decide +kernel) rfl rfl (Nat.le_of_ble_eq_true rfl) dX11_size_13 (fun H locs hP hD hS => ?_)
      have hP : va_P D vwCl (wQx ca b 0 q.oo q.zz q.ks q.vs q.cg q.hw q.lo q.hg q.wk q.kw q.mn q.gv q.cp q.ho q.nk q.nv) H := hP
      have hD : va_D A (wQx ca b 0 q.oo q.zz q.ks q.vs q.cg q.hw q.lo q.hg q.wk q.kw q.mn q.gv q.cp q.ho q.nk q.nv) := hD
      refine lv_aload_n hx hb dX11_size_16 rfl (lv_at hl 0 rfl) ?_
      refine va_get (D := D) (ci := 9) (v := .int 0) (C := RX11) (T := TX11) (N := 17) hx hb hts inX11 hown hKN.1 hP 0 rfl rfl 0 (by decide) (hts (.fieldLink RX11 59 "TreeFamilyModel" "code" "I") (by decide +kernel)) (fun _ h9 => h9) rfl dX11_size_17 ?_
      refine lv_if_ne (tgt := 32) hx hb dX11_size_20 (by decide) (fun c20 => ?_) (fun c20 => ?_)
      · skip
        exact absurd c20 (by decide)
      · skip
        refine lv_aload_n hx hb dX11_size_23 rfl (lv_at hl 0 rfl) ?_
        refine va_get (D := D) (ci := 9) (v := .ref (b 2)) (C := RX11) (T := TX11) (N := 17) hx hb hts inX11 hown hKN.1 hP 0 rfl rfl 2 (by decide) (hts (.fieldLink RX11 13 "TreeFamilyModel" "size" "[I") (by decide +kernel)) (fun _ h9 => h9) rfl dX11_size_24 ?_
        refine lv_iload_n hx hb dX11_size_27 rfl (lv_at hl 1 rfl) ?_
        refine xr_ild hx hb hKN.1 hP 2 0 rfl rfl (j := j) (by omega) (by decide) dX11_size_28 ?_
        refine lv_goto (tgt := 33) hx hb dX11_size_29 (by decide) ?_
        exact W.iret (v := (nI (q.zz j))) hx hb hr (fun t9 e9 w9 => ⟨⟨_, (0, q.oo, q.zz, q.ks, q.vs, q.cg, q.hw, q.lo, q.hg, q.wk, q.kw, q.mn, q.gv, q.cp, q.ho, q.nk, q.nv), rfl, PO_same hj (F_size_1 q j) hq rfl rfl, by rw [e9]; exact hP, hD⟩, hS.F e9⟩) hS.2.2 dX11_size_33

-- TreeFamilyModel.rank
set_option maxHeartbeats 4000000 in
set_option maxRecDepth 100000 in
theorem c_X11_rank (l : Launch) (D : va_G) (ca : Nat → ClassId) (b : Nat → Nat) (sz : Nat) (q : QS) (key : Int32) (mm : Int32) (hq : WQ q) : Met l yX11_rank wsX11_rank ({ frames := 2, cells := 0, slots := 0, locals := 46 } : Room) (xPc D (TY ca) [.ref (b 0), .int mm, .int key] (wQ ca b q) sz) (va_Qi (fun (r : Int32) (u : QS) => PO 0 (F_rank key) mm q r u) (xB D (wQ ca b) (va_A (wQ ca b q) sz)) (va_A (wQ ca b q) sz)) 0 0 (va_A (wQ ca b q) sz) := by
  refine Met.ofW (cc := cX11_rank) (maxL := 3) (ret := (some .int)) (by decide) rfl ?_
  intro p e s m args below meth c s₁ B hml hv
  obtain ⟨rfl, hsz, hP, hKN, hD0⟩ := hv
  have hx := B.exec
  have hb := B.bytes
  have hr := B.returns
  have hts := atoms_spec (ws := wsX11_rank) B.pre
  have hown : s.vm.findClass RX11 = some m.cls := findClass_of_methodNamed B.named
  have hlocks := B.notSynchronized
  have inX11 : ∀ w ∈ wsX110, w ∈ wsX11_rank := by decide +kernel
  subst hsz
  have hD := hD0.self (sz := s.heap.size)
  generalize hAe : va_A (wQ ca b q) s.heap.size = A at hD ⊢
  have hA : ∀ q : Nat, s.heap.size ≤ q → A q := fun q h => by rw [← hAe]; exact Or.inr h
  have hS : va_S A s.heap s.heap [] := va_S.rf
  have hl := lv_entry ([.ref (b 0), .int mm, .int key]) (n := 3) (Nat.le_of_ble_eq_true rfl)
  rw [lg_entry_eq]
  generalize (lg_sl ([.ref (b 0), .int mm, .int key]) ++ List.replicate (3 - (lg_sl ([.ref (b 0), .int mm, .int key])).length) Slot.unset).toArray = ls at hl ⊢
  have hl : lv_has ls 3 [(0, .ref (b 0)), (1, .int mm), (2, .int key)] := hl
  rcases isB3 mm with hmm | ⟨j, hj, hmj⟩
  · skip
    refine lv_aload_n hx hb dX11_rank_0 rfl (lv_at hl 0 rfl) ?_
    refine lv_iload_n hx hb dX11_rank_1 rfl (lv_at hl 1 rfl) ?_
    refine xs_i (va_runS (As := [.int mm]) (rest := [.ref (b 0)]) ⟨hx, hb, hml, hown, hts⟩ (c_X11_isMap l _) (va_cwS 1 hts gX11_rank_X11_isMap rfl rfl rfl (by decide +kernel) ⟨(Nat.le_of_ble_eq_true rfl), (Nat.le_of_ble_eq_true rfl)⟩) xPreT rfl rfl hl.1 rfl (lv_room (Nat.le_of_ble_eq_true rfl)) dX11_rank_2 ⟨(Nat.le_of_ble_eq_true rfl), (Nat.le_of_ble_eq_true rfl)⟩) (fun r2 er2 => ?_)
    subst er2
    refine xr_top (y := 0) (by rw [hmm]; rfl) ?_
    refine lv_if_eq (tgt := 12) hx hb dX11_rank_5 (by decide) (fun c5 => ?_) (fun c5 => ?_)
    · skip
      refine lv_iconst (v := 1) hx hb dX11_rank_12 (by decide) ?_
      refine va_put (D := D) (ci := 9) (v := .int 1) (ty := .int) (C := RX11) (T := TX11) (N := 17) hx hb hts inX11 tyX11 tyX11_ok nmX11 hown hKN.1 hP hD hS 0 rfl rfl 0 (by decide) (hts (.fieldLink RX11 59 "TreeFamilyModel" "code" "I") (by decide +kernel)) (fun _ h9 => h9) rfl (by decide +kernel) rfl rfl (Nat.le_of_ble_eq_true rfl) dX11_rank_13 (fun H locs hP hD hS => ?_)
      have hP : va_P D vwCl (wQx ca b 1 q.oo q.zz q.ks q.vs q.cg q.hw q.lo q.hg q.wk q.kw q.mn q.gv q.cp q.ho q.nk q.nv) H := hP
      have hD : va_D A (wQx ca b 1 q.oo q.zz q.ks q.vs q.cg q.hw q.lo q.hg q.wk q.kw q.mn q.gv q.cp q.ho q.nk q.nv) := hD
      refine lv_aload_n hx hb dX11_rank_16 rfl (lv_at hl 0 rfl) ?_
      refine va_get (D := D) (ci := 9) (v := .int 1) (C := RX11) (T := TX11) (N := 17) hx hb hts inX11 hown hKN.1 hP 0 rfl rfl 0 (by decide) (hts (.fieldLink RX11 59 "TreeFamilyModel" "code" "I") (by decide +kernel)) (fun _ h9 => h9) rfl dX11_rank_17 ?_
      refine lv_if_ne (tgt := 32) hx hb dX11_rank_20 (by decide) (fun c20 => ?_) (fun c20 => ?_)
      · skip
        refine lv_iconst (v := 0) hx hb dX11_rank_32 (by decide) ?_
        exact W.iret (v := 0) hx hb hr (fun t9 e9 w9 => ⟨⟨_, (1, q.oo, q.zz, q.ks, q.vs, q.cg, q.hw, q.lo, q.hg, q.wk, q.kw, q.mn, q.gv, q.cp, q.ho, q.nk, q.nv), rfl, PO_bad hmm hq rfl rfl rfl, by rw [e9]; exact hP, hD⟩, hS.F e9⟩) hS.2.2 dX11_rank_33
      · skip
        exact absurd c20 (by decide)
    · skip
      exact absurd c5 (by decide)
  · subst hmj
    have hz6 := hq.1 j
    have hh3 := hq.2.1 j
    refine lv_aload_n hx hb dX11_rank_0 rfl (lv_at hl 0 rfl) ?_
    refine lv_iload_n hx hb dX11_rank_1 rfl (lv_at hl 1 rfl) ?_
    refine xs_i (va_runS (As := [.int (nI j)]) (rest := [.ref (b 0)]) ⟨hx, hb, hml, hown, hts⟩ (c_X11_isMap l _) (va_cwS 1 hts gX11_rank_X11_isMap rfl rfl rfl (by decide +kernel) ⟨(Nat.le_of_ble_eq_true rfl), (Nat.le_of_ble_eq_true rfl)⟩) xPreT rfl rfl hl.1 rfl (lv_room (Nat.le_of_ble_eq_true rfl)) dX11_rank_2 ⟨(Nat.le_of_ble_eq_true rfl), (Nat.le_of_ble_eq_true rfl)⟩) (fun r2 er2 => ?_)
    subst er2
    refine xr_top (y := 1) (by rw [isB3_ok hj]; rfl) ?_
    refine lv_if_eq (tgt := 12) hx hb dX11_rank_5 (by decide) (fun c5 => ?_) (fun c5 => ?_)
    · skip
      exact absurd c5 (by decide)
    · skip
      refine lv_iconst (v := 0) hx hb dX11_rank_8 (by decide) ?_
      refine lv_goto (tgt := 13) hx hb dX11_rank_9 (by decide) ?_
      refine va_put (D := D) (ci := 9) (v := .int 0) (ty := .int) (C := RX11) (T := TX11) (N := 17) hx hb hts inX11 tyX11 tyX11_ok nmX11 hown hKN.1 hP hD hS 0 rfl rfl 0 (by decide) (hts (.fieldLink RX11 59 "TreeFamilyModel" "code" "I") (by decide +kernel)) (fun _ h9 => h9) rfl (by decide +kernel) rfl rfl (Nat.le_of_ble_eq_true rfl) dX11_rank_13 (fun H locs hP hD hS => ?_)
      have hP : va_P D vwCl (wQx ca b 0 q.oo q.zz q.ks q.vs q.cg q.hw q.lo q.hg q.wk q.kw q.mn q.gv q.cp q.ho q.nk q.nv) H := hP
      have hD : va_D A (wQx ca b 0 q.oo q.zz q.ks q.vs q.cg q.hw q.lo q.hg q.wk q.kw q.mn q.gv q.cp q.ho q.nk q.nv) := hD
      refine lv_aload_n hx hb dX11_rank_16 rfl (lv_at hl 0 rfl) ?_
      refine va_get (D := D) (ci := 9) (v := .int 0) (C := RX11) (T := TX11) (N := 17) hx hb hts inX11 hown hKN.1 hP 0 rfl rfl 0 (by decide) (hts (.fieldLink RX11 59 "TreeFamilyModel" "code" "I") (by decide +kernel)) (fun _ h9 => h9) rfl dX11_rank_17 ?_
      refine lv_if_ne (tgt := 32) hx hb dX11_rank_20 (by decide) (fun c20 => ?_) (fun c20 => ?_)
      · skip
        exact absurd c20 (by decide)
      · skip
        refine lv_aload_n hx hb dX11_rank_23 rfl (lv_at hl 0 rfl) ?_
        refine lv_iload_n hx hb dX11_rank_24 rfl (lv_at hl 1 rfl) ?_
        refine lv_iload_n hx hb dX11_rank_25 rfl (lv_at hl 2 rfl) ?_
        refine xc_i (wr := []) (va_runV (As := [.int (nI j), .int key]) (rest := []) ⟨hx, hb, hml, hown, hts⟩ (c_X11_place l D ca b _ (0, q.oo, q.zz, q.ks, q.vs, q.cg, q.hw, q.lo, q.hg, q.wk, q.kw, q.mn, q.gv, q.cp, q.ho, q.nk, q.nv) j key hq hj) (cwV 2 hts gX11_rank_X11_place rfl rfl rfl (by decide +kernel) ⟨(Nat.le_of_ble_eq_true rfl), (Nat.le_of_ble_eq_true rfl)⟩) (xPreV hKN hP hD [0, 1, 2, 3, 4, 5, 6, 7, 8, 9, 10, 11, 12, 13, 14, 15, 16] (by decide) rfl (q0 := 0) rfl rfl rfl) rfl rfl hl.1 rfl (lv_room (Nat.le_of_ble_eq_true rfl)) dX11_rank_26 ⟨(Nat.le_of_ble_eq_true rfl), (Nat.le_of_ble_eq_true rfl)⟩) hP hD hS hA [0, 1, 2, 3, 4, 5, 6, 7, 8, 9, 10, 11, 12, 13, 14, 15, 16] [] rfl rfl (by decide) (by decide) (fun r26 u26 H locs hu26 hP hD hS => ?_)
        obtain ⟨er26, eu26⟩ := hu26
        have eu26 := eu26.symm
        subst eu26
        have hP : va_P D vwCl (wQx ca b 0 q.oo q.zz q.ks q.vs q.cg q.hw q.lo q.hg q.wk q.kw q.mn q.gv q.cp q.ho q.nk q.nv) H := hP
        have hD : va_D A (wQx ca b 0 q.oo q.zz q.ks q.vs q.cg q.hw q.lo q.hg q.wk q.kw q.mn q.gv q.cp q.ho q.nk q.nv) := hD
        have er26 : r26 = nI (plQ q j key) := er26
        subst er26
        refine lv_goto (tgt := 33) hx hb dX11_rank_29 (by decide) ?_
        exact W.iret (v := (nI (plQ q j key))) hx hb hr (fun t9 e9 w9 => ⟨⟨_, (0, q.oo, q.zz, q.ks, q.vs, q.cg, q.hw, q.lo, q.hg, q.wk, q.kw, q.mn, q.gv, q.cp, q.ho, q.nk, q.nv), rfl, PO_same hj rfl hq rfl rfl, by rw [e9]; exact hP, hD⟩, hS.F e9⟩) hS.2.2 dX11_rank_33

-- TreeFamilyModel.select
set_option maxHeartbeats 4000000 in
set_option maxRecDepth 100000 in
theorem c_X11_select (l : Launch) (D : va_G) (ca : Nat → ClassId) (b : Nat → Nat) (sz : Nat) (q : QS) (x : Int32) (mm : Int32) (hq : WQ q) : Met l yX11_select wsX11_select ({ frames := 1, cells := 0, slots := 0, locals := 20 } : Room) (xPc D (TY ca) [.ref (b 0), .int mm, .int x] (wQ ca b q) sz) (va_Qi (fun (r : Int32) (u : QS) => PO 0 (F_select x) mm q r u) (xB D (wQ ca b) (va_A (wQ ca b q) sz)) (va_A (wQ ca b q) sz)) 0 0 (va_A (wQ ca b q) sz) := by
  refine Met.ofW (cc := cX11_select) (maxL := 3) (ret := (some .int)) (by decide) rfl ?_
  intro p e s m args below meth c s₁ B hml hv
  obtain ⟨rfl, hsz, hP, hKN, hD0⟩ := hv
  have hx := B.exec
  have hb := B.bytes
  have hr := B.returns
  have hts := atoms_spec (ws := wsX11_select) B.pre
  have hown : s.vm.findClass RX11 = some m.cls := findClass_of_methodNamed B.named
  have hlocks := B.notSynchronized
  have inX11 : ∀ w ∈ wsX110, w ∈ wsX11_select := by decide +kernel
  subst hsz
  have hD := hD0.self (sz := s.heap.size)
  generalize hAe : va_A (wQ ca b q) s.heap.size = A at hD ⊢
  have hA : ∀ q : Nat, s.heap.size ≤ q → A q := fun q h => by rw [← hAe]; exact Or.inr h
  have hS : va_S A s.heap s.heap [] := va_S.rf
  have hl := lv_entry ([.ref (b 0), .int mm, .int x]) (n := 3) (Nat.le_of_ble_eq_true rfl)
  rw [lg_entry_eq]
  generalize (lg_sl ([.ref (b 0), .int mm, .int x]) ++ List.replicate (3 - (lg_sl ([.ref (b 0), .int mm, .int x])).length) Slot.unset).toArray = ls at hl ⊢
  have hl : lv_has ls 3 [(0, .ref (b 0)), (1, .int mm), (2, .int x)] := hl
  rcases isB3 mm with hmm | ⟨j, hj, hmj⟩
  · skip
    refine lv_aload_n hx hb dX11_select_0 rfl (lv_at hl 0 rfl) ?_
    refine lv_iload_n hx hb dX11_select_1 rfl (lv_at hl 1 rfl) ?_
    refine xs_i (va_runS (As := [.int mm]) (rest := [.ref (b 0)]) ⟨hx, hb, hml, hown, hts⟩ (c_X11_isMap l _) (va_cwS 1 hts gX11_select_X11_isMap rfl rfl rfl (by decide +kernel) ⟨(Nat.le_of_ble_eq_true rfl), (Nat.le_of_ble_eq_true rfl)⟩) xPreT rfl rfl hl.1 rfl (lv_room (Nat.le_of_ble_eq_true rfl)) dX11_select_2 ⟨(Nat.le_of_ble_eq_true rfl), (Nat.le_of_ble_eq_true rfl)⟩) (fun r2 er2 => ?_)
    subst er2
    refine xr_top (y := 0) (by rw [hmm]; rfl) ?_
    refine lv_if_ne (tgt := 12) hx hb dX11_select_5 (by decide) (fun c5 => ?_) (fun c5 => ?_)
    · skip
      exact absurd c5 (by decide)
    · skip
      refine lv_iconst (v := 1) hx hb dX11_select_8 (by decide) ?_
      refine lv_goto (tgt := 31) hx hb dX11_select_9 (by decide) ?_
      refine va_put (D := D) (ci := 9) (v := .int 1) (ty := .int) (C := RX11) (T := TX11) (N := 17) hx hb hts inX11 tyX11 tyX11_ok nmX11 hown hKN.1 hP hD hS 0 rfl rfl 0 (by decide) (hts (.fieldLink RX11 59 "TreeFamilyModel" "code" "I") (by decide +kernel)) (fun _ h9 => h9) rfl (by decide +kernel) rfl rfl (Nat.le_of_ble_eq_true rfl) dX11_select_31 (fun H locs hP hD hS => ?_)
      have hP : va_P D vwCl (wQx ca b 1 q.oo q.zz q.ks q.vs q.cg q.hw q.lo q.hg q.wk q.kw q.mn q.gv q.cp q.ho q.nk q.nv) H := hP
      have hD : va_D A (wQx ca b 1 q.oo q.zz q.ks q.vs q.cg q.hw q.lo q.hg q.wk q.kw q.mn q.gv q.cp q.ho q.nk q.nv) := hD
      refine lv_aload_n hx hb dX11_select_34 rfl (lv_at hl 0 rfl) ?_
      refine va_get (D := D) (ci := 9) (v := .int 1) (C := RX11) (T := TX11) (N := 17) hx hb hts inX11 hown hKN.1 hP 0 rfl rfl 0 (by decide) (hts (.fieldLink RX11 59 "TreeFamilyModel" "code" "I") (by decide +kernel)) (fun _ h9 => h9) rfl dX11_select_35 ?_
      refine lv_if_ne (tgt := 55) hx hb dX11_select_38 (by decide) (fun c38 => ?_) (fun c38 => ?_)
      · skip
        refine lv_iconst (v := 0) hx hb dX11_select_55 (by decide) ?_
        exact W.iret (v := 0) hx hb hr (fun t9 e9 w9 => ⟨⟨_, (1, q.oo, q.zz, q.ks, q.vs, q.cg, q.hw, q.lo, q.hg, q.wk, q.kw, q.mn, q.gv, q.cp, q.ho, q.nk, q.nv), rfl, PO_bad hmm hq rfl rfl rfl, by rw [e9]; exact hP, hD⟩, hS.F e9⟩) hS.2.2 dX11_select_56
      · skip
        exact absurd c38 (by decide)
  · subst hmj
    have hz6 := hq.1 j
    have hh3 := hq.2.1 j
    refine lv_aload_n hx hb dX11_select_0 rfl (lv_at hl 0 rfl) ?_
    refine lv_iload_n hx hb dX11_select_1 rfl (lv_at hl 1 rfl) ?_
    refine xs_i (va_runS (As := [.int (nI j)]) (rest := [.ref (b 0)]) ⟨hx, hb, hml, hown, hts⟩ (c_X11_isMap l _) (va_cwS 1 hts gX11_select_X11_isMap rfl rfl rfl (by decide +kernel) ⟨(Nat.le_of_ble_eq_true rfl), (Nat.le_of_ble_eq_true rfl)⟩) xPreT rfl rfl hl.1 rfl (lv_room (Nat.le_of_ble_eq_true rfl)) dX11_select_2 ⟨(Nat.le_of_ble_eq_true rfl), (Nat.le_of_ble_eq_true rfl)⟩) (fun r2 er2 => ?_)
    subst er2
    refine xr_top (y := 1) (by rw [isB3_ok hj]; rfl) ?_
    refine lv_if_ne (tgt := 12) hx hb dX11_select_5 (by decide) (fun c5 => ?_) (fun c5 => ?_)
    · skip
      refine lv_iload_n hx hb dX11_select_12 rfl (lv_at hl 2 rfl) ?_
      refine lv_if_lt (tgt := 26) hx hb dX11_select_13 (by decide) (fun c13 => ?_) (fun c13 => ?_)
      · skip
        refine lv_iconst (v := 2) hx hb dX11_select_26 (by decide) ?_
        refine lv_goto (tgt := 31) hx hb dX11_select_27 (by decide) ?_
        refine va_put (D := D) (ci := 9) (v := .int 2) (ty := .int) (C := RX11) (T := TX11) (N := 17) hx hb hts inX11 tyX11 tyX11_ok nmX11 hown hKN.1 hP hD hS 0 rfl rfl 0 (by decide) (hts (.fieldLink RX11 59 "TreeFamilyModel" "code" "I") (by decide +kernel)) (fun _ h9 => h9) rfl (by decide +kernel) rfl rfl (Nat.le_of_ble_eq_true rfl) dX11_select_31 (fun H locs hP hD hS => ?_)
        have hP : va_P D vwCl (wQx ca b 2 q.oo q.zz q.ks q.vs q.cg q.hw q.lo q.hg q.wk q.kw q.mn q.gv q.cp q.ho q.nk q.nv) H := hP
        have hD : va_D A (wQx ca b 2 q.oo q.zz q.ks q.vs q.cg q.hw q.lo q.hg q.wk q.kw q.mn q.gv q.cp q.ho q.nk q.nv) := hD
        refine lv_aload_n hx hb dX11_select_34 rfl (lv_at hl 0 rfl) ?_
        refine va_get (D := D) (ci := 9) (v := .int 2) (C := RX11) (T := TX11) (N := 17) hx hb hts inX11 hown hKN.1 hP 0 rfl rfl 0 (by decide) (hts (.fieldLink RX11 59 "TreeFamilyModel" "code" "I") (by decide +kernel)) (fun _ h9 => h9) rfl dX11_select_35 ?_
        refine lv_if_ne (tgt := 55) hx hb dX11_select_38 (by decide) (fun c38 => ?_) (fun c38 => ?_)
        · skip
          refine lv_iconst (v := 0) hx hb dX11_select_55 (by decide) ?_
          exact W.iret (v := 0) hx hb hr (fun t9 e9 w9 => ⟨⟨_, (2, q.oo, q.zz, q.ks, q.vs, q.cg, q.hw, q.lo, q.hg, q.wk, q.kw, q.mn, q.gv, q.cp, q.ho, q.nk, q.nv), rfl, by first | exact PO_same hj (F_select_0 (by rw [ab_len]; exact isB_lt c13)) hq rfl rfl | exact PO_same hj (F_select_0 (by rw [ab_len]; exact isB_ge (ge_of_nlt c23))) hq rfl rfl, by rw [e9]; exact hP, hD⟩, hS.F e9⟩) hS.2.2 dX11_select_56
        · skip
          exact absurd c38 (by decide)
      · skip
        refine lv_iload_n hx hb dX11_select_16 rfl (lv_at hl 2 rfl) ?_
        refine lv_aload_n hx hb dX11_select_17 rfl (lv_at hl 0 rfl) ?_
        refine va_get (D := D) (ci := 9) (v := .ref (b 2)) (C := RX11) (T := TX11) (N := 17) hx hb hts inX11 hown hKN.1 hP 0 rfl rfl 2 (by decide) (hts (.fieldLink RX11 13 "TreeFamilyModel" "size" "[I") (by decide +kernel)) (fun _ h9 => h9) rfl dX11_select_18 ?_
        refine lv_iload_n hx hb dX11_select_21 rfl (lv_at hl 1 rfl) ?_
        refine xr_ild hx hb hKN.1 hP 2 0 rfl rfl (j := j) (by omega) (by decide) dX11_select_22 ?_
        refine lv_icmp_lt (tgt := 30) hx hb dX11_select_23 (by decide) (fun c23 => ?_) (fun c23 => ?_)
        · skip
          have hB := isB_in c13 (gt_ge c23)
          obtain ⟨hi1, hi2⟩ := isB_nN (by omega) hB
          rw [hi2] at hl
          refine lv_iconst (v := 0) hx hb dX11_select_30 (by decide) ?_
          refine va_put (D := D) (ci := 9) (v := .int 0) (ty := .int) (C := RX11) (T := TX11) (N := 17) hx hb hts inX11 tyX11 tyX11_ok nmX11 hown hKN.1 hP hD hS 0 rfl rfl 0 (by decide) (hts (.fieldLink RX11 59 "TreeFamilyModel" "code" "I") (by decide +kernel)) (fun _ h9 => h9) rfl (by decide +kernel) rfl rfl (Nat.le_of_ble_eq_true rfl) dX11_select_31 (fun H locs hP hD hS => ?_)
          have hP : va_P D vwCl (wQx ca b 0 q.oo q.zz q.ks q.vs q.cg q.hw q.lo q.hg q.wk q.kw q.mn q.gv q.cp q.ho q.nk q.nv) H := hP
          have hD : va_D A (wQx ca b 0 q.oo q.zz q.ks q.vs q.cg q.hw q.lo q.hg q.wk q.kw q.mn q.gv q.cp q.ho q.nk q.nv) := hD
          refine lv_aload_n hx hb dX11_select_34 rfl (lv_at hl 0 rfl) ?_
          refine va_get (D := D) (ci := 9) (v := .int 0) (C := RX11) (T := TX11) (N := 17) hx hb hts inX11 hown hKN.1 hP 0 rfl rfl 0 (by decide) (hts (.fieldLink RX11 59 "TreeFamilyModel" "code" "I") (by decide +kernel)) (fun _ h9 => h9) rfl dX11_select_35 ?_
          refine lv_if_ne (tgt := 55) hx hb dX11_select_38 (by decide) (fun c38 => ?_) (fun c38 => ?_)
          · skip
            exact absurd c38 (by decide)
          · skip
            refine lv_aload_n hx hb dX11_select_41 rfl (lv_at hl 0 rfl) ?_
            refine va_get (D := D) (ci := 9) (v := .ref (b 3)) (C := RX11) (T := TX11) (N := 17) hx hb hts inX11 hown hKN.1 hP 0 rfl rfl 3 (by decide) (hts (.fieldLink RX11 16 "TreeFamilyModel" "keys" "[I") (by decide +kernel)) (fun _ h9 => h9) rfl dX11_select_42 ?_
            refine lv_bipush (v := 64) hx hb dX11_select_45 (by decide) ?_
            refine lv_iload_n hx hb dX11_select_47 rfl (lv_at hl 1 rfl) ?_
            refine lv_imul hx hb dX11_select_48 ?_
            refine xr_top (y := nI (64 * j)) (pk_mul 64 j) ?_
            refine lv_iload_n hx hb dX11_select_49 rfl (lv_at hl 2 rfl) ?_
            refine lv_iadd hx hb dX11_select_50 ?_
            refine xr_top (y := nI ((64 * j) + (iN x))) (nI_add (64 * j) (iN x)) ?_
            refine xr_ild hx hb hKN.1 hP 3 0 rfl rfl (j := (64 * j) + (iN x)) (by omega) (by decide) dX11_select_51 ?_
            refine lv_goto (tgt := 56) hx hb dX11_select_52 (by decide) ?_
            exact W.iret (v := (q.ks ((64 * j) + (iN x)))) hx hb hr (fun t9 e9 w9 => ⟨⟨_, (0, q.oo, q.zz, q.ks, q.vs, q.cg, q.hw, q.lo, q.hg, q.wk, q.kw, q.mn, q.gv, q.cp, q.ho, q.nk, q.nv), rfl, PO_same hj (F_select_1 (by rw [ab_len]; exact hB) (congrArg Prod.fst (row_getD j hi1))) hq rfl rfl, by rw [e9]; exact hP, hD⟩, hS.F e9⟩) hS.2.2 dX11_select_56
        · skip
          refine lv_iconst (v := 2) hx hb dX11_select_26 (by decide) ?_
          refine lv_goto (tgt := 31) hx hb dX11_select_27 (by decide) ?_
          refine va_put (D := D) (ci := 9) (v := .int 2) (ty := .int) (C := RX11) (T := TX11) (N := 17) hx hb hts inX11 tyX11 tyX11_ok nmX11 hown hKN.1 hP hD hS 0 rfl rfl 0 (by decide) (hts (.fieldLink RX11 59 "TreeFamilyModel" "code" "I") (by decide +kernel)) (fun _ h9 => h9) rfl (by decide +kernel) rfl rfl (Nat.le_of_ble_eq_true rfl) dX11_select_31 (fun H locs hP hD hS => ?_)
          have hP : va_P D vwCl (wQx ca b 2 q.oo q.zz q.ks q.vs q.cg q.hw q.lo q.hg q.wk q.kw q.mn q.gv q.cp q.ho q.nk q.nv) H := hP
          have hD : va_D A (wQx ca b 2 q.oo q.zz q.ks q.vs q.cg q.hw q.lo q.hg q.wk q.kw q.mn q.gv q.cp q.ho q.nk q.nv) := hD
          refine lv_aload_n hx hb dX11_select_34 rfl (lv_at hl 0 rfl) ?_
          refine va_get (D := D) (ci := 9) (v := .int 2) (C := RX11) (T := TX11) (N := 17) hx hb hts inX11 hown hKN.1 hP 0 rfl rfl 0 (by decide) (hts (.fieldLink RX11 59 "TreeFamilyModel" "code" "I") (by decide +kernel)) (fun _ h9 => h9) rfl dX11_select_35 ?_
          refine lv_if_ne (tgt := 55) hx hb dX11_select_38 (by decide) (fun c38 => ?_) (fun c38 => ?_)
          · skip
            refine lv_iconst (v := 0) hx hb dX11_select_55 (by decide) ?_
            exact W.iret (v := 0) hx hb hr (fun t9 e9 w9 => ⟨⟨_, (2, q.oo, q.zz, q.ks, q.vs, q.cg, q.hw, q.lo, q.hg, q.wk, q.kw, q.mn, q.gv, q.cp, q.ho, q.nk, q.nv), rfl, by first | exact PO_same hj (F_select_0 (by rw [ab_len]; exact isB_lt c13)) hq rfl rfl | exact PO_same hj (F_select_0 (by rw [ab_len]; exact isB_ge (ge_of_nlt c23))) hq rfl rfl, by rw [e9]; exact hP, hD⟩, hS.F e9⟩) hS.2.2 dX11_select_56
          · skip
            exact absurd c38 (by decide)
    · skip
      exact absurd c5 (by decide)

-- TreeFamilyModel.sum
set_option maxHeartbeats 4000000 in
set_option maxRecDepth 100000 in
theorem c_X11_sum (l : Launch) (D : va_G) (ca : Nat → ClassId) (b : Nat → Nat) (sz : Nat) (q : QS) (key : Int32) (mm : Int32) (hq : WQ q) : Met l yX11_sum wsX11_sum ({ frames := 2, cells := 0, slots := 0, locals := 46 } : Room) (xPc D (TY ca) [.ref (b 0), .int mm, .int key] (wQ ca b q) sz) (va_Ql (fun (r : Int64) (u : QS) => PO 0 (F_sum key) mm q r u) (xB D (wQ ca b) (va_A (wQ ca b q) sz)) (va_A (wQ ca b q) sz)) 0 0 (va_A (wQ ca b q) sz) := by
  refine Met.ofW (cc := cX11_sum) (maxL := 6) (ret := (some .long)) (by decide) rfl ?_
  intro p e s m args below meth c s₁ B hml hv
  obtain ⟨rfl, hsz, hP, hKN, hD0⟩ := hv
  have hx := B.exec
  have hb := B.bytes
  have hr := B.returns
  have hts := atoms_spec (ws := wsX11_sum) B.pre
  have hown : s.vm.findClass RX11 = some m.cls := findClass_of_methodNamed B.named
  have hlocks := B.notSynchronized
  have inX11 : ∀ w ∈ wsX110, w ∈ wsX11_sum := by decide +kernel
  subst hsz
  have hD := hD0.self (sz := s.heap.size)
  generalize hAe : va_A (wQ ca b q) s.heap.size = A at hD ⊢
  have hA : ∀ q : Nat, s.heap.size ≤ q → A q := fun q h => by rw [← hAe]; exact Or.inr h
  have hS : va_S A s.heap s.heap [] := va_S.rf
  have hl := lv_entry ([.ref (b 0), .int mm, .int key]) (n := 6) (Nat.le_of_ble_eq_true rfl)
  rw [lg_entry_eq]
  generalize (lg_sl ([.ref (b 0), .int mm, .int key]) ++ List.replicate (6 - (lg_sl ([.ref (b 0), .int mm, .int key])).length) Slot.unset).toArray = ls at hl ⊢
  have hl : lv_has ls 6 [(0, .ref (b 0)), (1, .int mm), (2, .int key)] := hl
  rcases isB3 mm with hmm | ⟨j, hj, hmj⟩
  · skip
    refine lv_aload_n hx hb dX11_sum_0 rfl (lv_at hl 0 rfl) ?_
    refine lv_iload_n hx hb dX11_sum_1 rfl (lv_at hl 1 rfl) ?_
    refine xs_i (va_runS (As := [.int mm]) (rest := [.ref (b 0)]) ⟨hx, hb, hml, hown, hts⟩ (c_X11_isMap l _) (va_cwS 1 hts gX11_sum_X11_isMap rfl rfl rfl (by decide +kernel) ⟨(Nat.le_of_ble_eq_true rfl), (Nat.le_of_ble_eq_true rfl)⟩) xPreT rfl rfl hl.1 rfl (lv_room (Nat.le_of_ble_eq_true rfl)) dX11_sum_2 ⟨(Nat.le_of_ble_eq_true rfl), (Nat.le_of_ble_eq_true rfl)⟩) (fun r2 er2 => ?_)
    subst er2
    refine xr_top (y := 0) (by rw [hmm]; rfl) ?_
    refine lv_if_eq (tgt := 12) hx hb dX11_sum_5 (by decide) (fun c5 => ?_) (fun c5 => ?_)
    · skip
      refine lv_iconst (v := 1) hx hb dX11_sum_12 (by decide) ?_
      refine va_put (D := D) (ci := 9) (v := .int 1) (ty := .int) (C := RX11) (T := TX11) (N := 17) hx hb hts inX11 tyX11 tyX11_ok nmX11 hown hKN.1 hP hD hS 0 rfl rfl 0 (by decide) (hts (.fieldLink RX11 59 "TreeFamilyModel" "code" "I") (by decide +kernel)) (fun _ h9 => h9) rfl (by decide +kernel) rfl rfl (Nat.le_of_ble_eq_true rfl) dX11_sum_13 (fun H locs hP hD hS => ?_)
      have hP : va_P D vwCl (wQx ca b 1 q.oo q.zz q.ks q.vs q.cg q.hw q.lo q.hg q.wk q.kw q.mn q.gv q.cp q.ho q.nk q.nv) H := hP
      have hD : va_D A (wQx ca b 1 q.oo q.zz q.ks q.vs q.cg q.hw q.lo q.hg q.wk q.kw q.mn q.gv q.cp q.ho q.nk q.nv) := hD
      refine lv_lconst (v := 0) hx hb dX11_sum_16 (by decide) ?_
      refine lv_lstore_n (lv' := [(3, .long 0), (0, .ref (b 0)), (1, .int mm), (2, .int key)]) hx hb dX11_sum_17 rfl hl (by decide) rfl (fun ls hl => ?_)
      refine lv_iconst (v := 0) hx hb dX11_sum_18 (by decide) ?_
      refine lv_istore (lv' := [(5, .int 0), (3, .long 0), (0, .ref (b 0)), (1, .int mm), (2, .int key)]) hx hb dX11_sum_19 hl (by decide) rfl (fun ls hl => ?_)
      refine lv_aload_n hx hb dX11_sum_21 rfl (lv_at hl 2 rfl) ?_
      refine va_get (D := D) (ci := 9) (v := .int 1) (C := RX11) (T := TX11) (N := 17) hx hb hts inX11 hown hKN.1 hP 0 rfl rfl 0 (by decide) (hts (.fieldLink RX11 59 "TreeFamilyModel" "code" "I") (by decide +kernel)) (fun _ h9 => h9) rfl dX11_sum_22 ?_
      refine lv_if_ne (tgt := 61) hx hb dX11_sum_25 (by decide) (fun c25 => ?_) (fun c25 => ?_)
      · skip
        refine lv_lload_n hx hb dX11_sum_61 rfl (lv_at hl 1 rfl) ?_
        exact W.lret (v := 0) hx hb hr (fun t9 e9 w9 => ⟨⟨_, (1, q.oo, q.zz, q.ks, q.vs, q.cg, q.hw, q.lo, q.hg, q.wk, q.kw, q.mn, q.gv, q.cp, q.ho, q.nk, q.nv), rfl, PO_bad hmm hq rfl rfl rfl, by rw [e9]; exact hP, hD⟩, hS.F e9⟩) hS.2.2 dX11_sum_62
      · skip
        exact absurd c25 (by decide)
    · skip
      exact absurd c5 (by decide)
  · subst hmj
    have hz6 := hq.1 j
    have hh3 := hq.2.1 j
    refine lv_aload_n hx hb dX11_sum_0 rfl (lv_at hl 0 rfl) ?_
    refine lv_iload_n hx hb dX11_sum_1 rfl (lv_at hl 1 rfl) ?_
    refine xs_i (va_runS (As := [.int (nI j)]) (rest := [.ref (b 0)]) ⟨hx, hb, hml, hown, hts⟩ (c_X11_isMap l _) (va_cwS 1 hts gX11_sum_X11_isMap rfl rfl rfl (by decide +kernel) ⟨(Nat.le_of_ble_eq_true rfl), (Nat.le_of_ble_eq_true rfl)⟩) xPreT rfl rfl hl.1 rfl (lv_room (Nat.le_of_ble_eq_true rfl)) dX11_sum_2 ⟨(Nat.le_of_ble_eq_true rfl), (Nat.le_of_ble_eq_true rfl)⟩) (fun r2 er2 => ?_)
    subst er2
    refine xr_top (y := 1) (by rw [isB3_ok hj]; rfl) ?_
    refine lv_if_eq (tgt := 12) hx hb dX11_sum_5 (by decide) (fun c5 => ?_) (fun c5 => ?_)
    · skip
      exact absurd c5 (by decide)
    · skip
      refine lv_iconst (v := 0) hx hb dX11_sum_8 (by decide) ?_
      refine lv_goto (tgt := 13) hx hb dX11_sum_9 (by decide) ?_
      refine va_put (D := D) (ci := 9) (v := .int 0) (ty := .int) (C := RX11) (T := TX11) (N := 17) hx hb hts inX11 tyX11 tyX11_ok nmX11 hown hKN.1 hP hD hS 0 rfl rfl 0 (by decide) (hts (.fieldLink RX11 59 "TreeFamilyModel" "code" "I") (by decide +kernel)) (fun _ h9 => h9) rfl (by decide +kernel) rfl rfl (Nat.le_of_ble_eq_true rfl) dX11_sum_13 (fun H locs hP hD hS => ?_)
      have hP : va_P D vwCl (wQx ca b 0 q.oo q.zz q.ks q.vs q.cg q.hw q.lo q.hg q.wk q.kw q.mn q.gv q.cp q.ho q.nk q.nv) H := hP
      have hD : va_D A (wQx ca b 0 q.oo q.zz q.ks q.vs q.cg q.hw q.lo q.hg q.wk q.kw q.mn q.gv q.cp q.ho q.nk q.nv) := hD
      have hpl := plz q j key
      refine lv_lconst (v := 0) hx hb dX11_sum_16 (by decide) ?_
      refine lv_lstore_n (lv' := [(3, .long 0), (0, .ref (b 0)), (1, .int (nI j)), (2, .int key)]) hx hb dX11_sum_17 rfl hl (by decide) rfl (fun ls hl => ?_)
      refine lv_iconst (v := 0) hx hb dX11_sum_18 (by decide) ?_
      refine lv_istore (lv' := [(5, .int 0), (3, .long 0), (0, .ref (b 0)), (1, .int (nI j)), (2, .int key)]) hx hb dX11_sum_19 hl (by decide) rfl (fun ls hl => ?_)
      refine xl 21 (σ := Nat × Int64) (fun n u H locs ls => match u with | (i, v) => i + n = plQ q j key ∧ v = sumE ((enQ q j).take i) ∧ va_P D vwCl (wQx ca b 0 q.oo q.zz q.ks q.vs q.cg q.hw q.lo q.hg q.wk q.kw q.mn q.gv q.cp q.ho q.nk q.nv) H ∧ va_D A (wQx ca b 0 q.oo q.zz q.ks q.vs q.cg q.hw q.lo q.hg q.wk q.kw q.mn q.gv q.cp q.ho q.nk q.nv) ∧ va_S A s.heap H locs ∧ lv_has ls 6 [(0, .ref (b 0)), (1, .int (nI j)), (2, .int key), (3, .long v), (5, .int (nI i))]) ?_ (plQ q j key) (0, 0) _ _ _ ⟨(by omega), rfl, hP, hD, hS, lv_sub hl [2, 3, 4, 1, 0] rfl⟩
      clear hP hD hS hl
      intro n ih u H locs ls hI
      obtain ⟨i, v⟩ := u
      obtain ⟨hn, hv, hP, hD, hS, hl⟩ := hI
      refine lv_aload_n hx hb dX11_sum_21 rfl (lv_at hl 0 rfl) ?_
      refine va_get (D := D) (ci := 9) (v := .int 0) (C := RX11) (T := TX11) (N := 17) hx hb hts inX11 hown hKN.1 hP 0 rfl rfl 0 (by decide) (hts (.fieldLink RX11 59 "TreeFamilyModel" "code" "I") (by decide +kernel)) (fun _ h9 => h9) rfl dX11_sum_22 ?_
      refine lv_if_ne (tgt := 61) hx hb dX11_sum_25 (by decide) (fun c25 => ?_) (fun c25 => ?_)
      · skip
        exact absurd c25 (by decide)
      · skip
        refine lv_iload hx hb dX11_sum_28 (lv_at hl 4 rfl) ?_
        refine lv_aload_n hx hb dX11_sum_30 rfl (lv_at hl 0 rfl) ?_
        refine lv_iload_n hx hb dX11_sum_31 rfl (lv_at hl 1 rfl) ?_
        refine lv_iload_n hx hb dX11_sum_32 rfl (lv_at hl 2 rfl) ?_
        refine xc_i (wr := []) (va_runV (As := [.int (nI j), .int key]) (rest := [.int (nI i)]) ⟨hx, hb, hml, hown, hts⟩ (c_X11_place l D ca b _ (0, q.oo, q.zz, q.ks, q.vs, q.cg, q.hw, q.lo, q.hg, q.wk, q.kw, q.mn, q.gv, q.cp, q.ho, q.nk, q.nv) j key hq hj) (cwV 2 hts gX11_sum_X11_place rfl rfl rfl (by decide +kernel) ⟨(Nat.le_of_ble_eq_true rfl), (Nat.le_of_ble_eq_true rfl)⟩) (xPreV hKN hP hD [0, 1, 2, 3, 4, 5, 6, 7, 8, 9, 10, 11, 12, 13, 14, 15, 16] (by decide) rfl (q0 := 0) rfl rfl rfl) rfl rfl hl.1 rfl (lv_room (Nat.le_of_ble_eq_true rfl)) dX11_sum_33 ⟨(Nat.le_of_ble_eq_true rfl), (Nat.le_of_ble_eq_true rfl)⟩) hP hD hS hA [0, 1, 2, 3, 4, 5, 6, 7, 8, 9, 10, 11, 12, 13, 14, 15, 16] [] rfl rfl (by decide) (by decide) (fun r33 u33 H locs hu33 hP hD hS => ?_)
        obtain ⟨er33, eu33⟩ := hu33
        have eu33 := eu33.symm
        subst eu33
        have hP : va_P D vwCl (wQx ca b 0 q.oo q.zz q.ks q.vs q.cg q.hw q.lo q.hg q.wk q.kw q.mn q.gv q.cp q.ho q.nk q.nv) H := hP
        have hD : va_D A (wQx ca b 0 q.oo q.zz q.ks q.vs q.cg q.hw q.lo q.hg q.wk q.kw q.mn q.gv q.cp q.ho q.nk q.nv) := hD
        have er33 : r33 = nI (plQ q j key) := er33
        subst er33
        refine lv_icmp_ge (tgt := 61) hx hb dX11_sum_36 (by decide) (fun c36 => ?_) (fun c36 => ?_)
        · skip
          have c36 : (plQ q j key) ≤ i := (xn_le (a := (plQ q j key)) (b := i) (Nat.lt_of_le_of_lt (pl60 (q := q) hq j key) (by decide)) (by omega)).mp c36
          refine lv_lload_n hx hb dX11_sum_61 rfl (lv_at hl 3 rfl) ?_
          exact W.lret (v := v) hx hb hr (fun t9 e9 w9 => ⟨⟨_, (0, q.oo, q.zz, q.ks, q.vs, q.cg, q.hw, q.lo, q.hg, q.wk, q.kw, q.mn, q.gv, q.cp, q.ho, q.nk, q.nv), rfl, PO_ok hj hq (hv.trans (by rw [show i = plQ q j key by omega]; rfl)) rfl (vup_self _ _).symm, by rw [e9]; exact hP, hD⟩, hS.F e9⟩) hS.2.2 dX11_sum_62
        · skip
          have c36 : ¬ (plQ q j key) ≤ i := fun h9 => c36 ((xn_le (a := (plQ q j key)) (b := i) (Nat.lt_of_le_of_lt (pl60 (q := q) hq j key) (by decide)) (by omega)).mpr h9)
          obtain ⟨n, rfl⟩ : ∃ k, n = k + 1 := ⟨n - 1, by omega⟩
          refine lv_lload_n hx hb dX11_sum_39 rfl (lv_at hl 3 rfl) ?_
          refine lv_aload_n hx hb dX11_sum_40 rfl (lv_at hl 0 rfl) ?_
          refine va_get (D := D) (ci := 9) (v := .ref (b 4)) (C := RX11) (T := TX11) (N := 17) hx hb hts inX11 hown hKN.1 hP 0 rfl rfl 4 (by decide) (hts (.fieldLink RX11 19 "TreeFamilyModel" "values" "[I") (by decide +kernel)) (fun _ h9 => h9) rfl dX11_sum_41 ?_
          refine lv_bipush (v := 64) hx hb dX11_sum_44 (by decide) ?_
          refine lv_iload_n hx hb dX11_sum_46 rfl (lv_at hl 1 rfl) ?_
          refine lv_imul hx hb dX11_sum_47 ?_
          refine xr_top (y := nI (64 * j)) (pk_mul 64 j) ?_
          refine lv_iload hx hb dX11_sum_48 (lv_at hl 4 rfl) ?_
          refine lv_iadd hx hb dX11_sum_50 ?_
          refine xr_top (y := nI ((64 * j) + i)) (nI_add (64 * j) i) ?_
          refine xr_ild hx hb hKN.1 hP 4 0 rfl rfl (j := (64 * j) + i) (by omega) (by decide) dX11_sum_51 ?_
          refine lv_i2l hx hb dX11_sum_52 rfl ?_
          refine lv_ladd hx hb dX11_sum_53 ?_
          refine lv_lstore_n (lv' := [(3, .long (v + ((q.vs ((64 * j) + i)).toInt64))), (0, .ref (b 0)), (1, .int (nI j)), (2, .int key), (5, .int (nI i))]) hx hb dX11_sum_54 rfl hl (by decide) rfl (fun ls hl => ?_)
          refine lv_iinc (v := (nI (i + 1))) (lv' := [(5, .int (nI (i + 1))), (3, .long (v + ((q.vs ((64 * j) + i)).toInt64))), (0, .ref (b 0)), (1, .int (nI j)), (2, .int key)]) hx hb dX11_sum_55 hl (k := 4) rfl (nI_1 _) (by decide) rfl (fun ls hl => ?_)
          refine lv_goto (tgt := 21) hx hb dX11_sum_58 (by decide) ?_
          exact ih n (by omega) (i + 1, v + ((q.vs ((64 * j) + i)).toInt64)) _ _ _ ⟨(by omega), (by rw [hv]; exact (sumE_s j (by omega)).symm), hP, hD, hS, lv_sub hl [2, 3, 4, 1, 0] rfl⟩
