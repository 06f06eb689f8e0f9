/-! two maps of the reference -/
def PO2 (F : RW → RW → Int32 × Int32 × RW) (m n : Int32) (q : QS) (r : Int32) (u : QS) : Prop := WQ u ∧ (isB m 3 = false ∨ isB n 3 = false → r = 0 ∧ u.co = 1 ∧ ab u = ab q) ∧ ∀ j k, j < 3 → k < 3 → m = nI j → n = nI k → r = (F (ab q j) (ab q k)).1 ∧ u.co = (F (ab q j) (ab q k)).2.1 ∧ ab u = va_up (ab q) j (F (ab q j) (ab q k)).2.2
theorem PO2_bad {F : RW → RW → Int32 × Int32 × RW} {m n : Int32} {q u : QS} {r : Int32} (hm : isB m 3 = false ∨ isB n 3 = false) (hw : WQ u) (h1 : r = 0) (h2 : u.co = 1) (h3 : ab u = ab q) : PO2 F m n q r u :=
  ⟨hw, fun _ => ⟨h1, h2, h3⟩, fun j k hj hk e e2 => (by rw [e, e2, isB3_ok hj, isB3_ok hk] at hm; rcases hm with h | h <;> cases h)⟩
theorem PO2_by {F : RW → RW → Int32 × Int32 × RW} {j k : Nat} {q u : QS} {r c : Int32} {R : RW} (hj : j < 3) (hk : k < 3) (hF : F (ab q j) (ab q k) = (r, c, R)) (hw : WQ u) (h2 : u.co = c) (h3 : ab u = va_up (ab q) j R) : PO2 F (nI j) (nI k) q r u :=
  ⟨hw, fun h => (by rw [isB3_ok hj, isB3_ok hk] at h; rcases h with h | h <;> cases h), fun i i2 hi hi2 e e2 => (by obtain rfl := nI3 hj hi e; obtain rfl := nI3 hk hi2 e2; rw [hF]; exact ⟨rfl, h2, h3⟩)⟩
theorem PO2_same {F : RW → RW → Int32 × Int32 × RW} {j k : Nat} {q u : QS} {r c : Int32} (hj : j < 3) (hk : k < 3) (hF : F (ab q j) (ab q k) = (r, c, ab q j)) (hw : WQ u) (h2 : u.co = c) (h3 : ab u = ab q) : PO2 F (nI j) (nI k) q r u := PO2_by hj hk hF hw h2 (by rw [h3, vup_self])
def newL (f g : Nat → Int32) (c : Nat) : List (Int32 × Int32) := (List.range c).map (fun i => (f i, g i))
theorem newL_len (f g : Nat → Int32) (c : Nat) : (newL f g c).length = c := by unfold newL; rw [List.length_map, List.length_range]
theorem newL_at {f g : Nat → Int32} {c i : Nat} (h : i < c) : (newL f g c)[i]? = some (f i, g i) := by
  unfold newL
  rw [List.getElem?_map, List.getElem?_range h]
  rfl
theorem newL_n (f g : Nat → Int32) (c : Nat) (x y : Int32) : newL (upd f c x) (upd g c y) c = newL f g c := by
  apply List.ext_getElem?
  intro i
  by_cases h : i < c
  · rw [newL_at h, newL_at h, ux_ne (by omega), ux_ne (by omega)]
  · rw [List.getElem?_eq_none (by rw [newL_len]; omega), List.getElem?_eq_none (by rw [newL_len]; omega)]
theorem newL_s (f g : Nat → Int32) (c : Nat) (x y : Int32) : newL (upd f c x) (upd g c y) (c + 1) = newL f g c ++ [(x, y)] := by
  have : newL (upd f c x) (upd g c y) (c + 1) = newL (upd f c x) (upd g c y) c ++ [(upd f c x c, upd g c y c)] := by
    unfold newL
    rw [List.range_succ, List.map_append]
    rfl
  rw [this, newL_n, ux_eq, ux_eq]
theorem mgE_0 (od op : Int32) (n : Nat) : mgE od op n [] [] = ([], 0) := by cases n <;> rfl
theorem mgE_a (od op : Int32) (n : Nat) (a : Int32 × Int32) (A : List (Int32 × Int32)) : mgE od op (n + 1) (a :: A) [] = if op = 1 then ((mgE od op n A []).1, (mgE od op n A []).2 + 1) else (a :: (mgE od op n A []).1, (mgE od op n A []).2) := rfl
theorem mgE_b (od op : Int32) (n : Nat) (b : Int32 × Int32) (B : List (Int32 × Int32)) : mgE od op (n + 1) [] (b :: B) = if op = 0 then (b :: (mgE od op n [] B).1, (mgE od op n [] B).2 + 1) else ((mgE od op n [] B).1, (mgE od op n [] B).2) := rfl
theorem mgE_ab (od op : Int32) (n : Nat) (a b : Int32 × Int32) (A B : List (Int32 × Int32)) : mgE od op (n + 1) (a :: A) (b :: B) = if gB od a.1 b.1 = true then (if op = 1 then ((mgE od op n A (b :: B)).1, (mgE od op n A (b :: B)).2 + 1) else (a :: (mgE od op n A (b :: B)).1, (mgE od op n A (b :: B)).2)) else if gB od b.1 a.1 = true then (if op = 0 then (b :: (mgE od op n (a :: A) B).1, (mgE od op n (a :: A) B).2 + 1) else ((mgE od op n (a :: A) B).1, (mgE od op n (a :: A) B).2)) else (if op = 2 then ((mgE od op n A B).1, (mgE od op n A B).2 + 1) else ((a.1, 2 * a.2 + b.2) :: (mgE od op n A B).1, (mgE od op n A B).2)) := rfl
theorem mg_fuel (od op : Int32) : ∀ (n m : Nat) (A B : List (Int32 × Int32)), A.length + B.length ≤ n → A.length + B.length ≤ m → mgE od op n A B = mgE od op m A B := by
  intro n
  induction n with
  | zero =>
    intro m A B h1 h2
    have e1 : A = [] := List.eq_nil_of_length_eq_zero (by omega)
    have e2 : B = [] := List.eq_nil_of_length_eq_zero (by omega)
    subst e1; subst e2
    rw [mgE_0, mgE_0]
  | succ n ih =>
    intro m A B h1 h2
    cases m with
    | zero =>
      have e1 : A = [] := List.eq_nil_of_length_eq_zero (by omega)
      have e2 : B = [] := List.eq_nil_of_length_eq_zero (by omega)
      subst e1; subst e2
      rw [mgE_0, mgE_0]
    | succ m =>
      cases A with
      | nil =>
        cases B with
        | nil => rw [mgE_0, mgE_0]
        | cons b B =>
          rw [List.length_nil, List.length_cons] at h1 h2
          rw [mgE_b, mgE_b, ih m [] B (by rw [List.length_nil]; omega) (by rw [List.length_nil]; omega)]
      | cons a A =>
        cases B with
        | nil =>
          rw [List.length_nil, List.length_cons] at h1 h2
          rw [mgE_a, mgE_a, ih m A [] (by rw [List.length_nil]; omega) (by rw [List.length_nil]; omega)]
        | cons b B =>
          rw [List.length_cons, List.length_cons] at h1 h2
          rw [mgE_ab, mgE_ab, ih m A (b :: B) (by rw [List.length_cons]; omega) (by rw [List.length_cons]; omega), ih m (a :: A) B (by rw [List.length_cons]; omega) (by rw [List.length_cons]; omega), ih m A B (by omega) (by omega)]
/-- the merge, n entries still to come -/
def MI (od op : Int32) (E1 E2 : List (Int32 × Int32)) (n c x y w : Nat) (f g : Nat → Int32) : Prop := x ≤ E1.length ∧ y ≤ E2.length ∧ n = (E1.length - x) + (E2.length - y) ∧ c ≤ x + y ∧ w ≤ x + y ∧ (mgE od op 120 E1 E2).1 = newL f g c ++ (mgE od op n (E1.drop x) (E2.drop y)).1 ∧ (mgE od op 120 E1 E2).2 = w + (mgE od op n (E1.drop x) (E2.drop y)).2
theorem MI_0 {od op : Int32} {E1 E2 : List (Int32 × Int32)} (h1 : E1.length ≤ 60) (h2 : E2.length ≤ 60) (f g : Nat → Int32) : MI od op E1 E2 (E1.length + E2.length) 0 0 0 0 f g := by
  have hf := mg_fuel od op 120 (E1.length + E2.length) E1 E2 (by omega) (Nat.le_refl _)
  refine ⟨Nat.zero_le _, Nat.zero_le _, by omega, Nat.le_refl _, Nat.le_refl _, ?_, ?_⟩
  · rw [hf, List.drop_zero, List.drop_zero]; rfl
  · rw [hf, List.drop_zero, List.drop_zero, Nat.zero_add]
theorem dropc {E : List (Int32 × Int32)} {x : Nat} {a : Int32 × Int32} (h : E[x]? = some a) : E.drop x = a :: E.drop (x + 1) := by
  obtain ⟨h1, h2⟩ := List.getElem?_eq_some_iff.mp h
  rw [List.drop_eq_getElem_cons h1, h2]
theorem dropn {E : List (Int32 × Int32)} {x : Nat} (h : E[x]? = none) : E.drop x = [] := List.drop_eq_nil_of_le (List.getElem?_eq_none_iff.mp h)
theorem MI_a {od op : Int32} {E1 E2 : List (Int32 × Int32)} {n c x y w : Nat} {f g : Nat → Int32} {a : Int32 × Int32} (h : MI od op E1 E2 (n + 1) c x y w f g) (hx : E1[x]? = some a) (hb : E2[y]? = none ∨ ∃ b, E2[y]? = some b ∧ gB od a.1 b.1 = true) : (¬ op = 1 → MI od op E1 E2 n (c + 1) (x + 1) y w (upd f c a.1) (upd g c a.2)) ∧ (op = 1 → MI od op E1 E2 n c (x + 1) y (w + 1) (upd f c a.1) (upd g c a.2)) := by
  obtain ⟨h1, h2, h3, h4, h5, h6, h7⟩ := h
  have hl := (List.getElem?_eq_some_iff.mp hx).1
  have e : mgE od op (n + 1) (E1.drop x) (E2.drop y) = if op = 1 then ((mgE od op n (E1.drop (x + 1)) (E2.drop y)).1, (mgE od op n (E1.drop (x + 1)) (E2.drop y)).2 + 1) else (a :: (mgE od op n (E1.drop (x + 1)) (E2.drop y)).1, (mgE od op n (E1.drop (x + 1)) (E2.drop y)).2) := by
    rw [dropc hx]
    rcases hb with hb | ⟨b, hb, hg⟩
    · rw [dropn hb, mgE_a]
    · rw [dropc hb, mgE_ab, if_pos hg]
  rw [e] at h6 h7
  constructor
  · intro ho
    rw [if_neg ho] at h6 h7
    refine ⟨by omega, h2, by omega, by omega, by omega, ?_, h7⟩
    rw [h6, newL_s, List.append_assoc]; rfl
  · intro ho
    rw [if_pos ho] at h6 h7
    refine ⟨by omega, h2, by omega, by omega, by omega, ?_, ?_⟩
    · rw [h6, newL_n]
    · rw [h7]; show w + (_ + 1) = _; omega
theorem MI_b {od op : Int32} {E1 E2 : List (Int32 × Int32)} {n c x y w : Nat} {f g : Nat → Int32} {b : Int32 × Int32} (h : MI od op E1 E2 (n + 1) c x y w f g) (hy : E2[y]? = some b) (ha : E1[x]? = none ∨ ∃ a, E1[x]? = some a ∧ gB od a.1 b.1 = false ∧ gB od b.1 a.1 = true) : (op = 0 → MI od op E1 E2 n (c + 1) x (y + 1) (w + 1) (upd f c b.1) (upd g c b.2)) ∧ (¬ op = 0 → MI od op E1 E2 n c x (y + 1) w (upd f c b.1) (upd g c b.2)) := by
  obtain ⟨h1, h2, h3, h4, h5, h6, h7⟩ := h
  have hl := (List.getElem?_eq_some_iff.mp hy).1
  have e : mgE od op (n + 1) (E1.drop x) (E2.drop y) = if op = 0 then (b :: (mgE od op n (E1.drop x) (E2.drop (y + 1))).1, (mgE od op n (E1.drop x) (E2.drop (y + 1))).2 + 1) else ((mgE od op n (E1.drop x) (E2.drop (y + 1))).1, (mgE od op n (E1.drop x) (E2.drop (y + 1))).2) := by
    rw [dropc hy]
    rcases ha with ha | ⟨a, ha, hg, hg2⟩
    · rw [dropn ha, mgE_b]
    · rw [dropc ha, mgE_ab, if_neg (by rw [hg]; decide), if_pos hg2]
  rw [e] at h6 h7
  constructor
  · intro ho
    rw [if_pos ho] at h6 h7
    refine ⟨h1, by omega, by omega, by omega, by omega, ?_, ?_⟩
    · rw [h6, newL_s, List.append_assoc]; rfl
    · rw [h7]; show w + (_ + 1) = _; omega
  · intro ho
    rw [if_neg ho] at h6 h7
    refine ⟨h1, by omega, by omega, by omega, by omega, ?_, h7⟩
    rw [h6, newL_n]
theorem MI_c {od op : Int32} {E1 E2 : List (Int32 × Int32)} {n c x y w : Nat} {f g : Nat → Int32} {a b : Int32 × Int32} (h : MI od op E1 E2 n c x y w f g) (hx : E1[x]? = some a) (hy : E2[y]? = some b) (g1 : gB od a.1 b.1 = false) (g2 : gB od b.1 a.1 = false) : (¬ op = 2 → MI od op E1 E2 (n - 2) (c + 1) (x + 1) (y + 1) w (upd f c a.1) (upd g c (2 * a.2 + b.2))) ∧ (op = 2 → MI od op E1 E2 (n - 2) c (x + 1) (y + 1) (w + 1) (upd f c a.1) (upd g c (2 * a.2 + b.2))) := by
  obtain ⟨h1, h2, h3, h4, h5, h6, h7⟩ := h
  have hl := (List.getElem?_eq_some_iff.mp hx).1
  have hl2 := (List.getElem?_eq_some_iff.mp hy).1
  obtain ⟨k, rfl⟩ : ∃ k, n = k + 2 := ⟨n - 2, by omega⟩
  rw [dropc hx, dropc hy, mgE_ab, if_neg (by rw [g1]; decide), if_neg (by rw [g2]; decide), mg_fuel od op (k + 1) k _ _ (by rw [List.length_drop, List.length_drop]; omega) (by rw [List.length_drop, List.length_drop]; omega)] at h6 h7
  rw [Nat.add_sub_cancel]
  constructor
  · intro ho
    rw [if_neg ho] at h6 h7
    refine ⟨by omega, by omega, by omega, by omega, by omega, ?_, h7⟩
    rw [h6, newL_s, List.append_assoc]; rfl
  · intro ho
    rw [if_pos ho] at h6 h7
    refine ⟨by omega, by omega, by omega, by omega, by omega, ?_, ?_⟩
    · rw [h6, newL_n]
    · rw [h7]; show w + (_ + 1) = _; omega
theorem MI_e {od op : Int32} {E1 E2 : List (Int32 × Int32)} {n c x y w : Nat} {f g : Nat → Int32} (h : MI od op E1 E2 n c x y w f g) (hx : E1.length ≤ x) (hy : E2.length ≤ y) : (mgE od op 120 E1 E2).1 = newL f g c ∧ (mgE od op 120 E1 E2).2 = w ∧ c ≤ 120 ∧ w ≤ 120 ∨ ¬ (E1.length ≤ 60 ∧ E2.length ≤ 60) := by
  obtain ⟨h1, h2, h3, h4, h5, h6, h7⟩ := h
  rw [List.drop_eq_nil_of_le hx, List.drop_eq_nil_of_le hy, mgE_0] at h6 h7
  by_cases q : E1.length ≤ 60 ∧ E2.length ≤ 60
  · refine Or.inl ⟨by rw [h6, List.append_nil], h7, by omega, by omega⟩
  · exact Or.inr q
theorem F_join_1 {op : Int32} {r s : RW} (h : isB op 3 = false) : F_join op r s = (0, 1, r) := by unfold F_join; rw [if_neg (by rw [h]; exact fun q => absurd q.1 (by decide))]
theorem F_join_o {op : Int32} {r s : RW} (h : ¬ r.od = s.od) : F_join op r s = (0, 1, r) := by unfold F_join; rw [if_neg (fun q => h q.2)]
theorem F_join_2 {op : Int32} {r s : RW} {L : List (Int32 × Int32)} (h : isB op 3 = true) (ho : r.od = s.od) (hL : (mgE r.od op 120 r.en s.en).1 = L) (hl : 60 < L.length) : F_join op r s = (0, 2, r) := by unfold F_join; rw [if_pos ⟨h, ho⟩, hL, if_pos hl]
theorem F_join_0 {op : Int32} {r s : RW} {L : List (Int32 × Int32)} {w : Nat} (h : isB op 3 = true) (ho : r.od = s.od) (hL : (mgE r.od op 120 r.en s.en).1 = L) (hw : (mgE r.od op 120 r.en s.en).2 = w) (hl : ¬ 60 < L.length) : F_join op r s = (nI w, 0, rEn r L (r.cg + nI w)) := by unfold F_join; rw [if_pos ⟨h, ho⟩, hL, if_neg hl, hw]
/-- the copy back -/
def cbI (f0 f nk : Nat → Int32) (j k : Nat) : Prop := ∀ x, f x = if 64 * j ≤ x ∧ x < 64 * j + k then nk (x - 64 * j) else f0 x
theorem cbI_0 (f0 nk : Nat → Int32) (j : Nat) : cbI f0 f0 nk j 0 := fun x => by rw [if_neg (by omega)]
theorem cbI_s {f0 f nk : Nat → Int32} {j k : Nat} (h : cbI f0 f nk j k) : cbI f0 (upd f (64 * j + k) (nk k)) nk j (k + 1) := fun x => by
  by_cases e : x = 64 * j + k
  · subst e
    rw [ux_eq, if_pos (by omega), Nat.add_sub_cancel_left]
  · rw [ux_ne e, h]
    by_cases c : 64 * j ≤ x ∧ x < 64 * j + k
    · rw [if_pos c, if_pos (by omega)]
    · rw [if_neg c, if_neg (by omega)]
theorem cbI_row {f0 f g0 g nk nv : Nat → Int32} {j c : Nat} (h : cbI f0 f nk j c) (h2 : cbI g0 g nv j c) : rowL f g c j = newL nk nv c := by
  refine rowL_of (newL_len _ _ _) fun i hi => ?_
  rw [newL_at hi, h, h2, if_pos (by omega), if_pos (by omega), Nat.add_sub_cancel_left]
theorem cbI_far {f0 f nk : Nat → Int32} {j c : Nat} (h : cbI f0 f nk j c) (hc : c ≤ 60) : ∀ x, ¬ (64 * j ≤ x ∧ x < 64 * j + 64) → f x = f0 x := fun x hx => by rw [h, if_neg (by omega)]
theorem gt23' {x : Int32} (h : 2 < x) : (3 : Int32) ≤ x := by
  rw [Int32.lt_iff_toInt_lt] at h
  rw [Int32.le_iff_toInt_le]
  have : (3 : Int32).toInt = 3 := rfl
  have : (2 : Int32).toInt = 2 := rfl
  omega
theorem le23' {x : Int32} (h : ¬ 2 < x) : ¬ (3 : Int32) ≤ x := by
  rw [Int32.lt_iff_toInt_lt] at h
  rw [Int32.le_iff_toInt_le]
  have : (3 : Int32).toInt = 3 := rfl
  have : (2 : Int32).toInt = 2 := rfl
  omega

set_option maxHeartbeats 4000000 in
set_option maxRecDepth 100000 in
theorem b_join_f0 {p : Program} {l : Launch} {e : Env} {R : Room} {s : State} {m : MethodId} {args : Array Value} {below : List Frame} {meth : Method} {c : Code} {H : Heap} {locs : List Loc} {Q : State → Prop} {ls : Array Slot} {D : va_G} {ca : Nat → ClassId} {A : Nat → Prop} {b : Nat → Nat} (q : QS) (j k n1 x1 y1 w1 : Nat) (op : Int32) (f1 g1 : Nat → Int32) (hj : j < 3) (hk : k < 3) (hx6 : x1 ≤ 60) (hy6 : y1 ≤ 60) (hn6 : n1 < 120) (hx : p.tables.exec = Jvm.exec) (hb : c.code = cX11_join) (hml : c.maxLocals = 13) (hts : ∀ w ∈ wsX11_join, w.before args s = true) (hown : s.vm.findClass RX11 = some m.cls) (hKN : xK D (TY ca) s) (hA : ∀ q : Nat, s.heap.size ≤ q → A q) (hP : va_P D vwCl (wQx ca b 0 q.oo q.zz q.ks q.vs q.cg q.hw q.lo q.hg q.wk q.kw q.mn q.gv q.cp q.ho f1 g1) H) (hD : va_D A (wQx ca b 0 q.oo q.zz q.ks q.vs q.cg q.hw q.lo q.hg q.wk q.kw q.mn q.gv q.cp q.ho f1 g1)) (hS : va_S A s.heap H locs) (hl : lv_has ls 13 [(12, .int 0), (11, .int 0), (10, .int 1), (9, .int (nI ((64 * k) + y1))), (8, .int (nI ((64 * j) + x1))), (0, .ref (b 0)), (1, .int (nI j)), (2, .int (nI k)), (3, .int op), (4, .int (nI n1)), (5, .int (nI x1)), (6, .int (nI y1)), (7, .int (nI w1))]) (K9 : ∀ (H : Heap) (locs : List Loc) (ls : Array Slot), va_P D vwCl (wQx ca b 0 q.oo q.zz q.ks q.vs q.cg q.hw q.lo q.hg q.wk q.kw q.mn q.gv q.cp q.ho (upd f1 n1 (q.ks ((64 * j) + x1))) (upd g1 n1 (q.vs ((64 * j) + x1)))) H → va_D A (wQx ca b 0 q.oo q.zz q.ks q.vs q.cg q.hw q.lo q.hg q.wk q.kw q.mn q.gv q.cp q.ho (upd f1 n1 (q.ks ((64 * j) + x1))) (upd g1 n1 (q.vs ((64 * j) + x1)))) → va_S A s.heap H locs → lv_has ls 13 [(0, .ref (b 0)), (1, .int (nI j)), (2, .int (nI k)), (3, .int op), (4, .int (nI (n1 + 0))), (5, .int (nI (x1 + 1))), (6, .int (nI (y1 + 0))), (7, .int (nI (w1 + 1)))] → W p l e R s m args below meth c H locs 0 0 Q (F0 m 61 ls [])) : W p l e R s m args below meth c H locs 0 0 Q (F0 m 244 ls []) := by
  have inX11 : ∀ w ∈ wsX110, w ∈ wsX11_join := by decide +kernel
  refine lv_aload_n hx hb dX11_join_244 rfl (lv_at hl 5 rfl) ?_
  refine va_get (D := D) (ci := 9) (v := .ref (b 15)) (C := RX11) (T := TX11) (N := 17) hx hb hts inX11 hown hKN.1 hP 0 rfl rfl 15 (by decide) (hts (.fieldLink RX11 53 "TreeFamilyModel" "newKeys" "[I") (by decide +kernel)) (fun _ h9 => h9) rfl dX11_join_245 ?_
  refine lv_iload hx hb dX11_join_248 (lv_at hl 9 rfl) ?_
  refine lv_iload hx hb dX11_join_250 (lv_at hl 1 rfl) ?_
  refine lv_if_eq (tgt := 265) hx hb dX11_join_252 (by decide) (fun c252 => ?_) (fun c252 => ?_)
  · skip
    refine lv_aload_n hx hb dX11_join_265 rfl (lv_at hl 5 rfl) ?_
    refine va_get (D := D) (ci := 9) (v := .ref (b 3)) (C := RX11) (T := TX11) (N := 17) hx hb hts inX11 hown hKN.1 hP 0 rfl rfl 3 (by decide) (hts (.fieldLink RX11 16 "TreeFamilyModel" "keys" "[I") (by decide +kernel)) (fun _ h9 => h9) rfl dX11_join_266 ?_
    refine lv_iload hx hb dX11_join_269 (lv_at hl 4 rfl) ?_
    refine xr_ild hx hb hKN.1 hP 3 0 rfl rfl (j := (64 * j) + x1) (by omega) (by decide) dX11_join_271 ?_
    refine xr_ist hx hb hKN.1 hP hD hS 15 0 rfl rfl (j := n1) (by omega) (by decide) dX11_join_272 (fun H locs hP hD hS => ?_)
    have hP : va_P D vwCl (wQx ca b 0 q.oo q.zz q.ks q.vs q.cg q.hw q.lo q.hg q.wk q.kw q.mn q.gv q.cp q.ho (upd f1 n1 (q.ks ((64 * j) + x1))) g1) H := hP
    have hD : va_D A (wQx ca b 0 q.oo q.zz q.ks q.vs q.cg q.hw q.lo q.hg q.wk q.kw q.mn q.gv q.cp q.ho (upd f1 n1 (q.ks ((64 * j) + x1))) g1) := hD
    refine lv_aload_n hx hb dX11_join_273 rfl (lv_at hl 5 rfl) ?_
    refine va_get (D := D) (ci := 9) (v := .ref (b 16)) (C := RX11) (T := TX11) (N := 17) hx hb hts inX11 hown hKN.1 hP 0 rfl rfl 16 (by decide) (hts (.fieldLink RX11 56 "TreeFamilyModel" "newValues" "[I") (by decide +kernel)) (fun _ h9 => h9) rfl dX11_join_274 ?_
    refine lv_iload hx hb dX11_join_277 (lv_at hl 9 rfl) ?_
    refine lv_iload hx hb dX11_join_279 (lv_at hl 2 rfl) ?_
    refine lv_if_eq (tgt := 294) hx hb dX11_join_281 (by decide) (fun c281 => ?_) (fun c281 => ?_)
    · skip
      exact absurd c281 (by decide)
    · skip
      refine lv_aload_n hx hb dX11_join_284 rfl (lv_at hl 5 rfl) ?_
      refine va_get (D := D) (ci := 9) (v := .ref (b 4)) (C := RX11) (T := TX11) (N := 17) hx hb hts inX11 hown hKN.1 hP 0 rfl rfl 4 (by decide) (hts (.fieldLink RX11 19 "TreeFamilyModel" "values" "[I") (by decide +kernel)) (fun _ h9 => h9) rfl dX11_join_285 ?_
      refine lv_iload hx hb dX11_join_288 (lv_at hl 4 rfl) ?_
      refine xr_ild hx hb hKN.1 hP 4 0 rfl rfl (j := (64 * j) + x1) (by omega) (by decide) dX11_join_290 ?_
      refine lv_goto (tgt := 326) hx hb dX11_join_291 (by decide) ?_
      refine xr_ist hx hb hKN.1 hP hD hS 16 0 rfl rfl (j := n1) (by omega) (by decide) dX11_join_326 (fun H locs hP hD hS => ?_)
      have hP : va_P D vwCl (wQx ca b 0 q.oo q.zz q.ks q.vs q.cg q.hw q.lo q.hg q.wk q.kw q.mn q.gv q.cp q.ho (upd f1 n1 (q.ks ((64 * j) + x1))) (upd g1 n1 (q.vs ((64 * j) + x1)))) H := hP
      have hD : va_D A (wQx ca b 0 q.oo q.zz q.ks q.vs q.cg q.hw q.lo q.hg q.wk q.kw q.mn q.gv q.cp q.ho (upd f1 n1 (q.ks ((64 * j) + x1))) (upd g1 n1 (q.vs ((64 * j) + x1)))) := hD
      refine lv_iload hx hb dX11_join_327 (lv_at hl 9 rfl) ?_
      refine lv_iload hx hb dX11_join_329 (lv_at hl 0 rfl) ?_
      refine lv_if_eq (tgt := 338) hx hb dX11_join_331 (by decide) (fun c331 => ?_) (fun c331 => ?_)
      · skip
        refine lv_iconst (v := 0) hx hb dX11_join_338 (by decide) ?_
        refine lv_iadd hx hb dX11_join_339 ?_
        refine xr_top (y := nI (n1 + 0)) (nI_add n1 0) ?_
        refine lv_istore (lv' := [(4, .int (nI (n1 + 0))), (12, .int 0), (11, .int 0), (10, .int 1), (9, .int (nI ((64 * k) + y1))), (8, .int (nI ((64 * j) + x1))), (0, .ref (b 0)), (1, .int (nI j)), (2, .int (nI k)), (3, .int op), (5, .int (nI x1)), (6, .int (nI y1)), (7, .int (nI w1))]) hx hb dX11_join_340 hl (by decide) rfl (fun ls hl => ?_)
        refine lv_iload hx hb dX11_join_342 (lv_at hl 12 rfl) ?_
        refine lv_iload hx hb dX11_join_344 (lv_at hl 2 rfl) ?_
        refine lv_if_eq (tgt := 362) hx hb dX11_join_346 (by decide) (fun c346 => ?_) (fun c346 => ?_)
        · skip
          refine lv_iload hx hb dX11_join_362 (lv_at hl 1 rfl) ?_
          refine lv_if_eq (tgt := 371) hx hb dX11_join_364 (by decide) (fun c364 => ?_) (fun c364 => ?_)
          · skip
            refine lv_iconst (v := 1) hx hb dX11_join_371 (by decide) ?_
            refine lv_iadd hx hb dX11_join_372 ?_
            refine xr_top (y := nI (w1 + 1)) (nI_add w1 1) ?_
            refine lv_istore (lv' := [(7, .int (nI (w1 + 1))), (4, .int (nI (n1 + 0))), (12, .int 0), (11, .int 0), (10, .int 1), (9, .int (nI ((64 * k) + y1))), (8, .int (nI ((64 * j) + x1))), (0, .ref (b 0)), (1, .int (nI j)), (2, .int (nI k)), (3, .int op), (5, .int (nI x1)), (6, .int (nI y1))]) hx hb dX11_join_373 hl (by decide) rfl (fun ls hl => ?_)
            refine lv_iload hx hb dX11_join_375 (lv_at hl 11 rfl) ?_
            refine lv_iload hx hb dX11_join_377 (lv_at hl 3 rfl) ?_
            refine lv_if_eq (tgt := 386) hx hb dX11_join_379 (by decide) (fun c379 => ?_) (fun c379 => ?_)
            · skip
              refine lv_iconst (v := 1) hx hb dX11_join_386 (by decide) ?_
              refine lv_iadd hx hb dX11_join_387 ?_
              refine xr_top (y := nI (x1 + 1)) (nI_add x1 1) ?_
              refine lv_istore (lv' := [(5, .int (nI (x1 + 1))), (7, .int (nI (w1 + 1))), (4, .int (nI (n1 + 0))), (12, .int 0), (11, .int 0), (10, .int 1), (9, .int (nI ((64 * k) + y1))), (8, .int (nI ((64 * j) + x1))), (0, .ref (b 0)), (1, .int (nI j)), (2, .int (nI k)), (3, .int op), (6, .int (nI y1))]) hx hb dX11_join_388 hl (by decide) rfl (fun ls hl => ?_)
              refine lv_iload hx hb dX11_join_390 (lv_at hl 12 rfl) ?_
              refine lv_iload hx hb dX11_join_392 (lv_at hl 5 rfl) ?_
              refine lv_if_eq (tgt := 401) hx hb dX11_join_394 (by decide) (fun c394 => ?_) (fun c394 => ?_)
              · skip
                exact absurd c394 (by decide)
              · skip
                refine lv_iconst (v := 0) hx hb dX11_join_397 (by decide) ?_
                refine lv_goto (tgt := 402) hx hb dX11_join_398 (by decide) ?_
                refine lv_iadd hx hb dX11_join_402 ?_
                refine xr_top (y := nI (y1 + 0)) (nI_add y1 0) ?_
                refine lv_istore (lv' := [(6, .int (nI (y1 + 0))), (5, .int (nI (x1 + 1))), (7, .int (nI (w1 + 1))), (4, .int (nI (n1 + 0))), (12, .int 0), (11, .int 0), (10, .int 1), (9, .int (nI ((64 * k) + y1))), (8, .int (nI ((64 * j) + x1))), (0, .ref (b 0)), (1, .int (nI j)), (2, .int (nI k)), (3, .int op)]) hx hb dX11_join_403 hl (by decide) rfl (fun ls hl => ?_)
                refine lv_goto (tgt := 61) hx hb dX11_join_405 (by decide) ?_
                exact K9 H locs ls hP hD hS (lv_sub hl [9, 10, 11, 12, 3, 1, 0, 2] rfl)
            · skip
              exact absurd c379 (by decide)
          · skip
            exact absurd c364 (by decide)
        · skip
          exact absurd c346 (by decide)
      · skip
        exact absurd c331 (by decide)
  · skip
    exact absurd c252 (by decide)

set_option maxHeartbeats 4000000 in
set_option maxRecDepth 100000 in
theorem b_join_f1 {p : Program} {l : Launch} {e : Env} {R : Room} {s : State} {m : MethodId} {args : Array Value} {below : List Frame} {meth : Method} {c : Code} {H : Heap} {locs : List Loc} {Q : State → Prop} {ls : Array Slot} {D : va_G} {ca : Nat → ClassId} {A : Nat → Prop} {b : Nat → Nat} (q : QS) (j k n1 x1 y1 w1 : Nat) (op : Int32) (f1 g1 : Nat → Int32) (hj : j < 3) (hk : k < 3) (hx6 : x1 ≤ 60) (hy6 : y1 ≤ 60) (hn6 : n1 < 120) (hx : p.tables.exec = Jvm.exec) (hb : c.code = cX11_join) (hml : c.maxLocals = 13) (hts : ∀ w ∈ wsX11_join, w.before args s = true) (hown : s.vm.findClass RX11 = some m.cls) (hKN : xK D (TY ca) s) (hA : ∀ q : Nat, s.heap.size ≤ q → A q) (hP : va_P D vwCl (wQx ca b 0 q.oo q.zz q.ks q.vs q.cg q.hw q.lo q.hg q.wk q.kw q.mn q.gv q.cp q.ho f1 g1) H) (hD : va_D A (wQx ca b 0 q.oo q.zz q.ks q.vs q.cg q.hw q.lo q.hg q.wk q.kw q.mn q.gv q.cp q.ho f1 g1)) (hS : va_S A s.heap H locs) (hl : lv_has ls 13 [(12, .int 1), (11, .int 0), (10, .int 1), (9, .int (nI ((64 * k) + y1))), (8, .int (nI ((64 * j) + x1))), (0, .ref (b 0)), (1, .int (nI j)), (2, .int (nI k)), (3, .int op), (4, .int (nI n1)), (5, .int (nI x1)), (6, .int (nI y1)), (7, .int (nI w1))]) (K9 : ∀ (H : Heap) (locs : List Loc) (ls : Array Slot), va_P D vwCl (wQx ca b 0 q.oo q.zz q.ks q.vs q.cg q.hw q.lo q.hg q.wk q.kw q.mn q.gv q.cp q.ho (upd f1 n1 (q.ks ((64 * j) + x1))) (upd g1 n1 (q.vs ((64 * j) + x1)))) H → va_D A (wQx ca b 0 q.oo q.zz q.ks q.vs q.cg q.hw q.lo q.hg q.wk q.kw q.mn q.gv q.cp q.ho (upd f1 n1 (q.ks ((64 * j) + x1))) (upd g1 n1 (q.vs ((64 * j) + x1)))) → va_S A s.heap H locs → lv_has ls 13 [(0, .ref (b 0)), (1, .int (nI j)), (2, .int (nI k)), (3, .int op), (4, .int (nI (n1 + 1))), (5, .int (nI (x1 + 1))), (6, .int (nI (y1 + 0))), (7, .int (nI (w1 + 0)))] → W p l e R s m args below meth c H locs 0 0 Q (F0 m 61 ls [])) : W p l e R s m args below meth c H locs 0 0 Q (F0 m 244 ls []) := by
  have inX11 : ∀ w ∈ wsX110, w ∈ wsX11_join := by decide +kernel
  refine lv_aload_n hx hb dX11_join_244 rfl (lv_at hl 5 rfl) ?_
  refine va_get (D := D) (ci := 9) (v := .ref (b 15)) (C := RX11) (T := TX11) (N := 17) hx hb hts inX11 hown hKN.1 hP 0 rfl rfl 15 (by decide) (hts (.fieldLink RX11 53 "TreeFamilyModel" "newKeys" "[I") (by decide +kernel)) (fun _ h9 => h9) rfl dX11_join_245 ?_
  refine lv_iload hx hb dX11_join_248 (lv_at hl 9 rfl) ?_
  refine lv_iload hx hb dX11_join_250 (lv_at hl 1 rfl) ?_
  refine lv_if_eq (tgt := 265) hx hb dX11_join_252 (by decide) (fun c252 => ?_) (fun c252 => ?_)
  · skip
    refine lv_aload_n hx hb dX11_join_265 rfl (lv_at hl 5 rfl) ?_
    refine va_get (D := D) (ci := 9) (v := .ref (b 3)) (C := RX11) (T := TX11) (N := 17) hx hb hts inX11 hown hKN.1 hP 0 rfl rfl 3 (by decide) (hts (.fieldLink RX11 16 "TreeFamilyModel" "keys" "[I") (by decide +kernel)) (fun _ h9 => h9) rfl dX11_join_266 ?_
    refine lv_iload hx hb dX11_join_269 (lv_at hl 4 rfl) ?_
    refine xr_ild hx hb hKN.1 hP 3 0 rfl rfl (j := (64 * j) + x1) (by omega) (by decide) dX11_join_271 ?_
    refine xr_ist hx hb hKN.1 hP hD hS 15 0 rfl rfl (j := n1) (by omega) (by decide) dX11_join_272 (fun H locs hP hD hS => ?_)
    have hP : va_P D vwCl (wQx ca b 0 q.oo q.zz q.ks q.vs q.cg q.hw q.lo q.hg q.wk q.kw q.mn q.gv q.cp q.ho (upd f1 n1 (q.ks ((64 * j) + x1))) g1) H := hP
    have hD : va_D A (wQx ca b 0 q.oo q.zz q.ks q.vs q.cg q.hw q.lo q.hg q.wk q.kw q.mn q.gv q.cp q.ho (upd f1 n1 (q.ks ((64 * j) + x1))) g1) := hD
    refine lv_aload_n hx hb dX11_join_273 rfl (lv_at hl 5 rfl) ?_
    refine va_get (D := D) (ci := 9) (v := .ref (b 16)) (C := RX11) (T := TX11) (N := 17) hx hb hts inX11 hown hKN.1 hP 0 rfl rfl 16 (by decide) (hts (.fieldLink RX11 56 "TreeFamilyModel" "newValues" "[I") (by decide +kernel)) (fun _ h9 => h9) rfl dX11_join_274 ?_
    refine lv_iload hx hb dX11_join_277 (lv_at hl 9 rfl) ?_
    refine lv_iload hx hb dX11_join_279 (lv_at hl 2 rfl) ?_
    refine lv_if_eq (tgt := 294) hx hb dX11_join_281 (by decide) (fun c281 => ?_) (fun c281 => ?_)
    · skip
      exact absurd c281 (by decide)
    · skip
      refine lv_aload_n hx hb dX11_join_284 rfl (lv_at hl 5 rfl) ?_
      refine va_get (D := D) (ci := 9) (v := .ref (b 4)) (C := RX11) (T := TX11) (N := 17) hx hb hts inX11 hown hKN.1 hP 0 rfl rfl 4 (by decide) (hts (.fieldLink RX11 19 "TreeFamilyModel" "values" "[I") (by decide +kernel)) (fun _ h9 => h9) rfl dX11_join_285 ?_
      refine lv_iload hx hb dX11_join_288 (lv_at hl 4 rfl) ?_
      refine xr_ild hx hb hKN.1 hP 4 0 rfl rfl (j := (64 * j) + x1) (by omega) (by decide) dX11_join_290 ?_
      refine lv_goto (tgt := 326) hx hb dX11_join_291 (by decide) ?_
      refine xr_ist hx hb hKN.1 hP hD hS 16 0 rfl rfl (j := n1) (by omega) (by decide) dX11_join_326 (fun H locs hP hD hS => ?_)
      have hP : va_P D vwCl (wQx ca b 0 q.oo q.zz q.ks q.vs q.cg q.hw q.lo q.hg q.wk q.kw q.mn q.gv q.cp q.ho (upd f1 n1 (q.ks ((64 * j) + x1))) (upd g1 n1 (q.vs ((64 * j) + x1)))) H := hP
      have hD : va_D A (wQx ca b 0 q.oo q.zz q.ks q.vs q.cg q.hw q.lo q.hg q.wk q.kw q.mn q.gv q.cp q.ho (upd f1 n1 (q.ks ((64 * j) + x1))) (upd g1 n1 (q.vs ((64 * j) + x1)))) := hD
      refine lv_iload hx hb dX11_join_327 (lv_at hl 9 rfl) ?_
      refine lv_iload hx hb dX11_join_329 (lv_at hl 0 rfl) ?_
      refine lv_if_eq (tgt := 338) hx hb dX11_join_331 (by decide) (fun c331 => ?_) (fun c331 => ?_)
      · skip
        exact absurd c331 (by decide)
      · skip
        refine lv_iconst (v := 1) hx hb dX11_join_334 (by decide) ?_
        refine lv_goto (tgt := 339) hx hb dX11_join_335 (by decide) ?_
        refine lv_iadd hx hb dX11_join_339 ?_
        refine xr_top (y := nI (n1 + 1)) (nI_add n1 1) ?_
        refine lv_istore (lv' := [(4, .int (nI (n1 + 1))), (12, .int 1), (11, .int 0), (10, .int 1), (9, .int (nI ((64 * k) + y1))), (8, .int (nI ((64 * j) + x1))), (0, .ref (b 0)), (1, .int (nI j)), (2, .int (nI k)), (3, .int op), (5, .int (nI x1)), (6, .int (nI y1)), (7, .int (nI w1))]) hx hb dX11_join_340 hl (by decide) rfl (fun ls hl => ?_)
        refine lv_iload hx hb dX11_join_342 (lv_at hl 12 rfl) ?_
        refine lv_iload hx hb dX11_join_344 (lv_at hl 2 rfl) ?_
        refine lv_if_eq (tgt := 362) hx hb dX11_join_346 (by decide) (fun c346 => ?_) (fun c346 => ?_)
        · skip
          refine lv_iload hx hb dX11_join_362 (lv_at hl 1 rfl) ?_
          refine lv_if_eq (tgt := 371) hx hb dX11_join_364 (by decide) (fun c364 => ?_) (fun c364 => ?_)
          · skip
            exact absurd c364 (by decide)
          · skip
            refine lv_iconst (v := 0) hx hb dX11_join_367 (by decide) ?_
            refine lv_goto (tgt := 372) hx hb dX11_join_368 (by decide) ?_
            refine lv_iadd hx hb dX11_join_372 ?_
            refine xr_top (y := nI (w1 + 0)) (nI_add w1 0) ?_
            refine lv_istore (lv' := [(7, .int (nI (w1 + 0))), (4, .int (nI (n1 + 1))), (12, .int 1), (11, .int 0), (10, .int 1), (9, .int (nI ((64 * k) + y1))), (8, .int (nI ((64 * j) + x1))), (0, .ref (b 0)), (1, .int (nI j)), (2, .int (nI k)), (3, .int op), (5, .int (nI x1)), (6, .int (nI y1))]) hx hb dX11_join_373 hl (by decide) rfl (fun ls hl => ?_)
            refine lv_iload hx hb dX11_join_375 (lv_at hl 11 rfl) ?_
            refine lv_iload hx hb dX11_join_377 (lv_at hl 3 rfl) ?_
            refine lv_if_eq (tgt := 386) hx hb dX11_join_379 (by decide) (fun c379 => ?_) (fun c379 => ?_)
            · skip
              refine lv_iconst (v := 1) hx hb dX11_join_386 (by decide) ?_
              refine lv_iadd hx hb dX11_join_387 ?_
              refine xr_top (y := nI (x1 + 1)) (nI_add x1 1) ?_
              refine lv_istore (lv' := [(5, .int (nI (x1 + 1))), (7, .int (nI (w1 + 0))), (4, .int (nI (n1 + 1))), (12, .int 1), (11, .int 0), (10, .int 1), (9, .int (nI ((64 * k) + y1))), (8, .int (nI ((64 * j) + x1))), (0, .ref (b 0)), (1, .int (nI j)), (2, .int (nI k)), (3, .int op), (6, .int (nI y1))]) hx hb dX11_join_388 hl (by decide) rfl (fun ls hl => ?_)
              refine lv_iload hx hb dX11_join_390 (lv_at hl 12 rfl) ?_
              refine lv_iload hx hb dX11_join_392 (lv_at hl 5 rfl) ?_
              refine lv_if_eq (tgt := 401) hx hb dX11_join_394 (by decide) (fun c394 => ?_) (fun c394 => ?_)
              · skip
                exact absurd c394 (by decide)
              · skip
                refine lv_iconst (v := 0) hx hb dX11_join_397 (by decide) ?_
                refine lv_goto (tgt := 402) hx hb dX11_join_398 (by decide) ?_
                refine lv_iadd hx hb dX11_join_402 ?_
                refine xr_top (y := nI (y1 + 0)) (nI_add y1 0) ?_
                refine lv_istore (lv' := [(6, .int (nI (y1 + 0))), (5, .int (nI (x1 + 1))), (7, .int (nI (w1 + 0))), (4, .int (nI (n1 + 1))), (12, .int 1), (11, .int 0), (10, .int 1), (9, .int (nI ((64 * k) + y1))), (8, .int (nI ((64 * j) + x1))), (0, .ref (b 0)), (1, .int (nI j)), (2, .int (nI k)), (3, .int op)]) hx hb dX11_join_403 hl (by decide) rfl (fun ls hl => ?_)
                refine lv_goto (tgt := 61) hx hb dX11_join_405 (by decide) ?_
                exact K9 H locs ls hP hD hS (lv_sub hl [9, 10, 11, 12, 3, 1, 0, 2] rfl)
            · skip
              exact absurd c379 (by decide)
        · skip
          exact absurd c346 (by decide)
  · skip
    exact absurd c252 (by decide)

set_option maxHeartbeats 4000000 in
set_option maxRecDepth 100000 in
theorem b_join_s0 {p : Program} {l : Launch} {e : Env} {R : Room} {s : State} {m : MethodId} {args : Array Value} {below : List Frame} {meth : Method} {c : Code} {H : Heap} {locs : List Loc} {Q : State → Prop} {ls : Array Slot} {D : va_G} {ca : Nat → ClassId} {A : Nat → Prop} {b : Nat → Nat} (q : QS) (j k n1 x1 y1 w1 : Nat) (op : Int32) (f1 g1 : Nat → Int32) (hj : j < 3) (hk : k < 3) (hx6 : x1 ≤ 60) (hy6 : y1 ≤ 60) (hn6 : n1 < 120) (hx : p.tables.exec = Jvm.exec) (hb : c.code = cX11_join) (hml : c.maxLocals = 13) (hts : ∀ w ∈ wsX11_join, w.before args s = true) (hown : s.vm.findClass RX11 = some m.cls) (hKN : xK D (TY ca) s) (hA : ∀ q : Nat, s.heap.size ≤ q → A q) (hP : va_P D vwCl (wQx ca b 0 q.oo q.zz q.ks q.vs q.cg q.hw q.lo q.hg q.wk q.kw q.mn q.gv q.cp q.ho f1 g1) H) (hD : va_D A (wQx ca b 0 q.oo q.zz q.ks q.vs q.cg q.hw q.lo q.hg q.wk q.kw q.mn q.gv q.cp q.ho f1 g1)) (hS : va_S A s.heap H locs) (hl : lv_has ls 13 [(12, .int 0), (11, .int 1), (10, .int 0), (9, .int (nI ((64 * k) + y1))), (8, .int (nI ((64 * j) + x1))), (0, .ref (b 0)), (1, .int (nI j)), (2, .int (nI k)), (3, .int op), (4, .int (nI n1)), (5, .int (nI x1)), (6, .int (nI y1)), (7, .int (nI w1))]) (K9 : ∀ (H : Heap) (locs : List Loc) (ls : Array Slot), va_P D vwCl (wQx ca b 0 q.oo q.zz q.ks q.vs q.cg q.hw q.lo q.hg q.wk q.kw q.mn q.gv q.cp q.ho (upd f1 n1 (q.ks ((64 * k) + y1))) (upd g1 n1 (q.vs ((64 * k) + y1)))) H → va_D A (wQx ca b 0 q.oo q.zz q.ks q.vs q.cg q.hw q.lo q.hg q.wk q.kw q.mn q.gv q.cp q.ho (upd f1 n1 (q.ks ((64 * k) + y1))) (upd g1 n1 (q.vs ((64 * k) + y1)))) → va_S A s.heap H locs → lv_has ls 13 [(0, .ref (b 0)), (1, .int (nI j)), (2, .int (nI k)), (3, .int op), (4, .int (nI (n1 + 0))), (5, .int (nI (x1 + 0))), (6, .int (nI (y1 + 1))), (7, .int (nI (w1 + 0)))] → W p l e R s m args below meth c H locs 0 0 Q (F0 m 61 ls [])) : W p l e R s m args below meth c H locs 0 0 Q (F0 m 244 ls []) := by
  have inX11 : ∀ w ∈ wsX110, w ∈ wsX11_join := by decide +kernel
  refine lv_aload_n hx hb dX11_join_244 rfl (lv_at hl 5 rfl) ?_
  refine va_get (D := D) (ci := 9) (v := .ref (b 15)) (C := RX11) (T := TX11) (N := 17) hx hb hts inX11 hown hKN.1 hP 0 rfl rfl 15 (by decide) (hts (.fieldLink RX11 53 "TreeFamilyModel" "newKeys" "[I") (by decide +kernel)) (fun _ h9 => h9) rfl dX11_join_245 ?_
  refine lv_iload hx hb dX11_join_248 (lv_at hl 9 rfl) ?_
  refine lv_iload hx hb dX11_join_250 (lv_at hl 1 rfl) ?_
  refine lv_if_eq (tgt := 265) hx hb dX11_join_252 (by decide) (fun c252 => ?_) (fun c252 => ?_)
  · skip
    exact absurd c252 (by decide)
  · skip
    refine lv_aload_n hx hb dX11_join_255 rfl (lv_at hl 5 rfl) ?_
    refine va_get (D := D) (ci := 9) (v := .ref (b 3)) (C := RX11) (T := TX11) (N := 17) hx hb hts inX11 hown hKN.1 hP 0 rfl rfl 3 (by decide) (hts (.fieldLink RX11 16 "TreeFamilyModel" "keys" "[I") (by decide +kernel)) (fun _ h9 => h9) rfl dX11_join_256 ?_
    refine lv_iload hx hb dX11_join_259 (lv_at hl 3 rfl) ?_
    refine xr_ild hx hb hKN.1 hP 3 0 rfl rfl (j := (64 * k) + y1) (by omega) (by decide) dX11_join_261 ?_
    refine lv_goto (tgt := 272) hx hb dX11_join_262 (by decide) ?_
    refine xr_ist hx hb hKN.1 hP hD hS 15 0 rfl rfl (j := n1) (by omega) (by decide) dX11_join_272 (fun H locs hP hD hS => ?_)
    have hP : va_P D vwCl (wQx ca b 0 q.oo q.zz q.ks q.vs q.cg q.hw q.lo q.hg q.wk q.kw q.mn q.gv q.cp q.ho (upd f1 n1 (q.ks ((64 * k) + y1))) g1) H := hP
    have hD : va_D A (wQx ca b 0 q.oo q.zz q.ks q.vs q.cg q.hw q.lo q.hg q.wk q.kw q.mn q.gv q.cp q.ho (upd f1 n1 (q.ks ((64 * k) + y1))) g1) := hD
    refine lv_aload_n hx hb dX11_join_273 rfl (lv_at hl 5 rfl) ?_
    refine va_get (D := D) (ci := 9) (v := .ref (b 16)) (C := RX11) (T := TX11) (N := 17) hx hb hts inX11 hown hKN.1 hP 0 rfl rfl 16 (by decide) (hts (.fieldLink RX11 56 "TreeFamilyModel" "newValues" "[I") (by decide +kernel)) (fun _ h9 => h9) rfl dX11_join_274 ?_
    refine lv_iload hx hb dX11_join_277 (lv_at hl 9 rfl) ?_
    refine lv_iload hx hb dX11_join_279 (lv_at hl 2 rfl) ?_
    refine lv_if_eq (tgt := 294) hx hb dX11_join_281 (by decide) (fun c281 => ?_) (fun c281 => ?_)
    · skip
      refine lv_iload hx hb dX11_join_294 (lv_at hl 1 rfl) ?_
      refine lv_if_eq (tgt := 309) hx hb dX11_join_296 (by decide) (fun c296 => ?_) (fun c296 => ?_)
      · skip
        exact absurd c296 (by decide)
      · skip
        refine lv_aload_n hx hb dX11_join_299 rfl (lv_at hl 5 rfl) ?_
        refine va_get (D := D) (ci := 9) (v := .ref (b 4)) (C := RX11) (T := TX11) (N := 17) hx hb hts inX11 hown hKN.1 hP 0 rfl rfl 4 (by decide) (hts (.fieldLink RX11 19 "TreeFamilyModel" "values" "[I") (by decide +kernel)) (fun _ h9 => h9) rfl dX11_join_300 ?_
        refine lv_iload hx hb dX11_join_303 (lv_at hl 3 rfl) ?_
        refine xr_ild hx hb hKN.1 hP 4 0 rfl rfl (j := (64 * k) + y1) (by omega) (by decide) dX11_join_305 ?_
        refine lv_goto (tgt := 326) hx hb dX11_join_306 (by decide) ?_
        refine xr_ist hx hb hKN.1 hP hD hS 16 0 rfl rfl (j := n1) (by omega) (by decide) dX11_join_326 (fun H locs hP hD hS => ?_)
        have hP : va_P D vwCl (wQx ca b 0 q.oo q.zz q.ks q.vs q.cg q.hw q.lo q.hg q.wk q.kw q.mn q.gv q.cp q.ho (upd f1 n1 (q.ks ((64 * k) + y1))) (upd g1 n1 (q.vs ((64 * k) + y1)))) H := hP
        have hD : va_D A (wQx ca b 0 q.oo q.zz q.ks q.vs q.cg q.hw q.lo q.hg q.wk q.kw q.mn q.gv q.cp q.ho (upd f1 n1 (q.ks ((64 * k) + y1))) (upd g1 n1 (q.vs ((64 * k) + y1)))) := hD
        refine lv_iload hx hb dX11_join_327 (lv_at hl 9 rfl) ?_
        refine lv_iload hx hb dX11_join_329 (lv_at hl 0 rfl) ?_
        refine lv_if_eq (tgt := 338) hx hb dX11_join_331 (by decide) (fun c331 => ?_) (fun c331 => ?_)
        · skip
          refine lv_iconst (v := 0) hx hb dX11_join_338 (by decide) ?_
          refine lv_iadd hx hb dX11_join_339 ?_
          refine xr_top (y := nI (n1 + 0)) (nI_add n1 0) ?_
          refine lv_istore (lv' := [(4, .int (nI (n1 + 0))), (12, .int 0), (11, .int 1), (10, .int 0), (9, .int (nI ((64 * k) + y1))), (8, .int (nI ((64 * j) + x1))), (0, .ref (b 0)), (1, .int (nI j)), (2, .int (nI k)), (3, .int op), (5, .int (nI x1)), (6, .int (nI y1)), (7, .int (nI w1))]) hx hb dX11_join_340 hl (by decide) rfl (fun ls hl => ?_)
          refine lv_iload hx hb dX11_join_342 (lv_at hl 12 rfl) ?_
          refine lv_iload hx hb dX11_join_344 (lv_at hl 2 rfl) ?_
          refine lv_if_eq (tgt := 362) hx hb dX11_join_346 (by decide) (fun c346 => ?_) (fun c346 => ?_)
          · skip
            exact absurd c346 (by decide)
          · skip
            refine lv_iload hx hb dX11_join_349 (lv_at hl 1 rfl) ?_
            refine lv_if_eq (tgt := 358) hx hb dX11_join_351 (by decide) (fun c351 => ?_) (fun c351 => ?_)
            · skip
              refine lv_iconst (v := 0) hx hb dX11_join_358 (by decide) ?_
              refine lv_goto (tgt := 372) hx hb dX11_join_359 (by decide) ?_
              refine lv_iadd hx hb dX11_join_372 ?_
              refine xr_top (y := nI (w1 + 0)) (nI_add w1 0) ?_
              refine lv_istore (lv' := [(7, .int (nI (w1 + 0))), (4, .int (nI (n1 + 0))), (12, .int 0), (11, .int 1), (10, .int 0), (9, .int (nI ((64 * k) + y1))), (8, .int (nI ((64 * j) + x1))), (0, .ref (b 0)), (1, .int (nI j)), (2, .int (nI k)), (3, .int op), (5, .int (nI x1)), (6, .int (nI y1))]) hx hb dX11_join_373 hl (by decide) rfl (fun ls hl => ?_)
              refine lv_iload hx hb dX11_join_375 (lv_at hl 11 rfl) ?_
              refine lv_iload hx hb dX11_join_377 (lv_at hl 3 rfl) ?_
              refine lv_if_eq (tgt := 386) hx hb dX11_join_379 (by decide) (fun c379 => ?_) (fun c379 => ?_)
              · skip
                exact absurd c379 (by decide)
              · skip
                refine lv_iconst (v := 0) hx hb dX11_join_382 (by decide) ?_
                refine lv_goto (tgt := 387) hx hb dX11_join_383 (by decide) ?_
                refine lv_iadd hx hb dX11_join_387 ?_
                refine xr_top (y := nI (x1 + 0)) (nI_add x1 0) ?_
                refine lv_istore (lv' := [(5, .int (nI (x1 + 0))), (7, .int (nI (w1 + 0))), (4, .int (nI (n1 + 0))), (12, .int 0), (11, .int 1), (10, .int 0), (9, .int (nI ((64 * k) + y1))), (8, .int (nI ((64 * j) + x1))), (0, .ref (b 0)), (1, .int (nI j)), (2, .int (nI k)), (3, .int op), (6, .int (nI y1))]) hx hb dX11_join_388 hl (by decide) rfl (fun ls hl => ?_)
                refine lv_iload hx hb dX11_join_390 (lv_at hl 12 rfl) ?_
                refine lv_iload hx hb dX11_join_392 (lv_at hl 5 rfl) ?_
                refine lv_if_eq (tgt := 401) hx hb dX11_join_394 (by decide) (fun c394 => ?_) (fun c394 => ?_)
                · skip
                  refine lv_iconst (v := 1) hx hb dX11_join_401 (by decide) ?_
                  refine lv_iadd hx hb dX11_join_402 ?_
                  refine xr_top (y := nI (y1 + 1)) (nI_add y1 1) ?_
                  refine lv_istore (lv' := [(6, .int (nI (y1 + 1))), (5, .int (nI (x1 + 0))), (7, .int (nI (w1 + 0))), (4, .int (nI (n1 + 0))), (12, .int 0), (11, .int 1), (10, .int 0), (9, .int (nI ((64 * k) + y1))), (8, .int (nI ((64 * j) + x1))), (0, .ref (b 0)), (1, .int (nI j)), (2, .int (nI k)), (3, .int op)]) hx hb dX11_join_403 hl (by decide) rfl (fun ls hl => ?_)
                  refine lv_goto (tgt := 61) hx hb dX11_join_405 (by decide) ?_
                  exact K9 H locs ls hP hD hS (lv_sub hl [9, 10, 11, 12, 3, 1, 0, 2] rfl)
                · skip
                  exact absurd c394 (by decide)
            · skip
              exact absurd c351 (by decide)
        · skip
          exact absurd c331 (by decide)
    · skip
      exact absurd c281 (by decide)

set_option maxHeartbeats 4000000 in
set_option maxRecDepth 100000 in
theorem b_join_s1 {p : Program} {l : Launch} {e : Env} {R : Room} {s : State} {m : MethodId} {args : Array Value} {below : List Frame} {meth : Method} {c : Code} {H : Heap} {locs : List Loc} {Q : State → Prop} {ls : Array Slot} {D : va_G} {ca : Nat → ClassId} {A : Nat → Prop} {b : Nat → Nat} (q : QS) (j k n1 x1 y1 w1 : Nat) (op : Int32) (f1 g1 : Nat → Int32) (hj : j < 3) (hk : k < 3) (hx6 : x1 ≤ 60) (hy6 : y1 ≤ 60) (hn6 : n1 < 120) (hx : p.tables.exec = Jvm.exec) (hb : c.code = cX11_join) (hml : c.maxLocals = 13) (hts : ∀ w ∈ wsX11_join, w.before args s = true) (hown : s.vm.findClass RX11 = some m.cls) (hKN : xK D (TY ca) s) (hA : ∀ q : Nat, s.heap.size ≤ q → A q) (hP : va_P D vwCl (wQx ca b 0 q.oo q.zz q.ks q.vs q.cg q.hw q.lo q.hg q.wk q.kw q.mn q.gv q.cp q.ho f1 g1) H) (hD : va_D A (wQx ca b 0 q.oo q.zz q.ks q.vs q.cg q.hw q.lo q.hg q.wk q.kw q.mn q.gv q.cp q.ho f1 g1)) (hS : va_S A s.heap H locs) (hl : lv_has ls 13 [(12, .int 1), (11, .int 1), (10, .int 0), (9, .int (nI ((64 * k) + y1))), (8, .int (nI ((64 * j) + x1))), (0, .ref (b 0)), (1, .int (nI j)), (2, .int (nI k)), (3, .int op), (4, .int (nI n1)), (5, .int (nI x1)), (6, .int (nI y1)), (7, .int (nI w1))]) (K9 : ∀ (H : Heap) (locs : List Loc) (ls : Array Slot), va_P D vwCl (wQx ca b 0 q.oo q.zz q.ks q.vs q.cg q.hw q.lo q.hg q.wk q.kw q.mn q.gv q.cp q.ho (upd f1 n1 (q.ks ((64 * k) + y1))) (upd g1 n1 (q.vs ((64 * k) + y1)))) H → va_D A (wQx ca b 0 q.oo q.zz q.ks q.vs q.cg q.hw q.lo q.hg q.wk q.kw q.mn q.gv q.cp q.ho (upd f1 n1 (q.ks ((64 * k) + y1))) (upd g1 n1 (q.vs ((64 * k) + y1)))) → va_S A s.heap H locs → lv_has ls 13 [(0, .ref (b 0)), (1, .int (nI j)), (2, .int (nI k)), (3, .int op), (4, .int (nI (n1 + 1))), (5, .int (nI (x1 + 0))), (6, .int (nI (y1 + 1))), (7, .int (nI (w1 + 1)))] → W p l e R s m args below meth c H locs 0 0 Q (F0 m 61 ls [])) : W p l e R s m args below meth c H locs 0 0 Q (F0 m 244 ls []) := by
  have inX11 : ∀ w ∈ wsX110, w ∈ wsX11_join := by decide +kernel
  refine lv_aload_n hx hb dX11_join_244 rfl (lv_at hl 5 rfl) ?_
  refine va_get (D := D) (ci := 9) (v := .ref (b 15)) (C := RX11) (T := TX11) (N := 17) hx hb hts inX11 hown hKN.1 hP 0 rfl rfl 15 (by decide) (hts (.fieldLink RX11 53 "TreeFamilyModel" "newKeys" "[I") (by decide +kernel)) (fun _ h9 => h9) rfl dX11_join_245 ?_
  refine lv_iload hx hb dX11_join_248 (lv_at hl 9 rfl) ?_
  refine lv_iload hx hb dX11_join_250 (lv_at hl 1 rfl) ?_
  refine lv_if_eq (tgt := 265) hx hb dX11_join_252 (by decide) (fun c252 => ?_) (fun c252 => ?_)
  · skip
    exact absurd c252 (by decide)
  · skip
    refine lv_aload_n hx hb dX11_join_255 rfl (lv_at hl 5 rfl) ?_
    refine va_get (D := D) (ci := 9) (v := .ref (b 3)) (C := RX11) (T := TX11) (N := 17) hx hb hts inX11 hown hKN.1 hP 0 rfl rfl 3 (by decide) (hts (.fieldLink RX11 16 "TreeFamilyModel" "keys" "[I") (by decide +kernel)) (fun _ h9 => h9) rfl dX11_join_256 ?_
    refine lv_iload hx hb dX11_join_259 (lv_at hl 3 rfl) ?_
    refine xr_ild hx hb hKN.1 hP 3 0 rfl rfl (j := (64 * k) + y1) (by omega) (by decide) dX11_join_261 ?_
    refine lv_goto (tgt := 272) hx hb dX11_join_262 (by decide) ?_
    refine xr_ist hx hb hKN.1 hP hD hS 15 0 rfl rfl (j := n1) (by omega) (by decide) dX11_join_272 (fun H locs hP hD hS => ?_)
    have hP : va_P D vwCl (wQx ca b 0 q.oo q.zz q.ks q.vs q.cg q.hw q.lo q.hg q.wk q.kw q.mn q.gv q.cp q.ho (upd f1 n1 (q.ks ((64 * k) + y1))) g1) H := hP
    have hD : va_D A (wQx ca b 0 q.oo q.zz q.ks q.vs q.cg q.hw q.lo q.hg q.wk q.kw q.mn q.gv q.cp q.ho (upd f1 n1 (q.ks ((64 * k) + y1))) g1) := hD
    refine lv_aload_n hx hb dX11_join_273 rfl (lv_at hl 5 rfl) ?_
    refine va_get (D := D) (ci := 9) (v := .ref (b 16)) (C := RX11) (T := TX11) (N := 17) hx hb hts inX11 hown hKN.1 hP 0 rfl rfl 16 (by decide) (hts (.fieldLink RX11 56 "TreeFamilyModel" "newValues" "[I") (by decide +kernel)) (fun _ h9 => h9) rfl dX11_join_274 ?_
    refine lv_iload hx hb dX11_join_277 (lv_at hl 9 rfl) ?_
    refine lv_iload hx hb dX11_join_279 (lv_at hl 2 rfl) ?_
    refine lv_if_eq (tgt := 294) hx hb dX11_join_281 (by decide) (fun c281 => ?_) (fun c281 => ?_)
    · skip
      refine lv_iload hx hb dX11_join_294 (lv_at hl 1 rfl) ?_
      refine lv_if_eq (tgt := 309) hx hb dX11_join_296 (by decide) (fun c296 => ?_) (fun c296 => ?_)
      · skip
        exact absurd c296 (by decide)
      · skip
        refine lv_aload_n hx hb dX11_join_299 rfl (lv_at hl 5 rfl) ?_
        refine va_get (D := D) (ci := 9) (v := .ref (b 4)) (C := RX11) (T := TX11) (N := 17) hx hb hts inX11 hown hKN.1 hP 0 rfl rfl 4 (by decide) (hts (.fieldLink RX11 19 "TreeFamilyModel" "values" "[I") (by decide +kernel)) (fun _ h9 => h9) rfl dX11_join_300 ?_
        refine lv_iload hx hb dX11_join_303 (lv_at hl 3 rfl) ?_
        refine xr_ild hx hb hKN.1 hP 4 0 rfl rfl (j := (64 * k) + y1) (by omega) (by decide) dX11_join_305 ?_
        refine lv_goto (tgt := 326) hx hb dX11_join_306 (by decide) ?_
        refine xr_ist hx hb hKN.1 hP hD hS 16 0 rfl rfl (j := n1) (by omega) (by decide) dX11_join_326 (fun H locs hP hD hS => ?_)
        have hP : va_P D vwCl (wQx ca b 0 q.oo q.zz q.ks q.vs q.cg q.hw q.lo q.hg q.wk q.kw q.mn q.gv q.cp q.ho (upd f1 n1 (q.ks ((64 * k) + y1))) (upd g1 n1 (q.vs ((64 * k) + y1)))) H := hP
        have hD : va_D A (wQx ca b 0 q.oo q.zz q.ks q.vs q.cg q.hw q.lo q.hg q.wk q.kw q.mn q.gv q.cp q.ho (upd f1 n1 (q.ks ((64 * k) + y1))) (upd g1 n1 (q.vs ((64 * k) + y1)))) := hD
        refine lv_iload hx hb dX11_join_327 (lv_at hl 9 rfl) ?_
        refine lv_iload hx hb dX11_join_329 (lv_at hl 0 rfl) ?_
        refine lv_if_eq (tgt := 338) hx hb dX11_join_331 (by decide) (fun c331 => ?_) (fun c331 => ?_)
        · skip
          exact absurd c331 (by decide)
        · skip
          refine lv_iconst (v := 1) hx hb dX11_join_334 (by decide) ?_
          refine lv_goto (tgt := 339) hx hb dX11_join_335 (by decide) ?_
          refine lv_iadd hx hb dX11_join_339 ?_
          refine xr_top (y := nI (n1 + 1)) (nI_add n1 1) ?_
          refine lv_istore (lv' := [(4, .int (nI (n1 + 1))), (12, .int 1), (11, .int 1), (10, .int 0), (9, .int (nI ((64 * k) + y1))), (8, .int (nI ((64 * j) + x1))), (0, .ref (b 0)), (1, .int (nI j)), (2, .int (nI k)), (3, .int op), (5, .int (nI x1)), (6, .int (nI y1)), (7, .int (nI w1))]) hx hb dX11_join_340 hl (by decide) rfl (fun ls hl => ?_)
          refine lv_iload hx hb dX11_join_342 (lv_at hl 12 rfl) ?_
          refine lv_iload hx hb dX11_join_344 (lv_at hl 2 rfl) ?_
          refine lv_if_eq (tgt := 362) hx hb dX11_join_346 (by decide) (fun c346 => ?_) (fun c346 => ?_)
          · skip
            exact absurd c346 (by decide)
          · skip
            refine lv_iload hx hb dX11_join_349 (lv_at hl 1 rfl) ?_
            refine lv_if_eq (tgt := 358) hx hb dX11_join_351 (by decide) (fun c351 => ?_) (fun c351 => ?_)
            · skip
              exact absurd c351 (by decide)
            · skip
              refine lv_iconst (v := 1) hx hb dX11_join_354 (by decide) ?_
              refine lv_goto (tgt := 372) hx hb dX11_join_355 (by decide) ?_
              refine lv_iadd hx hb dX11_join_372 ?_
              refine xr_top (y := nI (w1 + 1)) (nI_add w1 1) ?_
              refine lv_istore (lv' := [(7, .int (nI (w1 + 1))), (4, .int (nI (n1 + 1))), (12, .int 1), (11, .int 1), (10, .int 0), (9, .int (nI ((64 * k) + y1))), (8, .int (nI ((64 * j) + x1))), (0, .ref (b 0)), (1, .int (nI j)), (2, .int (nI k)), (3, .int op), (5, .int (nI x1)), (6, .int (nI y1))]) hx hb dX11_join_373 hl (by decide) rfl (fun ls hl => ?_)
              refine lv_iload hx hb dX11_join_375 (lv_at hl 11 rfl) ?_
              refine lv_iload hx hb dX11_join_377 (lv_at hl 3 rfl) ?_
              refine lv_if_eq (tgt := 386) hx hb dX11_join_379 (by decide) (fun c379 => ?_) (fun c379 => ?_)
              · skip
                exact absurd c379 (by decide)
              · skip
                refine lv_iconst (v := 0) hx hb dX11_join_382 (by decide) ?_
                refine lv_goto (tgt := 387) hx hb dX11_join_383 (by decide) ?_
                refine lv_iadd hx hb dX11_join_387 ?_
                refine xr_top (y := nI (x1 + 0)) (nI_add x1 0) ?_
                refine lv_istore (lv' := [(5, .int (nI (x1 + 0))), (7, .int (nI (w1 + 1))), (4, .int (nI (n1 + 1))), (12, .int 1), (11, .int 1), (10, .int 0), (9, .int (nI ((64 * k) + y1))), (8, .int (nI ((64 * j) + x1))), (0, .ref (b 0)), (1, .int (nI j)), (2, .int (nI k)), (3, .int op), (6, .int (nI y1))]) hx hb dX11_join_388 hl (by decide) rfl (fun ls hl => ?_)
                refine lv_iload hx hb dX11_join_390 (lv_at hl 12 rfl) ?_
                refine lv_iload hx hb dX11_join_392 (lv_at hl 5 rfl) ?_
                refine lv_if_eq (tgt := 401) hx hb dX11_join_394 (by decide) (fun c394 => ?_) (fun c394 => ?_)
                · skip
                  refine lv_iconst (v := 1) hx hb dX11_join_401 (by decide) ?_
                  refine lv_iadd hx hb dX11_join_402 ?_
                  refine xr_top (y := nI (y1 + 1)) (nI_add y1 1) ?_
                  refine lv_istore (lv' := [(6, .int (nI (y1 + 1))), (5, .int (nI (x1 + 0))), (7, .int (nI (w1 + 1))), (4, .int (nI (n1 + 1))), (12, .int 1), (11, .int 1), (10, .int 0), (9, .int (nI ((64 * k) + y1))), (8, .int (nI ((64 * j) + x1))), (0, .ref (b 0)), (1, .int (nI j)), (2, .int (nI k)), (3, .int op)]) hx hb dX11_join_403 hl (by decide) rfl (fun ls hl => ?_)
                  refine lv_goto (tgt := 61) hx hb dX11_join_405 (by decide) ?_
                  exact K9 H locs ls hP hD hS (lv_sub hl [9, 10, 11, 12, 3, 1, 0, 2] rfl)
                · skip
                  exact absurd c394 (by decide)
    · skip
      exact absurd c281 (by decide)

set_option maxHeartbeats 4000000 in
set_option maxRecDepth 100000 in
theorem b_join_b0 {p : Program} {l : Launch} {e : Env} {R : Room} {s : State} {m : MethodId} {args : Array Value} {below : List Frame} {meth : Method} {c : Code} {H : Heap} {locs : List Loc} {Q : State → Prop} {ls : Array Slot} {D : va_G} {ca : Nat → ClassId} {A : Nat → Prop} {b : Nat → Nat} (q : QS) (j k n1 x1 y1 w1 : Nat) (op : Int32) (f1 g1 : Nat → Int32) (hj : j < 3) (hk : k < 3) (hx6 : x1 ≤ 60) (hy6 : y1 ≤ 60) (hn6 : n1 < 120) (hx : p.tables.exec = Jvm.exec) (hb : c.code = cX11_join) (hml : c.maxLocals = 13) (hts : ∀ w ∈ wsX11_join, w.before args s = true) (hown : s.vm.findClass RX11 = some m.cls) (hKN : xK D (TY ca) s) (hA : ∀ q : Nat, s.heap.size ≤ q → A q) (hP : va_P D vwCl (wQx ca b 0 q.oo q.zz q.ks q.vs q.cg q.hw q.lo q.hg q.wk q.kw q.mn q.gv q.cp q.ho f1 g1) H) (hD : va_D A (wQx ca b 0 q.oo q.zz q.ks q.vs q.cg q.hw q.lo q.hg q.wk q.kw q.mn q.gv q.cp q.ho f1 g1)) (hS : va_S A s.heap H locs) (hl : lv_has ls 13 [(12, .int 0), (11, .int 0), (10, .int 0), (9, .int (nI ((64 * k) + y1))), (8, .int (nI ((64 * j) + x1))), (0, .ref (b 0)), (1, .int (nI j)), (2, .int (nI k)), (3, .int op), (4, .int (nI n1)), (5, .int (nI x1)), (6, .int (nI y1)), (7, .int (nI w1))]) (K9 : ∀ (H : Heap) (locs : List Loc) (ls : Array Slot), va_P D vwCl (wQx ca b 0 q.oo q.zz q.ks q.vs q.cg q.hw q.lo q.hg q.wk q.kw q.mn q.gv q.cp q.ho (upd f1 n1 (q.ks ((64 * j) + x1))) (upd g1 n1 ((2 * (q.vs ((64 * j) + x1))) + (q.vs ((64 * k) + y1))))) H → va_D A (wQx ca b 0 q.oo q.zz q.ks q.vs q.cg q.hw q.lo q.hg q.wk q.kw q.mn q.gv q.cp q.ho (upd f1 n1 (q.ks ((64 * j) + x1))) (upd g1 n1 ((2 * (q.vs ((64 * j) + x1))) + (q.vs ((64 * k) + y1))))) → va_S A s.heap H locs → lv_has ls 13 [(0, .ref (b 0)), (1, .int (nI j)), (2, .int (nI k)), (3, .int op), (4, .int (nI (n1 + 0))), (5, .int (nI (x1 + 1))), (6, .int (nI (y1 + 1))), (7, .int (nI (w1 + 1)))] → W p l e R s m args below meth c H locs 0 0 Q (F0 m 61 ls [])) : W p l e R s m args below meth c H locs 0 0 Q (F0 m 244 ls []) := by
  have inX11 : ∀ w ∈ wsX110, w ∈ wsX11_join := by decide +kernel
  refine lv_aload_n hx hb dX11_join_244 rfl (lv_at hl 5 rfl) ?_
  refine va_get (D := D) (ci := 9) (v := .ref (b 15)) (C := RX11) (T := TX11) (N := 17) hx hb hts inX11 hown hKN.1 hP 0 rfl rfl 15 (by decide) (hts (.fieldLink RX11 53 "TreeFamilyModel" "newKeys" "[I") (by decide +kernel)) (fun _ h9 => h9) rfl dX11_join_245 ?_
  refine lv_iload hx hb dX11_join_248 (lv_at hl 9 rfl) ?_
  refine lv_iload hx hb dX11_join_250 (lv_at hl 1 rfl) ?_
  refine lv_if_eq (tgt := 265) hx hb dX11_join_252 (by decide) (fun c252 => ?_) (fun c252 => ?_)
  · skip
    refine lv_aload_n hx hb dX11_join_265 rfl (lv_at hl 5 rfl) ?_
    refine va_get (D := D) (ci := 9) (v := .ref (b 3)) (C := RX11) (T := TX11) (N := 17) hx hb hts inX11 hown hKN.1 hP 0 rfl rfl 3 (by decide) (hts (.fieldLink RX11 16 "TreeFamilyModel" "keys" "[I") (by decide +kernel)) (fun _ h9 => h9) rfl dX11_join_266 ?_
    refine lv_iload hx hb dX11_join_269 (lv_at hl 4 rfl) ?_
    refine xr_ild hx hb hKN.1 hP 3 0 rfl rfl (j := (64 * j) + x1) (by omega) (by decide) dX11_join_271 ?_
    refine xr_ist hx hb hKN.1 hP hD hS 15 0 rfl rfl (j := n1) (by omega) (by decide) dX11_join_272 (fun H locs hP hD hS => ?_)
    have hP : va_P D vwCl (wQx ca b 0 q.oo q.zz q.ks q.vs q.cg q.hw q.lo q.hg q.wk q.kw q.mn q.gv q.cp q.ho (upd f1 n1 (q.ks ((64 * j) + x1))) g1) H := hP
    have hD : va_D A (wQx ca b 0 q.oo q.zz q.ks q.vs q.cg q.hw q.lo q.hg q.wk q.kw q.mn q.gv q.cp q.ho (upd f1 n1 (q.ks ((64 * j) + x1))) g1) := hD
    refine lv_aload_n hx hb dX11_join_273 rfl (lv_at hl 5 rfl) ?_
    refine va_get (D := D) (ci := 9) (v := .ref (b 16)) (C := RX11) (T := TX11) (N := 17) hx hb hts inX11 hown hKN.1 hP 0 rfl rfl 16 (by decide) (hts (.fieldLink RX11 56 "TreeFamilyModel" "newValues" "[I") (by decide +kernel)) (fun _ h9 => h9) rfl dX11_join_274 ?_
    refine lv_iload hx hb dX11_join_277 (lv_at hl 9 rfl) ?_
    refine lv_iload hx hb dX11_join_279 (lv_at hl 2 rfl) ?_
    refine lv_if_eq (tgt := 294) hx hb dX11_join_281 (by decide) (fun c281 => ?_) (fun c281 => ?_)
    · skip
      refine lv_iload hx hb dX11_join_294 (lv_at hl 1 rfl) ?_
      refine lv_if_eq (tgt := 309) hx hb dX11_join_296 (by decide) (fun c296 => ?_) (fun c296 => ?_)
      · skip
        refine lv_iconst (v := 2) hx hb dX11_join_309 (by decide) ?_
        refine lv_aload_n hx hb dX11_join_310 rfl (lv_at hl 5 rfl) ?_
        refine va_get (D := D) (ci := 9) (v := .ref (b 4)) (C := RX11) (T := TX11) (N := 17) hx hb hts inX11 hown hKN.1 hP 0 rfl rfl 4 (by decide) (hts (.fieldLink RX11 19 "TreeFamilyModel" "values" "[I") (by decide +kernel)) (fun _ h9 => h9) rfl dX11_join_311 ?_
        refine lv_iload hx hb dX11_join_314 (lv_at hl 4 rfl) ?_
        refine xr_ild hx hb hKN.1 hP 4 0 rfl rfl (j := (64 * j) + x1) (by omega) (by decide) dX11_join_316 ?_
        refine lv_imul hx hb dX11_join_317 ?_
        refine lv_aload_n hx hb dX11_join_318 rfl (lv_at hl 5 rfl) ?_
        refine va_get (D := D) (ci := 9) (v := .ref (b 4)) (C := RX11) (T := TX11) (N := 17) hx hb hts inX11 hown hKN.1 hP 0 rfl rfl 4 (by decide) (hts (.fieldLink RX11 19 "TreeFamilyModel" "values" "[I") (by decide +kernel)) (fun _ h9 => h9) rfl dX11_join_319 ?_
        refine lv_iload hx hb dX11_join_322 (lv_at hl 3 rfl) ?_
        refine xr_ild hx hb hKN.1 hP 4 0 rfl rfl (j := (64 * k) + y1) (by omega) (by decide) dX11_join_324 ?_
        refine lv_iadd hx hb dX11_join_325 ?_
        refine xr_ist hx hb hKN.1 hP hD hS 16 0 rfl rfl (j := n1) (by omega) (by decide) dX11_join_326 (fun H locs hP hD hS => ?_)
        have hP : va_P D vwCl (wQx ca b 0 q.oo q.zz q.ks q.vs q.cg q.hw q.lo q.hg q.wk q.kw q.mn q.gv q.cp q.ho (upd f1 n1 (q.ks ((64 * j) + x1))) (upd g1 n1 ((2 * (q.vs ((64 * j) + x1))) + (q.vs ((64 * k) + y1))))) H := hP
        have hD : va_D A (wQx ca b 0 q.oo q.zz q.ks q.vs q.cg q.hw q.lo q.hg q.wk q.kw q.mn q.gv q.cp q.ho (upd f1 n1 (q.ks ((64 * j) + x1))) (upd g1 n1 ((2 * (q.vs ((64 * j) + x1))) + (q.vs ((64 * k) + y1))))) := hD
        refine lv_iload hx hb dX11_join_327 (lv_at hl 9 rfl) ?_
        refine lv_iload hx hb dX11_join_329 (lv_at hl 0 rfl) ?_
        refine lv_if_eq (tgt := 338) hx hb dX11_join_331 (by decide) (fun c331 => ?_) (fun c331 => ?_)
        · skip
          refine lv_iconst (v := 0) hx hb dX11_join_338 (by decide) ?_
          refine lv_iadd hx hb dX11_join_339 ?_
          refine xr_top (y := nI (n1 + 0)) (nI_add n1 0) ?_
          refine lv_istore (lv' := [(4, .int (nI (n1 + 0))), (12, .int 0), (11, .int 0), (10, .int 0), (9, .int (nI ((64 * k) + y1))), (8, .int (nI ((64 * j) + x1))), (0, .ref (b 0)), (1, .int (nI j)), (2, .int (nI k)), (3, .int op), (5, .int (nI x1)), (6, .int (nI y1)), (7, .int (nI w1))]) hx hb dX11_join_340 hl (by decide) rfl (fun ls hl => ?_)
          refine lv_iload hx hb dX11_join_342 (lv_at hl 12 rfl) ?_
          refine lv_iload hx hb dX11_join_344 (lv_at hl 2 rfl) ?_
          refine lv_if_eq (tgt := 362) hx hb dX11_join_346 (by decide) (fun c346 => ?_) (fun c346 => ?_)
          · skip
            refine lv_iload hx hb dX11_join_362 (lv_at hl 1 rfl) ?_
            refine lv_if_eq (tgt := 371) hx hb dX11_join_364 (by decide) (fun c364 => ?_) (fun c364 => ?_)
            · skip
              refine lv_iconst (v := 1) hx hb dX11_join_371 (by decide) ?_
              refine lv_iadd hx hb dX11_join_372 ?_
              refine xr_top (y := nI (w1 + 1)) (nI_add w1 1) ?_
              refine lv_istore (lv' := [(7, .int (nI (w1 + 1))), (4, .int (nI (n1 + 0))), (12, .int 0), (11, .int 0), (10, .int 0), (9, .int (nI ((64 * k) + y1))), (8, .int (nI ((64 * j) + x1))), (0, .ref (b 0)), (1, .int (nI j)), (2, .int (nI k)), (3, .int op), (5, .int (nI x1)), (6, .int (nI y1))]) hx hb dX11_join_373 hl (by decide) rfl (fun ls hl => ?_)
              refine lv_iload hx hb dX11_join_375 (lv_at hl 11 rfl) ?_
              refine lv_iload hx hb dX11_join_377 (lv_at hl 3 rfl) ?_
              refine lv_if_eq (tgt := 386) hx hb dX11_join_379 (by decide) (fun c379 => ?_) (fun c379 => ?_)
              · skip
                refine lv_iconst (v := 1) hx hb dX11_join_386 (by decide) ?_
                refine lv_iadd hx hb dX11_join_387 ?_
                refine xr_top (y := nI (x1 + 1)) (nI_add x1 1) ?_
                refine lv_istore (lv' := [(5, .int (nI (x1 + 1))), (7, .int (nI (w1 + 1))), (4, .int (nI (n1 + 0))), (12, .int 0), (11, .int 0), (10, .int 0), (9, .int (nI ((64 * k) + y1))), (8, .int (nI ((64 * j) + x1))), (0, .ref (b 0)), (1, .int (nI j)), (2, .int (nI k)), (3, .int op), (6, .int (nI y1))]) hx hb dX11_join_388 hl (by decide) rfl (fun ls hl => ?_)
                refine lv_iload hx hb dX11_join_390 (lv_at hl 12 rfl) ?_
                refine lv_iload hx hb dX11_join_392 (lv_at hl 5 rfl) ?_
                refine lv_if_eq (tgt := 401) hx hb dX11_join_394 (by decide) (fun c394 => ?_) (fun c394 => ?_)
                · skip
                  refine lv_iconst (v := 1) hx hb dX11_join_401 (by decide) ?_
                  refine lv_iadd hx hb dX11_join_402 ?_
                  refine xr_top (y := nI (y1 + 1)) (nI_add y1 1) ?_
                  refine lv_istore (lv' := [(6, .int (nI (y1 + 1))), (5, .int (nI (x1 + 1))), (7, .int (nI (w1 + 1))), (4, .int (nI (n1 + 0))), (12, .int 0), (11, .int 0), (10, .int 0), (9, .int (nI ((64 * k) + y1))), (8, .int (nI ((64 * j) + x1))), (0, .ref (b 0)), (1, .int (nI j)), (2, .int (nI k)), (3, .int op)]) hx hb dX11_join_403 hl (by decide) rfl (fun ls hl => ?_)
                  refine lv_goto (tgt := 61) hx hb dX11_join_405 (by decide) ?_
                  exact K9 H locs ls hP hD hS (lv_sub hl [9, 10, 11, 12, 3, 1, 0, 2] rfl)
                · skip
                  exact absurd c394 (by decide)
              · skip
                exact absurd c379 (by decide)
            · skip
              exact absurd c364 (by decide)
          · skip
            exact absurd c346 (by decide)
        · skip
          exact absurd c331 (by decide)
      · skip
        exact absurd c296 (by decide)
    · skip
      exact absurd c281 (by decide)
  · skip
    exact absurd c252 (by decide)

set_option maxHeartbeats 4000000 in
set_option maxRecDepth 100000 in
theorem b_join_b1 {p : Program} {l : Launch} {e : Env} {R : Room} {s : State} {m : MethodId} {args : Array Value} {below : List Frame} {meth : Method} {c : Code} {H : Heap} {locs : List Loc} {Q : State → Prop} {ls : Array Slot} {D : va_G} {ca : Nat → ClassId} {A : Nat → Prop} {b : Nat → Nat} (q : QS) (j k n1 x1 y1 w1 : Nat) (op : Int32) (f1 g1 : Nat → Int32) (hj : j < 3) (hk : k < 3) (hx6 : x1 ≤ 60) (hy6 : y1 ≤ 60) (hn6 : n1 < 120) (hx : p.tables.exec = Jvm.exec) (hb : c.code = cX11_join) (hml : c.maxLocals = 13) (hts : ∀ w ∈ wsX11_join, w.before args s = true) (hown : s.vm.findClass RX11 = some m.cls) (hKN : xK D (TY ca) s) (hA : ∀ q : Nat, s.heap.size ≤ q → A q) (hP : va_P D vwCl (wQx ca b 0 q.oo q.zz q.ks q.vs q.cg q.hw q.lo q.hg q.wk q.kw q.mn q.gv q.cp q.ho f1 g1) H) (hD : va_D A (wQx ca b 0 q.oo q.zz q.ks q.vs q.cg q.hw q.lo q.hg q.wk q.kw q.mn q.gv q.cp q.ho f1 g1)) (hS : va_S A s.heap H locs) (hl : lv_has ls 13 [(12, .int 1), (11, .int 0), (10, .int 0), (9, .int (nI ((64 * k) + y1))), (8, .int (nI ((64 * j) + x1))), (0, .ref (b 0)), (1, .int (nI j)), (2, .int (nI k)), (3, .int op), (4, .int (nI n1)), (5, .int (nI x1)), (6, .int (nI y1)), (7, .int (nI w1))]) (K9 : ∀ (H : Heap) (locs : List Loc) (ls : Array Slot), va_P D vwCl (wQx ca b 0 q.oo q.zz q.ks q.vs q.cg q.hw q.lo q.hg q.wk q.kw q.mn q.gv q.cp q.ho (upd f1 n1 (q.ks ((64 * j) + x1))) (upd g1 n1 ((2 * (q.vs ((64 * j) + x1))) + (q.vs ((64 * k) + y1))))) H → va_D A (wQx ca b 0 q.oo q.zz q.ks q.vs q.cg q.hw q.lo q.hg q.wk q.kw q.mn q.gv q.cp q.ho (upd f1 n1 (q.ks ((64 * j) + x1))) (upd g1 n1 ((2 * (q.vs ((64 * j) + x1))) + (q.vs ((64 * k) + y1))))) → va_S A s.heap H locs → lv_has ls 13 [(0, .ref (b 0)), (1, .int (nI j)), (2, .int (nI k)), (3, .int op), (4, .int (nI (n1 + 1))), (5, .int (nI (x1 + 1))), (6, .int (nI (y1 + 1))), (7, .int (nI (w1 + 0)))] → W p l e R s m args below meth c H locs 0 0 Q (F0 m 61 ls [])) : W p l e R s m args below meth c H locs 0 0 Q (F0 m 244 ls []) := by
  have inX11 : ∀ w ∈ wsX110, w ∈ wsX11_join := by decide +kernel
  refine lv_aload_n hx hb dX11_join_244 rfl (lv_at hl 5 rfl) ?_
  refine va_get (D := D) (ci := 9) (v := .ref (b 15)) (C := RX11) (T := TX11) (N := 17) hx hb hts inX11 hown hKN.1 hP 0 rfl rfl 15 (by decide) (hts (.fieldLink RX11 53 "TreeFamilyModel" "newKeys" "[I") (by decide +kernel)) (fun _ h9 => h9) rfl dX11_join_245 ?_
  refine lv_iload hx hb dX11_join_248 (lv_at hl 9 rfl) ?_
  refine lv_iload hx hb dX11_join_250 (lv_at hl 1 rfl) ?_
  refine lv_if_eq (tgt := 265) hx hb dX11_join_252 (by decide) (fun c252 => ?_) (fun c252 => ?_)
  · skip
    refine lv_aload_n hx hb dX11_join_265 rfl (lv_at hl 5 rfl) ?_
    refine va_get (D := D) (ci := 9) (v := .ref (b 3)) (C := RX11) (T := TX11) (N := 17) hx hb hts inX11 hown hKN.1 hP 0 rfl rfl 3 (by decide) (hts (.fieldLink RX11 16 "TreeFamilyModel" "keys" "[I") (by decide +kernel)) (fun _ h9 => h9) rfl dX11_join_266 ?_
    refine lv_iload hx hb dX11_join_269 (lv_at hl 4 rfl) ?_
    refine xr_ild hx hb hKN.1 hP 3 0 rfl rfl (j := (64 * j) + x1) (by omega) (by decide) dX11_join_271 ?_
    refine xr_ist hx hb hKN.1 hP hD hS 15 0 rfl rfl (j := n1) (by omega) (by decide) dX11_join_272 (fun H locs hP hD hS => ?_)
    have hP : va_P D vwCl (wQx ca b 0 q.oo q.zz q.ks q.vs q.cg q.hw q.lo q.hg q.wk q.kw q.mn q.gv q.cp q.ho (upd f1 n1 (q.ks ((64 * j) + x1))) g1) H := hP
    have hD : va_D A (wQx ca b 0 q.oo q.zz q.ks q.vs q.cg q.hw q.lo q.hg q.wk q.kw q.mn q.gv q.cp q.ho (upd f1 n1 (q.ks ((64 * j) + x1))) g1) := hD
    refine lv_aload_n hx hb dX11_join_273 rfl (lv_at hl 5 rfl) ?_
    refine va_get (D := D) (ci := 9) (v := .ref (b 16)) (C := RX11) (T := TX11) (N := 17) hx hb hts inX11 hown hKN.1 hP 0 rfl rfl 16 (by decide) (hts (.fieldLink RX11 56 "TreeFamilyModel" "newValues" "[I") (by decide +kernel)) (fun _ h9 => h9) rfl dX11_join_274 ?_
    refine lv_iload hx hb dX11_join_277 (lv_at hl 9 rfl) ?_
    refine lv_iload hx hb dX11_join_279 (lv_at hl 2 rfl) ?_
    refine lv_if_eq (tgt := 294) hx hb dX11_join_281 (by decide) (fun c281 => ?_) (fun c281 => ?_)
    · skip
      refine lv_iload hx hb dX11_join_294 (lv_at hl 1 rfl) ?_
      refine lv_if_eq (tgt := 309) hx hb dX11_join_296 (by decide) (fun c296 => ?_) (fun c296 => ?_)
      · skip
        refine lv_iconst (v := 2) hx hb dX11_join_309 (by decide) ?_
        refine lv_aload_n hx hb dX11_join_310 rfl (lv_at hl 5 rfl) ?_
        refine va_get (D := D) (ci := 9) (v := .ref (b 4)) (C := RX11) (T := TX11) (N := 17) hx hb hts inX11 hown hKN.1 hP 0 rfl rfl 4 (by decide) (hts (.fieldLink RX11 19 "TreeFamilyModel" "values" "[I") (by decide +kernel)) (fun _ h9 => h9) rfl dX11_join_311 ?_
        refine lv_iload hx hb dX11_join_314 (lv_at hl 4 rfl) ?_
        refine xr_ild hx hb hKN.1 hP 4 0 rfl rfl (j := (64 * j) + x1) (by omega) (by decide) dX11_join_316 ?_
        refine lv_imul hx hb dX11_join_317 ?_
        refine lv_aload_n hx hb dX11_join_318 rfl (lv_at hl 5 rfl) ?_
        refine va_get (D := D) (ci := 9) (v := .ref (b 4)) (C := RX11) (T := TX11) (N := 17) hx hb hts inX11 hown hKN.1 hP 0 rfl rfl 4 (by decide) (hts (.fieldLink RX11 19 "TreeFamilyModel" "values" "[I") (by decide +kernel)) (fun _ h9 => h9) rfl dX11_join_319 ?_
        refine lv_iload hx hb dX11_join_322 (lv_at hl 3 rfl) ?_
        refine xr_ild hx hb hKN.1 hP 4 0 rfl rfl (j := (64 * k) + y1) (by omega) (by decide) dX11_join_324 ?_
        refine lv_iadd hx hb dX11_join_325 ?_
        refine xr_ist hx hb hKN.1 hP hD hS 16 0 rfl rfl (j := n1) (by omega) (by decide) dX11_join_326 (fun H locs hP hD hS => ?_)
        have hP : va_P D vwCl (wQx ca b 0 q.oo q.zz q.ks q.vs q.cg q.hw q.lo q.hg q.wk q.kw q.mn q.gv q.cp q.ho (upd f1 n1 (q.ks ((64 * j) + x1))) (upd g1 n1 ((2 * (q.vs ((64 * j) + x1))) + (q.vs ((64 * k) + y1))))) H := hP
        have hD : va_D A (wQx ca b 0 q.oo q.zz q.ks q.vs q.cg q.hw q.lo q.hg q.wk q.kw q.mn q.gv q.cp q.ho (upd f1 n1 (q.ks ((64 * j) + x1))) (upd g1 n1 ((2 * (q.vs ((64 * j) + x1))) + (q.vs ((64 * k) + y1))))) := hD
        refine lv_iload hx hb dX11_join_327 (lv_at hl 9 rfl) ?_
        refine lv_iload hx hb dX11_join_329 (lv_at hl 0 rfl) ?_
        refine lv_if_eq (tgt := 338) hx hb dX11_join_331 (by decide) (fun c331 => ?_) (fun c331 => ?_)
        · skip
          exact absurd c331 (by decide)
        · skip
          refine lv_iconst (v := 1) hx hb dX11_join_334 (by decide) ?_
          refine lv_goto (tgt := 339) hx hb dX11_join_335 (by decide) ?_
          refine lv_iadd hx hb dX11_join_339 ?_
          refine xr_top (y := nI (n1 + 1)) (nI_add n1 1) ?_
          refine lv_istore (lv' := [(4, .int (nI (n1 + 1))), (12, .int 1), (11, .int 0), (10, .int 0), (9, .int (nI ((64 * k) + y1))), (8, .int (nI ((64 * j) + x1))), (0, .ref (b 0)), (1, .int (nI j)), (2, .int (nI k)), (3, .int op), (5, .int (nI x1)), (6, .int (nI y1)), (7, .int (nI w1))]) hx hb dX11_join_340 hl (by decide) rfl (fun ls hl => ?_)
          refine lv_iload hx hb dX11_join_342 (lv_at hl 12 rfl) ?_
          refine lv_iload hx hb dX11_join_344 (lv_at hl 2 rfl) ?_
          refine lv_if_eq (tgt := 362) hx hb dX11_join_346 (by decide) (fun c346 => ?_) (fun c346 => ?_)
          · skip
            refine lv_iload hx hb dX11_join_362 (lv_at hl 1 rfl) ?_
            refine lv_if_eq (tgt := 371) hx hb dX11_join_364 (by decide) (fun c364 => ?_) (fun c364 => ?_)
            · skip
              exact absurd c364 (by decide)
            · skip
              refine lv_iconst (v := 0) hx hb dX11_join_367 (by decide) ?_
              refine lv_goto (tgt := 372) hx hb dX11_join_368 (by decide) ?_
              refine lv_iadd hx hb dX11_join_372 ?_
              refine xr_top (y := nI (w1 + 0)) (nI_add w1 0) ?_
              refine lv_istore (lv' := [(7, .int (nI (w1 + 0))), (4, .int (nI (n1 + 1))), (12, .int 1), (11, .int 0), (10, .int 0), (9, .int (nI ((64 * k) + y1))), (8, .int (nI ((64 * j) + x1))), (0, .ref (b 0)), (1, .int (nI j)), (2, .int (nI k)), (3, .int op), (5, .int (nI x1)), (6, .int (nI y1))]) hx hb dX11_join_373 hl (by decide) rfl (fun ls hl => ?_)
              refine lv_iload hx hb dX11_join_375 (lv_at hl 11 rfl) ?_
              refine lv_iload hx hb dX11_join_377 (lv_at hl 3 rfl) ?_
              refine lv_if_eq (tgt := 386) hx hb dX11_join_379 (by decide) (fun c379 => ?_) (fun c379 => ?_)
              · skip
                refine lv_iconst (v := 1) hx hb dX11_join_386 (by decide) ?_
                refine lv_iadd hx hb dX11_join_387 ?_
                refine xr_top (y := nI (x1 + 1)) (nI_add x1 1) ?_
                refine lv_istore (lv' := [(5, .int (nI (x1 + 1))), (7, .int (nI (w1 + 0))), (4, .int (nI (n1 + 1))), (12, .int 1), (11, .int 0), (10, .int 0), (9, .int (nI ((64 * k) + y1))), (8, .int (nI ((64 * j) + x1))), (0, .ref (b 0)), (1, .int (nI j)), (2, .int (nI k)), (3, .int op), (6, .int (nI y1))]) hx hb dX11_join_388 hl (by decide) rfl (fun ls hl => ?_)
                refine lv_iload hx hb dX11_join_390 (lv_at hl 12 rfl) ?_
                refine lv_iload hx hb dX11_join_392 (lv_at hl 5 rfl) ?_
                refine lv_if_eq (tgt := 401) hx hb dX11_join_394 (by decide) (fun c394 => ?_) (fun c394 => ?_)
                · skip
                  refine lv_iconst (v := 1) hx hb dX11_join_401 (by decide) ?_
                  refine lv_iadd hx hb dX11_join_402 ?_
                  refine xr_top (y := nI (y1 + 1)) (nI_add y1 1) ?_
                  refine lv_istore (lv' := [(6, .int (nI (y1 + 1))), (5, .int (nI (x1 + 1))), (7, .int (nI (w1 + 0))), (4, .int (nI (n1 + 1))), (12, .int 1), (11, .int 0), (10, .int 0), (9, .int (nI ((64 * k) + y1))), (8, .int (nI ((64 * j) + x1))), (0, .ref (b 0)), (1, .int (nI j)), (2, .int (nI k)), (3, .int op)]) hx hb dX11_join_403 hl (by decide) rfl (fun ls hl => ?_)
                  refine lv_goto (tgt := 61) hx hb dX11_join_405 (by decide) ?_
                  exact K9 H locs ls hP hD hS (lv_sub hl [9, 10, 11, 12, 3, 1, 0, 2] rfl)
                · skip
                  exact absurd c394 (by decide)
              · skip
                exact absurd c379 (by decide)
          · skip
            exact absurd c346 (by decide)
      · skip
        exact absurd c296 (by decide)
    · skip
      exact absurd c281 (by decide)
  · skip
    exact absurd c252 (by decide)

-- TreeFamilyModel.join
set_option maxHeartbeats 4000000 in
set_option maxRecDepth 100000 in
theorem c_X11_join (l : Launch) (D : va_G) (ca : Nat → ClassId) (b : Nat → Nat) (sz : Nat) (q : QS) (mm nn op : Int32) (hq : WQ q) : Met l yX11_join wsX11_join ({ frames := 1, cells := 0, slots := 0, locals := 23 } : Room) (xPc D (TY ca) [.ref (b 0), .int mm, .int nn, .int op] (wQ ca b q) sz) (va_Qi (fun (r : Int32) (u : QS) => PO2 (F_join op) mm nn q r u) (xB D (wQ ca b) (va_A (wQ ca b q) sz)) (va_A (wQ ca b q) sz)) 0 0 (va_A (wQ ca b q) sz) := by
  refine Met.ofW (cc := cX11_join) (maxL := 13) (ret := (some .int)) (by decide) rfl ?_
  intro p e s m args below meth c s₁ B hml hv
  obtain ⟨rfl, hsz, hP, hKN, hD0⟩ := hv
  have hx := B.exec
  have hb := B.bytes
  have hr := B.returns
  have hts := atoms_spec (ws := wsX11_join) B.pre
  have hown : s.vm.findClass RX11 = some m.cls := findClass_of_methodNamed B.named
  have hlocks := B.notSynchronized
  have inX11 : ∀ w ∈ wsX110, w ∈ wsX11_join := by decide +kernel
  subst hsz
  have hD := hD0.self (sz := s.heap.size)
  generalize hAe : va_A (wQ ca b q) s.heap.size = A at hD ⊢
  have hA : ∀ q : Nat, s.heap.size ≤ q → A q := fun q h => by rw [← hAe]; exact Or.inr h
  have hS : va_S A s.heap s.heap [] := va_S.rf
  have hl := lv_entry ([.ref (b 0), .int mm, .int nn, .int op]) (n := 13) (Nat.le_of_ble_eq_true rfl)
  rw [lg_entry_eq]
  generalize (lg_sl ([.ref (b 0), .int mm, .int nn, .int op]) ++ List.replicate (13 - (lg_sl ([.ref (b 0), .int mm, .int nn, .int op])).length) Slot.unset).toArray = ls at hl ⊢
  have hl : lv_has ls 13 [(0, .ref (b 0)), (1, .int mm), (2, .int nn), (3, .int op)] := hl
  rcases isB3 mm with hmm | ⟨j, hj, hmj⟩
  · skip
    refine lv_aload_n hx hb dX11_join_0 rfl (lv_at hl 0 rfl) ?_
    refine lv_iconst (v := 0) hx hb dX11_join_1 (by decide) ?_
    refine va_put (D := D) (ci := 9) (v := .int 0) (ty := .int) (C := RX11) (T := TX11) (N := 17) hx hb hts inX11 tyX11 tyX11_ok nmX11 hown hKN.1 hP hD hS 0 rfl rfl 0 (by decide) (hts (.fieldLink RX11 59 "TreeFamilyModel" "code" "I") (by decide +kernel)) (fun _ h9 => h9) rfl (by decide +kernel) rfl rfl (Nat.le_of_ble_eq_true rfl) dX11_join_2 (fun H locs hP hD hS => ?_)
    have hP : va_P D vwCl (wQx ca b 0 q.oo q.zz q.ks q.vs q.cg q.hw q.lo q.hg q.wk q.kw q.mn q.gv q.cp q.ho q.nk q.nv) H := hP
    have hD : va_D A (wQx ca b 0 q.oo q.zz q.ks q.vs q.cg q.hw q.lo q.hg q.wk q.kw q.mn q.gv q.cp q.ho q.nk q.nv) := hD
    refine lv_iload_n hx hb dX11_join_5 rfl (lv_at hl 1 rfl) ?_
    refine xs_i (va_runS (As := [.int mm]) (rest := []) ⟨hx, hb, hml, hown, hts⟩ (c_X11_isMap l _) (va_cwS 1 hts gX11_join_X11_isMap rfl rfl rfl (by decide +kernel) ⟨(Nat.le_of_ble_eq_true rfl), (Nat.le_of_ble_eq_true rfl)⟩) xPreT rfl rfl hl.1 rfl (lv_room (Nat.le_of_ble_eq_true rfl)) dX11_join_6 ⟨(Nat.le_of_ble_eq_true rfl), (Nat.le_of_ble_eq_true rfl)⟩) (fun r6 er6 => ?_)
    subst er6
    refine xr_top (y := 0) (by rw [hmm]; rfl) ?_
    refine lv_if_eq (tgt := 43) hx hb dX11_join_9 (by decide) (fun c9 => ?_) (fun c9 => ?_)
    · skip
      refine lv_aload_n hx hb dX11_join_43 rfl (lv_at hl 0 rfl) ?_
      refine lv_iconst (v := 1) hx hb dX11_join_44 (by decide) ?_
      refine xc_i (wr := []) (va_runV (As := [.int 1]) (rest := []) ⟨hx, hb, hml, hown, hts⟩ (c_X11_refuse l D ca b _ (0, q.oo, q.zz, q.ks, q.vs, q.cg, q.hw, q.lo, q.hg, q.wk, q.kw, q.mn, q.gv, q.cp, q.ho, q.nk, q.nv) 1) (cwV 1 hts gX11_join_X11_refuse rfl rfl rfl (by decide +kernel) ⟨(Nat.le_of_ble_eq_true rfl), (Nat.le_of_ble_eq_true rfl)⟩) (xPreV hKN hP hD [0, 1, 2, 3, 4, 5, 6, 7, 8, 9, 10, 11, 12, 13, 14, 15, 16] (by decide) rfl (q0 := 0) rfl rfl rfl) rfl rfl hl.1 rfl (lv_room (Nat.le_of_ble_eq_true rfl)) dX11_join_45 ⟨(Nat.le_of_ble_eq_true rfl), (Nat.le_of_ble_eq_true rfl)⟩) hP hD hS hA [0, 1, 2, 3, 4, 5, 6, 7, 8, 9, 10, 11, 12, 13, 14, 15, 16] [] rfl rfl (by decide) (by decide) (fun r45 u45 H locs hu45 hP hD hS => ?_)
      obtain ⟨er45, eu45⟩ := hu45
      have eu45 := eu45.symm
      subst eu45
      subst er45
      have hP : va_P D vwCl (wQx ca b 1 q.oo q.zz q.ks q.vs q.cg q.hw q.lo q.hg q.wk q.kw q.mn q.gv q.cp q.ho q.nk q.nv) H := hP
      have hD : va_D A (wQx ca b 1 q.oo q.zz q.ks q.vs q.cg q.hw q.lo q.hg q.wk q.kw q.mn q.gv q.cp q.ho q.nk q.nv) := hD
      exact W.iret (v := 0) hx hb hr (fun t9 e9 w9 => ⟨⟨_, (1, q.oo, q.zz, q.ks, q.vs, q.cg, q.hw, q.lo, q.hg, q.wk, q.kw, q.mn, q.gv, q.cp, q.ho, q.nk, q.nv), rfl, PO2_bad (Or.inl hmm) hq rfl rfl rfl, by rw [e9]; exact hP, hD⟩, hS.F e9⟩) hS.2.2 dX11_join_48
    · skip
      exact absurd c9 (by decide)
  · subst hmj
    have hz6 := hq.1 j
    rcases isB3 nn with hnn | ⟨k, hk, hnk⟩
    · skip
      refine lv_aload_n hx hb dX11_join_0 rfl (lv_at hl 0 rfl) ?_
      refine lv_iconst (v := 0) hx hb dX11_join_1 (by decide) ?_
      refine va_put (D := D) (ci := 9) (v := .int 0) (ty := .int) (C := RX11) (T := TX11) (N := 17) hx hb hts inX11 tyX11 tyX11_ok nmX11 hown hKN.1 hP hD hS 0 rfl rfl 0 (by decide) (hts (.fieldLink RX11 59 "TreeFamilyModel" "code" "I") (by decide +kernel)) (fun _ h9 => h9) rfl (by decide +kernel) rfl rfl (Nat.le_of_ble_eq_true rfl) dX11_join_2 (fun H locs hP hD hS => ?_)
      have hP : va_P D vwCl (wQx ca b 0 q.oo q.zz q.ks q.vs q.cg q.hw q.lo q.hg q.wk q.kw q.mn q.gv q.cp q.ho q.nk q.nv) H := hP
      have hD : va_D A (wQx ca b 0 q.oo q.zz q.ks q.vs q.cg q.hw q.lo q.hg q.wk q.kw q.mn q.gv q.cp q.ho q.nk q.nv) := hD
      refine lv_iload_n hx hb dX11_join_5 rfl (lv_at hl 1 rfl) ?_
      refine xs_i (va_runS (As := [.int (nI j)]) (rest := []) ⟨hx, hb, hml, hown, hts⟩ (c_X11_isMap l _) (va_cwS 1 hts gX11_join_X11_isMap rfl rfl rfl (by decide +kernel) ⟨(Nat.le_of_ble_eq_true rfl), (Nat.le_of_ble_eq_true rfl)⟩) xPreT rfl rfl hl.1 rfl (lv_room (Nat.le_of_ble_eq_true rfl)) dX11_join_6 ⟨(Nat.le_of_ble_eq_true rfl), (Nat.le_of_ble_eq_true rfl)⟩) (fun r6 er6 => ?_)
      subst er6
      refine xr_top (y := 1) (by rw [isB3_ok hj]; rfl) ?_
      refine lv_if_eq (tgt := 43) hx hb dX11_join_9 (by decide) (fun c9 => ?_) (fun c9 => ?_)
      · skip
        exact absurd c9 (by decide)
      · skip
        refine lv_iload_n hx hb dX11_join_12 rfl (lv_at hl 2 rfl) ?_
        refine xs_i (va_runS (As := [.int nn]) (rest := []) ⟨hx, hb, hml, hown, hts⟩ (c_X11_isMap l _) (va_cwS 1 hts gX11_join_X11_isMap rfl rfl rfl (by decide +kernel) ⟨(Nat.le_of_ble_eq_true rfl), (Nat.le_of_ble_eq_true rfl)⟩) xPreT rfl rfl hl.1 rfl (lv_room (Nat.le_of_ble_eq_true rfl)) dX11_join_13 ⟨(Nat.le_of_ble_eq_true rfl), (Nat.le_of_ble_eq_true rfl)⟩) (fun r13 er13 => ?_)
        subst er13
        refine xr_top (y := 0) (by rw [hnn]; rfl) ?_
        refine lv_if_eq (tgt := 43) hx hb dX11_join_16 (by decide) (fun c16 => ?_) (fun c16 => ?_)
        · skip
          refine lv_aload_n hx hb dX11_join_43 rfl (lv_at hl 0 rfl) ?_
          refine lv_iconst (v := 1) hx hb dX11_join_44 (by decide) ?_
          refine xc_i (wr := []) (va_runV (As := [.int 1]) (rest := []) ⟨hx, hb, hml, hown, hts⟩ (c_X11_refuse l D ca b _ (0, q.oo, q.zz, q.ks, q.vs, q.cg, q.hw, q.lo, q.hg, q.wk, q.kw, q.mn, q.gv, q.cp, q.ho, q.nk, q.nv) 1) (cwV 1 hts gX11_join_X11_refuse rfl rfl rfl (by decide +kernel) ⟨(Nat.le_of_ble_eq_true rfl), (Nat.le_of_ble_eq_true rfl)⟩) (xPreV hKN hP hD [0, 1, 2, 3, 4, 5, 6, 7, 8, 9, 10, 11, 12, 13, 14, 15, 16] (by decide) rfl (q0 := 0) rfl rfl rfl) rfl rfl hl.1 rfl (lv_room (Nat.le_of_ble_eq_true rfl)) dX11_join_45 ⟨(Nat.le_of_ble_eq_true rfl), (Nat.le_of_ble_eq_true rfl)⟩) hP hD hS hA [0, 1, 2, 3, 4, 5, 6, 7, 8, 9, 10, 11, 12, 13, 14, 15, 16] [] rfl rfl (by decide) (by decide) (fun r45 u45 H locs hu45 hP hD hS => ?_)
          obtain ⟨er45, eu45⟩ := hu45
          have eu45 := eu45.symm
          subst eu45
          subst er45
          have hP : va_P D vwCl (wQx ca b 1 q.oo q.zz q.ks q.vs q.cg q.hw q.lo q.hg q.wk q.kw q.mn q.gv q.cp q.ho q.nk q.nv) H := hP
          have hD : va_D A (wQx ca b 1 q.oo q.zz q.ks q.vs q.cg q.hw q.lo q.hg q.wk q.kw q.mn q.gv q.cp q.ho q.nk q.nv) := hD
          exact W.iret (v := 0) hx hb hr (fun t9 e9 w9 => ⟨⟨_, (1, q.oo, q.zz, q.ks, q.vs, q.cg, q.hw, q.lo, q.hg, q.wk, q.kw, q.mn, q.gv, q.cp, q.ho, q.nk, q.nv), rfl, PO2_bad (Or.inr hnn) hq rfl rfl rfl, by rw [e9]; exact hP, hD⟩, hS.F e9⟩) hS.2.2 dX11_join_48
        · skip
          exact absurd c16 (by decide)
    · subst hnk
      have hz7 := hq.1 k
      refine lv_aload_n hx hb dX11_join_0 rfl (lv_at hl 0 rfl) ?_
      refine lv_iconst (v := 0) hx hb dX11_join_1 (by decide) ?_
      refine va_put (D := D) (ci := 9) (v := .int 0) (ty := .int) (C := RX11) (T := TX11) (N := 17) hx hb hts inX11 tyX11 tyX11_ok nmX11 hown hKN.1 hP hD hS 0 rfl rfl 0 (by decide) (hts (.fieldLink RX11 59 "TreeFamilyModel" "code" "I") (by decide +kernel)) (fun _ h9 => h9) rfl (by decide +kernel) rfl rfl (Nat.le_of_ble_eq_true rfl) dX11_join_2 (fun H locs hP hD hS => ?_)
      have hP : va_P D vwCl (wQx ca b 0 q.oo q.zz q.ks q.vs q.cg q.hw q.lo q.hg q.wk q.kw q.mn q.gv q.cp q.ho q.nk q.nv) H := hP
      have hD : va_D A (wQx ca b 0 q.oo q.zz q.ks q.vs q.cg q.hw q.lo q.hg q.wk q.kw q.mn q.gv q.cp q.ho q.nk q.nv) := hD
      refine lv_iload_n hx hb dX11_join_5 rfl (lv_at hl 1 rfl) ?_
      refine xs_i (va_runS (As := [.int (nI j)]) (rest := []) ⟨hx, hb, hml, hown, hts⟩ (c_X11_isMap l _) (va_cwS 1 hts gX11_join_X11_isMap rfl rfl rfl (by decide +kernel) ⟨(Nat.le_of_ble_eq_true rfl), (Nat.le_of_ble_eq_true rfl)⟩) xPreT rfl rfl hl.1 rfl (lv_room (Nat.le_of_ble_eq_true rfl)) dX11_join_6 ⟨(Nat.le_of_ble_eq_true rfl), (Nat.le_of_ble_eq_true rfl)⟩) (fun r6 er6 => ?_)
      subst er6
      refine xr_top (y := 1) (by rw [isB3_ok hj]; rfl) ?_
      refine lv_if_eq (tgt := 43) hx hb dX11_join_9 (by decide) (fun c9 => ?_) (fun c9 => ?_)
      · skip
        exact absurd c9 (by decide)
      · skip
        refine lv_iload_n hx hb dX11_join_12 rfl (lv_at hl 2 rfl) ?_
        refine xs_i (va_runS (As := [.int (nI k)]) (rest := []) ⟨hx, hb, hml, hown, hts⟩ (c_X11_isMap l _) (va_cwS 1 hts gX11_join_X11_isMap rfl rfl rfl (by decide +kernel) ⟨(Nat.le_of_ble_eq_true rfl), (Nat.le_of_ble_eq_true rfl)⟩) xPreT rfl rfl hl.1 rfl (lv_room (Nat.le_of_ble_eq_true rfl)) dX11_join_13 ⟨(Nat.le_of_ble_eq_true rfl), (Nat.le_of_ble_eq_true rfl)⟩) (fun r13 er13 => ?_)
        subst er13
        refine xr_top (y := 1) (by rw [isB3_ok hk]; rfl) ?_
        refine lv_if_eq (tgt := 43) hx hb dX11_join_16 (by decide) (fun c16 => ?_) (fun c16 => ?_)
        · skip
          exact absurd c16 (by decide)
        · skip
          refine lv_iload_n hx hb dX11_join_19 rfl (lv_at hl 3 rfl) ?_
          refine lv_if_lt (tgt := 43) hx hb dX11_join_20 (by decide) (fun c20 => ?_) (fun c20 => ?_)
          · skip
            refine lv_aload_n hx hb dX11_join_43 rfl (lv_at hl 0 rfl) ?_
            refine lv_iconst (v := 1) hx hb dX11_join_44 (by decide) ?_
            refine xc_i (wr := []) (va_runV (As := [.int 1]) (rest := []) ⟨hx, hb, hml, hown, hts⟩ (c_X11_refuse l D ca b _ (0, q.oo, q.zz, q.ks, q.vs, q.cg, q.hw, q.lo, q.hg, q.wk, q.kw, q.mn, q.gv, q.cp, q.ho, q.nk, q.nv) 1) (cwV 1 hts gX11_join_X11_refuse rfl rfl rfl (by decide +kernel) ⟨(Nat.le_of_ble_eq_true rfl), (Nat.le_of_ble_eq_true rfl)⟩) (xPreV hKN hP hD [0, 1, 2, 3, 4, 5, 6, 7, 8, 9, 10, 11, 12, 13, 14, 15, 16] (by decide) rfl (q0 := 0) rfl rfl rfl) rfl rfl hl.1 rfl (lv_room (Nat.le_of_ble_eq_true rfl)) dX11_join_45 ⟨(Nat.le_of_ble_eq_true rfl), (Nat.le_of_ble_eq_true rfl)⟩) hP hD hS hA [0, 1, 2, 3, 4, 5, 6, 7, 8, 9, 10, 11, 12, 13, 14, 15, 16] [] rfl rfl (by decide) (by decide) (fun r45 u45 H locs hu45 hP hD hS => ?_)
            obtain ⟨er45, eu45⟩ := hu45
            have eu45 := eu45.symm
            subst eu45
            subst er45
            have hP : va_P D vwCl (wQx ca b 1 q.oo q.zz q.ks q.vs q.cg q.hw q.lo q.hg q.wk q.kw q.mn q.gv q.cp q.ho q.nk q.nv) H := hP
            have hD : va_D A (wQx ca b 1 q.oo q.zz q.ks q.vs q.cg q.hw q.lo q.hg q.wk q.kw q.mn q.gv q.cp q.ho q.nk q.nv) := hD
            exact W.iret (v := 0) hx hb hr (fun t9 e9 w9 => ⟨⟨_, (1, q.oo, q.zz, q.ks, q.vs, q.cg, q.hw, q.lo, q.hg, q.wk, q.kw, q.mn, q.gv, q.cp, q.ho, q.nk, q.nv), rfl, by first | exact PO2_same hj hk (F_join_1 (isB_lt c20)) hq rfl rfl | exact PO2_same hj hk (F_join_1 (isB_ge (gt23' c25))) hq rfl rfl | exact PO2_same hj hk (F_join_o c40) hq rfl rfl, by rw [e9]; exact hP, hD⟩, hS.F e9⟩) hS.2.2 dX11_join_48
          · skip
            refine lv_iload_n hx hb dX11_join_23 rfl (lv_at hl 3 rfl) ?_
            refine lv_iconst (v := 2) hx hb dX11_join_24 (by decide) ?_
            refine lv_icmp_gt (tgt := 43) hx hb dX11_join_25 (by decide) (fun c25 => ?_) (fun c25 => ?_)
            · skip
              refine lv_aload_n hx hb dX11_join_43 rfl (lv_at hl 0 rfl) ?_
              refine lv_iconst (v := 1) hx hb dX11_join_44 (by decide) ?_
              refine xc_i (wr := []) (va_runV (As := [.int 1]) (rest := []) ⟨hx, hb, hml, hown, hts⟩ (c_X11_refuse l D ca b _ (0, q.oo, q.zz, q.ks, q.vs, q.cg, q.hw, q.lo, q.hg, q.wk, q.kw, q.mn, q.gv, q.cp, q.ho, q.nk, q.nv) 1) (cwV 1 hts gX11_join_X11_refuse rfl rfl rfl (by decide +kernel) ⟨(Nat.le_of_ble_eq_true rfl), (Nat.le_of_ble_eq_true rfl)⟩) (xPreV hKN hP hD [0, 1, 2, 3, 4, 5, 6, 7, 8, 9, 10, 11, 12, 13, 14, 15, 16] (by decide) rfl (q0 := 0) rfl rfl rfl) rfl rfl hl.1 rfl (lv_room (Nat.le_of_ble_eq_true rfl)) dX11_join_45 ⟨(Nat.le_of_ble_eq_true rfl), (Nat.le_of_ble_eq_true rfl)⟩) hP hD hS hA [0, 1, 2, 3, 4, 5, 6, 7, 8, 9, 10, 11, 12, 13, 14, 15, 16] [] rfl rfl (by decide) (by decide) (fun r45 u45 H locs hu45 hP hD hS => ?_)
              obtain ⟨er45, eu45⟩ := hu45
              have eu45 := eu45.symm
              subst eu45
              subst er45
              have hP : va_P D vwCl (wQx ca b 1 q.oo q.zz q.ks q.vs q.cg q.hw q.lo q.hg q.wk q.kw q.mn q.gv q.cp q.ho q.nk q.nv) H := hP
              have hD : va_D A (wQx ca b 1 q.oo q.zz q.ks q.vs q.cg q.hw q.lo q.hg q.wk q.kw q.mn q.gv q.cp q.ho q.nk q.nv) := hD
              exact W.iret (v := 0) hx hb hr (fun t9 e9 w9 => ⟨⟨_, (1, q.oo, q.zz, q.ks, q.vs, q.cg, q.hw, q.lo, q.hg, q.wk, q.kw, q.mn, q.gv, q.cp, q.ho, q.nk, q.nv), rfl, by first | exact PO2_same hj hk (F_join_1 (isB_lt c20)) hq rfl rfl | exact PO2_same hj hk (F_join_1 (isB_ge (gt23' c25))) hq rfl rfl | exact PO2_same hj hk (F_join_o c40) hq rfl rfl, by rw [e9]; exact hP, hD⟩, hS.F e9⟩) hS.2.2 dX11_join_48
            · skip
              refine lv_aload_n hx hb dX11_join_28 rfl (lv_at hl 0 rfl) ?_
              refine va_get (D := D) (ci := 9) (v := .ref (b 1)) (C := RX11) (T := TX11) (N := 17) hx hb hts inX11 hown hKN.1 hP 0 rfl rfl 1 (by decide) (hts (.fieldLink RX11 7 "TreeFamilyModel" "order" "[I") (by decide +kernel)) (fun _ h9 => h9) rfl dX11_join_29 ?_
              refine lv_iload_n hx hb dX11_join_32 rfl (lv_at hl 1 rfl) ?_
              refine xr_ild hx hb hKN.1 hP 1 0 rfl rfl (j := j) (by omega) (by decide) dX11_join_33 ?_
              refine lv_aload_n hx hb dX11_join_34 rfl (lv_at hl 0 rfl) ?_
              refine va_get (D := D) (ci := 9) (v := .ref (b 1)) (C := RX11) (T := TX11) (N := 17) hx hb hts inX11 hown hKN.1 hP 0 rfl rfl 1 (by decide) (hts (.fieldLink RX11 7 "TreeFamilyModel" "order" "[I") (by decide +kernel)) (fun _ h9 => h9) rfl dX11_join_35 ?_
              refine lv_iload_n hx hb dX11_join_38 rfl (lv_at hl 2 rfl) ?_
              refine xr_ild hx hb hKN.1 hP 1 0 rfl rfl (j := k) (by omega) (by decide) dX11_join_39 ?_
              refine lv_icmp_eq (tgt := 49) hx hb dX11_join_40 (by decide) (fun c40 => ?_) (fun c40 => ?_)
              · skip
                refine lv_iconst (v := 0) hx hb dX11_join_49 (by decide) ?_
                refine lv_istore (lv' := [(4, .int 0), (0, .ref (b 0)), (1, .int (nI j)), (2, .int (nI k)), (3, .int op)]) hx hb dX11_join_50 hl (by decide) rfl (fun ls hl => ?_)
                refine lv_iconst (v := 0) hx hb dX11_join_52 (by decide) ?_
                refine lv_istore (lv' := [(5, .int 0), (4, .int 0), (0, .ref (b 0)), (1, .int (nI j)), (2, .int (nI k)), (3, .int op)]) hx hb dX11_join_53 hl (by decide) rfl (fun ls hl => ?_)
                refine lv_iconst (v := 0) hx hb dX11_join_55 (by decide) ?_
                refine lv_istore (lv' := [(6, .int 0), (5, .int 0), (4, .int 0), (0, .ref (b 0)), (1, .int (nI j)), (2, .int (nI k)), (3, .int op)]) hx hb dX11_join_56 hl (by decide) rfl (fun ls hl => ?_)
                refine lv_iconst (v := 0) hx hb dX11_join_58 (by decide) ?_
                refine lv_istore (lv' := [(7, .int 0), (6, .int 0), (5, .int 0), (4, .int 0), (0, .ref (b 0)), (1, .int (nI j)), (2, .int (nI k)), (3, .int op)]) hx hb dX11_join_59 hl (by decide) rfl (fun ls hl => ?_)
                refine xl 61 (σ := Nat × Nat × Nat × Nat × (Nat → Int32) × (Nat → Int32)) (fun n u H locs ls => match u with | (n1, x1, y1, w1, f1, g1) => MI (q.oo j) op (enQ q j) (enQ q k) n n1 x1 y1 w1 f1 g1 ∧ va_P D vwCl (wQx ca b 0 q.oo q.zz q.ks q.vs q.cg q.hw q.lo q.hg q.wk q.kw q.mn q.gv q.cp q.ho f1 g1) H ∧ va_D A (wQx ca b 0 q.oo q.zz q.ks q.vs q.cg q.hw q.lo q.hg q.wk q.kw q.mn q.gv q.cp q.ho f1 g1) ∧ va_S A s.heap H locs ∧ lv_has ls 13 [(0, .ref (b 0)), (1, .int (nI j)), (2, .int (nI k)), (3, .int op), (4, .int (nI n1)), (5, .int (nI x1)), (6, .int (nI y1)), (7, .int (nI w1))]) ?_ (q.zz j + q.zz k) (0, 0, 0, 0, q.nk, q.nv) _ _ _ ⟨(by have h9 := MI_0 (od := q.oo j) (op := op) (E1 := enQ q j) (E2 := enQ q k) (by rw [rowL_len]; exact hz6) (by rw [rowL_len]; exact hz7) q.nk q.nv; rw [rowL_len, rowL_len] at h9; exact h9), hP, hD, hS, lv_sub hl [4, 5, 6, 7, 3, 2, 1, 0] rfl⟩
                clear hP hD hS hl
                intro n ih u H locs ls hI
                obtain ⟨n1, x1, y1, w1, f1, g1⟩ := u
                obtain ⟨hM, hP, hD, hS, hl⟩ := hI
                have m1 : x1 ≤ q.zz j := (by have h9 := hM.1; rw [rowL_len] at h9; exact h9)
                have m2 : y1 ≤ q.zz k := (by have h9 := hM.2.1; rw [rowL_len] at h9; exact h9)
                have m3 : n = (q.zz j - x1) + (q.zz k - y1) := (by have h9 := hM.2.2.1; rw [rowL_len, rowL_len] at h9; exact h9)
                have m4 : n1 ≤ x1 + y1 := hM.2.2.2.1
                have m5 : w1 ≤ x1 + y1 := hM.2.2.2.2.1
                refine lv_iload hx hb dX11_join_61 (lv_at hl 5 rfl) ?_
                refine lv_aload_n hx hb dX11_join_63 rfl (lv_at hl 0 rfl) ?_
                refine va_get (D := D) (ci := 9) (v := .ref (b 2)) (C := RX11) (T := TX11) (N := 17) hx hb hts inX11 hown hKN.1 hP 0 rfl rfl 2 (by decide) (hts (.fieldLink RX11 13 "TreeFamilyModel" "size" "[I") (by decide +kernel)) (fun _ h9 => h9) rfl dX11_join_64 ?_
                refine lv_iload_n hx hb dX11_join_67 rfl (lv_at hl 1 rfl) ?_
                refine xr_ild hx hb hKN.1 hP 2 0 rfl rfl (j := j) (by omega) (by decide) dX11_join_68 ?_
                refine lv_icmp_lt (tgt := 83) hx hb dX11_join_69 (by decide) (fun c69 => ?_) (fun c69 => ?_)
                · skip
                  have c69 : x1 < (q.zz j) := (xn_lt (a := x1) (b := (q.zz j)) (by omega) (Nat.lt_of_le_of_lt (hq.1 j) (by decide))).mp c69
                  refine lv_bipush (v := 64) hx hb dX11_join_83 (by decide) ?_
                  refine lv_iload_n hx hb dX11_join_85 rfl (lv_at hl 1 rfl) ?_
                  refine lv_imul hx hb dX11_join_86 ?_
                  refine xr_top (y := nI (64 * j)) (pk_mul 64 j) ?_
                  refine lv_iload hx hb dX11_join_87 (lv_at hl 5 rfl) ?_
                  refine lv_iadd hx hb dX11_join_89 ?_
                  refine xr_top (y := nI ((64 * j) + x1)) (nI_add (64 * j) x1) ?_
                  refine lv_istore (lv' := [(8, .int (nI ((64 * j) + x1))), (0, .ref (b 0)), (1, .int (nI j)), (2, .int (nI k)), (3, .int op), (4, .int (nI n1)), (5, .int (nI x1)), (6, .int (nI y1)), (7, .int (nI w1))]) hx hb dX11_join_90 hl (by decide) rfl (fun ls hl => ?_)
                  refine lv_bipush (v := 64) hx hb dX11_join_92 (by decide) ?_
                  refine lv_iload_n hx hb dX11_join_94 rfl (lv_at hl 3 rfl) ?_
                  refine lv_imul hx hb dX11_join_95 ?_
                  refine xr_top (y := nI (64 * k)) (pk_mul 64 k) ?_
                  refine lv_iload hx hb dX11_join_96 (lv_at hl 7 rfl) ?_
                  refine lv_iadd hx hb dX11_join_98 ?_
                  refine xr_top (y := nI ((64 * k) + y1)) (nI_add (64 * k) y1) ?_
                  refine lv_istore (lv' := [(9, .int (nI ((64 * k) + y1))), (8, .int (nI ((64 * j) + x1))), (0, .ref (b 0)), (1, .int (nI j)), (2, .int (nI k)), (3, .int op), (4, .int (nI n1)), (5, .int (nI x1)), (6, .int (nI y1)), (7, .int (nI w1))]) hx hb dX11_join_99 hl (by decide) rfl (fun ls hl => ?_)
                  refine lv_iload hx hb dX11_join_101 (lv_at hl 8 rfl) ?_
                  refine lv_aload_n hx hb dX11_join_103 rfl (lv_at hl 2 rfl) ?_
                  refine va_get (D := D) (ci := 9) (v := .ref (b 2)) (C := RX11) (T := TX11) (N := 17) hx hb hts inX11 hown hKN.1 hP 0 rfl rfl 2 (by decide) (hts (.fieldLink RX11 13 "TreeFamilyModel" "size" "[I") (by decide +kernel)) (fun _ h9 => h9) rfl dX11_join_104 ?_
                  refine lv_iload_n hx hb dX11_join_107 rfl (lv_at hl 4 rfl) ?_
                  refine xr_ild hx hb hKN.1 hP 2 0 rfl rfl (j := k) (by omega) (by decide) dX11_join_108 ?_
                  refine lv_icmp_eq (tgt := 145) hx hb dX11_join_109 (by decide) (fun c109 => ?_) (fun c109 => ?_)
                  · skip
                    have c109 : y1 = (q.zz k) := (xn_eq (a := y1) (b := (q.zz k)) (by omega) (Nat.lt_of_le_of_lt (hq.1 k) (by decide))).mp c109
                    refine lv_iconst (v := 1) hx hb dX11_join_145 (by decide) ?_
                    refine lv_goto (tgt := 150) hx hb dX11_join_146 (by decide) ?_
                    refine lv_istore (lv' := [(10, .int 1), (9, .int (nI ((64 * k) + y1))), (8, .int (nI ((64 * j) + x1))), (0, .ref (b 0)), (1, .int (nI j)), (2, .int (nI k)), (3, .int op), (4, .int (nI n1)), (5, .int (nI x1)), (6, .int (nI y1)), (7, .int (nI w1))]) hx hb dX11_join_150 hl (by decide) rfl (fun ls hl => ?_)
                    refine lv_iload hx hb dX11_join_152 (lv_at hl 0 rfl) ?_
                    refine lv_if_ne (tgt := 194) hx hb dX11_join_154 (by decide) (fun c154 => ?_) (fun c154 => ?_)
                    · skip
                      refine lv_iconst (v := 0) hx hb dX11_join_194 (by decide) ?_
                      refine lv_istore (lv' := [(11, .int 0), (10, .int 1), (9, .int (nI ((64 * k) + y1))), (8, .int (nI ((64 * j) + x1))), (0, .ref (b 0)), (1, .int (nI j)), (2, .int (nI k)), (3, .int op), (4, .int (nI n1)), (5, .int (nI x1)), (6, .int (nI y1)), (7, .int (nI w1))]) hx hb dX11_join_195 hl (by decide) rfl (fun ls hl => ?_)
                      refine lv_iload hx hb dX11_join_197 (lv_at hl 1 rfl) ?_
                      refine lv_if_eq (tgt := 215) hx hb dX11_join_199 (by decide) (fun c199 => ?_) (fun c199 => ?_)
                      · skip
                        exact absurd c199 (by decide)
                      · skip
                        refine lv_iload_n hx hb dX11_join_202 rfl (lv_at hl 7 rfl) ?_
                        refine lv_iconst (v := 1) hx hb dX11_join_203 (by decide) ?_
                        refine lv_icmp_eq (tgt := 211) hx hb dX11_join_204 (by decide) (fun c204 => ?_) (fun c204 => ?_)
                        · skip
                          refine lv_iconst (v := 0) hx hb dX11_join_211 (by decide) ?_
                          refine lv_goto (tgt := 242) hx hb dX11_join_212 (by decide) ?_
                          refine lv_istore (lv' := [(12, .int 0), (11, .int 0), (10, .int 1), (9, .int (nI ((64 * k) + y1))), (8, .int (nI ((64 * j) + x1))), (0, .ref (b 0)), (1, .int (nI j)), (2, .int (nI k)), (3, .int op), (4, .int (nI n1)), (5, .int (nI x1)), (6, .int (nI y1)), (7, .int (nI w1))]) hx hb dX11_join_242 hl (by decide) rfl (fun ls hl => ?_)
                          exact b_join_f0 q j k n1 x1 y1 w1 op f1 g1 hj hk (by omega) (by omega) (by omega) hx hb hml hts hown hKN hA hP hD hS hl (fun H locs ls hP hD hS hl => ih (n - 1) (by omega) (n1 + 0, x1 + 1, y1 + 0, w1 + 1, (upd f1 n1 (q.ks ((64 * j) + x1))), (upd g1 n1 (q.vs ((64 * j) + x1)))) _ _ _ ⟨((MI_a (n := n - 1) (by rw [show n - 1 + 1 = n by omega]; exact hM) (rowL_at j (show x1 < q.zz j by omega)) (by first | exact Or.inl (rowL_none k (by omega)) | exact Or.inr ⟨_, rowL_at k (show y1 < q.zz k by omega), c142⟩)).2 c204), hP, hD, hS, hl⟩)
                        · skip
                          refine lv_iconst (v := 1) hx hb dX11_join_207 (by decide) ?_
                          refine lv_goto (tgt := 242) hx hb dX11_join_208 (by decide) ?_
                          refine lv_istore (lv' := [(12, .int 1), (11, .int 0), (10, .int 1), (9, .int (nI ((64 * k) + y1))), (8, .int (nI ((64 * j) + x1))), (0, .ref (b 0)), (1, .int (nI j)), (2, .int (nI k)), (3, .int op), (4, .int (nI n1)), (5, .int (nI x1)), (6, .int (nI y1)), (7, .int (nI w1))]) hx hb dX11_join_242 hl (by decide) rfl (fun ls hl => ?_)
                          exact b_join_f1 q j k n1 x1 y1 w1 op f1 g1 hj hk (by omega) (by omega) (by omega) hx hb hml hts hown hKN hA hP hD hS hl (fun H locs ls hP hD hS hl => ih (n - 1) (by omega) (n1 + 1, x1 + 1, y1 + 0, w1 + 0, (upd f1 n1 (q.ks ((64 * j) + x1))), (upd g1 n1 (q.vs ((64 * j) + x1)))) _ _ _ ⟨((MI_a (n := n - 1) (by rw [show n - 1 + 1 = n by omega]; exact hM) (rowL_at j (show x1 < q.zz j by omega)) (by first | exact Or.inl (rowL_none k (by omega)) | exact Or.inr ⟨_, rowL_at k (show y1 < q.zz k by omega), c142⟩)).1 c204), hP, hD, hS, hl⟩)
                    · skip
                      exact absurd c154 (by decide)
                  · skip
                    have c109 : ¬ y1 = (q.zz k) := fun h9 => c109 ((xn_eq (a := y1) (b := (q.zz k)) (by omega) (Nat.lt_of_le_of_lt (hq.1 k) (by decide))).mpr h9)
                    refine lv_iload hx hb dX11_join_112 (lv_at hl 7 rfl) ?_
                    refine lv_aload_n hx hb dX11_join_114 rfl (lv_at hl 2 rfl) ?_
                    refine va_get (D := D) (ci := 9) (v := .ref (b 2)) (C := RX11) (T := TX11) (N := 17) hx hb hts inX11 hown hKN.1 hP 0 rfl rfl 2 (by decide) (hts (.fieldLink RX11 13 "TreeFamilyModel" "size" "[I") (by decide +kernel)) (fun _ h9 => h9) rfl dX11_join_115 ?_
                    refine lv_iload_n hx hb dX11_join_118 rfl (lv_at hl 3 rfl) ?_
                    refine xr_ild hx hb hKN.1 hP 2 0 rfl rfl (j := j) (by omega) (by decide) dX11_join_119 ?_
                    refine lv_icmp_ge (tgt := 149) hx hb dX11_join_120 (by decide) (fun c120 => ?_) (fun c120 => ?_)
                    · skip
                      have c120 : (q.zz j) ≤ x1 := (xn_le (a := (q.zz j)) (b := x1) (Nat.lt_of_le_of_lt (hq.1 j) (by decide)) (by omega)).mp c120
                      omega
                    · skip
                      have c120 : ¬ (q.zz j) ≤ x1 := fun h9 => c120 ((xn_le (a := (q.zz j)) (b := x1) (Nat.lt_of_le_of_lt (hq.1 j) (by decide)) (by omega)).mpr h9)
                      refine lv_aload_n hx hb dX11_join_123 rfl (lv_at hl 2 rfl) ?_
                      refine lv_iload_n hx hb dX11_join_124 rfl (lv_at hl 3 rfl) ?_
                      refine lv_aload_n hx hb dX11_join_125 rfl (lv_at hl 2 rfl) ?_
                      refine va_get (D := D) (ci := 9) (v := .ref (b 3)) (C := RX11) (T := TX11) (N := 17) hx hb hts inX11 hown hKN.1 hP 0 rfl rfl 3 (by decide) (hts (.fieldLink RX11 16 "TreeFamilyModel" "keys" "[I") (by decide +kernel)) (fun _ h9 => h9) rfl dX11_join_126 ?_
                      refine lv_iload hx hb dX11_join_129 (lv_at hl 1 rfl) ?_
                      refine xr_ild hx hb hKN.1 hP 3 0 rfl rfl (j := (64 * j) + x1) (by omega) (by decide) dX11_join_131 ?_
                      refine lv_aload_n hx hb dX11_join_132 rfl (lv_at hl 2 rfl) ?_
                      refine va_get (D := D) (ci := 9) (v := .ref (b 3)) (C := RX11) (T := TX11) (N := 17) hx hb hts inX11 hown hKN.1 hP 0 rfl rfl 3 (by decide) (hts (.fieldLink RX11 16 "TreeFamilyModel" "keys" "[I") (by decide +kernel)) (fun _ h9 => h9) rfl dX11_join_133 ?_
                      refine lv_iload hx hb dX11_join_136 (lv_at hl 0 rfl) ?_
                      refine xr_ild hx hb hKN.1 hP 3 0 rfl rfl (j := (64 * k) + y1) (by omega) (by decide) dX11_join_138 ?_
                      refine xc_i (wr := []) (va_runV (As := [.int (nI j), .int (q.ks ((64 * j) + x1)), .int (q.ks ((64 * k) + y1))]) (rest := []) ⟨hx, hb, hml, hown, hts⟩ (c_X11_before l D ca b _ (0, q.oo, q.zz, q.ks, q.vs, q.cg, q.hw, q.lo, q.hg, q.wk, q.kw, q.mn, q.gv, q.cp, q.ho, f1, g1) j (q.ks ((64 * j) + x1)) (q.ks ((64 * k) + y1)) hj) (cwV 3 hts gX11_join_X11_before rfl rfl rfl (by decide +kernel) ⟨(Nat.le_of_ble_eq_true rfl), (Nat.le_of_ble_eq_true rfl)⟩) (xPreV hKN hP hD [0, 1, 2, 3, 4, 5, 6, 7, 8, 9, 10, 11, 12, 13, 14, 15, 16] (by decide) rfl (q0 := 0) rfl rfl rfl) rfl rfl hl.1 rfl (lv_room (Nat.le_of_ble_eq_true rfl)) dX11_join_139 ⟨(Nat.le_of_ble_eq_true rfl), (Nat.le_of_ble_eq_true rfl)⟩) hP hD hS hA [0, 1, 2, 3, 4, 5, 6, 7, 8, 9, 10, 11, 12, 13, 14, 15, 16] [] rfl rfl (by decide) (by decide) (fun r139 u139 H locs hu139 hP hD hS => ?_)
                      obtain ⟨er139, eu139⟩ := hu139
                      have eu139 := eu139.symm
                      subst eu139
                      have hP : va_P D vwCl (wQx ca b 0 q.oo q.zz q.ks q.vs q.cg q.hw q.lo q.hg q.wk q.kw q.mn q.gv q.cp q.ho f1 g1) H := hP
                      have hD : va_D A (wQx ca b 0 q.oo q.zz q.ks q.vs q.cg q.hw q.lo q.hg q.wk q.kw q.mn q.gv q.cp q.ho f1 g1) := hD
                      have er139 : r139 = bI (gB (q.oo j) (q.ks ((64 * j) + x1)) (q.ks ((64 * k) + y1))) := er139
                      subst er139
                      refine lv_if_eq (tgt := 149) hx hb dX11_join_142 (by decide) (fun c142 => ?_) (fun c142 => ?_)
                      · skip
                        have c142 := bI_0.mp c142
                        refine lv_iconst (v := 0) hx hb dX11_join_149 (by decide) ?_
                        refine lv_istore (lv' := [(10, .int 0), (9, .int (nI ((64 * k) + y1))), (8, .int (nI ((64 * j) + x1))), (0, .ref (b 0)), (1, .int (nI j)), (2, .int (nI k)), (3, .int op), (4, .int (nI n1)), (5, .int (nI x1)), (6, .int (nI y1)), (7, .int (nI w1))]) hx hb dX11_join_150 hl (by decide) rfl (fun ls hl => ?_)
                        refine lv_iload hx hb dX11_join_152 (lv_at hl 0 rfl) ?_
                        refine lv_if_ne (tgt := 194) hx hb dX11_join_154 (by decide) (fun c154 => ?_) (fun c154 => ?_)
                        · skip
                          exact absurd c154 (by decide)
                        · skip
                          refine lv_iload hx hb dX11_join_157 (lv_at hl 8 rfl) ?_
                          refine lv_aload_n hx hb dX11_join_159 rfl (lv_at hl 3 rfl) ?_
                          refine va_get (D := D) (ci := 9) (v := .ref (b 2)) (C := RX11) (T := TX11) (N := 17) hx hb hts inX11 hown hKN.1 hP 0 rfl rfl 2 (by decide) (hts (.fieldLink RX11 13 "TreeFamilyModel" "size" "[I") (by decide +kernel)) (fun _ h9 => h9) rfl dX11_join_160 ?_
                          refine lv_iload_n hx hb dX11_join_163 rfl (lv_at hl 4 rfl) ?_
                          refine xr_ild hx hb hKN.1 hP 2 0 rfl rfl (j := j) (by omega) (by decide) dX11_join_164 ?_
                          refine lv_icmp_eq (tgt := 190) hx hb dX11_join_165 (by decide) (fun c165 => ?_) (fun c165 => ?_)
                          · skip
                            have c165 : x1 = (q.zz j) := (xn_eq (a := x1) (b := (q.zz j)) (by omega) (Nat.lt_of_le_of_lt (hq.1 j) (by decide))).mp c165
                            omega
                          · skip
                            have c165 : ¬ x1 = (q.zz j) := fun h9 => c165 ((xn_eq (a := x1) (b := (q.zz j)) (by omega) (Nat.lt_of_le_of_lt (hq.1 j) (by decide))).mpr h9)
                            refine lv_aload_n hx hb dX11_join_168 rfl (lv_at hl 3 rfl) ?_
                            refine lv_iload_n hx hb dX11_join_169 rfl (lv_at hl 4 rfl) ?_
                            refine lv_aload_n hx hb dX11_join_170 rfl (lv_at hl 3 rfl) ?_
                            refine va_get (D := D) (ci := 9) (v := .ref (b 3)) (C := RX11) (T := TX11) (N := 17) hx hb hts inX11 hown hKN.1 hP 0 rfl rfl 3 (by decide) (hts (.fieldLink RX11 16 "TreeFamilyModel" "keys" "[I") (by decide +kernel)) (fun _ h9 => h9) rfl dX11_join_171 ?_
                            refine lv_iload hx hb dX11_join_174 (lv_at hl 1 rfl) ?_
                            refine xr_ild hx hb hKN.1 hP 3 0 rfl rfl (j := (64 * k) + y1) (by omega) (by decide) dX11_join_176 ?_
                            refine lv_aload_n hx hb dX11_join_177 rfl (lv_at hl 3 rfl) ?_
                            refine va_get (D := D) (ci := 9) (v := .ref (b 3)) (C := RX11) (T := TX11) (N := 17) hx hb hts inX11 hown hKN.1 hP 0 rfl rfl 3 (by decide) (hts (.fieldLink RX11 16 "TreeFamilyModel" "keys" "[I") (by decide +kernel)) (fun _ h9 => h9) rfl dX11_join_178 ?_
                            refine lv_iload hx hb dX11_join_181 (lv_at hl 2 rfl) ?_
                            refine xr_ild hx hb hKN.1 hP 3 0 rfl rfl (j := (64 * j) + x1) (by omega) (by decide) dX11_join_183 ?_
                            refine xc_i (wr := []) (va_runV (As := [.int (nI j), .int (q.ks ((64 * k) + y1)), .int (q.ks ((64 * j) + x1))]) (rest := []) ⟨hx, hb, hml, hown, hts⟩ (c_X11_before l D ca b _ (0, q.oo, q.zz, q.ks, q.vs, q.cg, q.hw, q.lo, q.hg, q.wk, q.kw, q.mn, q.gv, q.cp, q.ho, f1, g1) j (q.ks ((64 * k) + y1)) (q.ks ((64 * j) + x1)) hj) (cwV 3 hts gX11_join_X11_before rfl rfl rfl (by decide +kernel) ⟨(Nat.le_of_ble_eq_true rfl), (Nat.le_of_ble_eq_true rfl)⟩) (xPreV hKN hP hD [0, 1, 2, 3, 4, 5, 6, 7, 8, 9, 10, 11, 12, 13, 14, 15, 16] (by decide) rfl (q0 := 0) rfl rfl rfl) rfl rfl hl.1 rfl (lv_room (Nat.le_of_ble_eq_true rfl)) dX11_join_184 ⟨(Nat.le_of_ble_eq_true rfl), (Nat.le_of_ble_eq_true rfl)⟩) hP hD hS hA [0, 1, 2, 3, 4, 5, 6, 7, 8, 9, 10, 11, 12, 13, 14, 15, 16] [] rfl rfl (by decide) (by decide) (fun r184 u184 H locs hu184 hP hD hS => ?_)
                            obtain ⟨er184, eu184⟩ := hu184
                            have eu184 := eu184.symm
                            subst eu184
                            have hP : va_P D vwCl (wQx ca b 0 q.oo q.zz q.ks q.vs q.cg q.hw q.lo q.hg q.wk q.kw q.mn q.gv q.cp q.ho f1 g1) H := hP
                            have hD : va_D A (wQx ca b 0 q.oo q.zz q.ks q.vs q.cg q.hw q.lo q.hg q.wk q.kw q.mn q.gv q.cp q.ho f1 g1) := hD
                            have er184 : r184 = bI (gB (q.oo j) (q.ks ((64 * k) + y1)) (q.ks ((64 * j) + x1))) := er184
                            subst er184
                            refine lv_if_eq (tgt := 194) hx hb dX11_join_187 (by decide) (fun c187 => ?_) (fun c187 => ?_)
                            · skip
                              have c187 := bI_0.mp c187
                              refine lv_iconst (v := 0) hx hb dX11_join_194 (by decide) ?_
                              refine lv_istore (lv' := [(11, .int 0), (10, .int 0), (9, .int (nI ((64 * k) + y1))), (8, .int (nI ((64 * j) + x1))), (0, .ref (b 0)), (1, .int (nI j)), (2, .int (nI k)), (3, .int op), (4, .int (nI n1)), (5, .int (nI x1)), (6, .int (nI y1)), (7, .int (nI w1))]) hx hb dX11_join_195 hl (by decide) rfl (fun ls hl => ?_)
                              refine lv_iload hx hb dX11_join_197 (lv_at hl 1 rfl) ?_
                              refine lv_if_eq (tgt := 215) hx hb dX11_join_199 (by decide) (fun c199 => ?_) (fun c199 => ?_)
                              · skip
                                refine lv_iload hx hb dX11_join_215 (lv_at hl 0 rfl) ?_
                                refine lv_if_eq (tgt := 232) hx hb dX11_join_217 (by decide) (fun c217 => ?_) (fun c217 => ?_)
                                · skip
                                  refine lv_iload_n hx hb dX11_join_232 rfl (lv_at hl 7 rfl) ?_
                                  refine lv_iconst (v := 2) hx hb dX11_join_233 (by decide) ?_
                                  refine lv_icmp_eq (tgt := 241) hx hb dX11_join_234 (by decide) (fun c234 => ?_) (fun c234 => ?_)
                                  · skip
                                    refine lv_iconst (v := 0) hx hb dX11_join_241 (by decide) ?_
                                    refine lv_istore (lv' := [(12, .int 0), (11, .int 0), (10, .int 0), (9, .int (nI ((64 * k) + y1))), (8, .int (nI ((64 * j) + x1))), (0, .ref (b 0)), (1, .int (nI j)), (2, .int (nI k)), (3, .int op), (4, .int (nI n1)), (5, .int (nI x1)), (6, .int (nI y1)), (7, .int (nI w1))]) hx hb dX11_join_242 hl (by decide) rfl (fun ls hl => ?_)
                                    exact b_join_b0 q j k n1 x1 y1 w1 op f1 g1 hj hk (by omega) (by omega) (by omega) hx hb hml hts hown hKN hA hP hD hS hl (fun H locs ls hP hD hS hl => ih (n - 2) (by omega) (n1 + 0, x1 + 1, y1 + 1, w1 + 1, (upd f1 n1 (q.ks ((64 * j) + x1))), (upd g1 n1 ((2 * (q.vs ((64 * j) + x1))) + (q.vs ((64 * k) + y1))))) _ _ _ ⟨((MI_c hM (rowL_at j (show x1 < q.zz j by omega)) (rowL_at k (show y1 < q.zz k by omega)) c142 c187).2 c234), hP, hD, hS, hl⟩)
                                  · skip
                                    refine lv_iconst (v := 1) hx hb dX11_join_237 (by decide) ?_
                                    refine lv_goto (tgt := 242) hx hb dX11_join_238 (by decide) ?_
                                    refine lv_istore (lv' := [(12, .int 1), (11, .int 0), (10, .int 0), (9, .int (nI ((64 * k) + y1))), (8, .int (nI ((64 * j) + x1))), (0, .ref (b 0)), (1, .int (nI j)), (2, .int (nI k)), (3, .int op), (4, .int (nI n1)), (5, .int (nI x1)), (6, .int (nI y1)), (7, .int (nI w1))]) hx hb dX11_join_242 hl (by decide) rfl (fun ls hl => ?_)
                                    exact b_join_b1 q j k n1 x1 y1 w1 op f1 g1 hj hk (by omega) (by omega) (by omega) hx hb hml hts hown hKN hA hP hD hS hl (fun H locs ls hP hD hS hl => ih (n - 2) (by omega) (n1 + 1, x1 + 1, y1 + 1, w1 + 0, (upd f1 n1 (q.ks ((64 * j) + x1))), (upd g1 n1 ((2 * (q.vs ((64 * j) + x1))) + (q.vs ((64 * k) + y1))))) _ _ _ ⟨((MI_c hM (rowL_at j (show x1 < q.zz j by omega)) (rowL_at k (show y1 < q.zz k by omega)) c142 c187).1 c234), hP, hD, hS, hl⟩)
                                · skip
                                  exact absurd c217 (by decide)
                              · skip
                                exact absurd c199 (by decide)
                            · skip
                              have c187 := bI_ne.mp c187
                              refine lv_iconst (v := 1) hx hb dX11_join_190 (by decide) ?_
                              refine lv_goto (tgt := 195) hx hb dX11_join_191 (by decide) ?_
                              refine lv_istore (lv' := [(11, .int 1), (10, .int 0), (9, .int (nI ((64 * k) + y1))), (8, .int (nI ((64 * j) + x1))), (0, .ref (b 0)), (1, .int (nI j)), (2, .int (nI k)), (3, .int op), (4, .int (nI n1)), (5, .int (nI x1)), (6, .int (nI y1)), (7, .int (nI w1))]) hx hb dX11_join_195 hl (by decide) rfl (fun ls hl => ?_)
                              refine lv_iload hx hb dX11_join_197 (lv_at hl 1 rfl) ?_
                              refine lv_if_eq (tgt := 215) hx hb dX11_join_199 (by decide) (fun c199 => ?_) (fun c199 => ?_)
                              · skip
                                refine lv_iload hx hb dX11_join_215 (lv_at hl 0 rfl) ?_
                                refine lv_if_eq (tgt := 232) hx hb dX11_join_217 (by decide) (fun c217 => ?_) (fun c217 => ?_)
                                · skip
                                  exact absurd c217 (by decide)
                                · skip
                                  refine lv_iload_n hx hb dX11_join_220 rfl (lv_at hl 7 rfl) ?_
                                  refine lv_if_ne (tgt := 228) hx hb dX11_join_221 (by decide) (fun c221 => ?_) (fun c221 => ?_)
                                  · skip
                                    refine lv_iconst (v := 0) hx hb dX11_join_228 (by decide) ?_
                                    refine lv_goto (tgt := 242) hx hb dX11_join_229 (by decide) ?_
                                    refine lv_istore (lv' := [(12, .int 0), (11, .int 1), (10, .int 0), (9, .int (nI ((64 * k) + y1))), (8, .int (nI ((64 * j) + x1))), (0, .ref (b 0)), (1, .int (nI j)), (2, .int (nI k)), (3, .int op), (4, .int (nI n1)), (5, .int (nI x1)), (6, .int (nI y1)), (7, .int (nI w1))]) hx hb dX11_join_242 hl (by decide) rfl (fun ls hl => ?_)
                                    exact b_join_s0 q j k n1 x1 y1 w1 op f1 g1 hj hk (by omega) (by omega) (by omega) hx hb hml hts hown hKN hA hP hD hS hl (fun H locs ls hP hD hS hl => ih (n - 1) (by omega) (n1 + 0, x1 + 0, y1 + 1, w1 + 0, (upd f1 n1 (q.ks ((64 * k) + y1))), (upd g1 n1 (q.vs ((64 * k) + y1)))) _ _ _ ⟨((MI_b (n := n - 1) (by rw [show n - 1 + 1 = n by omega]; exact hM) (rowL_at k (show y1 < q.zz k by omega)) (by first | exact Or.inl (rowL_none j (by omega)) | exact Or.inr ⟨_, rowL_at j (show x1 < q.zz j by omega), c142, c187⟩)).2 c221), hP, hD, hS, hl⟩)
                                  · skip
                                    refine lv_iconst (v := 1) hx hb dX11_join_224 (by decide) ?_
                                    refine lv_goto (tgt := 242) hx hb dX11_join_225 (by decide) ?_
                                    refine lv_istore (lv' := [(12, .int 1), (11, .int 1), (10, .int 0), (9, .int (nI ((64 * k) + y1))), (8, .int (nI ((64 * j) + x1))), (0, .ref (b 0)), (1, .int (nI j)), (2, .int (nI k)), (3, .int op), (4, .int (nI n1)), (5, .int (nI x1)), (6, .int (nI y1)), (7, .int (nI w1))]) hx hb dX11_join_242 hl (by decide) rfl (fun ls hl => ?_)
                                    exact b_join_s1 q j k n1 x1 y1 w1 op f1 g1 hj hk (by omega) (by omega) (by omega) hx hb hml hts hown hKN hA hP hD hS hl (fun H locs ls hP hD hS hl => ih (n - 1) (by omega) (n1 + 1, x1 + 0, y1 + 1, w1 + 1, (upd f1 n1 (q.ks ((64 * k) + y1))), (upd g1 n1 (q.vs ((64 * k) + y1)))) _ _ _ ⟨((MI_b (n := n - 1) (by rw [show n - 1 + 1 = n by omega]; exact hM) (rowL_at k (show y1 < q.zz k by omega)) (by first | exact Or.inl (rowL_none j (by omega)) | exact Or.inr ⟨_, rowL_at j (show x1 < q.zz j by omega), c142, c187⟩)).1 c221), hP, hD, hS, hl⟩)
                              · skip
                                exact absurd c199 (by decide)
                      · skip
                        have c142 := bI_ne.mp c142
                        refine lv_iconst (v := 1) hx hb dX11_join_145 (by decide) ?_
                        refine lv_goto (tgt := 150) hx hb dX11_join_146 (by decide) ?_
                        refine lv_istore (lv' := [(10, .int 1), (9, .int (nI ((64 * k) + y1))), (8, .int (nI ((64 * j) + x1))), (0, .ref (b 0)), (1, .int (nI j)), (2, .int (nI k)), (3, .int op), (4, .int (nI n1)), (5, .int (nI x1)), (6, .int (nI y1)), (7, .int (nI w1))]) hx hb dX11_join_150 hl (by decide) rfl (fun ls hl => ?_)
                        refine lv_iload hx hb dX11_join_152 (lv_at hl 0 rfl) ?_
                        refine lv_if_ne (tgt := 194) hx hb dX11_join_154 (by decide) (fun c154 => ?_) (fun c154 => ?_)
                        · skip
                          refine lv_iconst (v := 0) hx hb dX11_join_194 (by decide) ?_
                          refine lv_istore (lv' := [(11, .int 0), (10, .int 1), (9, .int (nI ((64 * k) + y1))), (8, .int (nI ((64 * j) + x1))), (0, .ref (b 0)), (1, .int (nI j)), (2, .int (nI k)), (3, .int op), (4, .int (nI n1)), (5, .int (nI x1)), (6, .int (nI y1)), (7, .int (nI w1))]) hx hb dX11_join_195 hl (by decide) rfl (fun ls hl => ?_)
                          refine lv_iload hx hb dX11_join_197 (lv_at hl 1 rfl) ?_
                          refine lv_if_eq (tgt := 215) hx hb dX11_join_199 (by decide) (fun c199 => ?_) (fun c199 => ?_)
                          · skip
                            exact absurd c199 (by decide)
                          · skip
                            refine lv_iload_n hx hb dX11_join_202 rfl (lv_at hl 7 rfl) ?_
                            refine lv_iconst (v := 1) hx hb dX11_join_203 (by decide) ?_
                            refine lv_icmp_eq (tgt := 211) hx hb dX11_join_204 (by decide) (fun c204 => ?_) (fun c204 => ?_)
                            · skip
                              refine lv_iconst (v := 0) hx hb dX11_join_211 (by decide) ?_
                              refine lv_goto (tgt := 242) hx hb dX11_join_212 (by decide) ?_
                              refine lv_istore (lv' := [(12, .int 0), (11, .int 0), (10, .int 1), (9, .int (nI ((64 * k) + y1))), (8, .int (nI ((64 * j) + x1))), (0, .ref (b 0)), (1, .int (nI j)), (2, .int (nI k)), (3, .int op), (4, .int (nI n1)), (5, .int (nI x1)), (6, .int (nI y1)), (7, .int (nI w1))]) hx hb dX11_join_242 hl (by decide) rfl (fun ls hl => ?_)
                              exact b_join_f0 q j k n1 x1 y1 w1 op f1 g1 hj hk (by omega) (by omega) (by omega) hx hb hml hts hown hKN hA hP hD hS hl (fun H locs ls hP hD hS hl => ih (n - 1) (by omega) (n1 + 0, x1 + 1, y1 + 0, w1 + 1, (upd f1 n1 (q.ks ((64 * j) + x1))), (upd g1 n1 (q.vs ((64 * j) + x1)))) _ _ _ ⟨((MI_a (n := n - 1) (by rw [show n - 1 + 1 = n by omega]; exact hM) (rowL_at j (show x1 < q.zz j by omega)) (by first | exact Or.inl (rowL_none k (by omega)) | exact Or.inr ⟨_, rowL_at k (show y1 < q.zz k by omega), c142⟩)).2 c204), hP, hD, hS, hl⟩)
                            · skip
                              refine lv_iconst (v := 1) hx hb dX11_join_207 (by decide) ?_
                              refine lv_goto (tgt := 242) hx hb dX11_join_208 (by decide) ?_
                              refine lv_istore (lv' := [(12, .int 1), (11, .int 0), (10, .int 1), (9, .int (nI ((64 * k) + y1))), (8, .int (nI ((64 * j) + x1))), (0, .ref (b 0)), (1, .int (nI j)), (2, .int (nI k)), (3, .int op), (4, .int (nI n1)), (5, .int (nI x1)), (6, .int (nI y1)), (7, .int (nI w1))]) hx hb dX11_join_242 hl (by decide) rfl (fun ls hl => ?_)
                              exact b_join_f1 q j k n1 x1 y1 w1 op f1 g1 hj hk (by omega) (by omega) (by omega) hx hb hml hts hown hKN hA hP hD hS hl (fun H locs ls hP hD hS hl => ih (n - 1) (by omega) (n1 + 1, x1 + 1, y1 + 0, w1 + 0, (upd f1 n1 (q.ks ((64 * j) + x1))), (upd g1 n1 (q.vs ((64 * j) + x1)))) _ _ _ ⟨((MI_a (n := n - 1) (by rw [show n - 1 + 1 = n by omega]; exact hM) (rowL_at j (show x1 < q.zz j by omega)) (by first | exact Or.inl (rowL_none k (by omega)) | exact Or.inr ⟨_, rowL_at k (show y1 < q.zz k by omega), c142⟩)).1 c204), hP, hD, hS, hl⟩)
                        · skip
                          exact absurd c154 (by decide)
                · skip
                  have c69 : ¬ x1 < (q.zz j) := fun h9 => c69 ((xn_lt (a := x1) (b := (q.zz j)) (by omega) (Nat.lt_of_le_of_lt (hq.1 j) (by decide))).mpr h9)
                  refine lv_iload hx hb dX11_join_72 (lv_at hl 6 rfl) ?_
                  refine lv_aload_n hx hb dX11_join_74 rfl (lv_at hl 0 rfl) ?_
                  refine va_get (D := D) (ci := 9) (v := .ref (b 2)) (C := RX11) (T := TX11) (N := 17) hx hb hts inX11 hown hKN.1 hP 0 rfl rfl 2 (by decide) (hts (.fieldLink RX11 13 "TreeFamilyModel" "size" "[I") (by decide +kernel)) (fun _ h9 => h9) rfl dX11_join_75 ?_
                  refine lv_iload_n hx hb dX11_join_78 rfl (lv_at hl 2 rfl) ?_
                  refine xr_ild hx hb hKN.1 hP 2 0 rfl rfl (j := k) (by omega) (by decide) dX11_join_79 ?_
                  refine lv_icmp_ge (tgt := 408) hx hb dX11_join_80 (by decide) (fun c80 => ?_) (fun c80 => ?_)
                  · skip
                    have c80 : (q.zz k) ≤ y1 := (xn_le (a := (q.zz k)) (b := y1) (Nat.lt_of_le_of_lt (hq.1 k) (by decide)) (by omega)).mp c80
                    have hE := (MI_e hM (by rw [rowL_len]; omega) (by rw [rowL_len]; omega)).resolve_right (fun h9 => h9 (by rw [rowL_len, rowL_len]; exact ⟨hz6, hz7⟩))
                    obtain ⟨e1, e2, e3, e4⟩ := hE
                    refine lv_iload hx hb dX11_join_408 (lv_at hl 4 rfl) ?_
                    refine lv_bipush (v := 60) hx hb dX11_join_410 (by decide) ?_
                    refine lv_icmp_le (tgt := 421) hx hb dX11_join_412 (by decide) (fun c412 => ?_) (fun c412 => ?_)
                    · skip
                      have c412 : n1 ≤ 60 := (xn_le (a := n1) (b := 60) (by omega) (by decide)).mp c412
                      refine lv_iconst (v := 0) hx hb dX11_join_421 (by decide) ?_
                      refine lv_istore (lv' := [(8, .int 0), (0, .ref (b 0)), (1, .int (nI j)), (2, .int (nI k)), (3, .int op), (4, .int (nI n1)), (5, .int (nI x1)), (6, .int (nI y1)), (7, .int (nI w1))]) hx hb dX11_join_422 hl (by decide) rfl (fun ls hl => ?_)
                      refine xl 424 (σ := Nat × (Nat → Int32) × (Nat → Int32)) (fun n u H locs ls => match u with | (z1, f2, g2) => z1 + n = n1 ∧ cbI q.ks f2 f1 j z1 ∧ cbI q.vs g2 g1 j z1 ∧ va_P D vwCl (wQx ca b 0 q.oo q.zz f2 g2 q.cg q.hw q.lo q.hg q.wk q.kw q.mn q.gv q.cp q.ho f1 g1) H ∧ va_D A (wQx ca b 0 q.oo q.zz f2 g2 q.cg q.hw q.lo q.hg q.wk q.kw q.mn q.gv q.cp q.ho f1 g1) ∧ va_S A s.heap H locs ∧ lv_has ls 13 [(0, .ref (b 0)), (1, .int (nI j)), (2, .int (nI k)), (3, .int op), (4, .int (nI n1)), (7, .int (nI w1)), (8, .int (nI z1))]) ?_ n1 (0, q.ks, q.vs) _ _ _ ⟨(by omega), (cbI_0 _ _ _), (cbI_0 _ _ _), hP, hD, hS, lv_sub hl [1, 2, 3, 4, 5, 8, 0] rfl⟩
                      clear hP hD hS hl
                      intro n ih u H locs ls hI
                      obtain ⟨z1, f2, g2⟩ := u
                      obtain ⟨hn2, hf2, hg2, hP, hD, hS, hl⟩ := hI
                      refine lv_iload hx hb dX11_join_424 (lv_at hl 6 rfl) ?_
                      refine lv_iload hx hb dX11_join_426 (lv_at hl 4 rfl) ?_
                      refine lv_icmp_ge (tgt := 475) hx hb dX11_join_428 (by decide) (fun c428 => ?_) (fun c428 => ?_)
                      · skip
                        have c428 : n1 ≤ z1 := (xn_le (a := n1) (b := z1) (by omega) (by omega)).mp c428
                        refine lv_aload_n hx hb dX11_join_475 rfl (lv_at hl 0 rfl) ?_
                        refine va_get (D := D) (ci := 9) (v := .ref (b 2)) (C := RX11) (T := TX11) (N := 17) hx hb hts inX11 hown hKN.1 hP 0 rfl rfl 2 (by decide) (hts (.fieldLink RX11 13 "TreeFamilyModel" "size" "[I") (by decide +kernel)) (fun _ h9 => h9) rfl dX11_join_476 ?_
                        refine lv_iload_n hx hb dX11_join_479 rfl (lv_at hl 1 rfl) ?_
                        refine lv_iload hx hb dX11_join_480 (lv_at hl 4 rfl) ?_
                        refine xr_nst hx hb hKN.1 hP hD hS 2 0 (g := q.zz) rfl rfl (j := j) (v := n1) (by omega) (by decide) dX11_join_482 (fun H locs hP hD hS => ?_)
                        have hP : va_P D vwCl (wQx ca b 0 q.oo (va_up q.zz j n1) f2 g2 q.cg q.hw q.lo q.hg q.wk q.kw q.mn q.gv q.cp q.ho f1 g1) H := hP
                        have hD : va_D A (wQx ca b 0 q.oo (va_up q.zz j n1) f2 g2 q.cg q.hw q.lo q.hg q.wk q.kw q.mn q.gv q.cp q.ho f1 g1) := hD
                        refine lv_aload_n hx hb dX11_join_483 rfl (lv_at hl 0 rfl) ?_
                        refine va_get (D := D) (ci := 9) (v := .ref (b 5)) (C := RX11) (T := TX11) (N := 17) hx hb hts inX11 hown hKN.1 hP 0 rfl rfl 5 (by decide) (hts (.fieldLink RX11 22 "TreeFamilyModel" "changes" "[I") (by decide +kernel)) (fun _ h9 => h9) rfl dX11_join_484 ?_
                        refine lv_iload_n hx hb dX11_join_487 rfl (lv_at hl 1 rfl) ?_
                        refine lv_dup2_11 hx hb dX11_join_488 rfl rfl ?_
                        refine xr_ild hx hb hKN.1 hP 5 0 rfl rfl (j := j) (by omega) (by decide) dX11_join_489 ?_
                        refine lv_iload hx hb dX11_join_490 (lv_at hl 5 rfl) ?_
                        refine lv_iadd hx hb dX11_join_492 ?_
                        refine xr_ist hx hb hKN.1 hP hD hS 5 0 rfl rfl (j := j) (by omega) (by decide) dX11_join_493 (fun H locs hP hD hS => ?_)
                        have hP : va_P D vwCl (wQx ca b 0 q.oo (va_up q.zz j n1) f2 g2 (upd q.cg j ((q.cg j) + (nI w1))) q.hw q.lo q.hg q.wk q.kw q.mn q.gv q.cp q.ho f1 g1) H := hP
                        have hD : va_D A (wQx ca b 0 q.oo (va_up q.zz j n1) f2 g2 (upd q.cg j ((q.cg j) + (nI w1))) q.hw q.lo q.hg q.wk q.kw q.mn q.gv q.cp q.ho f1 g1) := hD
                        refine lv_iload hx hb dX11_join_494 (lv_at hl 5 rfl) ?_
                        exact W.iret (v := (nI w1)) hx hb hr (fun t9 e9 w9 => ⟨⟨_, (0, q.oo, (va_up q.zz j n1), f2, g2, (upd q.cg j ((q.cg j) + (nI w1))), q.hw, q.lo, q.hg, q.wk, q.kw, q.mn, q.gv, q.cp, q.ho, f1, g1), rfl, (by obtain rfl : z1 = n1 := (by omega); exact PO2_by hj hk (F_join_0 (isB_in c20 (le23' c25)) c40 e1 e2 (by rw [newL_len]; omega)) (wq_ent hq _ _ (by omega) _ _ _ _ _ _) rfl (ab_ent hq (cbI_row hf2 hg2) (cbI_far hf2 (by omega)) (cbI_far hg2 (by omega)))), by rw [e9]; exact hP, hD⟩, hS.F e9⟩) hS.2.2 dX11_join_496
                      · skip
                        have c428 : ¬ n1 ≤ z1 := fun h9 => c428 ((xn_le (a := n1) (b := z1) (by omega) (by omega)).mpr h9)
                        refine lv_aload_n hx hb dX11_join_431 rfl (lv_at hl 0 rfl) ?_
                        refine va_get (D := D) (ci := 9) (v := .ref (b 3)) (C := RX11) (T := TX11) (N := 17) hx hb hts inX11 hown hKN.1 hP 0 rfl rfl 3 (by decide) (hts (.fieldLink RX11 16 "TreeFamilyModel" "keys" "[I") (by decide +kernel)) (fun _ h9 => h9) rfl dX11_join_432 ?_
                        refine lv_bipush (v := 64) hx hb dX11_join_435 (by decide) ?_
                        refine lv_iload_n hx hb dX11_join_437 rfl (lv_at hl 1 rfl) ?_
                        refine lv_imul hx hb dX11_join_438 ?_
                        refine xr_top (y := nI (64 * j)) (pk_mul 64 j) ?_
                        refine lv_iload hx hb dX11_join_439 (lv_at hl 6 rfl) ?_
                        refine lv_iadd hx hb dX11_join_441 ?_
                        refine xr_top (y := nI ((64 * j) + z1)) (nI_add (64 * j) z1) ?_
                        refine lv_aload_n hx hb dX11_join_442 rfl (lv_at hl 0 rfl) ?_
                        refine va_get (D := D) (ci := 9) (v := .ref (b 15)) (C := RX11) (T := TX11) (N := 17) hx hb hts inX11 hown hKN.1 hP 0 rfl rfl 15 (by decide) (hts (.fieldLink RX11 53 "TreeFamilyModel" "newKeys" "[I") (by decide +kernel)) (fun _ h9 => h9) rfl dX11_join_443 ?_
                        refine lv_iload hx hb dX11_join_446 (lv_at hl 6 rfl) ?_
                        refine xr_ild hx hb hKN.1 hP 15 0 rfl rfl (j := z1) (by omega) (by decide) dX11_join_448 ?_
                        refine xr_ist hx hb hKN.1 hP hD hS 3 0 rfl rfl (j := (64 * j) + z1) (by omega) (by decide) dX11_join_449 (fun H locs hP hD hS => ?_)
                        have hP : va_P D vwCl (wQx ca b 0 q.oo q.zz (upd f2 ((64 * j) + z1) (f1 z1)) g2 q.cg q.hw q.lo q.hg q.wk q.kw q.mn q.gv q.cp q.ho f1 g1) H := hP
                        have hD : va_D A (wQx ca b 0 q.oo q.zz (upd f2 ((64 * j) + z1) (f1 z1)) g2 q.cg q.hw q.lo q.hg q.wk q.kw q.mn q.gv q.cp q.ho f1 g1) := hD
                        refine lv_aload_n hx hb dX11_join_450 rfl (lv_at hl 0 rfl) ?_
                        refine va_get (D := D) (ci := 9) (v := .ref (b 4)) (C := RX11) (T := TX11) (N := 17) hx hb hts inX11 hown hKN.1 hP 0 rfl rfl 4 (by decide) (hts (.fieldLink RX11 19 "TreeFamilyModel" "values" "[I") (by decide +kernel)) (fun _ h9 => h9) rfl dX11_join_451 ?_
                        refine lv_bipush (v := 64) hx hb dX11_join_454 (by decide) ?_
                        refine lv_iload_n hx hb dX11_join_456 rfl (lv_at hl 1 rfl) ?_
                        refine lv_imul hx hb dX11_join_457 ?_
                        refine xr_top (y := nI (64 * j)) (pk_mul 64 j) ?_
                        refine lv_iload hx hb dX11_join_458 (lv_at hl 6 rfl) ?_
                        refine lv_iadd hx hb dX11_join_460 ?_
                        refine xr_top (y := nI ((64 * j) + z1)) (nI_add (64 * j) z1) ?_
                        refine lv_aload_n hx hb dX11_join_461 rfl (lv_at hl 0 rfl) ?_
                        refine va_get (D := D) (ci := 9) (v := .ref (b 16)) (C := RX11) (T := TX11) (N := 17) hx hb hts inX11 hown hKN.1 hP 0 rfl rfl 16 (by decide) (hts (.fieldLink RX11 56 "TreeFamilyModel" "newValues" "[I") (by decide +kernel)) (fun _ h9 => h9) rfl dX11_join_462 ?_
                        refine lv_iload hx hb dX11_join_465 (lv_at hl 6 rfl) ?_
                        refine xr_ild hx hb hKN.1 hP 16 0 rfl rfl (j := z1) (by omega) (by decide) dX11_join_467 ?_
                        refine xr_ist hx hb hKN.1 hP hD hS 4 0 rfl rfl (j := (64 * j) + z1) (by omega) (by decide) dX11_join_468 (fun H locs hP hD hS => ?_)
                        have hP : va_P D vwCl (wQx ca b 0 q.oo q.zz (upd f2 ((64 * j) + z1) (f1 z1)) (upd g2 ((64 * j) + z1) (g1 z1)) q.cg q.hw q.lo q.hg q.wk q.kw q.mn q.gv q.cp q.ho f1 g1) H := hP
                        have hD : va_D A (wQx ca b 0 q.oo q.zz (upd f2 ((64 * j) + z1) (f1 z1)) (upd g2 ((64 * j) + z1) (g1 z1)) q.cg q.hw q.lo q.hg q.wk q.kw q.mn q.gv q.cp q.ho f1 g1) := hD
                        refine lv_iinc (v := (nI (z1 + 1))) (lv' := [(8, .int (nI (z1 + 1))), (0, .ref (b 0)), (1, .int (nI j)), (2, .int (nI k)), (3, .int op), (4, .int (nI n1)), (7, .int (nI w1))]) hx hb dX11_join_469 hl (k := 6) rfl (nI_1 _) (by decide) rfl (fun ls hl => ?_)
                        refine lv_goto (tgt := 424) hx hb dX11_join_472 (by decide) ?_
                        exact ih (n - 1) (by omega) (z1 + 1, (upd f2 ((64 * j) + z1) (f1 z1)), (upd g2 ((64 * j) + z1) (g1 z1))) _ _ _ ⟨(by omega), (cbI_s hf2), (cbI_s hg2), hP, hD, hS, lv_sub hl [1, 2, 3, 4, 5, 6, 0] rfl⟩
                    · skip
                      have c412 : ¬ n1 ≤ 60 := fun h9 => c412 ((xn_le (a := n1) (b := 60) (by omega) (by decide)).mpr h9)
                      refine lv_aload_n hx hb dX11_join_415 rfl (lv_at hl 0 rfl) ?_
                      refine lv_iconst (v := 2) hx hb dX11_join_416 (by decide) ?_
                      refine xc_i (wr := []) (va_runV (As := [.int 2]) (rest := []) ⟨hx, hb, hml, hown, hts⟩ (c_X11_refuse l D ca b _ (0, q.oo, q.zz, q.ks, q.vs, q.cg, q.hw, q.lo, q.hg, q.wk, q.kw, q.mn, q.gv, q.cp, q.ho, f1, g1) 2) (cwV 1 hts gX11_join_X11_refuse rfl rfl rfl (by decide +kernel) ⟨(Nat.le_of_ble_eq_true rfl), (Nat.le_of_ble_eq_true rfl)⟩) (xPreV hKN hP hD [0, 1, 2, 3, 4, 5, 6, 7, 8, 9, 10, 11, 12, 13, 14, 15, 16] (by decide) rfl (q0 := 0) rfl rfl rfl) rfl rfl hl.1 rfl (lv_room (Nat.le_of_ble_eq_true rfl)) dX11_join_417 ⟨(Nat.le_of_ble_eq_true rfl), (Nat.le_of_ble_eq_true rfl)⟩) hP hD hS hA [0, 1, 2, 3, 4, 5, 6, 7, 8, 9, 10, 11, 12, 13, 14, 15, 16] [] rfl rfl (by decide) (by decide) (fun r417 u417 H locs hu417 hP hD hS => ?_)
                      obtain ⟨er417, eu417⟩ := hu417
                      have eu417 := eu417.symm
                      subst eu417
                      subst er417
                      have hP : va_P D vwCl (wQx ca b 2 q.oo q.zz q.ks q.vs q.cg q.hw q.lo q.hg q.wk q.kw q.mn q.gv q.cp q.ho f1 g1) H := hP
                      have hD : va_D A (wQx ca b 2 q.oo q.zz q.ks q.vs q.cg q.hw q.lo q.hg q.wk q.kw q.mn q.gv q.cp q.ho f1 g1) := hD
                      exact W.iret (v := 0) hx hb hr (fun t9 e9 w9 => ⟨⟨_, (2, q.oo, q.zz, q.ks, q.vs, q.cg, q.hw, q.lo, q.hg, q.wk, q.kw, q.mn, q.gv, q.cp, q.ho, f1, g1), rfl, PO2_same hj hk (F_join_2 (isB_in c20 (le23' c25)) c40 e1 (by rw [newL_len]; omega)) hq rfl rfl, by rw [e9]; exact hP, hD⟩, hS.F e9⟩) hS.2.2 dX11_join_420
                  · skip
                    have c80 : ¬ (q.zz k) ≤ y1 := fun h9 => c80 ((xn_le (a := (q.zz k)) (b := y1) (Nat.lt_of_le_of_lt (hq.1 k) (by decide)) (by omega)).mpr h9)
                    refine lv_bipush (v := 64) hx hb dX11_join_83 (by decide) ?_
                    refine lv_iload_n hx hb dX11_join_85 rfl (lv_at hl 1 rfl) ?_
                    refine lv_imul hx hb dX11_join_86 ?_
                    refine xr_top (y := nI (64 * j)) (pk_mul 64 j) ?_
                    refine lv_iload hx hb dX11_join_87 (lv_at hl 5 rfl) ?_
                    refine lv_iadd hx hb dX11_join_89 ?_
                    refine xr_top (y := nI ((64 * j) + x1)) (nI_add (64 * j) x1) ?_
                    refine lv_istore (lv' := [(8, .int (nI ((64 * j) + x1))), (0, .ref (b 0)), (1, .int (nI j)), (2, .int (nI k)), (3, .int op), (4, .int (nI n1)), (5, .int (nI x1)), (6, .int (nI y1)), (7, .int (nI w1))]) hx hb dX11_join_90 hl (by decide) rfl (fun ls hl => ?_)
                    refine lv_bipush (v := 64) hx hb dX11_join_92 (by decide) ?_
                    refine lv_iload_n hx hb dX11_join_94 rfl (lv_at hl 3 rfl) ?_
                    refine lv_imul hx hb dX11_join_95 ?_
                    refine xr_top (y := nI (64 * k)) (pk_mul 64 k) ?_
                    refine lv_iload hx hb dX11_join_96 (lv_at hl 7 rfl) ?_
                    refine lv_iadd hx hb dX11_join_98 ?_
                    refine xr_top (y := nI ((64 * k) + y1)) (nI_add (64 * k) y1) ?_
                    refine lv_istore (lv' := [(9, .int (nI ((64 * k) + y1))), (8, .int (nI ((64 * j) + x1))), (0, .ref (b 0)), (1, .int (nI j)), (2, .int (nI k)), (3, .int op), (4, .int (nI n1)), (5, .int (nI x1)), (6, .int (nI y1)), (7, .int (nI w1))]) hx hb dX11_join_99 hl (by decide) rfl (fun ls hl => ?_)
                    refine lv_iload hx hb dX11_join_101 (lv_at hl 8 rfl) ?_
                    refine lv_aload_n hx hb dX11_join_103 rfl (lv_at hl 2 rfl) ?_
                    refine va_get (D := D) (ci := 9) (v := .ref (b 2)) (C := RX11) (T := TX11) (N := 17) hx hb hts inX11 hown hKN.1 hP 0 rfl rfl 2 (by decide) (hts (.fieldLink RX11 13 "TreeFamilyModel" "size" "[I") (by decide +kernel)) (fun _ h9 => h9) rfl dX11_join_104 ?_
                    refine lv_iload_n hx hb dX11_join_107 rfl (lv_at hl 4 rfl) ?_
                    refine xr_ild hx hb hKN.1 hP 2 0 rfl rfl (j := k) (by omega) (by decide) dX11_join_108 ?_
                    refine lv_icmp_eq (tgt := 145) hx hb dX11_join_109 (by decide) (fun c109 => ?_) (fun c109 => ?_)
                    · skip
                      have c109 : y1 = (q.zz k) := (xn_eq (a := y1) (b := (q.zz k)) (by omega) (Nat.lt_of_le_of_lt (hq.1 k) (by decide))).mp c109
                      omega
                    · skip
                      have c109 : ¬ y1 = (q.zz k) := fun h9 => c109 ((xn_eq (a := y1) (b := (q.zz k)) (by omega) (Nat.lt_of_le_of_lt (hq.1 k) (by decide))).mpr h9)
                      refine lv_iload hx hb dX11_join_112 (lv_at hl 7 rfl) ?_
                      refine lv_aload_n hx hb dX11_join_114 rfl (lv_at hl 2 rfl) ?_
                      refine va_get (D := D) (ci := 9) (v := .ref (b 2)) (C := RX11) (T := TX11) (N := 17) hx hb hts inX11 hown hKN.1 hP 0 rfl rfl 2 (by decide) (hts (.fieldLink RX11 13 "TreeFamilyModel" "size" "[I") (by decide +kernel)) (fun _ h9 => h9) rfl dX11_join_115 ?_
                      refine lv_iload_n hx hb dX11_join_118 rfl (lv_at hl 3 rfl) ?_
                      refine xr_ild hx hb hKN.1 hP 2 0 rfl rfl (j := j) (by omega) (by decide) dX11_join_119 ?_
                      refine lv_icmp_ge (tgt := 149) hx hb dX11_join_120 (by decide) (fun c120 => ?_) (fun c120 => ?_)
                      · skip
                        have c120 : (q.zz j) ≤ x1 := (xn_le (a := (q.zz j)) (b := x1) (Nat.lt_of_le_of_lt (hq.1 j) (by decide)) (by omega)).mp c120
                        refine lv_iconst (v := 0) hx hb dX11_join_149 (by decide) ?_
                        refine lv_istore (lv' := [(10, .int 0), (9, .int (nI ((64 * k) + y1))), (8, .int (nI ((64 * j) + x1))), (0, .ref (b 0)), (1, .int (nI j)), (2, .int (nI k)), (3, .int op), (4, .int (nI n1)), (5, .int (nI x1)), (6, .int (nI y1)), (7, .int (nI w1))]) hx hb dX11_join_150 hl (by decide) rfl (fun ls hl => ?_)
                        refine lv_iload hx hb dX11_join_152 (lv_at hl 0 rfl) ?_
                        refine lv_if_ne (tgt := 194) hx hb dX11_join_154 (by decide) (fun c154 => ?_) (fun c154 => ?_)
                        · skip
                          exact absurd c154 (by decide)
                        · skip
                          refine lv_iload hx hb dX11_join_157 (lv_at hl 8 rfl) ?_
                          refine lv_aload_n hx hb dX11_join_159 rfl (lv_at hl 3 rfl) ?_
                          refine va_get (D := D) (ci := 9) (v := .ref (b 2)) (C := RX11) (T := TX11) (N := 17) hx hb hts inX11 hown hKN.1 hP 0 rfl rfl 2 (by decide) (hts (.fieldLink RX11 13 "TreeFamilyModel" "size" "[I") (by decide +kernel)) (fun _ h9 => h9) rfl dX11_join_160 ?_
                          refine lv_iload_n hx hb dX11_join_163 rfl (lv_at hl 4 rfl) ?_
                          refine xr_ild hx hb hKN.1 hP 2 0 rfl rfl (j := j) (by omega) (by decide) dX11_join_164 ?_
                          refine lv_icmp_eq (tgt := 190) hx hb dX11_join_165 (by decide) (fun c165 => ?_) (fun c165 => ?_)
                          · skip
                            have c165 : x1 = (q.zz j) := (xn_eq (a := x1) (b := (q.zz j)) (by omega) (Nat.lt_of_le_of_lt (hq.1 j) (by decide))).mp c165
                            refine lv_iconst (v := 1) hx hb dX11_join_190 (by decide) ?_
                            refine lv_goto (tgt := 195) hx hb dX11_join_191 (by decide) ?_
                            refine lv_istore (lv' := [(11, .int 1), (10, .int 0), (9, .int (nI ((64 * k) + y1))), (8, .int (nI ((64 * j) + x1))), (0, .ref (b 0)), (1, .int (nI j)), (2, .int (nI k)), (3, .int op), (4, .int (nI n1)), (5, .int (nI x1)), (6, .int (nI y1)), (7, .int (nI w1))]) hx hb dX11_join_195 hl (by decide) rfl (fun ls hl => ?_)
                            refine lv_iload hx hb dX11_join_197 (lv_at hl 1 rfl) ?_
                            refine lv_if_eq (tgt := 215) hx hb dX11_join_199 (by decide) (fun c199 => ?_) (fun c199 => ?_)
                            · skip
                              refine lv_iload hx hb dX11_join_215 (lv_at hl 0 rfl) ?_
                              refine lv_if_eq (tgt := 232) hx hb dX11_join_217 (by decide) (fun c217 => ?_) (fun c217 => ?_)
                              · skip
                                exact absurd c217 (by decide)
                              · skip
                                refine lv_iload_n hx hb dX11_join_220 rfl (lv_at hl 7 rfl) ?_
                                refine lv_if_ne (tgt := 228) hx hb dX11_join_221 (by decide) (fun c221 => ?_) (fun c221 => ?_)
                                · skip
                                  refine lv_iconst (v := 0) hx hb dX11_join_228 (by decide) ?_
                                  refine lv_goto (tgt := 242) hx hb dX11_join_229 (by decide) ?_
                                  refine lv_istore (lv' := [(12, .int 0), (11, .int 1), (10, .int 0), (9, .int (nI ((64 * k) + y1))), (8, .int (nI ((64 * j) + x1))), (0, .ref (b 0)), (1, .int (nI j)), (2, .int (nI k)), (3, .int op), (4, .int (nI n1)), (5, .int (nI x1)), (6, .int (nI y1)), (7, .int (nI w1))]) hx hb dX11_join_242 hl (by decide) rfl (fun ls hl => ?_)
                                  exact b_join_s0 q j k n1 x1 y1 w1 op f1 g1 hj hk (by omega) (by omega) (by omega) hx hb hml hts hown hKN hA hP hD hS hl (fun H locs ls hP hD hS hl => ih (n - 1) (by omega) (n1 + 0, x1 + 0, y1 + 1, w1 + 0, (upd f1 n1 (q.ks ((64 * k) + y1))), (upd g1 n1 (q.vs ((64 * k) + y1)))) _ _ _ ⟨((MI_b (n := n - 1) (by rw [show n - 1 + 1 = n by omega]; exact hM) (rowL_at k (show y1 < q.zz k by omega)) (by first | exact Or.inl (rowL_none j (by omega)) | exact Or.inr ⟨_, rowL_at j (show x1 < q.zz j by omega), c142, c187⟩)).2 c221), hP, hD, hS, hl⟩)
                                · skip
                                  refine lv_iconst (v := 1) hx hb dX11_join_224 (by decide) ?_
                                  refine lv_goto (tgt := 242) hx hb dX11_join_225 (by decide) ?_
                                  refine lv_istore (lv' := [(12, .int 1), (11, .int 1), (10, .int 0), (9, .int (nI ((64 * k) + y1))), (8, .int (nI ((64 * j) + x1))), (0, .ref (b 0)), (1, .int (nI j)), (2, .int (nI k)), (3, .int op), (4, .int (nI n1)), (5, .int (nI x1)), (6, .int (nI y1)), (7, .int (nI w1))]) hx hb dX11_join_242 hl (by decide) rfl (fun ls hl => ?_)
                                  exact b_join_s1 q j k n1 x1 y1 w1 op f1 g1 hj hk (by omega) (by omega) (by omega) hx hb hml hts hown hKN hA hP hD hS hl (fun H locs ls hP hD hS hl => ih (n - 1) (by omega) (n1 + 1, x1 + 0, y1 + 1, w1 + 1, (upd f1 n1 (q.ks ((64 * k) + y1))), (upd g1 n1 (q.vs ((64 * k) + y1)))) _ _ _ ⟨((MI_b (n := n - 1) (by rw [show n - 1 + 1 = n by omega]; exact hM) (rowL_at k (show y1 < q.zz k by omega)) (by first | exact Or.inl (rowL_none j (by omega)) | exact Or.inr ⟨_, rowL_at j (show x1 < q.zz j by omega), c142, c187⟩)).1 c221), hP, hD, hS, hl⟩)
                            · skip
                              exact absurd c199 (by decide)
                          · skip
                            have c165 : ¬ x1 = (q.zz j) := fun h9 => c165 ((xn_eq (a := x1) (b := (q.zz j)) (by omega) (Nat.lt_of_le_of_lt (hq.1 j) (by decide))).mpr h9)
                            omega
                      · skip
                        have c120 : ¬ (q.zz j) ≤ x1 := fun h9 => c120 ((xn_le (a := (q.zz j)) (b := x1) (Nat.lt_of_le_of_lt (hq.1 j) (by decide)) (by omega)).mpr h9)
                        omega
              · skip
                refine lv_aload_n hx hb dX11_join_43 rfl (lv_at hl 0 rfl) ?_
                refine lv_iconst (v := 1) hx hb dX11_join_44 (by decide) ?_
                refine xc_i (wr := []) (va_runV (As := [.int 1]) (rest := []) ⟨hx, hb, hml, hown, hts⟩ (c_X11_refuse l D ca b _ (0, q.oo, q.zz, q.ks, q.vs, q.cg, q.hw, q.lo, q.hg, q.wk, q.kw, q.mn, q.gv, q.cp, q.ho, q.nk, q.nv) 1) (cwV 1 hts gX11_join_X11_refuse rfl rfl rfl (by decide +kernel) ⟨(Nat.le_of_ble_eq_true rfl), (Nat.le_of_ble_eq_true rfl)⟩) (xPreV hKN hP hD [0, 1, 2, 3, 4, 5, 6, 7, 8, 9, 10, 11, 12, 13, 14, 15, 16] (by decide) rfl (q0 := 0) rfl rfl rfl) rfl rfl hl.1 rfl (lv_room (Nat.le_of_ble_eq_true rfl)) dX11_join_45 ⟨(Nat.le_of_ble_eq_true rfl), (Nat.le_of_ble_eq_true rfl)⟩) hP hD hS hA [0, 1, 2, 3, 4, 5, 6, 7, 8, 9, 10, 11, 12, 13, 14, 15, 16] [] rfl rfl (by decide) (by decide) (fun r45 u45 H locs hu45 hP hD hS => ?_)
                obtain ⟨er45, eu45⟩ := hu45
                have eu45 := eu45.symm
                subst eu45
                subst er45
                have hP : va_P D vwCl (wQx ca b 1 q.oo q.zz q.ks q.vs q.cg q.hw q.lo q.hg q.wk q.kw q.mn q.gv q.cp q.ho q.nk q.nv) H := hP
                have hD : va_D A (wQx ca b 1 q.oo q.zz q.ks q.vs q.cg q.hw q.lo q.hg q.wk q.kw q.mn q.gv q.cp q.ho q.nk q.nv) := hD
                exact W.iret (v := 0) hx hb hr (fun t9 e9 w9 => ⟨⟨_, (1, q.oo, q.zz, q.ks, q.vs, q.cg, q.hw, q.lo, q.hg, q.wk, q.kw, q.mn, q.gv, q.cp, q.ho, q.nk, q.nv), rfl, by first | exact PO2_same hj hk (F_join_1 (isB_lt c20)) hq rfl rfl | exact PO2_same hj hk (F_join_1 (isB_ge (gt23' c25))) hq rfl rfl | exact PO2_same hj hk (F_join_o c40) hq rfl rfl, by rw [e9]; exact hP, hD⟩, hS.F e9⟩) hS.2.2 dX11_join_48
