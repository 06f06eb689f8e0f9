/-! THE REFERENCE AS NUMBERS: code, then the rows order, size, keys, values, changes, how, low, high, walks, knows, many, given, copy, holds, newKeys, newValues -/
abbrev QS : Type := Int32 × (Nat → Int32) × (Nat → Nat) × (Nat → Int32) × (Nat → Int32) × (Nat → Int32) × (Nat → Nat) × (Nat → Int32) × (Nat → Int32) × (Nat → Bool) × (Nat → Int32) × (Nat → Nat) × (Nat → Nat) × (Nat → Int32) × (Nat → Bool) × (Nat → Int32) × (Nat → Int32)
abbrev QS.co (q : QS) : Int32 := q.1
abbrev QS.oo (q : QS) : Nat → Int32 := q.2.1
abbrev QS.zz (q : QS) : Nat → Nat := q.2.2.1
abbrev QS.ks (q : QS) : Nat → Int32 := q.2.2.2.1
abbrev QS.vs (q : QS) : Nat → Int32 := q.2.2.2.2.1
abbrev QS.cg (q : QS) : Nat → Int32 := q.2.2.2.2.2.1
abbrev QS.hw (q : QS) : Nat → Nat := q.2.2.2.2.2.2.1
abbrev QS.lo (q : QS) : Nat → Int32 := q.2.2.2.2.2.2.2.1
abbrev QS.hg (q : QS) : Nat → Int32 := q.2.2.2.2.2.2.2.2.1
abbrev QS.wk (q : QS) : Nat → Bool := q.2.2.2.2.2.2.2.2.2.1
abbrev QS.kw (q : QS) : Nat → Int32 := q.2.2.2.2.2.2.2.2.2.2.1
abbrev QS.mn (q : QS) : Nat → Nat := q.2.2.2.2.2.2.2.2.2.2.2.1
abbrev QS.gv (q : QS) : Nat → Nat := q.2.2.2.2.2.2.2.2.2.2.2.2.1
abbrev QS.cp (q : QS) : Nat → Int32 := q.2.2.2.2.2.2.2.2.2.2.2.2.2.1
abbrev QS.ho (q : QS) : Nat → Bool := q.2.2.2.2.2.2.2.2.2.2.2.2.2.2.1
abbrev QS.nk (q : QS) : Nat → Int32 := q.2.2.2.2.2.2.2.2.2.2.2.2.2.2.2.1
abbrev QS.nv (q : QS) : Nat → Int32 := q.2.2.2.2.2.2.2.2.2.2.2.2.2.2.2.2
/-- the entries of a map; the keys of its copy -/
def rowL (f g : Nat → Int32) (z j : Nat) : List (Int32 × Int32) := (List.range z).map (fun i => (f (64 * j + i), g (64 * j + i)))
def colL (f : Nat → Int32) (z j : Nat) : List Int32 := (List.range z).map (fun i => f (64 * j + i))
theorem rowL_len (f g : Nat → Int32) (z j : Nat) : (rowL f g z j).length = z := by unfold rowL; rw [List.length_map, List.length_range]
theorem colL_len (f : Nat → Int32) (z j : Nat) : (colL f z j).length = z := by unfold colL; rw [List.length_map, List.length_range]
theorem rowL_at {f g : Nat → Int32} {z i : Nat} (j : Nat) (h : i < z) : (rowL f g z j)[i]? = some (f (64 * j + i), g (64 * j + i)) := by
  unfold rowL
  rw [List.getElem?_map, List.getElem?_range h]
  rfl
theorem rowL_none {f g : Nat → Int32} {z i : Nat} (j : Nat) (h : z ≤ i) : (rowL f g z j)[i]? = none := List.getElem?_eq_none (by rw [rowL_len]; exact h)
theorem colL_at {f : Nat → Int32} {z i : Nat} (j : Nat) (h : i < z) : (colL f z j)[i]? = some (f (64 * j + i)) := by
  unfold colL
  rw [List.getElem?_map, List.getElem?_range h]
  rfl
theorem rowL_of {f g : Nat → Int32} {z j : Nat} {E : List (Int32 × Int32)} (hl : E.length = z) (h : ∀ i, i < z → E[i]? = some (f (64 * j + i), g (64 * j + i))) : rowL f g z j = E := by
  apply List.ext_getElem?
  intro i
  by_cases hi : i < z
  · rw [rowL_at j hi, h i hi]
  · rw [rowL_none j (by omega), List.getElem?_eq_none (by omega)]
theorem colL_of {f : Nat → Int32} {z j : Nat} {E : List Int32} (hl : E.length = z) (h : ∀ i, i < z → E[i]? = some (f (64 * j + i))) : colL f z j = E := by
  apply List.ext_getElem?
  intro i
  by_cases hi : i < z
  · rw [colL_at j hi, h i hi]
  · rw [List.getElem?_eq_none (by rw [colL_len]; omega), List.getElem?_eq_none (by omega)]
theorem rowL_cg {f g f' g' : Nat → Int32} {z j : Nat} (h : ∀ i, i < z → f' (64 * j + i) = f (64 * j + i) ∧ g' (64 * j + i) = g (64 * j + i)) : rowL f' g' z j = rowL f g z j := by
  refine rowL_of (rowL_len _ _ _ _) fun i hi => ?_
  rw [rowL_at j hi, (h i hi).1, (h i hi).2]
theorem colL_cg {f f' : Nat → Int32} {z j : Nat} (h : ∀ i, i < z → f' (64 * j + i) = f (64 * j + i)) : colL f' z j = colL f z j := by
  refine colL_of (colL_len _ _ _) fun i hi => ?_
  rw [colL_at j hi, h i hi]
/-- a map of the reference: order, entries, CHANGES, how, low, high, walks, knows, copy, given, holds -/
abbrev RW : Type := Int32 × List (Int32 × Int32) × Int32 × Nat × Int32 × Int32 × Bool × Int32 × List Int32 × Nat × Bool
abbrev RW.od (r : RW) : Int32 := r.1
abbrev RW.en (r : RW) : List (Int32 × Int32) := r.2.1
abbrev RW.cg (r : RW) : Int32 := r.2.2.1
abbrev RW.hw (r : RW) : Nat := r.2.2.2.1
abbrev RW.lo (r : RW) : Int32 := r.2.2.2.2.1
abbrev RW.hg (r : RW) : Int32 := r.2.2.2.2.2.1
abbrev RW.wk (r : RW) : Bool := r.2.2.2.2.2.2.1
abbrev RW.kw (r : RW) : Int32 := r.2.2.2.2.2.2.2.1
abbrev RW.cp (r : RW) : List Int32 := r.2.2.2.2.2.2.2.2.1
abbrev RW.gv (r : RW) : Nat := r.2.2.2.2.2.2.2.2.2.1
abbrev RW.ho (r : RW) : Bool := r.2.2.2.2.2.2.2.2.2.2
def ab (q : QS) (j : Nat) : RW := (q.oo j, rowL q.ks q.vs (q.zz j) j, q.cg j, q.hw j, q.lo j, q.hg j, q.wk j, q.kw j, colL q.cp (q.mn j) j, q.gv j, q.ho j)
def WQ (q : QS) : Prop := (∀ j, q.zz j ≤ 60) ∧ (∀ j, q.hw j ≤ 3) ∧ (∀ j, q.mn j ≤ 60) ∧ (∀ j, q.gv j ≤ q.mn j) ∧ (∀ j, q.hw j = 3 → gB (q.oo j) (q.hg j) (q.lo j) = false)
theorem vup_self {α : Type} (f : Nat → α) (j : Nat) : va_up f j (f j) = f := by
  funext i
  unfold va_up
  by_cases h : i = j
  · rw [if_pos h, h]
  · rw [if_neg h]
theorem vup_up {α : Type} (f : Nat → α) (j : Nat) (x y : α) : va_up (va_up f j x) j y = va_up f j y := by
  funext i
  unfold va_up
  by_cases h : i = j
  · rw [if_pos h, if_pos h]
  · rw [if_neg h, if_neg h, if_neg h]
theorem vup_eq {α : Type} {f : Nat → α} {j : Nat} {x : α} : va_up f j x j = x := if_pos rfl
theorem vup_ne {α : Type} {f : Nat → α} {i j : Nat} {x : α} (h : i ≠ j) : va_up f j x i = f i := if_neg h
theorem ux_ne {f : Nat → Int32} {i j : Nat} {x : Int32} (h : i ≠ j) : upd f j x i = f i := if_neg h
theorem ux_eq {f : Nat → Int32} {j : Nat} {x : Int32} : upd f j x j = x := if_pos rfl
theorem ab_up {q u : QS} {j : Nat} {R : RW} (hj : ab u j = R) (h : ∀ i, i ≠ j → ab u i = ab q i) : ab u = va_up (ab q) j R := by
  funext i
  unfold va_up
  by_cases e : i = j
  · rw [if_pos e, e, hj]
  · rw [if_neg e, h i e]
/-- the shift by one that makes a hole, and the one that shuts it -/
def shU (f0 f : Nat → Int32) (k top : Nat) : Prop := ∀ x, f x = if k < x ∧ x ≤ top then f0 (x - 1) else f0 x
def shD (f0 f : Nat → Int32) (b k : Nat) : Prop := ∀ x, f x = if b ≤ x ∧ x < k then f0 (x + 1) else f0 x
theorem shU_0 (f : Nat → Int32) (top : Nat) : shU f f top top := fun x => by rw [if_neg (by omega)]
theorem shU_s {f0 f : Nat → Int32} {k top : Nat} (h : shU f0 f k top) (hk : 0 < k) (ht : k ≤ top) : shU f0 (upd f k (f (k - 1))) (k - 1) top := fun x => by
  by_cases e : x = k
  · subst e
    rw [ux_eq, h, if_neg (by omega), if_pos (by omega)]
  · rw [ux_ne e, h]
    by_cases c : k < x ∧ x ≤ top
    · rw [if_pos c, if_pos (by omega)]
    · rw [if_neg c, if_neg (by omega)]
theorem shD_0 (f : Nat → Int32) (b : Nat) : shD f f b b := fun x => by rw [if_neg (by omega)]
theorem shD_s {f0 f : Nat → Int32} {b k : Nat} (h : shD f0 f b k) (hk : b ≤ k) : shD f0 (upd f k (f (k + 1))) b (k + 1) := fun x => by
  by_cases e : x = k
  · subst e
    rw [ux_eq, h, if_neg (by omega), if_pos (by omega)]
  · rw [ux_ne e, h]
    by_cases c : b ≤ x ∧ x < k
    · rw [if_pos c, if_pos (by omega)]
    · rw [if_neg c, if_neg (by omega)]
def insE (i : Nat) (e : Int32 × Int32) (E : List (Int32 × Int32)) : List (Int32 × Int32) := E.take i ++ e :: E.drop i
theorem rowL_open {f g f0 g0 : Nat → Int32} {z j i : Nat} {key v : Int32} (hf : shU f0 f (64 * j + i) (64 * j + z)) (hg : shU g0 g (64 * j + i) (64 * j + z)) (hi : i ≤ z) : rowL (upd f (64 * j + i) key) (upd g (64 * j + i) v) (z + 1) j = insE i (key, v) (rowL f0 g0 z j) := by
  have hl : (rowL f0 g0 z j).length = z := rowL_len _ _ _ _
  have ht : ((rowL f0 g0 z j).take i).length = i := by rw [List.length_take, hl]; omega
  refine rowL_of (by unfold insE; rw [List.length_append, List.length_cons, ht, List.length_drop, hl]; omega) fun x hx => ?_
  unfold insE
  by_cases c1 : x < i
  · rw [List.getElem?_append_left (by omega), List.getElem?_take, if_pos c1, rowL_at j (by omega), ux_ne (by omega), ux_ne (by omega), hf, hg, if_neg (by omega), if_neg (by omega)]
  · rw [List.getElem?_append_right (by omega), ht]
    by_cases c2 : x = i
    · subst c2
      rw [Nat.sub_self, List.getElem?_cons_zero, ux_eq, ux_eq]
    · rw [show x - i = (x - i - 1) + 1 by omega, List.getElem?_cons_succ, List.getElem?_drop, show i + (x - i - 1) = x - 1 by omega, rowL_at j (by omega), ux_ne (by omega), ux_ne (by omega), hf, hg, if_pos (by omega), if_pos (by omega), show 64 * j + x - 1 = 64 * j + (x - 1) by omega]
theorem rowL_close {f g f0 g0 : Nat → Int32} {z j i : Nat} (hf : shD f0 f (64 * j + i) (64 * j + (z - 1))) (hg : shD g0 g (64 * j + i) (64 * j + (z - 1))) (hi : i < z) : rowL f g (z - 1) j = cutE i (rowL f0 g0 z j) := by
  have hl : (rowL f0 g0 z j).length = z := rowL_len _ _ _ _
  have ht : ((rowL f0 g0 z j).take i).length = i := by rw [List.length_take, hl]; omega
  refine rowL_of (by unfold cutE; rw [List.length_append, ht, List.length_drop, hl]; omega) fun x hx => ?_
  unfold cutE
  by_cases c1 : x < i
  · rw [List.getElem?_append_left (by omega), List.getElem?_take, if_pos c1, rowL_at j (by omega), hf, hg, if_neg (by omega), if_neg (by omega)]
  · rw [List.getElem?_append_right (by omega), ht, List.getElem?_drop, show i + 1 + (x - i) = x + 1 by omega, rowL_at j (by omega), hf, hg, if_pos (by omega), if_pos (by omega)]
    rfl
theorem rowL_set {f g : Nat → Int32} {z j i : Nat} {v : Int32} (hi : i < z) : rowL f (upd g (64 * j + i) v) z j = (rowL f g z j).take i ++ (((rowL f g z j).getD i (0, 0)).1, v) :: (rowL f g z j).drop (i + 1) := by
  have hl : (rowL f g z j).length = z := rowL_len _ _ _ _
  have ht : ((rowL f g z j).take i).length = i := by rw [List.length_take, hl]; omega
  refine rowL_of (by rw [List.length_append, List.length_cons, ht, List.length_drop, hl]; omega) fun x hx => ?_
  by_cases c1 : x < i
  · rw [List.getElem?_append_left (by omega), List.getElem?_take, if_pos c1, rowL_at j (by omega), ux_ne (by omega)]
  · rw [List.getElem?_append_right (by omega), ht]
    by_cases c2 : x = i
    · subst c2
      rw [Nat.sub_self, List.getElem?_cons_zero, ux_eq, List.getD_eq_getElem?_getD, rowL_at j hi]
      rfl
    · rw [show x - i = (x - i - 1) + 1 by omega, List.getElem?_cons_succ, List.getElem?_drop, show i + 1 + (x - i - 1) = x by omega, rowL_at j (by omega), ux_ne (by omega)]
/-- place -/
theorem tw_len_le {α : Type} {p : α → Bool} : ∀ (E : List α) (i : Nat), i ≤ (E.takeWhile p).length → ∀ e, E[i]? = some e → p e = true → i + 1 ≤ (E.takeWhile p).length := by
  intro E
  induction E with
  | nil => intro i _ e h; rw [List.getElem?_nil] at h; cases h
  | cons x E ih =>
    intro i hi e he hp
    by_cases c : p x = true
    · rw [List.takeWhile_cons_of_pos c] at hi ⊢
      rw [List.length_cons] at hi ⊢
      cases i with
      | zero => omega
      | succ i =>
        rw [List.getElem?_cons_succ] at he
        have := ih i (by omega) e he hp
        omega
    · rw [List.takeWhile_cons_of_neg c, List.length_nil] at hi
      have : i = 0 := by omega
      subst this
      rw [List.getElem?_cons_zero] at he
      cases he
      exact absurd hp c
theorem twx_stop {α : Type} {p : α → Bool} : ∀ (E : List α) (e : α), E[(E.takeWhile p).length]? = some e → p e = false := by
  intro E
  induction E with
  | nil => intro e h; rw [List.getElem?_nil] at h; cases h
  | cons x E ih =>
    intro e he
    by_cases c : p x = true
    · rw [List.takeWhile_cons_of_pos c, List.length_cons, List.getElem?_cons_succ] at he
      exact ih e he
    · rw [List.takeWhile_cons_of_neg c, List.length_nil, List.getElem?_cons_zero] at he
      cases he
      cases h : p x with
      | true => exact absurd h c
      | false => rfl
theorem tw_in {α : Type} {p : α → Bool} : ∀ (E : List α) (i : Nat) (e : α), i < (E.takeWhile p).length → E[i]? = some e → p e = true := by
  intro E
  induction E with
  | nil => intro i e h; exact absurd h (Nat.not_lt_zero _)
  | cons x E ih =>
    intro i e hi he
    by_cases c : p x = true
    · rw [List.takeWhile_cons_of_pos c, List.length_cons] at hi
      cases i with
      | zero => rw [List.getElem?_cons_zero] at he; cases he; exact c
      | succ i =>
        rw [List.getElem?_cons_succ] at he
        exact ih i e (by omega) he
    · rw [List.takeWhile_cons_of_neg c] at hi
      exact absurd hi (Nat.not_lt_zero _)
theorem plE_le (od key : Int32) (E : List (Int32 × Int32)) : plE od key E ≤ E.length := by
  unfold plE
  exact (List.takeWhile_prefix _).length_le
theorem plE_s {od key : Int32} {f g : Nat → Int32} {z j i : Nat} (h : i ≤ plE od key (rowL f g z j)) (hi : i < z) (hb : gB od (f (64 * j + i)) key = true) : i + 1 ≤ plE od key (rowL f g z j) := by
  have h1 := rowL_at (f := f) (g := g) j hi
  generalize rowL f g z j = E at h h1 ⊢
  unfold plE at h ⊢
  exact tw_len_le (p := fun e : Int32 × Int32 => gB od e.1 key) E i h (f (64 * j + i), g (64 * j + i)) h1 hb
theorem plE_e {od key : Int32} {f g : Nat → Int32} {z j i : Nat} (h : i ≤ plE od key (rowL f g z j)) (hb : i < z → gB od (f (64 * j + i)) key = false) : i = plE od key (rowL f g z j) := by
  have h1 := plE_le od key (rowL f g z j)
  rw [rowL_len] at h1
  by_cases hi : i < z
  · by_cases c : i < plE od key (rowL f g z j)
    · have h2 := rowL_at (f := f) (g := g) j hi
      have h3 := hb hi
      generalize rowL f g z j = E at c h2
      unfold plE at c
      have h4 : gB od (f (64 * j + i)) key = true := tw_in (p := fun e : Int32 × Int32 => gB od e.1 key) E i (f (64 * j + i), g (64 * j + i)) c h2
      rw [h3] at h4
      cases h4
    · omega
  · omega
/-- isAt -/
def atE (od key : Int32) (i : Nat) (E : List (Int32 × Int32)) : Bool := match E[i]? with | some e => !gB od key e.1 && !gB od e.1 key | none => false
theorem atE_0 {od key : Int32} {f g : Nat → Int32} {z j i : Nat} (h : ¬ i < z) : atE od key i (rowL f g z j) = false := by
  unfold atE
  rw [rowL_none j (by omega)]
theorem atE_1 {od key : Int32} {f g : Nat → Int32} {z j i : Nat} (h : i < z) : atE od key i (rowL f g z j) = (!gB od key (f (64 * j + i)) && !gB od (f (64 * j + i)) key) := by
  unfold atE
  rw [rowL_at j h]
theorem atE_hit (od key : Int32) (E : List (Int32 × Int32)) : atE od key (plE od key E) E = hitE od key E := by
  unfold atE hitE
  cases h : E[plE od key E]? with
  | none => rfl
  | some e =>
    have : gB od e.1 key = false := by
      unfold plE at h
      exact twx_stop (p := fun e : Int32 × Int32 => gB od e.1 key) E e h
    show (!gB od key e.1 && !gB od e.1 key) = !gB od key e.1
    rw [this, Bool.not_false, Bool.and_true]
theorem hit_lt {od key : Int32} {E : List (Int32 × Int32)} (h : hitE od key E = true) : plE od key E < E.length := by
  unfold hitE at h
  cases e : E[plE od key E]? with
  | none => rw [e] at h; cases h
  | some x => exact (List.getElem?_eq_some_iff.mp e).1
theorem putE_hit {od key v : Int32} {E : List (Int32 × Int32)} (h : hitE od key E = true) : putE od key v E = E.take (plE od key E) ++ ((E.getD (plE od key E) (0, 0)).1, v) :: E.drop (plE od key E + 1) := by unfold putE; exact if_pos h
theorem putE_new {od key v : Int32} {E : List (Int32 × Int32)} (h : hitE od key E = false) : putE od key v E = insE (plE od key E) (key, v) E := by unfold putE; rw [h]; exact if_neg (by decide)
theorem tw_mono {α : Type} {p p' : α → Bool} (h : ∀ e, p e = true → p' e = true) : ∀ E : List α, (E.takeWhile p).length ≤ (E.takeWhile p').length := by
  intro E
  induction E with
  | nil => exact Nat.le_refl _
  | cons x E ih =>
    by_cases c : p x = true
    · rw [List.takeWhile_cons_of_pos c, List.takeWhile_cons_of_pos (h x c), List.length_cons, List.length_cons]
      omega
    · rw [List.takeWhile_cons_of_neg c]
      exact Nat.zero_le _
theorem pl_mono {od a b : Int32} (h : gB od b a = false) (E : List (Int32 × Int32)) : plE od a E ≤ plE od b E := by
  unfold plE
  refine tw_mono (p := fun e : Int32 × Int32 => gB od e.1 a) (p' := fun e : Int32 × Int32 => gB od e.1 b) (fun e he => ?_) E
  have h1 := (gB_rho od e.1 a).mp he
  have h2 := (gB_f od b a).mp h
  exact (gB_rho od e.1 b).mpr (by omega)
/-- the range -/
def begR (r : RW) : Nat := if r.hw % 2 = 1 then plE r.od r.lo r.en else 0
def endR (r : RW) : Nat := if 1 < r.hw then plE r.od r.hg r.en else r.en.length
theorem beg_le_end {r : RW} (h3 : r.hw ≤ 3) (h : r.hw = 3 → gB r.od r.hg r.lo = false) : begR r ≤ endR r := by
  unfold begR endR
  by_cases c1 : r.hw % 2 = 1
  · rw [if_pos c1]
    by_cases c2 : 1 < r.hw
    · rw [if_pos c2]; exact pl_mono (h (by omega)) _
    · rw [if_neg c2]; exact plE_le _ _ _
  · rw [if_neg c1]; exact Nat.zero_le _
theorem end_le (r : RW) : endR r ≤ r.en.length := by
  unfold endR
  by_cases c2 : 1 < r.hw
  · rw [if_pos c2]; exact plE_le _ _ _
  · rw [if_neg c2]; exact Nat.le_refl _
theorem isB3 (m : Int32) : isB m 3 = false ∨ ∃ j, j < 3 ∧ m = nI j := by
  unfold isB
  by_cases c : m < 0
  · exact Or.inl (if_pos c)
  · rw [if_neg c]
    by_cases d : 3 ≤ m
    · exact Or.inl (if_pos d)
    · refine Or.inr ⟨m.toInt.toNat, ?_, ?_⟩
      · rw [Int32.le_iff_toInt_le] at d
        have : (3 : Int32).toInt = 3 := rfl
        omega
      · rw [Int32.lt_iff_toInt_lt] at c
        have : (0 : Int32).toInt = 0 := rfl
        apply Int32.toInt_inj.mp
        have h1 := m.toInt_lt
        show m.toInt = (Int32.ofNat m.toInt.toNat).toInt
        rw [Int32.toInt_ofNat_of_lt (by omega)]
        omega
theorem isB3_ok {j : Nat} (h : j < 3) : isB (nI j) 3 = true := by
  match j, h with
  | 0, _ => decide
  | 1, _ => decide
  | 2, _ => decide
/-- what a public method leaves: an answer z and code 1 where there is no such map, else what F says -/
def PO {A : Type} (z : A) (F : RW → A × Int32 × RW) (m : Int32) (q : QS) (r : A) (u : QS) : Prop := WQ u ∧ (isB m 3 = false → r = z ∧ u.co = 1 ∧ ab u = ab q) ∧ ∀ j, j < 3 → m = nI j → r = (F (ab q j)).1 ∧ u.co = (F (ab q j)).2.1 ∧ ab u = va_up (ab q) j (F (ab q j)).2.2
theorem nI3 {i j : Nat} (hi : i < 3) (hj : j < 3) (h : nI i = nI j) : i = j := (xn_eq (by omega) (by omega)).mp h
theorem PO_bad {A : Type} {z : A} {F : RW → A × Int32 × RW} {m : Int32} {q u : QS} {r : A} (hm : isB m 3 = false) (hw : WQ u) (h1 : r = z) (h2 : u.co = 1) (h3 : ab u = ab q) : PO z F m q r u :=
  ⟨hw, fun _ => ⟨h1, h2, h3⟩, fun j hj e => (by rw [e, isB3_ok hj] at hm; cases hm)⟩
theorem PO_ok {A : Type} {z : A} {F : RW → A × Int32 × RW} {j : Nat} {q u : QS} {r : A} (hj : j < 3) (hw : WQ u) (h1 : r = (F (ab q j)).1) (h2 : u.co = (F (ab q j)).2.1) (h3 : ab u = va_up (ab q) j (F (ab q j)).2.2) : PO z F (nI j) q r u :=
  ⟨hw, fun h => (by rw [isB3_ok hj] at h; cases h), fun i hi e => by obtain rfl := nI3 hj hi e; exact ⟨h1, h2, h3⟩⟩
/-- F by its value -/
theorem PO_by {A : Type} {z : A} {F : RW → A × Int32 × RW} {j : Nat} {q u : QS} {r : A} {c : Int32} {R : RW} (hj : j < 3) (hF : F (ab q j) = (r, c, R)) (hw : WQ u) (h2 : u.co = c) (h3 : ab u = va_up (ab q) j R) : PO z F (nI j) q r u :=
  PO_ok hj hw (by rw [hF]) (by rw [hF]; exact h2) (by rw [hF]; exact h3)
/-- the same, nothing changed but the code -/
theorem PO_same {A : Type} {z : A} {F : RW → A × Int32 × RW} {j : Nat} {q u : QS} {r : A} {c : Int32} (hj : j < 3) (hF : F (ab q j) = (r, c, ab q j)) (hw : WQ u) (h2 : u.co = c) (h3 : ab u = ab q) : PO z F (nI j) q r u :=
  PO_by hj hF hw h2 (by rw [h3, vup_self])
/-- a shift right by two -/
theorem ge0_msb (x : Int32) : (0 : Int32) ≤ x ↔ x.toBitVec.msb = false := by
  rw [Int32.le_iff_toInt_le]
  show (0 : Int) ≤ x.toBitVec.toInt ↔ _
  rw [BitVec.msb_eq_toInt]
  constructor
  · intro h; exact decide_eq_false (by omega)
  · intro h; have := of_decide_eq_false h; omega
theorem xor4 (x : Int32) : (0 : Int32) ≤ x ^^^ 4 ↔ (0 : Int32) ≤ x := by
  rw [ge0_msb, ge0_msb, Int32.toBitVec_xor, BitVec.msb_xor]
  rw [show (Int32.toBitVec 4).msb = false by decide, Bool.xor_false]
theorem div4 (x : Int32) : (x / 4).toInt = x.toInt.tdiv 4 := by
  rw [Int32.toInt_div_of_ne_right x 4 (by decide)]
  rfl
theorem fdiv4 (x : Int32) : (fdiv x 4).toInt = x.toInt / 4 := by
  unfold fdiv
  have h1 := x.toInt_lt
  have h2 := x.le_toInt
  by_cases c : (0 : Int32) ≤ x ^^^ 4
  · rw [if_pos c, div4]
    rw [xor4, Int32.le_iff_toInt_le] at c
    have c' : 0 ≤ x.toInt := c
    rw [Int.tdiv_eq_ediv_of_nonneg c']
  · rw [if_neg c]
    rw [xor4, Int32.le_iff_toInt_le] at c
    have c' : ¬ 0 ≤ x.toInt := c
    have hT : x.toInt ≤ x.toInt.tdiv 4 * 4 ∧ x.toInt.tdiv 4 * 4 ≤ x.toInt + 3 := by
      have hs : Int.sign 4 = 1 := rfl
      rw [Int.tdiv_eq_ediv, hs]
      split <;> omega
    have h4 : ((x / 4) * 4).toInt = x.toInt.tdiv 4 * 4 := by
      rw [Int32.toInt_mul, div4]
      show (x.toInt.tdiv 4 * 4).bmod _ = _
      exact Int.bmod_eq_of_le (by omega) (by omega)
    by_cases d : x / 4 * 4 = x
    · rw [if_pos d, div4]
      have := congrArg Int32.toInt d
      rw [h4] at this
      omega
    · rw [if_neg d, Int32.toInt_sub, div4]
      have d' : ¬ x.toInt.tdiv 4 * 4 = x.toInt := fun h => d (Int32.toInt_inj.mp (h4.trans h))
      show (x.toInt.tdiv 4 - 1).bmod _ = _
      rw [Int.bmod_eq_of_le (by omega) (by omega)]
      omega
theorem sh_fdiv (x : Int32) : x >>> ((2 : Int32) &&& 31) = fdiv x 4 := by
  apply Int32.toInt_inj.mp
  rw [pk_shr x _ 2 (by decide), fdiv4, Int.shiftRight_eq_div_pow]
  rfl
