/-! THE TREE AS NUMBERS. A tree's cells: rows of keys, values, left, right, counts, heights, totals, spare, path, row; spares, depth, root, order, kind. The functions below say what each method does, line by line. -/
abbrev TS : Type := (Nat → Int32) × (Nat → Int32) × (Nat → Nat) × (Nat → Nat) × (Nat → Int32) × (Nat → Int32) × (Nat → Int64) × (Nat → Nat) × (Nat → Nat) × (Nat → Nat) × Nat × Nat × Nat × Int32 × Nat
abbrev TS.ky (t : TS) : Nat → Int32 := t.1
abbrev TS.vl (t : TS) : Nat → Int32 := t.2.1
abbrev TS.lf (t : TS) : Nat → Nat := t.2.2.1
abbrev TS.rt (t : TS) : Nat → Nat := t.2.2.2.1
abbrev TS.ct (t : TS) : Nat → Int32 := t.2.2.2.2.1
abbrev TS.ht (t : TS) : Nat → Int32 := t.2.2.2.2.2.1
abbrev TS.to (t : TS) : Nat → Int64 := t.2.2.2.2.2.2.1
abbrev TS.sp (t : TS) : Nat → Nat := t.2.2.2.2.2.2.2.1
abbrev TS.pa (t : TS) : Nat → Nat := t.2.2.2.2.2.2.2.2.1
abbrev TS.ro (t : TS) : Nat → Nat := t.2.2.2.2.2.2.2.2.2.1
abbrev TS.ss (t : TS) : Nat := t.2.2.2.2.2.2.2.2.2.2.1
abbrev TS.dp (t : TS) : Nat := t.2.2.2.2.2.2.2.2.2.2.2.1
abbrev TS.rn (t : TS) : Nat := t.2.2.2.2.2.2.2.2.2.2.2.2.1
abbrev TS.od (t : TS) : Int32 := t.2.2.2.2.2.2.2.2.2.2.2.2.2.1
abbrev TS.kd (t : TS) : Nat := t.2.2.2.2.2.2.2.2.2.2.2.2.2.2
/-- a truth as an int -/
def bI (b : Bool) : Int32 := if b then 1 else 0
theorem bI_t : bI true = 1 := rfl
theorem bI_f : bI false = 0 := rfl
theorem bI_0 {b : Bool} : bI b = 0 ↔ b = false := by cases b <;> simp [bI]
theorem bI_ne {b : Bool} : ¬ bI b = 0 ↔ b = true := by cases b <;> simp [bI]
/-- Math.floorDiv -/
def fdiv (x y : Int32) : Int32 := if 0 ≤ x ^^^ y then x / y else if (x / y) * y = x then x / y else x / y - 1
/-- goesBefore -/
def gB (od x y : Int32) : Bool := if od = 1 then (if x ≤ y then false else true) else if od = 2 then (if fdiv y 4 ≤ fdiv x 4 then false else true) else (if y ≤ x then false else true)
/-- isBelow -/
def isB (x n : Int32) : Bool := if x < 0 then false else if n ≤ x then false else true
def mx (x y : Int32) : Int32 := if x ≤ y then y else x
/-- refresh(x) -/
def f_refresh (t : TS) (x : Nat) : TS := (t.ky, t.vl, t.lf, t.rt, upd t.ct x (t.ct (t.lf x) + t.ct (t.rt x) + 1), upd t.ht x (mx (t.ht (t.lf x)) (t.ht (t.rt x)) + 1), vp_updL t.to x (t.to (t.lf x) + t.to (t.rt x) + (t.vl x).toInt64), t.sp, t.pa, t.ro, t.ss, t.dp, t.rn, t.od, t.kd)
def setLf (t : TS) (x y : Nat) : TS := (t.ky, t.vl, va_up t.lf x y, t.rt, t.ct, t.ht, t.to, t.sp, t.pa, t.ro, t.ss, t.dp, t.rn, t.od, t.kd)
def setRt (t : TS) (x y : Nat) : TS := (t.ky, t.vl, t.lf, va_up t.rt x y, t.ct, t.ht, t.to, t.sp, t.pa, t.ro, t.ss, t.dp, t.rn, t.od, t.kd)
def setPa (t : TS) (pa : Nat → Nat) (dp : Nat) : TS := (t.ky, t.vl, t.lf, t.rt, t.ct, t.ht, t.to, t.sp, pa, t.ro, t.ss, dp, t.rn, t.od, t.kd)
def setRn (t : TS) (x : Nat) : TS := (t.ky, t.vl, t.lf, t.rt, t.ct, t.ht, t.to, t.sp, t.pa, t.ro, t.ss, t.dp, x, t.od, t.kd)
def setRo (t : TS) (ro : Nat → Nat) : TS := (t.ky, t.vl, t.lf, t.rt, t.ct, t.ht, t.to, t.sp, t.pa, ro, t.ss, t.dp, t.rn, t.od, t.kd)
def setVl (t : TS) (x : Nat) (v : Int32) : TS := (t.ky, upd t.vl x v, t.lf, t.rt, t.ct, t.ht, t.to, t.sp, t.pa, t.ro, t.ss, t.dp, t.rn, t.od, t.kd)
def setKV (t : TS) (x y : Nat) : TS := (upd t.ky x (t.ky y), upd t.vl x (t.vl y), t.lf, t.rt, t.ct, t.ht, t.to, t.sp, t.pa, t.ro, t.ss, t.dp, t.rn, t.od, t.kd)
/-- raiseLeft(x): the new top, the tree -/
def f_raiseLeft (t : TS) (x : Nat) : TS := f_refresh (f_refresh (setRt (setLf t x (t.rt (t.lf x))) (t.lf x) x) x) (t.lf x)
def f_raiseRight (t : TS) (x : Nat) : TS := f_refresh (f_refresh (setLf (setRt t x (t.lf (t.rt x))) (t.rt x) x) x) (t.rt x)
/-- trace(key): from node with path so far -/
def tr_go (ky : Nat → Int32) (lf rt : Nat → Nat) (od key : Int32) : Nat → Nat → Nat → (Nat → Nat) → Nat × Nat × (Nat → Nat)
  | 0, _, dp, pa => (0, dp, pa)
  | n + 1, x, dp, pa => if x = 0 then (0, dp, pa) else if gB od key (ky x) = true then tr_go ky lf rt od key n (lf x) (dp + 1) (va_up pa dp x) else if gB od (ky x) key = true then tr_go ky lf rt od key n (rt x) (dp + 1) (va_up pa dp x) else (x, dp + 1, va_up pa dp x)
def f_trace (t : TS) (key : Int32) : Nat × TS := ((tr_go t.ky t.lf t.rt t.od key 60 t.rn 0 t.pa).1, setPa t (tr_go t.ky t.lf t.rt t.od key 60 t.rn 0 t.pa).2.2 (tr_go t.ky t.lf t.rt t.od key 60 t.rn 0 t.pa).2.1)
/-- countBefore(key) -/
def cb_go (t : TS) (key : Int32) : Nat → Nat → Int32 → Int32
  | 0, _, b => b
  | n + 1, x, b => if x = 0 then b else if gB t.od (t.ky x) key = true then cb_go t key n (t.rt x) (b + (t.ct (t.lf x) + 1)) else cb_go t key n (t.lf x) b
def f_countBefore (t : TS) (key : Int32) : Int32 := cb_go t key 60 t.rn 0
def tb_go (t : TS) (key : Int32) : Nat → Nat → Int64 → Int64
  | 0, _, b => b
  | n + 1, x, b => if x = 0 then b else if gB t.od (t.ky x) key = true then tb_go t key n (t.rt x) (b + (t.to (t.lf x) + (t.vl x).toInt64)) else tb_go t key n (t.lf x) b
def f_totalBefore (t : TS) (key : Int32) : Int64 := tb_go t key 60 t.rn 0
/-- nodeAt(top, place) -/
def na_go (t : TS) : Nat → Nat → Int32 → Nat
  | 0, _, _ => 0
  | n + 1, x, i => if x = 0 then 0 else if i = t.ct (t.lf x) then x else if t.ct (t.lf x) ≤ i then na_go t n (t.rt x) (i - (t.ct (t.lf x) + 1)) else na_go t n (t.lf x) i
def f_nodeAt (t : TS) (top : Nat) (i : Int32) : Nat := if isB i (t.ct top) = true then na_go t 60 top i else 0
/-- setAt(level, node) -/
def f_setAt (t : TS) (lv x : Nat) : TS := if lv = 0 then setRn t x else if t.lf (t.pa (lv - 1)) = t.pa lv then setLf t (t.pa (lv - 1)) x else setRt t (t.pa (lv - 1)) x
/-- halve(from, to, levels): the top, the tree -/
def f_halve : Nat → TS → Nat → Nat → Nat × TS
  | 0, t, _, _ => (0, t)
  | n + 1, t, a, b => if b ≤ a then (0, t) else
    let x := t.ro (a + (b - a) / 2)
    let l := f_halve n t a (a + (b - a) / 2)
    let r := f_halve n (setLf l.2 x l.1) (a + (b - a) / 2 + 1) b
    (x, f_refresh (setRt r.2 x r.1) x)
def ro_go (t : TS) (top : Nat) : Nat → Nat → (Nat → Nat) → Nat → Nat
  | 0, _, ro => ro
  | n + 1, i, ro => ro_go t top n (i + 1) (va_up ro i (f_nodeAt t top (nI i)))
/-- rebuild(top), c its count -/
def f_rebuild (t : TS) (top c : Nat) : Nat × TS := f_halve 60 (setRo t (ro_go t top c 0 t.ro)) 0 c
/-- ByRebuilding.highest(count) -/
def hi_go : Nat → Nat → Int64 → Int64 → Nat
  | 0, h, _, _ => h
  | n + 1, h, w, b => if b < w then h else hi_go n (h + 1) (w * 3) (b * 2)
def f_highest (c : Int32) : Nat := hi_go 30 0 1 c.toInt64
/-- ByPriorities.priority(key) -/
def prio (key : Int32) : Int32 :=
  let a : Int32 := key * (-1640531535)
  let b : Int32 := (a ^^^ (a.toUInt32 >>> ((15 : Int32).toUInt32 &&& Int32.toUInt32 31)).toInt32) * (-2048144789)
  b ^^^ (b.toUInt32 >>> ((13 : Int32).toUInt32 &&& Int32.toUInt32 31)).toInt32
def pf_l (t : TS) (x : Nat) : Nat := if t.lf x = 0 then x else if prio (t.ky (t.lf x)) ≤ prio (t.ky x) then x else t.lf x
/-- ByPriorities.preferred(node) -/
def f_preferred (t : TS) (x : Nat) : Nat := if t.rt x = 0 then pf_l t x else if prio (t.ky (t.rt x)) ≤ prio (t.ky (pf_l t x)) then pf_l t x else t.rt x
/-- ByPriorities.sink(node, levels) -/
def f_sink : Nat → TS → Nat → Nat × TS
  | 0, t, x => (x, t)
  | n + 1, t, x => if f_preferred t x = x then (x, t) else
    if f_preferred t x = t.lf x then
      (f_preferred t x, f_refresh (setRt (f_sink n (f_raiseLeft t x) x).2 (f_preferred t x) (f_sink n (f_raiseLeft t x) x).1) (f_preferred t x))
    else
      (f_preferred t x, f_refresh (setLf (f_sink n (f_raiseRight t x) x).2 (f_preferred t x) (f_sink n (f_raiseRight t x) x).1) (f_preferred t x))
/-- isTooMuch of kinds 0 and 1, hasToPart -/
def f_too (w : Bool) (t : TS) (x y : Nat) : Bool := if w = true then (if t.ct x + 1 ≤ 3 * (t.ct y + 1) then false else true) else (if t.ht x ≤ t.ht y + 1 then false else true)
def f_part (w : Bool) (t : TS) (x y : Nat) : Bool := if w = true then (if t.ct x + 1 < 2 * (t.ct y + 1) then false else true) else (if t.ht x ≤ t.ht y then false else true)
def f_settle2 (w : Bool) (t : TS) (x : Nat) : Nat × TS :=
  if f_too w t (t.lf x) (t.rt x) = true then
    let t1 := if f_part w t (t.rt (t.lf x)) (t.lf (t.lf x)) = true then setLf (f_raiseRight t (t.lf x)) x (t.rt (t.lf x)) else t
    (t1.lf x, f_raiseLeft t1 x)
  else if f_too w t (t.rt x) (t.lf x) = true then
    let t1 := if f_part w t (t.lf (t.rt x)) (t.rt (t.rt x)) = true then setRt (f_raiseLeft t (t.rt x)) x (t.lf (t.rt x)) else t
    (t1.rt x, f_raiseRight t1 x)
  else (x, t)
/-- settle, by kind: 0 heights, 1 weights, 2 priorities, 3 rebuilding (c: the count as a number) -/
def f_suits3 (t : TS) (x : Nat) : Bool := if nI (f_highest (t.ct x)) < t.ht x then false else true
def f_settle (t : TS) (x : Nat) : Nat × TS :=
  if t.kd = 0 then f_settle2 false t x else if t.kd = 1 then f_settle2 true t x else if t.kd = 2 then f_sink 60 t x else if f_suits3 t x = true then (x, t) else f_rebuild t x (t.ct x).toNatClampNeg
/-- climb(): n levels are left -/
def f_climb : Nat → TS → TS
  | 0, t => t
  | n + 1, t => f_climb n (f_setAt (f_settle (f_refresh t (t.pa n)) ((f_refresh t (t.pa n)).pa n)).2 n (f_settle (f_refresh t (t.pa n)) ((f_refresh t (t.pa n)).pa n)).1)
/-- what climb() asks, level by level: where the tree is rebuilt its count is a count -/
def okClimb : Nat → TS → Prop
  | 0, _ => True
  | n + 1, t => (∃ c, c ≤ 60 ∧ (f_refresh t (t.pa n)).ct (t.pa n) = nI c) ∧ okClimb n (f_setAt (f_settle (f_refresh t (t.pa n)) ((f_refresh t (t.pa n)).pa n)).2 n (f_settle (f_refresh t (t.pa n)) ((f_refresh t (t.pa n)).pa n)).1)
/-- suits, by kind -/
def f_suits (t : TS) (x : Nat) : Bool :=
  if t.kd = 0 then (if f_too false t (t.lf x) (t.rt x) = true then false else if f_too false t (t.rt x) (t.lf x) = true then false else true)
  else if t.kd = 1 then (if f_too true t (t.lf x) (t.rt x) = true then false else if f_too true t (t.rt x) (t.lf x) = true then false else true)
  else if t.kd = 2 then (if f_preferred t x = x then true else false) else f_suits3 t x
/-- hang(key) -/
def f_hang (t : TS) (key : Int32) : TS :=
  let x := t.sp (t.ss - 1)
  let ky := upd t.ky x key
  let lf := va_up t.lf x 0
  let rt := va_up t.rt x 0
  let dpn := t.dp - 1
  if t.dp = 0 then (ky, t.vl, lf, rt, t.ct, t.ht, t.to, t.sp, va_up t.pa t.dp x, t.ro, t.ss - 1, t.dp + 1, x, t.od, t.kd)
  else if gB t.od key (ky (t.pa dpn)) = true then (ky, t.vl, va_up lf (t.pa dpn) x, rt, t.ct, t.ht, t.to, t.sp, va_up t.pa t.dp x, t.ro, t.ss - 1, t.dp + 1, t.rn, t.od, t.kd)
  else (ky, t.vl, lf, va_up rt (t.pa dpn) x, t.ct, t.ht, t.to, t.sp, va_up t.pa t.dp x, t.ro, t.ss - 1, t.dp + 1, t.rn, t.od, t.kd)
/-- assign(key, value): is it new, the tree -/
def f_assign (t : TS) (key v : Int32) : Bool × TS :=
  let r := f_trace t key
  if r.1 = 0 ∧ 0 < r.2.ss then
    let t1 := f_hang r.2 key
    (true, f_climb t1.dp (setVl t1 (r.2.sp (r.2.ss - 1)) v))
  else if r.1 = 0 then (false, r.2) else (false, f_climb r.2.dp (setVl r.2 r.1 v))
/-- takeFollower's walk -/
def tf_go (lf : Nat → Nat) : Nat → Nat → Nat → (Nat → Nat) → Nat × (Nat → Nat)
  | 0, _, dp, pa => (dp, pa)
  | n + 1, x, dp, pa => if x = 0 then (dp, pa) else tf_go lf n (lf x) (dp + 1) (va_up pa dp x)
def f_takeFollower (t : TS) (x : Nat) : TS :=
  let r := tf_go t.lf (60 - t.dp) (t.rt x) t.dp t.pa
  setKV (setPa t r.2 r.1) x (r.2 (r.1 - 1))
/-- the cut of the last node of the path, at delete -/
def f_cut (t : TS) : TS :=
  let g := t.pa (t.dp - 1)
  let t1 := f_setAt (setPa t t.pa (t.dp - 1)) (t.dp - 1) (if t.lf g ≠ 0 then t.lf g else t.rt g)
  (t1.ky, t1.vl, t1.lf, t1.rt, t1.ct, t1.ht, t1.to, va_up t1.sp t1.ss g, t1.pa, t1.ro, t1.ss + 1, t1.dp, t1.rn, t1.od, t1.kd)
def f_delete (t : TS) (key : Int32) : Bool × TS :=
  let r := f_trace t key
  if r.1 = 0 then (false, r.2) else
    let t1 := if r.2.lf r.1 ≠ 0 ∧ r.2.rt r.1 ≠ 0 then f_takeFollower r.2 r.1 else r.2
    let t2 := f_cut t1
    (true, f_climb t2.dp t2)
/-- clear(kind, order) -/
def sp_go : Nat → Nat → (Nat → Nat) → Nat → Nat
  | 0, _, sp => sp
  | n + 1, i, sp => sp_go n (i + 1) (va_up sp i (60 - i))
def f_clear (t : TS) (kd : Nat) (od : Int32) : TS := (t.ky, t.vl, t.lf, t.rt, t.ct, t.ht, t.to, sp_go 60 0 t.sp, t.pa, t.ro, 60, 0, 0, od, kd)
/-- the numbers of nodes are numbers of nodes -/
def WF (t : TS) : Prop := (∀ k, t.lf k ≤ 60) ∧ (∀ k, t.rt k ≤ 60) ∧ (∀ k, t.sp k ≤ 60) ∧ (∀ k, t.pa k ≤ 60) ∧ (∀ k, t.ro k ≤ 60) ∧ t.rn ≤ 60 ∧ t.kd < 4
/-- a tree's cells; a k: its addresses (0 the tree, 1 to 10 its rows), kq k: the kinds' addresses -/
def wT (ca : Nat → ClassId) (kq a : Nat → Nat) (t : TS) : va_W := [(a 0, .inr (6, [.ref (a 1), .ref (a 2), .ref (a 3), .ref (a 4), .ref (a 5), .ref (a 6), .ref (a 7), .ref (a 8), .ref (a 9), .ref (a 10), .int (nI t.ss), .int (nI t.dp), .int (nI t.rn), .int t.od, .ref (kq t.kd)])), (a 1, .inl (ca 0, 61, .inl t.ky)), (a 2, .inl (ca 0, 61, .inl t.vl)), (a 3, .inl (ca 0, 61, .inl (fun k => nI (t.lf k)))), (a 4, .inl (ca 0, 61, .inl (fun k => nI (t.rt k)))), (a 5, .inl (ca 0, 61, .inl t.ct)), (a 6, .inl (ca 0, 61, .inl t.ht)), (a 7, .inl (ca 1, 61, .inr (.inl t.to))), (a 8, .inl (ca 0, 60, .inl (fun k => nI (t.sp k)))), (a 9, .inl (ca 0, 61, .inl (fun k => nI (t.pa k)))), (a 10, .inl (ca 0, 60, .inl (fun k => nI (t.ro k))))]
/-- the four kinds: 0 ByHeights, 1 ByWeights, 2 ByPriorities, 3 ByRebuilding -/
def wKd (kq : Nat → Nat) : va_W := [(kq 0, .inr (0, [])), (kq 1, .inr (3, [])), (kq 2, .inr (1, [])), (kq 3, .inr (2, []))]
/-- the array classes: of int, long, boolean, Kind, OneMap -/
abbrev TY (ca : Nat → ClassId) : List (ClassId × FieldType) := [(ca 0, .int), (ca 1, .long), (ca 2, .boolean), (ca 3, .object "TreeFamily$Kind"), (ca 4, .object "TreeFamily$OneMap")]
