/-! A MAP: its tree, its range (hasFirst, hasSecond, first, second), its walk (isOn, isBack, hasGiven, known, start, end, place), CHANGES -/
abbrev RS : Type := Bool × Bool × Int32 × Int32
abbrev KS : Type := Bool × Bool × Bool × Int32 × Int32 × Int32 × Int32
abbrev MS : Type := TS × RS × KS × Int32
def wRg (a : Nat → Nat) (r : RS) : va_W := [(a 12, .inr (5, [.int (bI r.1), .int (bI r.2.1), .int r.2.2.1, .int r.2.2.2]))]
def wWk (a : Nat → Nat) (w : KS) : va_W := [(a 13, .inr (7, [.int (bI w.1), .int (bI w.2.1), .int (bI w.2.2.1), .int w.2.2.2.1, .int w.2.2.2.2.1, .int w.2.2.2.2.2.1, .int w.2.2.2.2.2.2]))]
def wMo (a : Nat → Nat) (ch : Int32) : va_W := [(a 11, .inr (4, [.ref (a 0), .ref (a 12), .ref (a 13), .int ch]))]
/-- a map with the kinds -/
def wM (ca : Nat → ClassId) (kq a : Nat → Nat) (m : MS) : va_W := (wKd kq) ++ (wMo a m.2.2.2) ++ (wRg a m.2.1) ++ (wWk a m.2.2.1) ++ (wT ca kq a m.1)
theorem bI_fit (b : Bool) : fits .boolean (.int (bI b)) = true := by cases b <;> rfl
/-- Range.holds -/
def f_holds (r : RS) (od key : Int32) : Bool := !(r.1 && gB od key r.2.2.1) && !(r.2.1 && !gB od key r.2.2.2)
def f_start (r : RS) (t : TS) : Int32 := if r.1 = true then f_countBefore t r.2.2.1 else 0
def f_end (r : RS) (t : TS) : Int32 := if r.2.1 = true then f_countBefore t r.2.2.2 else t.ct t.rn
/-- Walk -/
def f_begin (w : KS) (st en : Int32) (b : Bool) : KS := (true, b, false, w.2.2.2.1, st, en, if b = true then en else st)
def f_ahead (w : KS) : Int32 := if w.2.1 = true then (if w.2.2.2.2.2.2 ≤ w.2.2.2.2.1 then -1 else w.2.2.2.2.2.2 - 1) else (if w.2.2.2.2.2.1 ≤ w.2.2.2.2.2.2 then -1 else w.2.2.2.2.2.2)
def f_step (w : KS) : KS := (w.1, w.2.1, true, w.2.2.2.1, w.2.2.2.2.1, w.2.2.2.2.2.1, w.2.2.2.2.2.2 + (if w.2.1 = true then -1 else 1))
def f_latest (w : KS) : Int32 := if w.2.1 = true then w.2.2.2.2.2.2 else w.2.2.2.2.2.2 - 1
def f_forget (w : KS) : KS := if w.2.1 = true then (w.1, w.2.1, false, w.2.2.2.1, w.2.2.2.2.1, w.2.2.2.2.2.1, w.2.2.2.2.2.2) else (w.1, w.2.1, false, w.2.2.2.1, w.2.2.2.2.1, w.2.2.2.2.2.1 - 1, w.2.2.2.2.2.2 - 1)
theorem start_1 {r : RS} {t : TS} (h : r.1 = true) : f_start r t = f_countBefore t r.2.2.1 := by unfold f_start; exact if_pos h
theorem start_0 {r : RS} {t : TS} (h : r.1 = false) : f_start r t = 0 := by unfold f_start; rw [h]; exact if_neg (by decide)
theorem end_1 {r : RS} {t : TS} (h : r.2.1 = true) : f_end r t = f_countBefore t r.2.2.2 := by unfold f_end; exact if_pos h
theorem end_0 {r : RS} {t : TS} (h : r.2.1 = false) : f_end r t = t.ct t.rn := by unfold f_end; rw [h]; exact if_neg (by decide)
/-- OneMap -/
def f_countUpTo (t : TS) (key : Int32) : Int32 := f_countBefore t key + (if (f_trace t key).1 = 0 then 0 else 1)
def f_narrow (how f s : Int32) : RS := (if how &&& 1 = 0 then false else true, if how &&& 2 = 0 then false else true, f, s)
def f_eor (r : RS) (t : TS) (b : Bool) : Int32 := if f_start r t < f_end r t then (if b = true then f_end r t - 1 else f_start r t) else -1
def f_startWalk (w : KS) (st en : Int32) (b : Bool) (ch : Int32) : KS := (true, b, false, ch, st, en, if b = true then en else st)
def f_canWalk (w : KS) (ch : Int32) : Bool := if w.1 = true then (if w.2.2.2.1 = ch then true else false) else false
def f_canDrop (w : KS) (ch : Int32) : Bool := if f_canWalk w ch = true then w.2.2.1 else false
/-- what assign asks of a tree -/
def okA (t : TS) (key v : Int32) : Prop := t.ss ≤ 60 ∧ okAssign t key v ∧ (0 < t.ss → ¬ t.sp (t.ss - 1) = 0)
/-- the tree at store, where it is full -/
def st_t (t : TS) (key : Int32) : TS := if t.ct t.rn < 60 then t else (f_trace t key).2
def setKn (w : KS) (k : Int32) : KS := (w.1, w.2.1, w.2.2.1, k, w.2.2.2.2.1, w.2.2.2.2.2.1, w.2.2.2.2.2.2)
theorem st_t1 {t : TS} {key : Int32} (h : t.ct t.rn < 60) : st_t t key = t := by unfold st_t; exact if_pos h
theorem st_t0 {t : TS} {key : Int32} (h : ¬ t.ct t.rn < 60) : st_t t key = (f_trace t key).2 := by unfold st_t; exact if_neg h
