/-! TWO MAPS -/
abbrev M2 : Type := MS × MS
/-- two maps with the kinds -/
def wM2 (ca : Nat → ClassId) (kq a b : Nat → Nat) (m : M2) : va_W := (wKd kq) ++ (wMo a m.1.2.2.2) ++ (wRg a m.1.2.1) ++ (wWk a m.1.2.2.1) ++ (wT ca kq a m.1.1) ++ (wMo b m.2.2.2.2) ++ (wRg b m.2.2.1) ++ (wWk b m.2.2.2.1) ++ (wT ca kq b m.2.1)
def cm_go (t2 : TS) : Nat → Nat → TS → Nat → Nat × TS
  | 0, _, t, k => (k, t)
  | n + 1, i, t, k => cm_go t2 n (i + 1) (f_trace t (t2.ky (f_nodeAt t2 t2.rn (nI i)))).2 (if (f_trace t (t2.ky (f_nodeAt t2 t2.rn (nI i)))).1 = 0 then k + 1 else k)
def cma_go : Nat → Nat → TS → Nat → Nat × TS
  | 0, _, t, k => (k, t)
  | n + 1, i, t, k => cma_go n (i + 1) (f_trace t (t.ky (f_nodeAt t t.rn (nI i)))).2 (if (f_trace t (t.ky (f_nodeAt t t.rn (nI i)))).1 = 0 then k + 1 else k)
def un_val (t : TS) (m : Nat) (v : Int32) : Int32 := if m = 0 then v else 2 * t.vl m + v
def un_key (t2 : TS) (i : Nat) : Int32 := t2.ky (f_nodeAt t2 t2.rn (nI i))
def un_v (t t2 : TS) (i : Nat) : Int32 := un_val (f_trace t (un_key t2 i)).2 (f_trace t (un_key t2 i)).1 (t2.vl (f_nodeAt t2 t2.rn (nI i)))
def un_step (t t2 : TS) (i : Nat) : TS := (f_assign (f_trace t (un_key t2 i)).2 (un_key t2 i) (un_v t t2 i)).2
def un_go (t2 : TS) : Nat → Nat → TS → TS
  | 0, _, t => t
  | n + 1, i, t => un_go t2 n (i + 1) (un_step t t2 i)
def okUn (t2 : TS) : Nat → Nat → TS → Prop
  | 0, _, _ => True
  | n + 1, i, t => okA (f_trace t (un_key t2 i)).2 (un_key t2 i) (un_v t t2 i) ∧ okUn t2 n (i + 1) (un_step t t2 i)
def una_go : Nat → Nat → TS → TS
  | 0, _, t => t
  | n + 1, i, t => una_go n (i + 1) (un_step t t i)
def okUna : Nat → Nat → TS → Prop
  | 0, _, _ => True
  | n + 1, i, t => okA (f_trace t (un_key t i)).2 (un_key t i) (un_v t t i) ∧ okUna n (i + 1) (un_step t t i)
def in_key (t : TS) (n : Nat) : Int32 := t.ky (f_nodeAt t t.rn (nI n))
def in_v (t t2 : TS) (n : Nat) : Int32 := 2 * t.vl (f_nodeAt t t.rn (nI n)) + (f_trace t2 (in_key t n)).2.vl (f_trace t2 (in_key t n)).1
def in_step (t t2 : TS) (n : Nat) : TS := if (f_trace t2 (in_key t n)).1 = 0 then (f_delete t (in_key t n)).2 else (f_assign t (in_key t n) (in_v t t2 n)).2
def in_go : Nat → TS → TS → TS × TS
  | 0, t, t2 => (t, t2)
  | n + 1, t, t2 => in_go n (in_step t t2 n) (f_trace t2 (in_key t n)).2
def okIn : Nat → TS → TS → Prop
  | 0, _, _ => True
  | n + 1, t, t2 => ((f_trace t2 (in_key t n)).1 = 0 → okDelete t (in_key t n)) ∧ ((f_trace t2 (in_key t n)).1 ≠ 0 → okA t (in_key t n) (in_v t t2 n)) ∧ okIn n (in_step t t2 n) (f_trace t2 (in_key t n)).2
def ina_v (t : TS) (n : Nat) : Int32 := 2 * (f_trace t (in_key t n)).2.vl (f_nodeAt t t.rn (nI n)) + (f_trace t (in_key t n)).2.vl (f_trace t (in_key t n)).1
def ina_step (t : TS) (n : Nat) : TS := if (f_trace t (in_key t n)).1 = 0 then (f_delete (f_trace t (in_key t n)).2 (in_key t n)).2 else (f_assign (f_trace t (in_key t n)).2 (in_key t n) (ina_v t n)).2
def ina_go : Nat → TS → TS
  | 0, t => t
  | n + 1, t => ina_go n (ina_step t n)
def okIna : Nat → TS → Prop
  | 0, _ => True
  | n + 1, t => ((f_trace t (in_key t n)).1 = 0 → okDelete (f_trace t (in_key t n)).2 (in_key t n)) ∧ ((f_trace t (in_key t n)).1 ≠ 0 → okA (f_trace t (in_key t n)).2 (in_key t n) (ina_v t n)) ∧ okIna n (ina_step t n)
def su_step (t t2 : TS) (n : Nat) : TS := if (f_trace t2 (in_key t n)).1 = 0 then t else (f_delete t (in_key t n)).2
def su_go : Nat → TS → TS → TS × TS
  | 0, t, t2 => (t, t2)
  | n + 1, t, t2 => su_go n (su_step t t2 n) (f_trace t2 (in_key t n)).2
def okSu : Nat → TS → TS → Prop
  | 0, _, _ => True
  | n + 1, t, t2 => ((f_trace t2 (in_key t n)).1 ≠ 0 → okDelete t (in_key t n)) ∧ okSu n (su_step t t2 n) (f_trace t2 (in_key t n)).2
def sua_step (t : TS) (n : Nat) : TS := if (f_trace t (in_key t n)).1 = 0 then (f_trace t (in_key t n)).2 else (f_delete (f_trace t (in_key t n)).2 (in_key t n)).2
def sua_go : Nat → TS → TS
  | 0, t => t
  | n + 1, t => sua_go n (sua_step t n)
def okSua : Nat → TS → Prop
  | 0, _ => True
  | n + 1, t => ((f_trace t (in_key t n)).1 ≠ 0 → okDelete (f_trace t (in_key t n)).2 (in_key t n)) ∧ okSua n (sua_step t n)
/-- moveBehind: from place s + n - 1 down to s -/
def mv_step (t t2 : TS) (i : Nat) : TS × TS := ((f_delete t (in_key t i)).2, (f_assign t2 (in_key t i) (t.vl (f_nodeAt t t.rn (nI i)))).2)
def mv_go (s : Nat) : Nat → TS → TS → TS × TS
  | 0, t, t2 => (t, t2)
  | n + 1, t, t2 => mv_go s n (mv_step t t2 (s + n)).1 (mv_step t t2 (s + n)).2
def okMv (s : Nat) : Nat → TS → TS → Prop
  | 0, _, _ => True
  | n + 1, t, t2 => okA t2 (in_key t (s + n)) (t.vl (f_nodeAt t t.rn (nI (s + n)))) ∧ okDelete t (in_key t (s + n)) ∧ okMv s n (mv_step t t2 (s + n)).1 (mv_step t t2 (s + n)).2
theorem wf_cm (t2 : TS) {t : TS} (h : WF t) : ∀ (n i k : Nat), WF (cm_go t2 n i t k).2 := by
  intro n
  induction n generalizing t with
  | zero => intro i k; exact h
  | succ n ih => intro i k; exact ih (wf_trace h _).2 _ _
theorem wf_cma {t : TS} (h : WF t) : ∀ (n i k : Nat), WF (cma_go n i t k).2 := by
  intro n
  induction n generalizing t with
  | zero => intro i k; exact h
  | succ n ih => intro i k; exact ih (wf_trace h _).2 _ _
theorem nI_m1_lt {a : Nat} (h : a < 2147483648) : nI a + (-1) < nI a := by
  cases a with
  | zero => decide
  | succ k => rw [pk_m1]; exact (xn_lt (by omega) h).mpr (by omega)
