theorem lgc_0 {x y : Int64} : lg_cmp x y = 0 ↔ x = y := by
  unfold lg_cmp
  by_cases h1 : y < x
  · rw [if_pos h1]
    exact ⟨fun h => absurd h (by decide), fun h => absurd h1 (by rw [h]; exact Int64.lt_irrefl)⟩
  · rw [if_neg h1]
    by_cases h2 : x = y
    · rw [if_pos h2]; exact ⟨fun _ => h2, fun _ => rfl⟩
    · rw [if_neg h2]; exact ⟨fun h => absurd h (by decide), fun h => absurd h h2⟩
theorem lgc_gt {x y : Int64} : 0 < lg_cmp x y ↔ y < x := by
  unfold lg_cmp
  by_cases h1 : y < x
  · rw [if_pos h1]; exact ⟨fun _ => h1, fun _ => by decide⟩
  · rw [if_neg h1]
    by_cases h2 : x = y
    · rw [if_pos h2]; exact ⟨fun h => absurd h (by decide), fun h => absurd h h1⟩
    · rw [if_neg h2]; exact ⟨fun h => absurd h (by decide), fun h => absurd h h1⟩
/-- addsUp(node) -/
def f_addsUp (t : TS) (x : Nat) : Bool := if t.ct x = t.ct (t.lf x) + t.ct (t.rt x) + 1 then (if t.to x = t.to (t.lf x) + t.to (t.rt x) + (t.vl x).toInt64 then (if t.ht x = mx (t.ht (t.lf x)) (t.ht (t.rt x)) + 1 then true else false) else false) else false
theorem nago_congr {t u : TS} (h1 : t.lf = u.lf) (h2 : t.rt = u.rt) (h3 : t.ct = u.ct) : ∀ (n x : Nat) (i : Int32), na_go t n x i = na_go u n x i := by
  intro n
  induction n with
  | zero => intro x i; rfl
  | succ n ih =>
    intro x i
    rw [na_go, na_go, h1, h2, h3]
    split
    · rfl
    · split
      · rfl
      · split
        · exact ih _ _
        · exact ih _ _
theorem nodeAt_congr {t u : TS} (h1 : t.lf = u.lf) (h2 : t.rt = u.rt) (h3 : t.ct = u.ct) (x : Nat) (i : Int32) : f_nodeAt t x i = f_nodeAt u x i := by
  unfold f_nodeAt
  rw [nago_congr h1 h2 h3, h3]
theorem too_h (t : TS) (x y : Nat) : f_too false t x y = if t.ht x ≤ t.ht y + 1 then false else true := rfl
theorem too_w (t : TS) (x y : Nat) : f_too true t x y = if t.ct x + 1 ≤ 3 * (t.ct y + 1) then false else true := rfl
theorem part_h (t : TS) (x y : Nat) : f_part false t x y = if t.ht x ≤ t.ht y then false else true := rfl
theorem part_w (t : TS) (x y : Nat) : f_part true t x y = if t.ct x + 1 < 2 * (t.ct y + 1) then false else true := rfl
theorem bI_of {b c : Bool} {r : Int32} (h : b = c) (hr : r = bI c) : r = bI b := by rw [h]; exact hr
theorem hang_dp (t : TS) (key : Int32) : (f_hang t key).dp = t.dp + 1 := by
  unfold f_hang
  dsimp only
  split
  · rfl
  · split <;> rfl
theorem setAt_ss (t : TS) (lv x : Nat) : (f_setAt t lv x).ss = t.ss := by
  unfold f_setAt
  split
  · rfl
  · split <;> rfl
theorem setAt_dp (t : TS) (lv x : Nat) : (f_setAt t lv x).dp = t.dp := by
  unfold f_setAt
  split
  · rfl
  · split <;> rfl
def okAssign (t : TS) (key v : Int32) : Prop := ((f_trace t key).1 = 0 → 0 < (f_trace t key).2.ss → okClimb (f_hang (f_trace t key).2 key).dp (setVl (f_hang (f_trace t key).2 key) ((f_trace t key).2.sp ((f_trace t key).2.ss - 1)) v)) ∧ ((f_trace t key).1 ≠ 0 → okClimb (f_trace t key).2.dp (setVl (f_trace t key).2 (f_trace t key).1 v))
theorem assign_new {t : TS} {key v : Int32} (h : (f_trace t key).1 = 0) (hs : 0 < (f_trace t key).2.ss) : f_assign t key v = (true, f_climb (f_hang (f_trace t key).2 key).dp (setVl (f_hang (f_trace t key).2 key) ((f_trace t key).2.sp ((f_trace t key).2.ss - 1)) v)) := by
  unfold f_assign
  exact if_pos ⟨h, hs⟩
theorem assign_full {t : TS} {key v : Int32} (h : (f_trace t key).1 = 0) (hs : ¬ 0 < (f_trace t key).2.ss) : f_assign t key v = (false, (f_trace t key).2) := by
  unfold f_assign
  exact (if_neg (fun q => hs q.2)).trans (if_pos h)
theorem assign_old {t : TS} {key v : Int32} (h : ¬ (f_trace t key).1 = 0) : f_assign t key v = (false, f_climb (f_trace t key).2.dp (setVl (f_trace t key).2 (f_trace t key).1 v)) := by
  unfold f_assign
  exact (if_neg (fun q => h q.1)).trans (if_neg h)
/-- the tree at delete, its follower taken -/
def del_t1 (t : TS) (key : Int32) : TS := if (f_trace t key).2.lf (f_trace t key).1 ≠ 0 ∧ (f_trace t key).2.rt (f_trace t key).1 ≠ 0 then f_takeFollower (f_trace t key).2 (f_trace t key).1 else (f_trace t key).2
def okDelete (t : TS) (key : Int32) : Prop := (f_trace t key).1 ≠ 0 → t.ss < 60 ∧ okClimb (f_cut (del_t1 t key)).dp (f_cut (del_t1 t key))
theorem delete_none {t : TS} {key : Int32} (h : (f_trace t key).1 = 0) : f_delete t key = (false, (f_trace t key).2) := by
  unfold f_delete
  exact if_pos h
theorem delete_some {t : TS} {key : Int32} (h : ¬ (f_trace t key).1 = 0) : f_delete t key = (true, f_climb (f_cut (del_t1 t key)).dp (f_cut (del_t1 t key))) := by
  unfold f_delete
  exact if_neg h
/-- isSound(), c the count -/
def so_go (t : TS) (c : Nat) : Nat → Nat → Bool
  | 0, _ => if nI c + nI t.ss = 60 then true else false
  | n + 1, i => if f_nodeAt t t.rn (nI i) = 0 then false else if f_addsUp t (f_nodeAt t t.rn (nI i)) = false then false else if f_suits t (f_nodeAt t t.rn (nI i)) = false then false else if 0 < i ∧ gB t.od (t.ky (f_nodeAt t t.rn (nI (i - 1)))) (t.ky (f_nodeAt t t.rn (nI i))) = false then false else so_go t c n (i + 1)
def f_isSound (t : TS) (c : Nat) : Bool := so_go t c c 0
theorem settle_0 {t : TS} {x : Nat} (h : t.kd = 0) : f_settle t x = f_settle2 false t x := by unfold f_settle; rw [if_pos h]
theorem settle_1 {t : TS} {x : Nat} (h : t.kd = 1) : f_settle t x = f_settle2 true t x := by unfold f_settle; rw [if_neg (by omega), if_pos h]
theorem settle_2 {t : TS} {x : Nat} (h : t.kd = 2) : f_settle t x = f_sink 60 t x := by unfold f_settle; rw [if_neg (by omega), if_neg (by omega), if_pos h]
theorem settle_3 {t : TS} {x c : Nat} (h : t.kd = 3) (hc : t.ct x = nI c) (hc60 : c ≤ 60) : f_settle t x = if f_suits3 t x = true then (x, t) else f_rebuild t x c := by
  unfold f_settle
  rw [if_neg (by omega), if_neg (by omega), if_neg (by omega), hc, nI_clamp (by omega)]
theorem climb_succ (n : Nat) (t : TS) : f_climb (n + 1) t = f_climb n (f_setAt (f_settle (f_refresh t (t.pa n)) ((f_refresh t (t.pa n)).pa n)).2 n (f_settle (f_refresh t (t.pa n)) ((f_refresh t (t.pa n)).pa n)).1) := by rw [f_climb]
theorem suits_0 {t : TS} {x : Nat} (h : t.kd = 0) : f_suits t x = (if f_too false t (t.lf x) (t.rt x) = true then false else if f_too false t (t.rt x) (t.lf x) = true then false else true) := by unfold f_suits; rw [if_pos h]
theorem suits_1 {t : TS} {x : Nat} (h : t.kd = 1) : f_suits t x = (if f_too true t (t.lf x) (t.rt x) = true then false else if f_too true t (t.rt x) (t.lf x) = true then false else true) := by unfold f_suits; rw [if_neg (by omega), if_pos h]
theorem suits_2 {t : TS} {x : Nat} (h : t.kd = 2) : f_suits t x = (if f_preferred t x = x then true else false) := by unfold f_suits; rw [if_neg (by omega), if_neg (by omega), if_pos h]
theorem suits_3 {t : TS} {x : Nat} (h : t.kd = 3) : f_suits t x = f_suits3 t x := by unfold f_suits; rw [if_neg (by omega), if_neg (by omega), if_neg (by omega)]
