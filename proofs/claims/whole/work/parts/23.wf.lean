/-! node numbers stay node numbers -/
theorem wf_refresh {t : TS} (h : WF t) (x : Nat) : WF (f_refresh t x) := h
theorem wf_setLf {t : TS} (h : WF t) {x y : Nat} (hy : y ≤ 60) : WF (setLf t x y) := ⟨vu_le h.1 hy, h.2⟩
theorem wf_setRt {t : TS} (h : WF t) {x y : Nat} (hy : y ≤ 60) : WF (setRt t x y) := ⟨h.1, vu_le h.2.1 hy, h.2.2⟩
theorem wf_setPa {t : TS} (h : WF t) {pa : Nat → Nat} {d : Nat} (hp : ∀ k, pa k ≤ 60) : WF (setPa t pa d) := ⟨h.1, h.2.1, h.2.2.1, hp, h.2.2.2.2⟩
theorem wf_setRo {t : TS} (h : WF t) {ro : Nat → Nat} (hp : ∀ k, ro k ≤ 60) : WF (setRo t ro) := ⟨h.1, h.2.1, h.2.2.1, h.2.2.2.1, hp, h.2.2.2.2.2⟩
theorem wf_setRn {t : TS} (h : WF t) {x : Nat} (hx : x ≤ 60) : WF (setRn t x) := ⟨h.1, h.2.1, h.2.2.1, h.2.2.2.1, h.2.2.2.2.1, hx, h.2.2.2.2.2.2⟩
theorem wf_setVl {t : TS} (h : WF t) {x : Nat} {v : Int32} : WF (setVl t x v) := h
theorem wf_setKV {t : TS} (h : WF t) {x y : Nat} : WF (setKV t x y) := h
theorem wf_raiseLeft {t : TS} (h : WF t) {x : Nat} (hx : x ≤ 60) : WF (f_raiseLeft t x) := wf_refresh (wf_refresh (wf_setRt (wf_setLf h (h.2.1 _)) hx) _) _
theorem wf_raiseRight {t : TS} (h : WF t) {x : Nat} (hx : x ≤ 60) : WF (f_raiseRight t x) := wf_refresh (wf_refresh (wf_setLf (wf_setRt h (h.1 _)) hx) _) _
theorem wf_setAt {t : TS} (h : WF t) {lv x : Nat} (hx : x ≤ 60) : WF (f_setAt t lv x) := by
  unfold f_setAt
  split
  · exact wf_setRn h hx
  · split
    · exact wf_setLf h hx
    · exact wf_setRt h hx
theorem wf_trgo {t : TS} (h : WF t) (key : Int32) : ∀ (n x d : Nat) (q : Nat → Nat), x ≤ 60 → (∀ k, q k ≤ 60) → (tr_go t.ky t.lf t.rt t.od key n x d q).1 ≤ 60 ∧ ∀ k, (tr_go t.ky t.lf t.rt t.od key n x d q).2.2 k ≤ 60 := by
  intro n
  induction n with
  | zero => intro x d q hx hq; exact ⟨Nat.zero_le _, hq⟩
  | succ n ih =>
    intro x d q hx hq
    unfold tr_go
    split
    · exact ⟨Nat.zero_le _, hq⟩
    · split
      · exact ih _ _ _ (h.1 x) (vu_le hq hx)
      · split
        · exact ih _ _ _ (h.2.1 x) (vu_le hq hx)
        · exact ⟨hx, vu_le hq hx⟩
theorem wf_trace {t : TS} (h : WF t) (key : Int32) : (f_trace t key).1 ≤ 60 ∧ WF (f_trace t key).2 :=
  ⟨(wf_trgo h key 60 t.rn 0 t.pa h.2.2.2.2.2.1 h.2.2.2.1).1, wf_setPa h (wf_trgo h key 60 t.rn 0 t.pa h.2.2.2.2.2.1 h.2.2.2.1).2⟩
/-- how deep a trace comes -/
theorem trgo_dp (ky : Nat → Int32) (lf rt : Nat → Nat) (od key : Int32) : ∀ (n x d : Nat) (q : Nat → Nat), (tr_go ky lf rt od key n x d q).2.1 ≤ d + n ∧ d ≤ (tr_go ky lf rt od key n x d q).2.1 ∧ ((tr_go ky lf rt od key n x d q).1 ≠ 0 → d < (tr_go ky lf rt od key n x d q).2.1) := by
  intro n
  induction n with
  | zero => intro x d q; exact ⟨Nat.le_refl _, Nat.le_refl _, fun h => absurd rfl h⟩
  | succ n ih =>
    intro x d q
    unfold tr_go
    split
    · exact ⟨by show d ≤ _; omega, Nat.le_refl _, fun h => absurd rfl h⟩
    · split
      · obtain ⟨h1, h2, h3⟩ := ih (lf x) (d + 1) (va_up q d x)
        exact ⟨by omega, by omega, fun _ => by omega⟩
      · split
        · obtain ⟨h1, h2, h3⟩ := ih (rt x) (d + 1) (va_up q d x)
          exact ⟨by omega, by omega, fun _ => by omega⟩
        · exact ⟨by show d + 1 ≤ _; omega, by show d ≤ d + 1; omega, fun _ => by show d < d + 1; omega⟩
theorem trace_dp (t : TS) (key : Int32) : (f_trace t key).2.dp ≤ 60 ∧ ((f_trace t key).1 ≠ 0 → 0 < (f_trace t key).2.dp) := by
  have h := trgo_dp t.ky t.lf t.rt t.od key 60 t.rn 0 t.pa
  exact ⟨Nat.le_trans h.1 (by omega), h.2.2⟩
theorem wf_nago {t : TS} (h : WF t) : ∀ (n x : Nat) (i : Int32), x ≤ 60 → na_go t n x i ≤ 60 := by
  intro n
  induction n with
  | zero => intro x i hx; exact Nat.zero_le _
  | succ n ih =>
    intro x i hx
    unfold na_go
    split
    · exact Nat.zero_le _
    · split
      · exact hx
      · split
        · exact ih _ _ (h.2.1 x)
        · exact ih _ _ (h.1 x)
theorem wf_nodeAt {t : TS} (h : WF t) {x : Nat} (hx : x ≤ 60) (i : Int32) : f_nodeAt t x i ≤ 60 := by
  unfold f_nodeAt
  split
  · exact wf_nago h _ _ _ hx
  · exact Nat.zero_le _
theorem wf_rogo {t : TS} (h : WF t) {x : Nat} (hx : x ≤ 60) : ∀ (n i : Nat) (ro : Nat → Nat), (∀ k, ro k ≤ 60) → ∀ k, ro_go t x n i ro k ≤ 60 := by
  intro n
  induction n with
  | zero => intro i ro h0; exact h0
  | succ n ih => intro i ro h0; exact ih _ _ (vu_le h0 (wf_nodeAt h hx _))
theorem wf_halve : ∀ (n : Nat) {t : TS} (_ : WF t) (a b : Nat), (f_halve n t a b).1 ≤ 60 ∧ WF (f_halve n t a b).2 := by
  intro n
  induction n with
  | zero => intro t h a b; exact ⟨Nat.zero_le _, h⟩
  | succ n ih =>
    intro t h a b
    unfold f_halve
    split
    · exact ⟨Nat.zero_le _, h⟩
    · have h1 := ih h a (a + (b - a) / 2)
      have h2 := ih (wf_setLf (x := t.ro (a + (b - a) / 2)) h1.2 h1.1) (a + (b - a) / 2 + 1) b
      exact ⟨h.2.2.2.2.1 _, wf_refresh (wf_setRt h2.2 h2.1) _⟩
theorem wf_rebuild {t : TS} (h : WF t) {x : Nat} (hx : x ≤ 60) (c : Nat) : (f_rebuild t x c).1 ≤ 60 ∧ WF (f_rebuild t x c).2 := wf_halve 60 (wf_setRo h (wf_rogo h hx c 0 t.ro h.2.2.2.2.1)) 0 c
theorem wf_preferred {t : TS} (h : WF t) {x : Nat} (hx : x ≤ 60) : f_preferred t x ≤ 60 := by
  have h1 : pf_l t x ≤ 60 := by
    unfold pf_l
    split
    · exact hx
    · split
      · exact hx
      · exact h.1 x
  unfold f_preferred
  split
  · exact h1
  · split
    · exact h1
    · exact h.2.1 x
theorem wf_sink : ∀ (n : Nat) {t : TS} (_ : WF t) {x : Nat} (_ : x ≤ 60), (f_sink n t x).1 ≤ 60 ∧ WF (f_sink n t x).2 := by
  intro n
  induction n with
  | zero => intro t h x hx; exact ⟨hx, h⟩
  | succ n ih =>
    intro t h x hx
    unfold f_sink
    split
    · exact ⟨hx, h⟩
    · split
      · have h1 := ih (wf_raiseLeft h hx) hx
        exact ⟨wf_preferred h hx, wf_refresh (wf_setRt h1.2 h1.1) _⟩
      · have h1 := ih (wf_raiseRight h hx) hx
        exact ⟨wf_preferred h hx, wf_refresh (wf_setLf h1.2 h1.1) _⟩
theorem wf_settle2 (w : Bool) {t : TS} (h : WF t) {x : Nat} (hx : x ≤ 60) : (f_settle2 w t x).1 ≤ 60 ∧ WF (f_settle2 w t x).2 := by
  unfold f_settle2
  split
  · by_cases hp : f_part w t (t.rt (t.lf x)) (t.lf (t.lf x)) = true
    · rw [if_pos hp]
      have h1 : WF (setLf (f_raiseRight t (t.lf x)) x (t.rt (t.lf x))) := wf_setLf (wf_raiseRight h (h.1 x)) (h.2.1 _)
      exact ⟨h1.1 x, wf_raiseLeft h1 hx⟩
    · rw [if_neg hp]
      exact ⟨h.1 x, wf_raiseLeft h hx⟩
  · split
    · by_cases hp : f_part w t (t.lf (t.rt x)) (t.rt (t.rt x)) = true
      · rw [if_pos hp]
        have h1 : WF (setRt (f_raiseLeft t (t.rt x)) x (t.lf (t.rt x))) := wf_setRt (wf_raiseLeft h (h.2.1 x)) (h.1 _)
        exact ⟨h1.2.1 x, wf_raiseRight h1 hx⟩
      · rw [if_neg hp]
        exact ⟨h.2.1 x, wf_raiseRight h hx⟩
    · exact ⟨hx, h⟩
theorem wf_settle {t : TS} (h : WF t) {x : Nat} (hx : x ≤ 60) : (f_settle t x).1 ≤ 60 ∧ WF (f_settle t x).2 := by
  unfold f_settle
  split
  · exact wf_settle2 _ h hx
  · split
    · exact wf_settle2 _ h hx
    · split
      · exact wf_sink _ h hx
      · split
        · exact ⟨hx, h⟩
        · exact wf_rebuild h hx _
theorem wf_climb : ∀ (n : Nat) {t : TS} (_ : WF t), WF (f_climb n t) := by
  intro n
  induction n with
  | zero => intro t h; exact h
  | succ n ih =>
    intro t h
    have h1 := wf_settle (wf_refresh h (t.pa n)) (h.2.2.2.1 n)
    exact ih (wf_setAt h1.2 h1.1)
theorem wf_hang {t : TS} (h : WF t) (key : Int32) : WF (f_hang t key) := by
  have hx := h.2.2.1 (t.ss - 1)
  have hl : ∀ k, va_up t.lf (t.sp (t.ss - 1)) 0 k ≤ 60 := vu_le h.1 (Nat.zero_le _)
  have hr : ∀ k, va_up t.rt (t.sp (t.ss - 1)) 0 k ≤ 60 := vu_le h.2.1 (Nat.zero_le _)
  have hp : ∀ k, va_up t.pa t.dp (t.sp (t.ss - 1)) k ≤ 60 := vu_le h.2.2.2.1 hx
  unfold f_hang
  dsimp only
  split
  · exact ⟨hl, hr, h.2.2.1, hp, h.2.2.2.2.1, hx, h.2.2.2.2.2.2⟩
  · split
    · exact ⟨vu_le hl hx, hr, h.2.2.1, hp, h.2.2.2.2⟩
    · exact ⟨hl, vu_le hr hx, h.2.2.1, hp, h.2.2.2.2⟩
theorem tfgo_b (lf : Nat → Nat) (hl : ∀ k, lf k ≤ 60) : ∀ (n x d : Nat) (q : Nat → Nat), x ≤ 60 → (∀ k, q k ≤ 60) → (tf_go lf n x d q).1 ≤ d + n ∧ d ≤ (tf_go lf n x d q).1 ∧ ∀ k, (tf_go lf n x d q).2 k ≤ 60 := by
  intro n
  induction n with
  | zero => intro x d q hx hq; exact ⟨Nat.le_refl _, Nat.le_refl _, hq⟩
  | succ n ih =>
    intro x d q hx hq
    unfold tf_go
    split
    · exact ⟨by show d ≤ _; omega, Nat.le_refl _, hq⟩
    · obtain ⟨h1, h2, h3⟩ := ih (lf x) (d + 1) (va_up q d x) (hl x) (vu_le hq hx)
      exact ⟨by omega, by omega, h3⟩
theorem wf_takeFollower {t : TS} (h : WF t) {x : Nat} : WF (f_takeFollower t x) := wf_setKV (wf_setPa h (tfgo_b t.lf h.1 (60 - t.dp) (t.rt x) t.dp t.pa (h.2.1 x) h.2.2.2.1).2.2)
theorem wf_cut {t : TS} (h : WF t) : WF (f_cut t) := by
  have hg := h.2.2.2.1 (t.dp - 1)
  have h1 : WF (f_setAt (setPa t t.pa (t.dp - 1)) (t.dp - 1) (if t.lf (t.pa (t.dp - 1)) ≠ 0 then t.lf (t.pa (t.dp - 1)) else t.rt (t.pa (t.dp - 1)))) := by
    refine wf_setAt (wf_setPa h h.2.2.2.1) ?_
    split
    · exact h.1 _
    · exact h.2.1 _
  exact ⟨h1.1, h1.2.1, vu_le h1.2.2.1 hg, h1.2.2.2⟩
theorem spgo_b : ∀ (n i : Nat) (q : Nat → Nat), (∀ k, q k ≤ 60) → ∀ k, sp_go n i q k ≤ 60 := by
  intro n
  induction n with
  | zero => intro i q h; exact h
  | succ n ih => intro i q h; exact ih _ _ (vu_le h (by omega))
theorem wf_clear {t : TS} (h : WF t) {kd : Nat} (hk : kd < 4) (od : Int32) : WF (f_clear t kd od) := ⟨h.1, h.2.1, spgo_b _ _ _ h.2.2.1, h.2.2.2.1, h.2.2.2.2.1, Nat.zero_le _, hk⟩
theorem wf_assign {t : TS} (h : WF t) (key v : Int32) : WF (f_assign t key v).2 := by
  have h1 := wf_trace h key
  unfold f_assign
  dsimp only
  split
  · exact wf_climb _ (wf_setVl (wf_hang h1.2 key))
  · split
    · exact h1.2
    · exact wf_climb _ (wf_setVl h1.2)
theorem wf_delete {t : TS} (h : WF t) (key : Int32) : WF (f_delete t key).2 := by
  have h1 := wf_trace h key
  unfold f_delete
  dsimp only
  split
  · exact h1.2
  · refine wf_climb _ (wf_cut ?_)
    split
    · exact wf_takeFollower h1.2
    · exact h1.2
