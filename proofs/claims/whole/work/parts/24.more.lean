theorem lgc_0 {x y : Int64} : lg_cmp x y = 0 ↔ x = y := by
  unfold lg_cmp
  by_cases h1 : y < x
  · rw [if_pos h1]
    exact ⟨fun h => absurd h (by decide), fun h => absurd h1 (by rw [h]; exact Int64.lt_irrefl)⟩
  · rw [if_neg h1]
    by_cases h2 : x = y
    · rw [if_pos h2]; exact ⟨fun _ => h2, fun _ => rfl⟩
    · rw [if_neg h2]; exact ⟨fun h => absurd h (by decide), fun h => absurd h h2⟩
theorem lgc_gt {x y : Int64} : 0 < lg_cmp x y ↔ y < x := by
  unfold lg_cmp
  by_cases h1 : y < x
  · rw [if_pos h1]; exact ⟨fun _ => h1, fun _ => by decide⟩
  · rw [if_neg h1]
    by_cases h2 : x = y
    · rw [if_pos h2]; exact ⟨fun h => absurd h (by decide), fun h => absurd h h1⟩
    · rw [if_neg h2]; exact ⟨fun h => absurd h (by decide), fun h => absurd h h1⟩
/-- addsUp(node) -/
def f_addsUp (t : TS) (x : Nat) : Bool := if t.ct x = t.ct (t.lf x) + t.ct (t.rt x) + 1 then (if t.to x = t.to (t.lf x) + t.to (t.rt x) + (t.vl x).toInt64 then (if t.ht x = mx (t.ht (t.lf x)) (t.ht (t.rt x)) + 1 then true else false) else false) else false
theorem nago_congr {t u : TS} (h1 : t.lf = u.lf) (h2 : t.rt = u.rt) (h3 : t.ct = u.ct) : ∀ (n x : Nat) (i : Int32), na_go t n x i = na_go u n x i := by
  intro n
  induction n with
  | zero => intro x i; rfl
  | succ n ih =>
    intro x i
    rw [na_go, na_go, h1, h2, h3]
    split
    · rfl
    · split
      · rfl
      · split
        · exact ih _ _
        · exact ih _ _
theorem nodeAt_congr {t u : TS} (h1 : t.lf = u.lf) (h2 : t.rt = u.rt) (h3 : t.ct = u.ct) (x : Nat) (i : Int32) : f_nodeAt t x i = f_nodeAt u x i := by
  unfold f_nodeAt
  rw [nago_congr h1 h2 h3, h3]
theorem too_h (t : TS) (x y : Nat) : f_too false t x y = if t.ht x ≤ t.ht y + 1 then false else true := rfl
theorem too_w (t : TS) (x y : Nat) : f_too true t x y = if t.ct x + 1 ≤ 3 * (t.ct y + 1) then false else true := rfl
theorem part_h (t : TS) (x y : Nat) : f_part false t x y = if t.ht x ≤ t.ht y then false else true := rfl
theorem part_w (t : TS) (x y : Nat) : f_part true t x y = if t.ct x + 1 < 2 * (t.ct y + 1) then false else true := rfl
theorem bI_of {b c : Bool} {r : Int32} (h : b = c) (hr : r = bI c) : r = bI b := by rw [h]; exact hr
