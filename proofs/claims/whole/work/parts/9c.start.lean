/-! the start: empty maps on both sides -/
theorem zT_wf : WF zT := ⟨fun _ => Nat.zero_le _, fun _ => Nat.zero_le _, fun _ => Nat.zero_le _, fun _ => Nat.zero_le _, fun _ => Nat.zero_le _, Nat.zero_le _, by decide⟩
theorem zT_zero : Zero zT := ⟨rfl, rfl, rfl⟩
theorem rel_0 (j : Nat) : Rel1 0 m0 (ab zQ j) := by
  refine ⟨⟨[], clear_ok zT_zero zT_wf (by decide) 0, rfl⟩, rfl, ⟨rfl, rfl, rfl, rfl⟩, ⟨Nat.zero_le _, fun h => absurd h (show ¬ (0 : Nat) = 3 by decide)⟩, rfl, ⟨0, 0, Nat.le_refl _, Nat.le_refl _, rfl, rfl⟩, ⟨rfl, rfl, rfl⟩, fun h => absurd h (show ¬ false = true by decide)⟩
theorem wq_0 : WQ zQ := ⟨fun _ => Nat.zero_le _, fun _ => Nat.zero_le _, fun _ => Nat.zero_le _, fun _ => Nat.zero_le _, fun _ h => absurd h (show ¬ (0 : Nat) = 3 by decide)⟩
/-- the reference's answer in the words of the family's -/
theorem po_gg {A : Type} {z x : A} {F : RW → A × Int32 × RW} {mm : Int32} {q u : QS} {j : Nat} (h : PO z F mm q x u) (hm : isB mm 3 = true → mm = nI j ∧ j < 3) : WQ u ∧ x = (GG z F mm (ab q j)).1 ∧ u.co = (GG z F mm (ab q j)).2.1 ∧ ab u = va_up (ab q) j (GG z F mm (ab q j)).2.2 := by
  obtain ⟨h1, h2, h3⟩ := h
  refine ⟨h1, ?_⟩
  cases e : isB mm 3 with
  | false =>
    rw [GG_bad e]
    obtain ⟨a1, a2, a3⟩ := h2 e
    exact ⟨a1, a2, by rw [a3]; exact (vup_self _ _).symm⟩
  | true =>
    rw [GG_ok e]
    obtain ⟨b1, b2⟩ := hm e
    exact h3 j b2 b1
theorem po2_gj {op mm nn x : Int32} {q u : QS} {j k : Nat} (h : PO2 (F_join op) mm nn q x u) (hm : isB mm 3 = true → mm = nI j ∧ j < 3) (hn : isB nn 3 = true → nn = nI k ∧ k < 3) : WQ u ∧ x = (GJ op mm nn (ab q j) (ab q k)).1 ∧ u.co = (GJ op mm nn (ab q j) (ab q k)).2.1 ∧ ab u = va_up (ab q) j (GJ op mm nn (ab q j) (ab q k)).2.2 := by
  obtain ⟨h1, h2, h3⟩ := h
  refine ⟨h1, ?_⟩
  cases e : isB mm 3 with
  | false =>
    rw [GJ_bad (Or.inl e)]
    obtain ⟨a1, a2, a3⟩ := h2 (Or.inl e)
    exact ⟨a1, a2, by rw [a3]; exact (vup_self _ _).symm⟩
  | true =>
    cases e2 : isB nn 3 with
    | false =>
      rw [GJ_bad (Or.inr e2)]
      obtain ⟨a1, a2, a3⟩ := h2 (Or.inr e2)
      exact ⟨a1, a2, by rw [a3]; exact (vup_self _ _).symm⟩
    | true =>
      rw [GJ_ok e e2]
      obtain ⟨b1, b2⟩ := hm e
      obtain ⟨c1, c2⟩ := hn e2
      exact h3 j k b2 c2 b1 c1
/-- all three maps -/
def Rel3 (N : Nat) (M : Nat → MS) (q : QS) : Prop := WQ q ∧ ∀ j, j < 3 → Rel1 N (M j) (ab q j)
theorem rel3_up {N N' j : Nat} {M : Nat → MS} {q u : QS} {m' : MS} {R : RW} (h : Rel3 N M q) (hn : N ≤ N') (hw : WQ u) (ha : ab u = va_up (ab q) j R) (hr : Rel1 N' m' R) : Rel3 N' (va_up M j m') u := by
  refine ⟨hw, fun i hi => ?_⟩
  rw [ha]
  by_cases e : i = j
  · subst e
    rw [vup_eq, vup_eq]
    exact hr
  · rw [vup_ne e, vup_ne e]
    exact rel_mono (h.2 i hi) hn
/-- which map a call names: that one, or any -/
theorem pick (mm : Int32) : ∃ j, j < 3 ∧ (isB mm 3 = true → mm = nI j ∧ j < 3) := by
  rcases isB3 mm with h | ⟨j, h1, h2⟩
  · exact ⟨0, by decide, fun q => by rw [h] at q; cases q⟩
  · exact ⟨j, h1, fun _ => ⟨h2, h1⟩⟩
/-- what drop of the reference asks -/
theorem drop_asks {N : Nat} {M : Nat → MS} {q : QS} (h : Rel3 N M q) (hN : N ≤ 1000000) (mm : Int32) : ∀ j, j < 3 → mm = nI j → q.wk j = true → q.kw j = q.cg j → q.ho j = true → 1 ≤ q.gv j ∧ plQ q j (q.cp (64 * j + q.gv j - 1)) < q.zz j := by
  intro j hj _ h1 h2 h3
  obtain ⟨⟨a1, a2⟩, _⟩ := sim_drop (h.2 j hj) hN h1 h2 h3
  have a1 : 1 ≤ q.gv j := a1
  have hg := h.1.2.2.2.1 j
  refine ⟨a1, ?_⟩
  rw [ab_len] at a2
  have e : (ab q j).cp.getD ((ab q j).gv - 1) 0 = q.cp (64 * j + q.gv j - 1) := (col_getD (f := q.cp) (z := q.mn j) (i := q.gv j - 1) j (by omega)).trans (congrArg q.cp (by omega))
  rw [e] at a2
  exact a2
