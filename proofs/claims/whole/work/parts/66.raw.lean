/-! the lower node's numbers behind a raise -/
theorem rawL {t : TS} (hz : Zero t) {x n2 n3 hb hc : Nat} {B C : List Nat} (h0 : x ≠ 0) (hy : t.lf x ≠ 0) (hxy : x ≠ t.lf x) (s2 : Sub t n2 (t.rt (t.lf x)) B hb) (s3 : Sub t n3 (t.rt x) C hc) (dB : ∀ z ∈ B, z ≠ x ∧ z ≠ t.lf x) (dC : ∀ z ∈ C, z ≠ x ∧ z ≠ t.lf x) (hl : B.length + C.length ≤ 60) :
    (f_raiseLeft t x).ct x = nI (B ++ x :: C).length ∧ (f_raiseLeft t x).ht x = nI (max hb hc + 1) ∧ (f_raiseLeft t x).to x = sumL t.vl (B ++ x :: C) := by
  generalize hye : t.lf x = y at *
  have hyx : y ≠ x := fun q => hxy q.symm
  obtain ⟨t1, e1⟩ : ∃ v, v = setRt (setLf t x (t.rt y)) y x := ⟨_, rfl⟩
  have eu : f_raiseLeft t x = f_refresh (f_refresh t1 x) y := by rw [e1]; unfold f_raiseLeft; rw [hye]
  have o1 : Off t t1 [x, y] := by
    rw [e1]
    exact (off_setLf t x (t.rt y)).trans (off_setRt _ y x) _ (fun z hz => by rw [List.mem_singleton.mp hz]; exact List.mem_cons_self) (fun z hz => by rw [List.mem_singleton.mp hz]; exact List.mem_cons_of_mem _ List.mem_cons_self)
  have l1 : t1.lf x = t.rt y := by rw [e1]; exact up_eq
  have l2 : t1.rt x = t.rt x := by rw [e1]; exact up_ne hxy
  have in2 : ∀ {L : List Nat}, (∀ z ∈ L, z ≠ x ∧ z ≠ y) → ∀ z ∈ L, z ∉ [x, y] := fun h z hz q => by
    rcases List.mem_cons.mp q with q | q
    · exact (h z hz).1 q
    · exact (h z hz).2 (List.mem_singleton.mp q)
  have z1 : Zero t1 := o1.zero (fun q => by
    rcases List.mem_cons.mp q with q | q
    · exact h0 q.symm
    · exact hy (List.mem_singleton.mp q).symm) hz
  have b1 : Sub t1 n2 (t.rt y) B hb := sub_like (o1.like (in2 dB)) s2
  have c1 : Sub t1 n3 (t.rt x) C hc := sub_like (o1.like (in2 dC)) s3
  obtain ⟨r1, r2, r3⟩ := refresh_x z1 (x := x) (by rw [l1]; exact b1) (by rw [l2]; exact c1) hl
  have ux := (off_refresh (f_refresh t1 x) y).2 x (fun q => hxy (List.mem_singleton.mp q))
  rw [eu]
  refine ⟨ux.2.2.1.trans r1, ux.2.2.2.1.trans r2, ux.2.2.2.2.trans (r3.trans ?_)⟩
  rw [o1.1.2.1]
theorem rawR {t : TS} (hz : Zero t) {x n1 n2 ha hb : Nat} {A B : List Nat} (h0 : x ≠ 0) (hy : t.rt x ≠ 0) (hxy : x ≠ t.rt x) (s1 : Sub t n1 (t.lf x) A ha) (s2 : Sub t n2 (t.lf (t.rt x)) B hb) (dA : ∀ z ∈ A, z ≠ x ∧ z ≠ t.rt x) (dB : ∀ z ∈ B, z ≠ x ∧ z ≠ t.rt x) (hl : A.length + B.length ≤ 60) :
    (f_raiseRight t x).ct x = nI (A ++ x :: B).length ∧ (f_raiseRight t x).ht x = nI (max ha hb + 1) ∧ (f_raiseRight t x).to x = sumL t.vl (A ++ x :: B) := by
  generalize hye : t.rt x = y at *
  have hyx : y ≠ x := fun q => hxy q.symm
  obtain ⟨t1, e1⟩ : ∃ v, v = setLf (setRt t x (t.lf y)) y x := ⟨_, rfl⟩
  have eu : f_raiseRight t x = f_refresh (f_refresh t1 x) y := by rw [e1]; unfold f_raiseRight; rw [hye]
  have o1 : Off t t1 [x, y] := by
    rw [e1]
    exact (off_setRt t x (t.lf y)).trans (off_setLf _ y x) _ (fun z hz => by rw [List.mem_singleton.mp hz]; exact List.mem_cons_self) (fun z hz => by rw [List.mem_singleton.mp hz]; exact List.mem_cons_of_mem _ List.mem_cons_self)
  have l1 : t1.rt x = t.lf y := by rw [e1]; exact up_eq
  have l2 : t1.lf x = t.lf x := by rw [e1]; exact up_ne hxy
  have in2 : ∀ {L : List Nat}, (∀ z ∈ L, z ≠ x ∧ z ≠ y) → ∀ z ∈ L, z ∉ [x, y] := fun h z hz q => by
    rcases List.mem_cons.mp q with q | q
    · exact (h z hz).1 q
    · exact (h z hz).2 (List.mem_singleton.mp q)
  have z1 : Zero t1 := o1.zero (fun q => by
    rcases List.mem_cons.mp q with q | q
    · exact h0 q.symm
    · exact hy (List.mem_singleton.mp q).symm) hz
  have a1 : Sub t1 n1 (t.lf x) A ha := sub_like (o1.like (in2 dA)) s1
  have b1 : Sub t1 n2 (t.lf y) B hb := sub_like (o1.like (in2 dB)) s2
  obtain ⟨r1, r2, r3⟩ := refresh_x z1 (x := x) (by rw [l2]; exact a1) (by rw [l1]; exact b1) hl
  have ux := (off_refresh (f_refresh t1 x) y).2 x (fun q => hxy (List.mem_singleton.mp q))
  rw [eu]
  refine ⟨ux.2.2.1.trans r1, ux.2.2.2.1.trans r2, ux.2.2.2.2.trans (r3.trans ?_)⟩
  rw [o1.1.2.1]
theorem bal2 {t : TS} {x a b ha hb : Nat} (hk : t.kd = 2) : Bal t x a b ha hb ↔ (t.lf x ≠ 0 → prio (t.ky (t.lf x)) ≤ prio (t.ky x)) ∧ (t.rt x ≠ 0 → prio (t.ky (t.rt x)) ≤ prio (t.ky x)) := by unfold Bal; rw [if_neg (by omega), if_neg (by omega), if_pos hk]
theorem bal3 {t : TS} {x a b ha hb : Nat} (hk : t.kd = 3) : Bal t x a b ha hb ↔ max ha hb + 1 ≤ f_highest (nI (a + b + 1)) := by unfold Bal; rw [if_neg (by omega), if_neg (by omega), if_neg (by omega)]
/-- the top has the highest priority -/
theorem heap_top {t : TS} (hk : t.kd = 2) : ∀ {n : Nat} {x : Nat} {L : List Nat} {h : Nat}, Sub t n x L h → ∀ z ∈ L, prio (t.ky z) ≤ prio (t.ky x) := by
  intro n
  induction n with
  | zero =>
    intro x L h hs z hz
    obtain ⟨rfl, rfl, rfl⟩ := hs
    exact absurd hz List.not_mem_nil
  | succ n ih =>
    intro x L h hs z hz
    rcases hs with ⟨rfl, rfl, rfl⟩ | ⟨h0, A, B, ha, hb, e1, e2, s1, s2, r1, r2, r3, r4⟩
    · exact absurd hz List.not_mem_nil
    · subst e1
      rw [bal2 hk] at r4
      rcases List.mem_append.mp hz with q | q
      · have h1 : t.lf x ≠ 0 := fun e => by rw [e] at s1; rw [(sub_z s1).1] at q; exact absurd q List.not_mem_nil
        exact Int32.le_trans (ih s1 z q) (r4.1 h1)
      · rcases List.mem_cons.mp q with q | q
        · rw [q]; exact Int32.le_refl _
        · have h1 : t.rt x ≠ 0 := fun e => by rw [e] at s2; rw [(sub_z s2).1] at q; exact absurd q List.not_mem_nil
          exact Int32.le_trans (ih s2 z q) (r4.2 h1)
