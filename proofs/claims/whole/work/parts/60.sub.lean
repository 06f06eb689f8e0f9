/-! THE PURE LAYER. Sub t n x L h: the tree at x, of at most n levels, has the nodes L in order, height h; every node's count, height and total are right and its kind is content. -/
def sumL (vl : Nat → Int32) : List Nat → Int64
  | [] => 0
  | z :: L => (vl z).toInt64 + sumL vl L
theorem sumL_cons (vl : Nat → Int32) (z : Nat) (L : List Nat) : sumL vl (z :: L) = (vl z).toInt64 + sumL vl L := by rw [sumL]
theorem sumL_nil (vl : Nat → Int32) : sumL vl [] = 0 := by rw [sumL]
/-- what a kind wants of a node x with sides A and B of heights ha, hb -/
def Bal (t : TS) (x : Nat) (a b ha hb : Nat) : Prop :=
  if t.kd = 0 then ha ≤ hb + 1 ∧ hb ≤ ha + 1
  else if t.kd = 1 then a + 1 ≤ 3 * (b + 1) ∧ b + 1 ≤ 3 * (a + 1)
  else if t.kd = 2 then (t.lf x ≠ 0 → prio (t.ky (t.lf x)) ≤ prio (t.ky x)) ∧ (t.rt x ≠ 0 → prio (t.ky (t.rt x)) ≤ prio (t.ky x))
  else max ha hb + 1 ≤ f_highest (nI (a + b + 1))
def Sub (t : TS) : Nat → Nat → List Nat → Nat → Prop
  | 0, x, L, h => x = 0 ∧ L = [] ∧ h = 0
  | n + 1, x, L, h => (x = 0 ∧ L = [] ∧ h = 0) ∨ (x ≠ 0 ∧ ∃ A B ha hb, L = A ++ x :: B ∧ h = max ha hb + 1 ∧ Sub t n (t.lf x) A ha ∧ Sub t n (t.rt x) B hb ∧ t.ct x = nI L.length ∧ t.ht x = nI h ∧ t.to x = sumL t.vl L ∧ Bal t x A.length B.length ha hb)
/-- node 0 stands for the empty tree -/
def Zero (t : TS) : Prop := t.ct 0 = 0 ∧ t.ht 0 = 0 ∧ t.to 0 = 0
theorem sub_nil (t : TS) (n : Nat) : Sub t n 0 [] 0 := by
  cases n with
  | zero => exact ⟨rfl, rfl, rfl⟩
  | succ n => exact Or.inl ⟨rfl, rfl, rfl⟩
theorem sub_z {t : TS} {n : Nat} {L : List Nat} {h : Nat} (hs : Sub t n 0 L h) : L = [] ∧ h = 0 := by
  cases n with
  | zero => exact hs.2
  | succ n =>
    rcases hs with hs | hs
    · exact hs.2
    · exact absurd rfl hs.1
theorem sub_mono {t : TS} : ∀ {n m : Nat} {x : Nat} {L : List Nat} {h : Nat}, n ≤ m → Sub t n x L h → Sub t m x L h := by
  intro n
  induction n with
  | zero =>
    intro m x L h _ hs
    obtain ⟨rfl, rfl, rfl⟩ := hs
    exact sub_nil t m
  | succ n ih =>
    intro m x L h hm hs
    obtain ⟨m, rfl⟩ : ∃ k, m = k + 1 := ⟨m - 1, by omega⟩
    rcases hs with hs | ⟨h0, A, B, ha, hb, e1, e2, s1, s2, r⟩
    · exact Or.inl hs
    · exact Or.inr ⟨h0, A, B, ha, hb, e1, e2, ih (by omega) s1, ih (by omega) s2, r⟩
/-- as many levels as its height -/
theorem sub_h {t : TS} : ∀ {n : Nat} {x : Nat} {L : List Nat} {h : Nat}, Sub t n x L h → Sub t h x L h := by
  intro n
  induction n with
  | zero =>
    intro x L h hs
    obtain ⟨rfl, rfl, rfl⟩ := hs
    exact sub_nil t 0
  | succ n ih =>
    intro x L h hs
    rcases hs with ⟨rfl, rfl, rfl⟩ | ⟨h0, A, B, ha, hb, e1, e2, s1, s2, r⟩
    · exact sub_nil t 0
    · subst e2
      exact Or.inr ⟨h0, A, B, ha, hb, e1, rfl, sub_mono (Nat.le_max_left _ _) (ih s1), sub_mono (Nat.le_max_right _ _) (ih s2), r⟩
theorem sub_len {t : TS} : ∀ {n : Nat} {x : Nat} {L : List Nat} {h : Nat}, Sub t n x L h → h ≤ L.length := by
  intro n
  induction n with
  | zero =>
    intro x L h hs
    obtain ⟨rfl, rfl, rfl⟩ := hs
    exact Nat.le_refl _
  | succ n ih =>
    intro x L h hs
    rcases hs with ⟨rfl, rfl, rfl⟩ | ⟨h0, A, B, ha, hb, e1, e2, s1, s2, r⟩
    · exact Nat.le_refl _
    · have h1 := ih s1
      have h2 := ih s2
      subst e1; subst e2
      simp only [List.length_append, List.length_cons]
      omega
theorem sub_up {t : TS} {n m x : Nat} {L : List Nat} {h : Nat} (hs : Sub t n x L h) (hm : L.length ≤ m) : Sub t m x L h := sub_mono (Nat.le_trans (sub_len hs) hm) (sub_h hs)
theorem sub_inv {t : TS} {n x : Nat} {L : List Nat} {h : Nat} (hs : Sub t n x L h) (h0 : x ≠ 0) : ∃ A B ha hb, L = A ++ x :: B ∧ h = max ha hb + 1 ∧ Sub t n (t.lf x) A ha ∧ Sub t n (t.rt x) B hb ∧ t.ct x = nI L.length ∧ t.ht x = nI h ∧ t.to x = sumL t.vl L ∧ Bal t x A.length B.length ha hb := by
  cases n with
  | zero => exact absurd hs.1 h0
  | succ n =>
    rcases hs with hs | ⟨_, A, B, ha, hb, e1, e2, s1, s2, r⟩
    · exact absurd hs.1 h0
    · exact ⟨A, B, ha, hb, e1, e2, sub_mono (Nat.le_succ n) s1, sub_mono (Nat.le_succ n) s2, r⟩
theorem sub_mk {t : TS} {n m x : Nat} {A B : List Nat} {ha hb : Nat} (h0 : x ≠ 0) (s1 : Sub t n (t.lf x) A ha) (s2 : Sub t m (t.rt x) B hb) (h1 : t.ct x = nI (A ++ x :: B).length) (h2 : t.ht x = nI (max ha hb + 1)) (h3 : t.to x = sumL t.vl (A ++ x :: B)) (h4 : Bal t x A.length B.length ha hb) : Sub t (max n m + 1) x (A ++ x :: B) (max ha hb + 1) :=
  Or.inr ⟨h0, A, B, ha, hb, rfl, rfl, sub_mono (Nat.le_max_left _ _) s1, sub_mono (Nat.le_max_right _ _) s2, h1, h2, h3, h4⟩
theorem sub_ne0 {t : TS} : ∀ {n : Nat} {x : Nat} {L : List Nat} {h : Nat}, Sub t n x L h → ∀ z ∈ L, z ≠ 0 := by
  intro n
  induction n with
  | zero =>
    intro x L h hs z hz
    obtain ⟨rfl, rfl, rfl⟩ := hs
    exact absurd hz List.not_mem_nil
  | succ n ih =>
    intro x L h hs z hz
    rcases hs with ⟨rfl, rfl, rfl⟩ | ⟨h0, A, B, ha, hb, e1, e2, s1, s2, r⟩
    · exact absurd hz List.not_mem_nil
    · subst e1
      rcases List.mem_append.mp hz with h | h
      · exact ih s1 z h
      · rcases List.mem_cons.mp h with h | h
        · rw [h]; exact h0
        · exact ih s2 z h
theorem sub_top {t : TS} {n x : Nat} {L : List Nat} {h : Nat} (hs : Sub t n x L h) (h0 : x ≠ 0) : x ∈ L := by
  obtain ⟨A, B, ha, hb, e1, r⟩ := sub_inv hs h0
  rw [e1]
  exact List.mem_append_right _ List.mem_cons_self
theorem sub_or {t : TS} {n x : Nat} {L : List Nat} {h : Nat} (hs : Sub t n x L h) : x = 0 ∨ x ∈ L := by
  by_cases h0 : x = 0
  · exact Or.inl h0
  · exact Or.inr (sub_top hs h0)
theorem sub_ct {t : TS} (hz : Zero t) {n x : Nat} {L : List Nat} {h : Nat} (hs : Sub t n x L h) : t.ct x = nI L.length ∧ t.ht x = nI h ∧ t.to x = sumL t.vl L := by
  by_cases h0 : x = 0
  · subst h0
    obtain ⟨rfl, rfl⟩ := sub_z hs
    exact ⟨hz.1, hz.2.1, hz.2.2.trans (sumL_nil _).symm⟩
  · obtain ⟨A, B, ha, hb, e1, e2, s1, s2, r1, r2, r3, r4⟩ := sub_inv hs h0
    exact ⟨r1, r2, r3⟩
/-- two trees that are alike on the nodes L -/
def Like (t u : TS) (L : List Nat) : Prop := u.kd = t.kd ∧ ∀ z ∈ L, u.lf z = t.lf z ∧ u.rt z = t.rt z ∧ u.ct z = t.ct z ∧ u.ht z = t.ht z ∧ u.to z = t.to z ∧ u.ky z = t.ky z ∧ u.vl z = t.vl z
theorem Like.sub {t u : TS} {L L' : List Nat} (h : Like t u L) (hs : ∀ z ∈ L', z ∈ L) : Like t u L' := ⟨h.1, fun z hz => h.2 z (hs z hz)⟩
theorem Like.refl (t : TS) (L : List Nat) : Like t t L := ⟨rfl, fun z _ => ⟨rfl, rfl, rfl, rfl, rfl, rfl, rfl⟩⟩
theorem sumL_congr {v w : Nat → Int32} : ∀ {L : List Nat}, (∀ z ∈ L, w z = v z) → sumL w L = sumL v L := by
  intro L
  induction L with
  | nil => intro _; rfl
  | cons x L ih =>
    intro h
    rw [sumL_cons, sumL_cons, h x List.mem_cons_self, ih (fun z hz => h z (List.mem_cons_of_mem _ hz))]
theorem sub_like {t u : TS} : ∀ {n : Nat} {x : Nat} {L : List Nat} {h : Nat}, Like t u L → Sub t n x L h → Sub u n x L h := by
  intro n
  induction n with
  | zero => intro x L h _ hs; exact hs
  | succ n ih =>
    intro x L h hl hs
    rcases hs with hs | ⟨h0, A, B, ha, hb, e1, e2, s1, s2, r1, r2, r3, r4⟩
    · exact Or.inl hs
    · subst e1
      have hx : x ∈ A ++ x :: B := List.mem_append_right _ List.mem_cons_self
      obtain ⟨q1, q2, q3, q4, q5, q6, q7⟩ := hl.2 x hx
      have hA : Like t u A := hl.sub (fun z hz => List.mem_append_left _ hz)
      have hB : Like t u B := hl.sub (fun z hz => List.mem_append_right _ (List.mem_cons_of_mem _ hz))
      refine Or.inr ⟨h0, A, B, ha, hb, rfl, e2, by rw [q1]; exact ih hA s1, by rw [q2]; exact ih hB s2, by rw [q3]; exact r1, by rw [q4]; exact r2, ?_, ?_⟩
      · rw [q5, r3]
        exact (sumL_congr (fun z hz => (hl.2 z hz).2.2.2.2.2.2)).symm
      · unfold Bal at r4 ⊢
        rw [hl.1]
        split at r4
        · rw [if_pos (by assumption)]; exact r4
        · rw [if_neg (by assumption)]
          split at r4
          · rw [if_pos (by assumption)]; exact r4
          · rw [if_neg (by assumption)]
            split at r4
            · rw [if_pos (by assumption), q1, q2, q6]
              refine ⟨fun h => ?_, fun h => ?_⟩
              · have hm : t.lf x ∈ A ++ x :: B := List.mem_append_left _ (sub_top s1 h)
                rw [(hl.2 _ hm).2.2.2.2.2.1]; exact r4.1 h
              · have hm : t.rt x ∈ A ++ x :: B := List.mem_append_right _ (List.mem_cons_of_mem _ (sub_top s2 h))
                rw [(hl.2 _ hm).2.2.2.2.2.1]; exact r4.2 h
            · rw [if_neg (by assumption)]; exact r4
