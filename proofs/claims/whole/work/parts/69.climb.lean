/-! the path, the hole below it, and the climb -/
def Kp (t u : TS) (P : List Nat) : Prop := (u.ky = t.ky ∧ u.vl = t.vl ∧ u.sp = t.sp ∧ u.pa = t.pa ∧ u.ss = t.ss ∧ u.dp = t.dp ∧ u.od = t.od ∧ u.kd = t.kd) ∧ ∀ z, z ∉ P → u.lf z = t.lf z ∧ u.rt z = t.rt z ∧ u.ct z = t.ct z ∧ u.ht z = t.ht z ∧ u.to z = t.to z
theorem Kp.of {t u : TS} {P : List Nat} (h : Off t u P) : Kp t u P := ⟨⟨h.1.1, h.1.2.1, h.1.2.2.1, h.1.2.2.2.1, h.1.2.2.2.2.1, h.1.2.2.2.2.2.1, h.1.2.2.2.2.2.2.2.1, h.1.2.2.2.2.2.2.2.2⟩, h.2⟩
theorem Kp.rfl (t : TS) (P : List Nat) : Kp t t P := Kp.of (Off.rfl t P)
theorem Kp.trans {t u v : TS} {P Q : List Nat} (h : Kp t u P) (g : Kp u v Q) (R : List Nat) (hP : ∀ z ∈ P, z ∈ R) (hQ : ∀ z ∈ Q, z ∈ R) : Kp t v R := by
  obtain ⟨⟨a1, a2, a3, a4, a5, a6, a8, a9⟩, a⟩ := h
  obtain ⟨⟨b1, b2, b3, b4, b5, b6, b8, b9⟩, b⟩ := g
  refine ⟨⟨b1.trans a1, b2.trans a2, b3.trans a3, b4.trans a4, b5.trans a5, b6.trans a6, b8.trans a8, b9.trans a9⟩, fun z hz => ?_⟩
  obtain ⟨c1, c2, c3, c4, c5⟩ := a z (fun q => hz (hP z q))
  obtain ⟨d1, d2, d3, d4, d5⟩ := b z (fun q => hz (hQ z q))
  exact ⟨d1.trans c1, d2.trans c2, d3.trans c3, d4.trans c4, d5.trans c5⟩
theorem Kp.zero {t u : TS} {P : List Nat} (h : Kp t u P) (h0 : 0 ∉ P) (hz : Zero t) : Zero u := by
  obtain ⟨c1, c2, c3, c4, c5⟩ := h.2 0 h0
  exact ⟨c3.trans hz.1, c4.trans hz.2.1, c5.trans hz.2.2⟩
theorem Kp.like {t u : TS} {P L : List Nat} (h : Kp t u P) (hd : ∀ z ∈ L, z ∉ P) : Like t u L := by
  obtain ⟨⟨a1, a2, a3, a4, a5, a6, a8, a9⟩, a⟩ := h
  refine ⟨a9, fun z hz => ?_⟩
  obtain ⟨c1, c2, c3, c4, c5⟩ := a z (hd z hz)
  exact ⟨c1, c2, c3, c4, c5, by rw [a1], by rw [a2]⟩
/-- the old sides were in balance, where that counts -/
def Bo (kd a b ha hb : Nat) : Prop := (kd = 0 → ha ≤ hb + 1 ∧ hb ≤ ha + 1) ∧ (kd = 1 → a + 1 ≤ 3 * (b + 1) ∧ b + 1 ≤ 3 * (a + 1))
theorem bo_of {t : TS} {x a b ha hb : Nat} (h : Bal t x a b ha hb) : Bo t.kd a b ha hb := ⟨fun k => (bal0 k).mp h, fun k => (bal1 k).mp h⟩
/-- Ctx t n y A B ho co: the path's first n nodes lead to a hole that holds y; A goes before it, B behind; ho, co: height and count of what was in it -/
def Ctx (t : TS) : Nat → Nat → List Nat → List Nat → Nat → Nat → Prop
  | 0, y, A, B, _, _ => t.rn = y ∧ A = [] ∧ B = []
  | n + 1, y, A, B, ho, co => t.pa n ≠ 0 ∧ ∃ A' B' S hs,
    (t.lf (t.pa n) = y ∧ Sub t 60 (t.rt (t.pa n)) S hs ∧ A = A' ∧ B = t.pa n :: (S ++ B') ∧ Bo t.kd co S.length ho hs ∧ Ctx t n (t.pa n) A' B' (max ho hs + 1) (co + S.length + 1)) ∨
    (t.rt (t.pa n) = y ∧ Sub t 60 (t.lf (t.pa n)) S hs ∧ A = A' ++ (S ++ [t.pa n]) ∧ B = B' ∧ Bo t.kd S.length co hs ho ∧ Ctx t n (t.pa n) A' B' (max hs ho + 1) (S.length + co + 1))
theorem nd_l {A S B : List Nat} {p : Nat} (h : (A ++ p :: (S ++ B)).Nodup) : (A ++ B).Nodup ∧ p ∉ S ∧ p ∉ A ++ B ∧ ∀ z ∈ S, z ∉ A ++ B := by
  have h1 : (p :: (S ++ (A ++ B))).Nodup := (List.Perm.nodup_iff ((List.perm_middle).trans (List.Perm.cons p (List.perm_append_comm_assoc _ _ _)))).mp h
  obtain ⟨h2, h3⟩ := List.nodup_cons.mp h1
  obtain ⟨h4, h5, h6⟩ := List.nodup_append.mp h3
  exact ⟨h5, fun q => h2 (List.mem_append_left _ q), fun q => h2 (List.mem_append_right _ q), fun z hz q => h6 z hz z q rfl⟩
theorem nd_r {A S B : List Nat} {p : Nat} (h : ((A ++ (S ++ [p])) ++ B).Nodup) : (A ++ B).Nodup ∧ p ∉ S ∧ p ∉ A ++ B ∧ ∀ z ∈ S, z ∉ A ++ B := by
  have e : (A ++ (S ++ [p])) ++ B = (A ++ S) ++ p :: B := by simp only [List.append_assoc, List.cons_append, List.nil_append]
  rw [e] at h
  have h1 : (p :: (S ++ (A ++ B))).Nodup := (List.Perm.nodup_iff ((List.perm_middle).trans (List.Perm.cons p (by rw [List.append_assoc]; exact (List.perm_append_comm_assoc _ _ _))))).mp h
  obtain ⟨h2, h3⟩ := List.nodup_cons.mp h1
  obtain ⟨h4, h5, h6⟩ := List.nodup_append.mp h3
  exact ⟨h5, fun q => h2 (List.mem_append_left _ q), fun q => h2 (List.mem_append_right _ q), fun z hz q => h6 z hz z q rfl⟩
theorem in_l {A S B : List Nat} {p z : Nat} (h : z ∈ A ++ B) : z ∈ A ++ p :: (S ++ B) := by
  rcases List.mem_append.mp h with q | q
  · exact List.mem_append_left _ q
  · exact List.mem_append_right _ (List.mem_cons_of_mem _ (List.mem_append_right _ q))
theorem in_r {A S B : List Nat} {p z : Nat} (h : z ∈ A ++ B) : z ∈ (A ++ (S ++ [p])) ++ B := by
  rcases List.mem_append.mp h with q | q
  · exact List.mem_append_left _ (List.mem_append_left _ q)
  · exact List.mem_append_right _ q
theorem ctx_in {t : TS} : ∀ (n : Nat) {y : Nat} {A B : List Nat} {ho co : Nat}, Ctx t n y A B ho co → ∀ k, k < n → t.pa k ∈ A ++ B := by
  intro n
  induction n with
  | zero => intro y A B ho co _ k hk; exact absurd hk (Nat.not_lt_zero _)
  | succ n ih =>
    intro y A B ho co h k hk
    obtain ⟨h0, A', B', S, hs, ⟨e1, s, rfl, rfl, b, c⟩ | ⟨e1, s, rfl, rfl, b, c⟩⟩ := h
    · by_cases q : k = n
      · rw [q]; exact List.mem_append_right _ List.mem_cons_self
      · exact in_l (ih c k (by omega))
    · by_cases q : k = n
      · rw [q]; exact List.mem_append_left _ (List.mem_append_right _ (List.mem_append_right _ List.mem_cons_self))
      · exact in_r (ih c k (by omega))
theorem ctx_len {t : TS} : ∀ (n : Nat) {y : Nat} {A B : List Nat} {ho co : Nat}, Ctx t n y A B ho co → n ≤ A.length + B.length := by
  intro n
  induction n with
  | zero => intro y A B ho co _; exact Nat.zero_le _
  | succ n ih =>
    intro y A B ho co h
    obtain ⟨h0, A', B', S, hs, ⟨e1, s, rfl, rfl, b, c⟩ | ⟨e1, s, rfl, rfl, b, c⟩⟩ := h
    · have := ih c
      simp only [List.length_append, List.length_cons]; omega
    · have := ih c
      simp only [List.length_append, List.length_cons, List.length_nil]; omega
theorem ctx_ne0 {t : TS} : ∀ (n : Nat) {y : Nat} {A B : List Nat} {ho co : Nat}, Ctx t n y A B ho co → 0 ∉ A ++ B := by
  intro n
  induction n with
  | zero => intro y A B ho co h q; obtain ⟨_, rfl, rfl⟩ := h; exact absurd q List.not_mem_nil
  | succ n ih =>
    intro y A B ho co h q
    obtain ⟨h0, A', B', S, hs, ⟨e1, s, rfl, rfl, b, c⟩ | ⟨e1, s, rfl, rfl, b, c⟩⟩ := h
    · have h1 := ih c
      rcases List.mem_append.mp q with q | q
      · exact h1 (List.mem_append_left _ q)
      · rcases List.mem_cons.mp q with q | q
        · exact h0 q.symm
        · rcases List.mem_append.mp q with q | q
          · exact sub_ne0 s 0 q rfl
          · exact h1 (List.mem_append_right _ q)
    · have h1 := ih c
      rcases List.mem_append.mp q with q | q
      · rcases List.mem_append.mp q with q | q
        · exact h1 (List.mem_append_left _ q)
        · rcases List.mem_append.mp q with q | q
          · exact sub_ne0 s 0 q rfl
          · exact h0 (List.mem_singleton.mp q).symm
      · exact h1 (List.mem_append_right _ q)
/-- the same path in another tree: of the path's own nodes only left and right count -/
theorem ctx_tr {t u : TS} : ∀ (n : Nat) {y : Nat} {A B : List Nat} {ho co : Nat}, Ctx t n y A B ho co → (A ++ B).Nodup → (∀ k, k < n → u.pa k = t.pa k) → u.rn = t.rn → u.kd = t.kd → (∀ z ∈ A ++ B, u.lf z = t.lf z ∧ u.rt z = t.rt z ∧ ((∀ k, k < n → z ≠ t.pa k) → u.ct z = t.ct z ∧ u.ht z = t.ht z ∧ u.to z = t.to z ∧ u.ky z = t.ky z ∧ u.vl z = t.vl z)) → Ctx u n y A B ho co := by
  intro n
  induction n with
  | zero => intro y A B ho co h _ _ hr _ _; exact ⟨hr.trans h.1, h.2⟩
  | succ n ih =>
    intro y A B ho co h hn hp hr hk hz
    have ep := hp n (Nat.lt_succ_self n)
    obtain ⟨h0, A', B', S, hs, ⟨e1, s, rfl, rfl, b, c⟩ | ⟨e1, s, rfl, rfl, b, c⟩⟩ := h
    · obtain ⟨d1, d2, d3, d4⟩ := nd_l hn
      have hpi : t.pa n ∈ A ++ t.pa n :: (S ++ B') := List.mem_append_right _ List.mem_cons_self
      have hlike : Like t u S := ⟨hk, fun z hz1 => by
        obtain ⟨q1, q2, q3⟩ := hz z (List.mem_append_right _ (List.mem_cons_of_mem _ (List.mem_append_left _ hz1)))
        obtain ⟨r1, r2, r3, r4, r5⟩ := q3 (fun k hk e => by
          by_cases q : k = n
          · subst q; exact d2 (e ▸ hz1)
          · exact d4 z hz1 (by rw [e]; exact ctx_in n c k (by omega)))
        exact ⟨q1, q2, r1, r2, r3, r4, r5⟩⟩
      refine ⟨by rw [ep]; exact h0, A, B', S, hs, Or.inl ?_⟩
      rw [ep, (hz _ hpi).1, (hz _ hpi).2.1, hk]
      refine ⟨e1, sub_like hlike s, rfl, rfl, b, ih c d1 (fun k hk => hp k (by omega)) hr hk (fun z hz1 => ?_)⟩
      obtain ⟨q1, q2, q3⟩ := hz z (in_l hz1)
      exact ⟨q1, q2, fun g => q3 (fun k hk e => by
        by_cases q : k = n
        · subst q; exact d3 (e ▸ hz1)
        · exact g k (by omega) e)⟩
    · obtain ⟨d1, d2, d3, d4⟩ := nd_r hn
      have hpi : t.pa n ∈ (A' ++ (S ++ [t.pa n])) ++ B := List.mem_append_left _ (List.mem_append_right _ (List.mem_append_right _ List.mem_cons_self))
      have hlike : Like t u S := ⟨hk, fun z hz1 => by
        obtain ⟨q1, q2, q3⟩ := hz z (List.mem_append_left _ (List.mem_append_right _ (List.mem_append_left _ hz1)))
        obtain ⟨r1, r2, r3, r4, r5⟩ := q3 (fun k hk e => by
          by_cases q : k = n
          · subst q; exact d2 (e ▸ hz1)
          · exact d4 z hz1 (by rw [e]; exact ctx_in n c k (by omega)))
        exact ⟨q1, q2, r1, r2, r3, r4, r5⟩⟩
      refine ⟨by rw [ep]; exact h0, A', B, S, hs, Or.inr ?_⟩
      rw [ep, (hz _ hpi).1, (hz _ hpi).2.1, hk]
      refine ⟨e1, sub_like hlike s, rfl, rfl, b, ih c d1 (fun k hk => hp k (by omega)) hr hk (fun z hz1 => ?_)⟩
      obtain ⟨q1, q2, q3⟩ := hz z (in_r hz1)
      exact ⟨q1, q2, fun g => q3 (fun k hk e => by
        by_cases q : k = n
        · subst q; exact d3 (e ▸ hz1)
        · exact g k (by omega) e)⟩
theorem ctx_off {t u : TS} {n y : Nat} {A B P : List Nat} {ho co : Nat} (h : Ctx t n y A B ho co) (hn : (A ++ B).Nodup) (o : Off t u P) (hd : ∀ z ∈ A ++ B, z ∉ P) : Ctx u n y A B ho co := by
  obtain ⟨⟨a1, a2, a3, a4, a5, a6, a7, a8, a9⟩, a⟩ := o
  refine ctx_tr n h hn (fun k _ => by rw [a4]) a7 a9 (fun z hz => ?_)
  obtain ⟨c1, c2, c3, c4, c5⟩ := a z (hd z hz)
  exact ⟨c1, c2, fun _ => ⟨c3, c4, c5, by rw [a1], by rw [a2]⟩⟩
/-- setAt puts r into the hole -/
theorem ctx_set {t : TS} {n y : Nat} {A B : List Nat} {ho co : Nat} (r : Nat) (h : Ctx t n y A B ho co) (hn : (A ++ B).Nodup) (hy : y = t.pa n) (hy0 : y ≠ 0) (hyn : y ∉ A ++ B) : Ctx (f_setAt t n r) n r A B ho co ∧ Kp t (f_setAt t n r) (A ++ B) := by
  cases n with
  | zero =>
    unfold f_setAt
    rw [if_pos rfl]
    obtain ⟨_, rfl, rfl⟩ := h
    exact ⟨⟨rfl, rfl, rfl⟩, ⟨⟨rfl, rfl, rfl, rfl, rfl, rfl, rfl, rfl⟩, fun _ _ => ⟨rfl, rfl, rfl, rfl, rfl⟩⟩⟩
  | succ n =>
    unfold f_setAt
    rw [if_neg (Nat.succ_ne_zero n), Nat.add_sub_cancel]
    obtain ⟨h0, A', B', S, hs, ⟨e1, s, rfl, rfl, b, c⟩ | ⟨e1, s, rfl, rfl, b, c⟩⟩ := h
    · rw [if_pos (e1.trans hy)]
      obtain ⟨d1, d2, d3, d4⟩ := nd_l hn
      have o := off_setLf t (t.pa n) r
      have l1 : (setLf t (t.pa n) r).lf (t.pa n) = r := up_eq
      have l2 : (setLf t (t.pa n) r).rt (t.pa n) = t.rt (t.pa n) := rfl
      refine ⟨⟨h0, A, B', S, hs, Or.inl ⟨l1, sub_like (o.like (fun z hz q => d2 ((List.mem_singleton.mp q) ▸ hz))) s, rfl, rfl, b, ctx_off c d1 o (fun z hz q => d3 ((List.mem_singleton.mp q) ▸ hz))⟩⟩, Kp.of (o.wide _ (fun z hz => ?_))⟩
      rw [List.mem_singleton.mp hz]; exact List.mem_append_right _ List.mem_cons_self
    · obtain ⟨d1, d2, d3, d4⟩ := nd_r hn
      have hne : ¬ t.lf (t.pa n) = t.pa (n + 1) := fun q => by
        rcases sub_or s with g | g
        · exact hy0 (hy.trans (q.symm.trans g))
        · exact hyn (List.mem_append_left _ (List.mem_append_right _ (List.mem_append_left _ (by rw [hy, ← q]; exact g))))
      rw [if_neg hne]
      have o := off_setRt t (t.pa n) r
      have l1 : (setRt t (t.pa n) r).rt (t.pa n) = r := up_eq
      refine ⟨⟨h0, A', B, S, hs, Or.inr ⟨l1, sub_like (o.like (fun z hz q => d2 ((List.mem_singleton.mp q) ▸ hz))) s, rfl, rfl, b, ctx_off c d1 o (fun z hz q => d3 ((List.mem_singleton.mp q) ▸ hz))⟩⟩, Kp.of (o.wide _ (fun z hz => ?_))⟩
      rw [List.mem_singleton.mp hz]; exact List.mem_append_left _ (List.mem_append_right _ (List.mem_append_right _ List.mem_cons_self))
theorem nd_m {A M B : List Nat} (h : (A ++ (M ++ B)).Nodup) : (A ++ B).Nodup ∧ M.Nodup ∧ (∀ z ∈ M, z ∉ A ++ B) ∧ (∀ z ∈ A ++ B, z ∉ M) := by
  have h1 : (M ++ (A ++ B)).Nodup := (List.Perm.nodup_iff (List.perm_append_comm_assoc _ _ _)).mp h
  obtain ⟨h4, h5, h6⟩ := List.nodup_append.mp h1
  exact ⟨h5, h4, fun z hz q => h6 z hz z q rfl, fun z hz q => h6 z q z hz rfl⟩
theorem in_m {A M B : List Nat} {z : Nat} (h : z ∈ A ++ B) : z ∈ A ++ (M ++ B) := by
  rcases List.mem_append.mp h with q | q
  · exact List.mem_append_left _ q
  · exact List.mem_append_right _ (List.mem_append_right _ q)
theorem climb_step {t : TS} (hz : Zero t) (hk : t.kd < 4) {n p h1 h2 ho co : Nat} {A B M1 M2 : List Nat} (ep : t.pa n = p) (h0 : p ≠ 0) (C : Ctx t n p A B ho co) (s1 : Sub t 60 (t.lf p) M1 h1) (s2 : Sub t 60 (t.rt p) M2 h2) (hn : (A ++ ((M1 ++ p :: M2) ++ B)).Nodup) (hl : (A ++ ((M1 ++ p :: M2) ++ B)).length ≤ 60) (hp : Pre9 t.kd M1.length M2.length h1 h2) :
    (∃ c, c ≤ 60 ∧ (f_refresh t p).ct p = nI c) ∧ ∃ r h9, Ctx (f_setAt (f_settle (f_refresh t p) p).2 n (f_settle (f_refresh t p) p).1) n r A B ho co ∧ Sub (f_setAt (f_settle (f_refresh t p) p).2 n (f_settle (f_refresh t p) p).1) 60 r (M1 ++ p :: M2) h9 ∧ Kp t (f_setAt (f_settle (f_refresh t p) p).2 n (f_settle (f_refresh t p) p).1) (A ++ ((M1 ++ p :: M2) ++ B)) ∧ (t.kd = 0 → (h9 = max h1 h2 + 1 ∨ (h9 = max h1 h2 ∧ (h2 + 2 ≤ h1 ∨ h1 + 2 ≤ h2)))) := by
  obtain ⟨d1, d2, d3, d4⟩ := nd_m hn
  have hl2 : (M1 ++ p :: M2).length ≤ 60 := by simp only [List.length_append, List.length_cons] at hl ⊢; omega
  have hl3 : M1.length + M2.length ≤ 60 := by simp only [List.length_append, List.length_cons] at hl2; omega
  have np1 : ∀ z ∈ M1, z ∉ [p] := fun z hz q => (List.nodup_append.mp d2).2.2 z hz p List.mem_cons_self (List.mem_singleton.mp q)
  have np2 : ∀ z ∈ M2, z ∉ [p] := fun z hz q => (List.nodup_cons.mp (List.nodup_append.mp d2).2.1).1 ((List.mem_singleton.mp q) ▸ hz)
  have hpm : p ∈ M1 ++ p :: M2 := List.mem_append_right _ List.mem_cons_self
  obtain ⟨r1, r2, r3⟩ := refresh_x hz (x := p) s1 s2 hl3
  have o1 := off_refresh t p
  have el : (f_refresh t p).lf = t.lf := rfl
  have er : (f_refresh t p).rt = t.rt := rfl
  generalize f_refresh t p = t1 at *
  have z1 : Zero t1 := o1.zero (fun q => h0 (List.mem_singleton.mp q).symm) hz
  have k1 : t1.kd = t.kd := o1.1.2.2.2.2.2.2.2.2
  obtain ⟨h9, S, O, E⟩ := settle_ok z1 (by rw [k1]; exact hk) (x := p) h0 (by rw [el]; exact sub_like (o1.like np1) s1) (by rw [er]; exact sub_like (o1.like np2) s2) r1 r2 (by rw [r3, o1.1.2.1]) d2 hl2 (by rw [k1]; exact hp)
  generalize (f_settle t1 p).1 = r at *
  generalize (f_settle t1 p).2 = u at *
  have oT : Off t u (M1 ++ p :: M2) := o1.trans O _ (fun z hz => by rw [List.mem_singleton.mp hz]; exact hpm) (fun z h => h)
  have Cu := ctx_off C d1 oT d4
  have epu : p = u.pa n := by rw [oT.1.2.2.2.1, ep]
  obtain ⟨C2, K2⟩ := ctx_set r Cu d1 epu h0 (d3 p hpm)
  refine ⟨⟨_, hl2, r1⟩, r, h9, C2, sub_like (K2.like d3) S, (Kp.of oT).trans K2 _ (fun z hz => List.mem_append_right _ (List.mem_append_left _ hz)) (fun z hz => in_m hz), fun q => E (k1.trans q)⟩
theorem climb_hole : ∀ (n : Nat) {t : TS} (_ : Zero t) (_ : t.kd < 4) {y h ho co : Nat} {A B M : List Nat} (_ : Ctx t n y A B ho co) (_ : Sub t 60 y M h) (_ : (A ++ (M ++ B)).Nodup) (_ : (A ++ (M ++ B)).length ≤ 60) (_ : M.length ≤ co + 1 ∧ co ≤ M.length + 1) (_ : t.kd = 0 → h ≤ ho + 1 ∧ ho ≤ h + 1),
    okClimb n t ∧ (∃ h9, Sub (f_climb n t) 60 (f_climb n t).rn (A ++ (M ++ B)) h9) ∧ Kp t (f_climb n t) (A ++ (M ++ B)) := by
  intro n
  induction n with
  | zero =>
    intro t hz hk y h ho co A B M C s hn hl _ _
    obtain ⟨e, rfl, rfl⟩ := C
    rw [List.nil_append, List.append_nil, f_climb, e]
    exact ⟨trivial, ⟨h, s⟩, Kp.rfl t _⟩
  | succ n ih =>
    intro t hz hk y h ho co A B M C s hn hl hc hh
    rw [climb_succ, okClimb, show (f_refresh t (t.pa n)).pa n = t.pa n from rfl]
    obtain ⟨h0, A', B', S, hs, ⟨e1, s2, rfl, rfl, b, c⟩ | ⟨e1, s2, rfl, rfl, b, c⟩⟩ := C
    · have eL : A ++ (M ++ t.pa n :: (S ++ B')) = A ++ ((M ++ t.pa n :: S) ++ B') := by simp only [List.append_assoc, List.cons_append]
      rw [eL] at hn hl ⊢
      subst e1
      obtain ⟨k1, r, h9, C2, S2, K2, E2⟩ := climb_step hz hk rfl h0 c s s2 hn hl ⟨fun q => by have := hh q; have := b.1 q; omega, fun q => by have := b.2 q; omega⟩
      generalize f_setAt (f_settle (f_refresh t (t.pa n)) (t.pa n)).2 n (f_settle (f_refresh t (t.pa n)) (t.pa n)).1 = w at *
      have kw : w.kd = t.kd := K2.1.2.2.2.2.2.2.2
      have n0 : 0 ∉ A ++ ((M ++ t.pa n :: S) ++ B') := fun q => by
        rcases List.mem_append.mp q with q | q
        · exact ctx_ne0 n c (List.mem_append_left _ q)
        · rcases List.mem_append.mp q with q | q
          · exact sub_ne0 S2 0 q rfl
          · exact ctx_ne0 n c (List.mem_append_right _ q)
      obtain ⟨g1, g2, g3⟩ := ih (K2.zero n0 hz) (by rw [kw]; exact hk) C2 S2 hn hl (by simp only [List.length_append, List.length_cons]; omega) (fun q => by
        rw [kw] at q
        have a1 := hh q
        have a2 := b.1 q
        rcases E2 q with a3 | ⟨a3, a4⟩
        · omega
        · omega)
      exact ⟨⟨k1, g1⟩, g2, K2.trans g3 _ (fun z h => h) (fun z h => h)⟩
    · have eL : (A' ++ (S ++ [t.pa n])) ++ (M ++ B) = A' ++ ((S ++ t.pa n :: M) ++ B) := by simp only [List.append_assoc, List.cons_append, List.nil_append]
      rw [eL] at hn hl ⊢
      subst e1
      obtain ⟨k1, r, h9, C2, S2, K2, E2⟩ := climb_step hz hk rfl h0 c s2 s hn hl ⟨fun q => by have := hh q; have := b.1 q; omega, fun q => by have := b.2 q; omega⟩
      generalize f_setAt (f_settle (f_refresh t (t.pa n)) (t.pa n)).2 n (f_settle (f_refresh t (t.pa n)) (t.pa n)).1 = w at *
      have kw : w.kd = t.kd := K2.1.2.2.2.2.2.2.2
      have n0 : 0 ∉ A' ++ ((S ++ t.pa n :: M) ++ B) := fun q => by
        rcases List.mem_append.mp q with q | q
        · exact ctx_ne0 n c (List.mem_append_left _ q)
        · rcases List.mem_append.mp q with q | q
          · exact sub_ne0 S2 0 q rfl
          · exact ctx_ne0 n c (List.mem_append_right _ q)
      obtain ⟨g1, g2, g3⟩ := ih (K2.zero n0 hz) (by rw [kw]; exact hk) C2 S2 hn hl (by simp only [List.length_append, List.length_cons]; omega) (fun q => by
        rw [kw] at q
        have a1 := hh q
        have a2 := b.1 q
        rcases E2 q with a3 | ⟨a3, a4⟩
        · omega
        · omega)
      exact ⟨⟨k1, g1⟩, g2, K2.trans g3 _ (fun z h => h) (fun z h => h)⟩
/-- the climb from the node p itself, whose sides are settled -/
theorem climb_at {t : TS} (hz : Zero t) (hk : t.kd < 4) {n p h1 h2 ho co : Nat} {A B M1 M2 : List Nat} (ep : t.pa n = p) (h0 : p ≠ 0) (C : Ctx t n p A B ho co) (s1 : Sub t 60 (t.lf p) M1 h1) (s2 : Sub t 60 (t.rt p) M2 h2) (hn : (A ++ ((M1 ++ p :: M2) ++ B)).Nodup) (hl : (A ++ ((M1 ++ p :: M2) ++ B)).length ≤ 60) (hp : Bo t.kd M1.length M2.length h1 h2) (hc : M1.length + M2.length + 1 ≤ co + 1 ∧ co ≤ M1.length + M2.length + 2) (hh : t.kd = 0 → max h1 h2 ≤ ho ∧ ho ≤ max h1 h2 + 2) :
    okClimb (n + 1) t ∧ (∃ h9, Sub (f_climb (n + 1) t) 60 (f_climb (n + 1) t).rn (A ++ ((M1 ++ p :: M2) ++ B)) h9) ∧ Kp t (f_climb (n + 1) t) (A ++ ((M1 ++ p :: M2) ++ B)) := by
  subst ep
  obtain ⟨k1, r, h9, C2, S2, K2, E2⟩ := climb_step hz hk rfl h0 C s1 s2 hn hl ⟨fun q => by have := hp.1 q; omega, fun q => by have := hp.2 q; omega⟩
  rw [climb_succ, okClimb, show (f_refresh t (t.pa n)).pa n = t.pa n from rfl]
  generalize f_setAt (f_settle (f_refresh t (t.pa n)) (t.pa n)).2 n (f_settle (f_refresh t (t.pa n)) (t.pa n)).1 = w at *
  have kw : w.kd = t.kd := K2.1.2.2.2.2.2.2.2
  have n0 : 0 ∉ A ++ ((M1 ++ t.pa n :: M2) ++ B) := fun q => by
    rcases List.mem_append.mp q with q | q
    · exact ctx_ne0 n C (List.mem_append_left _ q)
    · rcases List.mem_append.mp q with q | q
      · exact sub_ne0 S2 0 q rfl
      · exact ctx_ne0 n C (List.mem_append_right _ q)
  obtain ⟨g1, g2, g3⟩ := climb_hole n (K2.zero n0 hz) (by rw [kw]; exact hk) C2 S2 hn hl (by simp only [List.length_append, List.length_cons]; omega) (fun q => by
    rw [kw] at q
    have a1 := hh q
    have a2 := hp.1 q
    rcases E2 q with a3 | ⟨a3, a4⟩
    · omega
    · omega)
  exact ⟨⟨k1, g1⟩, g2, K2.trans g3 _ (fun z h => h) (fun z h => h)⟩
