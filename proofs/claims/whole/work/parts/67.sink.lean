/-! settle by priorities -/
theorem pref_cases (t : TS) (x : Nat) :
    (f_preferred t x = x ∧ (t.lf x ≠ 0 → prio (t.ky (t.lf x)) ≤ prio (t.ky x)) ∧ (t.rt x ≠ 0 → prio (t.ky (t.rt x)) ≤ prio (t.ky x))) ∨
    (t.lf x ≠ 0 ∧ f_preferred t x = t.lf x ∧ prio (t.ky x) ≤ prio (t.ky (t.lf x)) ∧ (t.rt x ≠ 0 → prio (t.ky (t.rt x)) ≤ prio (t.ky (t.lf x)))) ∨
    (t.rt x ≠ 0 ∧ f_preferred t x = t.rt x ∧ prio (t.ky x) ≤ prio (t.ky (t.rt x)) ∧ (t.lf x ≠ 0 → prio (t.ky (t.lf x)) ≤ prio (t.ky (t.rt x)))) := by
  have hp : (pf_l t x = x ∧ (t.lf x ≠ 0 → prio (t.ky (t.lf x)) ≤ prio (t.ky x))) ∨ (t.lf x ≠ 0 ∧ pf_l t x = t.lf x ∧ prio (t.ky x) ≤ prio (t.ky (t.lf x))) := by
    unfold pf_l
    by_cases h1 : t.lf x = 0
    · rw [if_pos h1]; exact Or.inl ⟨rfl, fun q => absurd h1 q⟩
    · rw [if_neg h1]
      by_cases h2 : prio (t.ky (t.lf x)) ≤ prio (t.ky x)
      · rw [if_pos h2]; exact Or.inl ⟨rfl, fun _ => h2⟩
      · rw [if_neg h2]; exact Or.inr ⟨h1, rfl, Int32.le_of_lt (Int32.not_le.mp h2)⟩
  unfold f_preferred
  by_cases h3 : t.rt x = 0
  · rw [if_pos h3]
    rcases hp with ⟨e, h⟩ | ⟨h, e, g⟩
    · exact Or.inl ⟨e, h, fun q => absurd h3 q⟩
    · exact Or.inr (Or.inl ⟨h, e, g, fun q => absurd h3 q⟩)
  · rw [if_neg h3]
    by_cases h4 : prio (t.ky (t.rt x)) ≤ prio (t.ky (pf_l t x))
    · rw [if_pos h4]
      rcases hp with ⟨e, h⟩ | ⟨h, e, g⟩
      · rw [e] at h4; exact Or.inl ⟨e, h, fun _ => h4⟩
      · rw [e] at h4; exact Or.inr (Or.inl ⟨h, e, g, fun _ => h4⟩)
    · rw [if_neg h4]
      have h5 := Int32.le_of_lt (Int32.not_le.mp h4)
      rcases hp with ⟨e, h⟩ | ⟨h, e, g⟩
      · rw [e] at h5; exact Or.inr (Or.inr ⟨h3, rfl, h5, fun q => Int32.le_trans (h q) h5⟩)
      · rw [e] at h5; exact Or.inr (Or.inr ⟨h3, rfl, Int32.le_trans g h5, fun _ => h5⟩)
theorem off_l {L : List Nat} {l x : Nat} (hx : x ∈ L) (hl : l ∈ L) : ∀ z ∈ [x, l], z ∈ L := fun z hz => by
  rcases List.mem_cons.mp hz with q | q
  · rw [q]; exact hx
  · rw [List.mem_singleton.mp q]; exact hl
theorem not2 {L : List Nat} {x l : Nat} (h : ∀ z ∈ L, z ≠ x ∧ z ≠ l) : ∀ z ∈ L, z ∉ [x, l] := fun z hz q => by
  rcases List.mem_cons.mp q with q | q
  · exact (h z hz).1 q
  · exact (h z hz).2 (List.mem_singleton.mp q)
theorem sink_ok : ∀ (k : Nat) {t : TS} (_ : Zero t) (_ : t.kd = 2) {x n m ha hb : Nat} {A B : List Nat} (_ : x ≠ 0) (_ : Sub t n (t.lf x) A ha) (_ : Sub t m (t.rt x) B hb) (_ : t.ct x = nI (A ++ x :: B).length) (_ : t.ht x = nI (max ha hb + 1)) (_ : t.to x = sumL t.vl (A ++ x :: B)) (_ : (A ++ x :: B).Nodup) (_ : (A ++ x :: B).length ≤ 60) (_ : A.length + B.length ≤ k),
    ∃ h9, Sub (f_sink k t x).2 60 (f_sink k t x).1 (A ++ x :: B) h9 ∧ Off t (f_sink k t x).2 (A ++ x :: B) := by
  intro k
  induction k with
  | zero =>
    intro t hz hk x n m ha hb A B h0 s1 s2 hc hh hs hn hl hf
    have eA : A = [] := List.eq_nil_of_length_eq_zero (by omega)
    have eB : B = [] := List.eq_nil_of_length_eq_zero (by omega)
    refine ⟨_, sub_up (sub_mk h0 s1 s2 hc hh hs ((bal2 hk).mpr ⟨fun q => ?_, fun q => ?_⟩)) hl, Off.rfl t _⟩
    · have := sub_top s1 q; rw [eA] at this; exact absurd this List.not_mem_nil
    · have := sub_top s2 q; rw [eB] at this; exact absurd this List.not_mem_nil
  | succ k ih =>
    intro t hz hk x n m ha hb A B h0 s1 s2 hc hh hs hn hl hf
    have hlen : A.length + B.length + 1 ≤ 60 := by simp only [List.length_append, List.length_cons] at hl; omega
    have nxA : ∀ z ∈ A, z ≠ x := fun z hz => (List.nodup_append.mp hn).2.2 z hz x List.mem_cons_self
    have nxB : ∀ z ∈ B, z ≠ x := fun z hz q => (List.nodup_cons.mp (List.nodup_append.mp hn).2.1).1 (q ▸ hz)
    have hlx : ¬ t.lf x = x := fun q => by
      rcases sub_or s1 with h | h
      · exact h0 (q.symm.trans h)
      · exact nxA _ h q
    have hrx : ¬ t.rt x = x := fun q => by
      rcases sub_or s2 with h | h
      · exact h0 (q.symm.trans h)
      · exact nxB _ h q
    rw [f_sink]
    rcases pref_cases t x with ⟨e, g1, g2⟩ | ⟨hy, e, g1, g2⟩ | ⟨hy, e, g1, g2⟩
    · rw [if_pos e]
      exact ⟨_, sub_up (sub_mk h0 s1 s2 hc hh hs ((bal2 hk).mpr ⟨g1, g2⟩)) hl, Off.rfl t _⟩
    · rw [e, if_neg hlx, if_pos rfl]
      obtain ⟨A1, A2, k1, k2, f1, f2, p1, p2, v1, v2, v3, v4⟩ := sub_inv s1 hy
      subst f1
      have hlen2 : A1.length + A2.length + B.length + 2 ≤ 60 := by simp only [List.length_append, List.length_cons] at hlen; omega
      obtain ⟨dA1, dA2, dB, hxl⟩ := nd_parts hn
      obtain ⟨o1, m1, m2, m3, m4, _, _⟩ := rotL hz h0 hy p1 p2 s2 hn hlen2
      obtain ⟨c1, c2, c3⟩ := rawL hz h0 hy hxl p2 s2 dA2 dB (by omega)
      have eL : (A1 ++ t.lf x :: A2) ++ x :: B = A1 ++ t.lf x :: (A2 ++ x :: B) := by rw [List.append_assoc, List.cons_append]
      rw [eL] at hn hl ⊢
      generalize t.lf x = l at *
      generalize f_raiseLeft t x = u1 at *
      have kd1 : u1.kd = 2 := (o1.1.2.2.2.2.2.2.2.2).trans hk
      have z1 : Zero u1 := o1.zero (fun q => by
        rcases List.mem_cons.mp q with q | q
        · exact h0 q.symm
        · exact hy (List.mem_singleton.mp q).symm) hz
      have hn2 := (List.nodup_cons.mp (List.nodup_append.mp hn).2.1)
      obtain ⟨h9, S2, O2⟩ := ih z1 kd1 (x := x) h0 (by rw [m3]; exact sub_like (o1.like (not2 dA2)) p2) (by rw [m4]; exact sub_like (o1.like (not2 dB)) s2) c1 c2 (by rw [c3, o1.1.2.1]) hn2.2 (by simp only [List.length_append, List.length_cons]; omega) (by simp only [List.length_append, List.length_cons] at hf; omega)
      generalize (f_sink k u1 x).1 = r at *
      generalize (f_sink k u1 x).2 = u2 at *
      have nl : ∀ z ∈ A2 ++ x :: B, z ≠ l := fun z hz q => hn2.1 (q ▸ hz)
      have nlA1 : ∀ z ∈ A1, z ≠ l := fun z hz => (dA1 z hz).2
      have disj : ∀ z ∈ A1, z ∉ A2 ++ x :: B := fun z hz q => (List.nodup_append.mp hn).2.2 z hz z (List.mem_cons_of_mem _ q) rfl
      obtain ⟨u3, e3⟩ : ∃ v, v = setRt u2 l r := ⟨_, rfl⟩
      have o3 : Off u2 u3 [l] := by rw [e3]; exact off_setRt u2 l r
      have no1 : ∀ {L : List Nat}, (∀ z ∈ L, z ≠ l) → ∀ z ∈ L, z ∉ [l] := fun h z hz q => h z hz (List.mem_singleton.mp q)
      have b1 : u3.lf l = t.lf l := by rw [e3]; exact ((O2.2 l (fun q => nl l q rfl)).1).trans m1
      have b2 : u3.rt l = r := by rw [e3]; exact up_eq
      have SA : Sub u3 n (t.lf l) A1 k1 := sub_like (o3.like (no1 nlA1)) (sub_like (O2.like disj) (sub_like (o1.like (not2 dA1)) p1))
      have SB : Sub u3 60 r (A2 ++ x :: B) h9 := sub_like (o3.like (no1 nl)) S2
      have n0 : 0 ∉ A2 ++ x :: B := fun q => sub_ne0 S2 0 q rfl
      have z3 : Zero u3 := o3.zero (fun q => hy (List.mem_singleton.mp q).symm) (O2.zero n0 z1)
      obtain ⟨w1, w2, w3⟩ := refresh_x z3 (x := l) (by rw [b1]; exact SA) (by rw [b2]; exact SB) (by simp only [List.length_append, List.length_cons]; omega)
      have o4 := off_refresh u3 l
      rw [← e3]
      obtain ⟨u, eu⟩ : ∃ v, v = f_refresh u3 l := ⟨_, rfl⟩
      rw [← eu] at w1 w2 w3 o4 ⊢
      have eky : u.ky = t.ky := ((o4.1.1.trans o3.1.1).trans O2.1.1).trans o1.1.1
      have evl : u.vl = u3.vl := o4.1.2.1
      have ekd : u.kd = 2 := ((o4.1.2.2.2.2.2.2.2.2.trans o3.1.2.2.2.2.2.2.2.2).trans O2.1.2.2.2.2.2.2.2.2).trans kd1
      have ulf : u.lf l = t.lf l := by rw [eu]; exact b1
      have urt : u.rt l = r := by rw [eu]; exact b2
      rw [bal2 hk] at v4
      refine ⟨_, sub_up (sub_mk hy (by rw [ulf]; exact sub_like (o4.like (no1 nlA1)) SA) (by rw [urt]; exact sub_like (o4.like (no1 nl)) SB) w1 w2 (by rw [w3, evl]) ((bal2 ekd).mpr ⟨fun q => ?_, fun q => ?_⟩)) hl, ?_⟩
      · rw [ulf] at q ⊢; rw [eky]; exact v4.1 q
      · rw [urt] at q ⊢
        rw [eky]
        rcases List.mem_append.mp (sub_top S2 q) with h | h
        · have h1 : t.rt l ≠ 0 := fun e => by rw [e] at p2; rw [(sub_z p2).1] at h; exact absurd h List.not_mem_nil
          exact Int32.le_trans (heap_top hk p2 r h) (v4.2 h1)
        · rcases List.mem_cons.mp h with h | h
          · rw [h]; exact g1
          · have h1 : t.rt x ≠ 0 := fun e => by rw [e] at s2; rw [(sub_z s2).1] at h; exact absurd h List.not_mem_nil
            exact Int32.le_trans (heap_top hk s2 r h) (g2 h1)
      · have ml : l ∈ A1 ++ l :: (A2 ++ x :: B) := List.mem_append_right _ List.mem_cons_self
        have mx : x ∈ A1 ++ l :: (A2 ++ x :: B) := List.mem_append_right _ (List.mem_cons_of_mem _ (List.mem_append_right _ List.mem_cons_self))
        have q1 := o1.trans O2 (A1 ++ l :: (A2 ++ x :: B)) (off_l mx ml) (fun z hz => List.mem_append_right _ (List.mem_cons_of_mem _ hz))
        have q2 := q1.trans o3 _ (fun z h => h) (fun z hz => by rw [List.mem_singleton.mp hz]; exact ml)
        exact q2.trans o4 _ (fun z h => h) (fun z hz => by rw [List.mem_singleton.mp hz]; exact ml)
    · have hne : ¬ t.rt x = t.lf x := fun q => by
        have h1 := sub_top s2 hy
        rcases sub_or s1 with h | h
        · exact hy (q.trans h)
        · exact (List.nodup_append.mp hn).2.2 _ h _ (List.mem_cons_of_mem _ h1) q.symm
      rw [e, if_neg hrx, if_neg hne]
      obtain ⟨B1, B2, k1, k2, f1, f2, p1, p2, v1, v2, v3, v4⟩ := sub_inv s2 hy
      subst f1
      have eL : A ++ x :: (B1 ++ t.rt x :: B2) = (A ++ x :: B1) ++ t.rt x :: B2 := by rw [List.append_assoc, List.cons_append]
      rw [eL] at hn hl ⊢
      have hlen2 : A.length + B1.length + B2.length + 2 ≤ 60 := by simp only [List.length_append, List.length_cons] at hlen; omega
      obtain ⟨dA', dB1', dB2', hlx2⟩ := nd_parts hn
      have dA : ∀ z ∈ A, z ≠ x ∧ z ≠ t.rt x := fun z hz => ⟨(dA' z hz).2, (dA' z hz).1⟩
      have dB1 : ∀ z ∈ B1, z ≠ x ∧ z ≠ t.rt x := fun z hz => ⟨(dB1' z hz).2, (dB1' z hz).1⟩
      have dB2 : ∀ z ∈ B2, z ≠ x ∧ z ≠ t.rt x := fun z hz => ⟨(dB2' z hz).2, (dB2' z hz).1⟩
      obtain ⟨o1, m1, m2, m3, m4, _, _⟩ := rotR hz h0 hy s1 p1 p2 hn hlen2
      obtain ⟨c1, c2, c3⟩ := rawR hz h0 hy (fun q => hlx2 q.symm) s1 p1 dA dB1 (by omega)
      generalize t.rt x = l at *
      generalize f_raiseRight t x = u1 at *
      have kd1 : u1.kd = 2 := (o1.1.2.2.2.2.2.2.2.2).trans hk
      have z1 : Zero u1 := o1.zero (fun q => by
        rcases List.mem_cons.mp q with q | q
        · exact h0 q.symm
        · exact hy (List.mem_singleton.mp q).symm) hz
      have hnA := (List.nodup_append.mp hn).1
      obtain ⟨h9, S2, O2⟩ := ih z1 kd1 (x := x) h0 (by rw [m4]; exact sub_like (o1.like (not2 dA)) s1) (by rw [m3]; exact sub_like (o1.like (not2 dB1)) p1) c1 c2 (by rw [c3, o1.1.2.1]) hnA (by simp only [List.length_append, List.length_cons]; omega) (by simp only [List.length_append, List.length_cons] at hf; omega)
      generalize (f_sink k u1 x).1 = r at *
      generalize (f_sink k u1 x).2 = u2 at *
      have nl : ∀ z ∈ A ++ x :: B1, z ≠ l := fun z hz => (List.nodup_append.mp hn).2.2 z hz l List.mem_cons_self
      have nlB2 : ∀ z ∈ B2, z ≠ l := fun z hz => (dB2 z hz).2
      have disj : ∀ z ∈ B2, z ∉ A ++ x :: B1 := fun z hz q => (List.nodup_append.mp hn).2.2 z q z (List.mem_cons_of_mem _ hz) rfl
      obtain ⟨u3, e3⟩ : ∃ v, v = setLf u2 l r := ⟨_, rfl⟩
      have o3 : Off u2 u3 [l] := by rw [e3]; exact off_setLf u2 l r
      have no1 : ∀ {L : List Nat}, (∀ z ∈ L, z ≠ l) → ∀ z ∈ L, z ∉ [l] := fun h z hz q => h z hz (List.mem_singleton.mp q)
      have b1 : u3.rt l = t.rt l := by rw [e3]; exact ((O2.2 l (fun q => nl l q rfl)).2.1).trans m1
      have b2 : u3.lf l = r := by rw [e3]; exact up_eq
      have SB : Sub u3 m (t.rt l) B2 k2 := sub_like (o3.like (no1 nlB2)) (sub_like (O2.like disj) (sub_like (o1.like (not2 dB2)) p2))
      have SA : Sub u3 60 r (A ++ x :: B1) h9 := sub_like (o3.like (no1 nl)) S2
      have n0 : 0 ∉ A ++ x :: B1 := fun q => sub_ne0 S2 0 q rfl
      have z3 : Zero u3 := o3.zero (fun q => hy (List.mem_singleton.mp q).symm) (O2.zero n0 z1)
      obtain ⟨w1, w2, w3⟩ := refresh_x z3 (x := l) (by rw [b2]; exact SA) (by rw [b1]; exact SB) (by simp only [List.length_append, List.length_cons]; omega)
      have o4 := off_refresh u3 l
      rw [← e3]
      obtain ⟨u, eu⟩ : ∃ v, v = f_refresh u3 l := ⟨_, rfl⟩
      rw [← eu] at w1 w2 w3 o4 ⊢
      have eky : u.ky = t.ky := ((o4.1.1.trans o3.1.1).trans O2.1.1).trans o1.1.1
      have evl : u.vl = u3.vl := o4.1.2.1
      have ekd : u.kd = 2 := ((o4.1.2.2.2.2.2.2.2.2.trans o3.1.2.2.2.2.2.2.2.2).trans O2.1.2.2.2.2.2.2.2.2).trans kd1
      have ulf : u.lf l = r := by rw [eu]; exact b2
      have urt : u.rt l = t.rt l := by rw [eu]; exact b1
      rw [bal2 hk] at v4
      refine ⟨_, sub_up (sub_mk hy (by rw [ulf]; exact sub_like (o4.like (no1 nl)) SA) (by rw [urt]; exact sub_like (o4.like (no1 nlB2)) SB) w1 w2 (by rw [w3, evl]) ((bal2 ekd).mpr ⟨fun q => ?_, fun q => ?_⟩)) hl, ?_⟩
      · rw [ulf] at q ⊢
        rw [eky]
        rcases List.mem_append.mp (sub_top S2 q) with h | h
        · have h1 : t.lf x ≠ 0 := fun e => by rw [e] at s1; rw [(sub_z s1).1] at h; exact absurd h List.not_mem_nil
          exact Int32.le_trans (heap_top hk s1 r h) (g2 h1)
        · rcases List.mem_cons.mp h with h | h
          · rw [h]; exact g1
          · have h1 : t.lf l ≠ 0 := fun e => by rw [e] at p1; rw [(sub_z p1).1] at h; exact absurd h List.not_mem_nil
            exact Int32.le_trans (heap_top hk p1 r h) (v4.1 h1)
      · rw [urt] at q ⊢; rw [eky]; exact v4.2 q
      · have ml : l ∈ (A ++ x :: B1) ++ l :: B2 := List.mem_append_right _ List.mem_cons_self
        have mx : x ∈ (A ++ x :: B1) ++ l :: B2 := List.mem_append_left _ (List.mem_append_right _ List.mem_cons_self)
        have q1 := o1.trans O2 ((A ++ x :: B1) ++ l :: B2) (off_l mx ml) (fun z hz => List.mem_append_left _ hz)
        have q2 := q1.trans o3 _ (fun z h => h) (fun z hz => by rw [List.mem_singleton.mp hz]; exact ml)
        exact q2.trans o4 _ (fun z h => h) (fun z hz => by rw [List.mem_singleton.mp hz]; exact ml)
