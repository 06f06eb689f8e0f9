/-! settle by heights, settle by weights -/
theorem bal0 {t : TS} {x a b ha hb : Nat} (hk : t.kd = 0) : Bal t x a b ha hb ↔ ha ≤ hb + 1 ∧ hb ≤ ha + 1 := by unfold Bal; rw [if_pos hk]
theorem bal1 {t : TS} {x a b ha hb : Nat} (hk : t.kd = 1) : Bal t x a b ha hb ↔ a + 1 ≤ 3 * (b + 1) ∧ b + 1 ≤ 3 * (a + 1) := by unfold Bal; rw [if_neg (by omega), if_pos hk]
theorem too_iff0 {t : TS} {p q ha hb : Nat} (h1 : t.ht p = nI ha) (h2 : t.ht q = nI hb) (b1 : ha ≤ 60) (b2 : hb ≤ 60) : f_too false t p q = true ↔ hb + 1 < ha := by
  rw [too_h, h1, h2, nI_1]
  by_cases h : ha ≤ hb + 1
  · rw [if_pos ((xn_le (by omega) (by omega)).mpr h)]
    exact ⟨fun q => absurd q (by decide), fun q => by omega⟩
  · rw [if_neg (fun q => h ((xn_le (by omega) (by omega)).mp q))]
    exact ⟨fun _ => by omega, fun _ => rfl⟩
theorem part_iff0 {t : TS} {p q ha hb : Nat} (h1 : t.ht p = nI ha) (h2 : t.ht q = nI hb) (b1 : ha ≤ 60) (b2 : hb ≤ 60) : f_part false t p q = true ↔ hb < ha := by
  rw [part_h, h1, h2]
  by_cases h : ha ≤ hb
  · rw [if_pos ((xn_le (by omega) (by omega)).mpr h)]
    exact ⟨fun q => absurd q (by decide), fun q => by omega⟩
  · rw [if_neg (fun q => h ((xn_le (by omega) (by omega)).mp q))]
    exact ⟨fun _ => by omega, fun _ => rfl⟩
theorem too_iff1 {t : TS} {p q a b : Nat} (h1 : t.ct p = nI a) (h2 : t.ct q = nI b) (b1 : a ≤ 60) (b2 : b ≤ 60) : f_too true t p q = true ↔ 3 * (b + 1) < a + 1 := by
  have e : (3 : Int32) * (nI b + 1) = nI (3 * (b + 1)) := by rw [nI_1]; exact pk_mul 3 (b + 1)
  rw [too_w, h1, h2, e, nI_1]
  by_cases h : a + 1 ≤ 3 * (b + 1)
  · rw [if_pos ((xn_le (by omega) (by omega)).mpr h)]
    exact ⟨fun q => absurd q (by decide), fun q => by omega⟩
  · rw [if_neg (fun q => h ((xn_le (by omega) (by omega)).mp q))]
    exact ⟨fun _ => by omega, fun _ => rfl⟩
theorem part_iff1 {t : TS} {p q a b : Nat} (h1 : t.ct p = nI a) (h2 : t.ct q = nI b) (b1 : a ≤ 60) (b2 : b ≤ 60) : f_part true t p q = true ↔ 2 * (b + 1) ≤ a + 1 := by
  have e : (2 : Int32) * (nI b + 1) = nI (2 * (b + 1)) := by rw [nI_1]; exact pk_mul 2 (b + 1)
  rw [part_w, h1, h2, e, nI_1]
  by_cases h : a + 1 < 2 * (b + 1)
  · rw [if_pos ((xn_lt (by omega) (by omega)).mpr h)]
    exact ⟨fun q => absurd q (by decide), fun q => by omega⟩
  · rw [if_neg (fun q => h ((xn_lt (by omega) (by omega)).mp q))]
    exact ⟨fun _ => by omega, fun _ => rfl⟩
theorem set2_LS {w : Bool} {t : TS} {x : Nat} (h1 : f_too w t (t.lf x) (t.rt x) = true) (h2 : ¬ f_part w t (t.rt (t.lf x)) (t.lf (t.lf x)) = true) : f_settle2 w t x = (t.lf x, f_raiseLeft t x) := by unfold f_settle2; rw [if_pos h1]; dsimp only; rw [if_neg h2]
theorem set2_LD {w : Bool} {t : TS} {x : Nat} (h1 : f_too w t (t.lf x) (t.rt x) = true) (h2 : f_part w t (t.rt (t.lf x)) (t.lf (t.lf x)) = true) : f_settle2 w t x = ((setLf (f_raiseRight t (t.lf x)) x (t.rt (t.lf x))).lf x, f_raiseLeft (setLf (f_raiseRight t (t.lf x)) x (t.rt (t.lf x))) x) := by unfold f_settle2; rw [if_pos h1]; dsimp only; rw [if_pos h2]
theorem set2_RS {w : Bool} {t : TS} {x : Nat} (h0 : ¬ f_too w t (t.lf x) (t.rt x) = true) (h1 : f_too w t (t.rt x) (t.lf x) = true) (h2 : ¬ f_part w t (t.lf (t.rt x)) (t.rt (t.rt x)) = true) : f_settle2 w t x = (t.rt x, f_raiseRight t x) := by unfold f_settle2; rw [if_neg h0, if_pos h1]; dsimp only; rw [if_neg h2]
theorem set2_RD {w : Bool} {t : TS} {x : Nat} (h0 : ¬ f_too w t (t.lf x) (t.rt x) = true) (h1 : f_too w t (t.rt x) (t.lf x) = true) (h2 : f_part w t (t.lf (t.rt x)) (t.rt (t.rt x)) = true) : f_settle2 w t x = ((setRt (f_raiseLeft t (t.rt x)) x (t.lf (t.rt x))).rt x, f_raiseRight (setRt (f_raiseLeft t (t.rt x)) x (t.lf (t.rt x))) x) := by unfold f_settle2; rw [if_neg h0, if_pos h1]; dsimp only; rw [if_pos h2]
theorem set2_N {w : Bool} {t : TS} {x : Nat} (h0 : ¬ f_too w t (t.lf x) (t.rt x) = true) (h1 : ¬ f_too w t (t.rt x) (t.lf x) = true) : f_settle2 w t x = (x, t) := by unfold f_settle2; rw [if_neg h0, if_neg h1]

theorem settle_h {t : TS} (hz : Zero t) (hk : t.kd = 0) {x n m ha hb : Nat} {A B : List Nat} (h0 : x ≠ 0) (s1 : Sub t n (t.lf x) A ha) (s2 : Sub t m (t.rt x) B hb) (hc : t.ct x = nI (A ++ x :: B).length) (hh : t.ht x = nI (max ha hb + 1)) (hs : t.to x = sumL t.vl (A ++ x :: B)) (hn : (A ++ x :: B).Nodup) (hl : (A ++ x :: B).length ≤ 60) (d1 : ha ≤ hb + 2) (d2 : hb ≤ ha + 2) :
    ∃ h9, Sub (f_settle2 false t x).2 60 (f_settle2 false t x).1 (A ++ x :: B) h9 ∧ Off t (f_settle2 false t x).2 (A ++ x :: B) ∧ (h9 = max ha hb + 1 ∨ (h9 = max ha hb ∧ (hb + 2 ≤ ha ∨ ha + 2 ≤ hb))) := by
  have hl2 : A.length + B.length + 1 ≤ 60 := by simp only [List.length_append, List.length_cons] at hl; omega
  have la := sub_len s1
  have lb := sub_len s2
  by_cases h1 : f_too false t (t.lf x) (t.rt x) = true
  · have hto := (too_iff0 (sub_ct hz s1).2.1 (sub_ct hz s2).2.1 (by omega) (by omega)).mp h1
    have hy : t.lf x ≠ 0 := fun q => by
      rw [q] at s1
      obtain ⟨e1, e2⟩ := sub_z s1
      omega
    obtain ⟨A1, A2, g1, g2, e1, e2, p1, p2, r1, r2, r3, r4⟩ := sub_inv s1 hy
    subst e1
    have l1 := sub_len p1
    have l2 := sub_len p2
    simp only [List.length_append, List.length_cons] at hl2 la
    by_cases h2 : f_part false t (t.rt (t.lf x)) (t.lf (t.lf x)) = true
    · have hp := (part_iff0 (sub_ct hz p2).2.1 (sub_ct hz p1).2.1 (by omega) (by omega)).mp h2
      have hr : t.rt (t.lf x) ≠ 0 := fun q => by
        rw [q] at p2
        obtain ⟨e1, e2⟩ := sub_z p2
        omega
      obtain ⟨C1, C2, k1, k2, f1, f2, w1, w2, v1, v2, v3, w4⟩ := sub_inv p2 hr
      subst f1
      simp only [List.length_append, List.length_cons] at hl2 l2 r4
      have l3 := sub_len w1
      have l4 := sub_len w2
      rw [set2_LD h1 h2]
      obtain ⟨q1, q2, q3⟩ := double_L hz h0 hy hr p1 w1 w2 s2 hn hl (by omega) (by rw [bal0 hk]; rw [bal0 hk] at r4 w4; omega) (by rw [bal0 hk]; rw [bal0 hk] at r4 w4; omega) (by rw [bal0 hk]; rw [bal0 hk] at r4 w4; omega)
      rw [q1]
      exact ⟨_, q3, q2, by omega⟩
    · have hp : ¬ g1 < g2 := fun q => h2 ((part_iff0 (sub_ct hz p2).2.1 (sub_ct hz p1).2.1 (by omega) (by omega)).mpr q)
      rw [set2_LS h1 h2]
      obtain ⟨q2, q3⟩ := single_L hz h0 hy p1 p2 s2 hn hl (by omega) (by rw [bal0 hk]; rw [bal0 hk] at r4; omega) (by rw [bal0 hk]; rw [bal0 hk] at r4; omega)
      exact ⟨_, q3, q2, by omega⟩
  · have hno : ¬ hb + 1 < ha := fun q => h1 ((too_iff0 (sub_ct hz s1).2.1 (sub_ct hz s2).2.1 (by omega) (by omega)).mpr q)
    by_cases h2 : f_too false t (t.rt x) (t.lf x) = true
    · have hto := (too_iff0 (sub_ct hz s2).2.1 (sub_ct hz s1).2.1 (by omega) (by omega)).mp h2
      have hy : t.rt x ≠ 0 := fun q => by
        rw [q] at s2
        obtain ⟨e1, e2⟩ := sub_z s2
        omega
      obtain ⟨B1, B2, g1, g2, e1, e2, p1, p2, r1, r2, r3, r4⟩ := sub_inv s2 hy
      subst e1
      have l1 := sub_len p1
      have l2 := sub_len p2
      simp only [List.length_append, List.length_cons] at hl2 lb
      by_cases h3 : f_part false t (t.lf (t.rt x)) (t.rt (t.rt x)) = true
      · have hp := (part_iff0 (sub_ct hz p1).2.1 (sub_ct hz p2).2.1 (by omega) (by omega)).mp h3
        have hr : t.lf (t.rt x) ≠ 0 := fun q => by
          rw [q] at p1
          obtain ⟨e1, e2⟩ := sub_z p1
          omega
        obtain ⟨C1, C2, k1, k2, f1, f2, w1, w2, v1, v2, v3, w4⟩ := sub_inv p1 hr
        subst f1
        simp only [List.length_append, List.length_cons] at hl2 l1 r4
        have l3 := sub_len w1
        have l4 := sub_len w2
        rw [set2_RD h1 h2 h3]
        obtain ⟨q1, q2, q3⟩ := double_R hz h0 hy hr p2 w1 w2 s1 hn hl (by omega) (by rw [bal0 hk]; rw [bal0 hk] at r4 w4; omega) (by rw [bal0 hk]; rw [bal0 hk] at r4 w4; omega) (by rw [bal0 hk]; rw [bal0 hk] at r4 w4; omega)
        rw [q1]
        exact ⟨_, q3, q2, by omega⟩
      · have hp : ¬ g2 < g1 := fun q => h3 ((part_iff0 (sub_ct hz p1).2.1 (sub_ct hz p2).2.1 (by omega) (by omega)).mpr q)
        rw [set2_RS h1 h2 h3]
        obtain ⟨q2, q3⟩ := single_R hz h0 hy s1 p1 p2 hn hl (by omega) (by rw [bal0 hk]; rw [bal0 hk] at r4; omega) (by rw [bal0 hk]; rw [bal0 hk] at r4; omega)
        exact ⟨_, q3, q2, by omega⟩
    · have hno2 : ¬ ha + 1 < hb := fun q => h2 ((too_iff0 (sub_ct hz s2).2.1 (sub_ct hz s1).2.1 (by omega) (by omega)).mpr q)
      rw [set2_N h1 h2]
      exact ⟨_, sub_up (sub_mk h0 s1 s2 hc hh hs (by rw [bal0 hk]; omega)) hl, Off.rfl t _, by omega⟩

theorem settle_w {t : TS} (hz : Zero t) (hk : t.kd = 1) {x n m ha hb : Nat} {A B : List Nat} (h0 : x ≠ 0) (s1 : Sub t n (t.lf x) A ha) (s2 : Sub t m (t.rt x) B hb) (hc : t.ct x = nI (A ++ x :: B).length) (hh : t.ht x = nI (max ha hb + 1)) (hs : t.to x = sumL t.vl (A ++ x :: B)) (hn : (A ++ x :: B).Nodup) (hl : (A ++ x :: B).length ≤ 60) (d1 : A.length + 1 ≤ 3 * (B.length + 2)) (d2 : B.length + 1 ≤ 3 * (A.length + 2)) :
    ∃ h9, Sub (f_settle2 true t x).2 60 (f_settle2 true t x).1 (A ++ x :: B) h9 ∧ Off t (f_settle2 true t x).2 (A ++ x :: B) := by
  have hl2 : A.length + B.length + 1 ≤ 60 := by simp only [List.length_append, List.length_cons] at hl; omega
  have la := sub_len s1
  have lb := sub_len s2
  by_cases h1 : f_too true t (t.lf x) (t.rt x) = true
  · have hto := (too_iff1 (sub_ct hz s1).1 (sub_ct hz s2).1 (by omega) (by omega)).mp h1
    have hy : t.lf x ≠ 0 := fun q => by
      rw [q] at s1
      obtain ⟨e1, e2⟩ := sub_z s1
      (rw [e1] at hto; simp only [List.length_nil] at hto; omega)
    obtain ⟨A1, A2, g1, g2, e1, e2, p1, p2, r1, r2, r3, r4⟩ := sub_inv s1 hy
    subst e1
    have l1 := sub_len p1
    have l2 := sub_len p2
    simp only [List.length_append, List.length_cons] at hl2 la hto d1 d2
    by_cases h2 : f_part true t (t.rt (t.lf x)) (t.lf (t.lf x)) = true
    · have hp := (part_iff1 (sub_ct hz p2).1 (sub_ct hz p1).1 (by omega) (by omega)).mp h2
      have hr : t.rt (t.lf x) ≠ 0 := fun q => by
        rw [q] at p2
        obtain ⟨e1, e2⟩ := sub_z p2
        (rw [e1] at hp; simp only [List.length_nil] at hp; omega)
      obtain ⟨C1, C2, k1, k2, f1, f2, w1, w2, v1, v2, v3, w4⟩ := sub_inv p2 hr
      subst f1
      simp only [List.length_append, List.length_cons] at hl2 l2 r4 hp hto d1 d2
      have l3 := sub_len w1
      have l4 := sub_len w2
      rw [set2_LD h1 h2]
      obtain ⟨q1, q2, q3⟩ := double_L hz h0 hy hr p1 w1 w2 s2 hn hl (by omega) (by rw [bal1 hk]; rw [bal1 hk] at r4 w4; omega) (by rw [bal1 hk]; rw [bal1 hk] at r4 w4; omega) (by rw [bal1 hk]; rw [bal1 hk] at r4 w4; omega)
      rw [q1]
      exact ⟨_, q3, q2⟩
    · have hp : ¬ 2 * (A1.length + 1) ≤ A2.length + 1 := fun q => h2 ((part_iff1 (sub_ct hz p2).1 (sub_ct hz p1).1 (by omega) (by omega)).mpr q)
      rw [set2_LS h1 h2]
      obtain ⟨q2, q3⟩ := single_L hz h0 hy p1 p2 s2 hn hl (by omega) (by rw [bal1 hk]; rw [bal1 hk] at r4; omega) (by rw [bal1 hk]; rw [bal1 hk] at r4; omega)
      exact ⟨_, q3, q2⟩
  · have hno : ¬ 3 * (B.length + 1) < A.length + 1 := fun q => h1 ((too_iff1 (sub_ct hz s1).1 (sub_ct hz s2).1 (by omega) (by omega)).mpr q)
    by_cases h2 : f_too true t (t.rt x) (t.lf x) = true
    · have hto := (too_iff1 (sub_ct hz s2).1 (sub_ct hz s1).1 (by omega) (by omega)).mp h2
      have hy : t.rt x ≠ 0 := fun q => by
        rw [q] at s2
        obtain ⟨e1, e2⟩ := sub_z s2
        (rw [e1] at hto; simp only [List.length_nil] at hto; omega)
      obtain ⟨B1, B2, g1, g2, e1, e2, p1, p2, r1, r2, r3, r4⟩ := sub_inv s2 hy
      subst e1
      have l1 := sub_len p1
      have l2 := sub_len p2
      simp only [List.length_append, List.length_cons] at hl2 lb hto hno d1 d2
      by_cases h3 : f_part true t (t.lf (t.rt x)) (t.rt (t.rt x)) = true
      · have hp := (part_iff1 (sub_ct hz p1).1 (sub_ct hz p2).1 (by omega) (by omega)).mp h3
        have hr : t.lf (t.rt x) ≠ 0 := fun q => by
          rw [q] at p1
          obtain ⟨e1, e2⟩ := sub_z p1
          (rw [e1] at hp; simp only [List.length_nil] at hp; omega)
        obtain ⟨C1, C2, k1, k2, f1, f2, w1, w2, v1, v2, v3, w4⟩ := sub_inv p1 hr
        subst f1
        simp only [List.length_append, List.length_cons] at hl2 l1 r4 hp hto d1 d2
        have l3 := sub_len w1
        have l4 := sub_len w2
        rw [set2_RD h1 h2 h3]
        obtain ⟨q1, q2, q3⟩ := double_R hz h0 hy hr p2 w1 w2 s1 hn hl (by omega) (by rw [bal1 hk]; rw [bal1 hk] at r4 w4; omega) (by rw [bal1 hk]; rw [bal1 hk] at r4 w4; omega) (by rw [bal1 hk]; rw [bal1 hk] at r4 w4; omega)
        rw [q1]
        exact ⟨_, q3, q2⟩
      · have hp : ¬ 2 * (B2.length + 1) ≤ B1.length + 1 := fun q => h3 ((part_iff1 (sub_ct hz p1).1 (sub_ct hz p2).1 (by omega) (by omega)).mpr q)
        rw [set2_RS h1 h2 h3]
        obtain ⟨q2, q3⟩ := single_R hz h0 hy s1 p1 p2 hn hl (by omega) (by rw [bal1 hk]; rw [bal1 hk] at r4; omega) (by rw [bal1 hk]; rw [bal1 hk] at r4; omega)
        exact ⟨_, q3, q2⟩
    · have hno2 : ¬ 3 * (A.length + 1) < B.length + 1 := fun q => h2 ((too_iff1 (sub_ct hz s2).1 (sub_ct hz s1).1 (by omega) (by omega)).mpr q)
      rw [set2_N h1 h2]
      exact ⟨_, sub_up (sub_mk h0 s1 s2 hc hh hs (by rw [bal1 hk]; omega)) hl, Off.rfl t _⟩
