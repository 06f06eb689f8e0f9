/-! what the reading methods answer -/
def rho (od x : Int32) : Int := if od = 1 then -x.toInt else if od = 2 then (fdiv x 4).toInt else x.toInt
theorem gB_rho (od x y : Int32) : gB od x y = true ↔ rho od x < rho od y := by
  unfold gB rho
  by_cases h1 : od = 1
  · rw [if_pos h1, if_pos h1, if_pos h1]
    by_cases h : x ≤ y
    · rw [if_pos h]
      rw [Int32.le_iff_toInt_le] at h
      exact ⟨fun q => absurd q (by decide), fun q => by omega⟩
    · rw [if_neg h]
      rw [Int32.le_iff_toInt_le] at h
      exact ⟨fun _ => by omega, fun _ => rfl⟩
  · rw [if_neg h1, if_neg h1, if_neg h1]
    by_cases h2 : od = 2
    · rw [if_pos h2, if_pos h2, if_pos h2]
      by_cases h : fdiv y 4 ≤ fdiv x 4
      · rw [if_pos h]
        rw [Int32.le_iff_toInt_le] at h
        exact ⟨fun q => absurd q (by decide), fun q => by omega⟩
      · rw [if_neg h]
        rw [Int32.le_iff_toInt_le] at h
        exact ⟨fun _ => by omega, fun _ => rfl⟩
    · rw [if_neg h2, if_neg h2, if_neg h2]
      by_cases h : y ≤ x
      · rw [if_pos h]
        rw [Int32.le_iff_toInt_le] at h
        exact ⟨fun q => absurd q (by decide), fun q => by omega⟩
      · rw [if_neg h]
        rw [Int32.le_iff_toInt_le] at h
        exact ⟨fun _ => by omega, fun _ => rfl⟩
theorem gB_f (od x y : Int32) : gB od x y = false ↔ rho od y ≤ rho od x := by
  cases h : gB od x y with
  | true => exact ⟨fun q => absurd q (by decide), fun q => by have := (gB_rho od x y).mp h; omega⟩
  | false => exact ⟨fun _ => Int.not_lt.mp (fun q => by rw [(gB_rho od x y).mpr q] at h; exact absurd h (by decide)), fun _ => rfl⟩
/-- the nodes' keys go up -/
def Up (t : TS) (L : List Nat) : Prop := L.Pairwise (fun x y => rho t.od (t.ky x) < rho t.od (t.ky y))
theorem up_app {t : TS} {A B : List Nat} {x : Nat} (h : Up t (A ++ x :: B)) : Up t A ∧ Up t B ∧ (∀ z ∈ A, rho t.od (t.ky z) < rho t.od (t.ky x)) ∧ (∀ z ∈ B, rho t.od (t.ky x) < rho t.od (t.ky z)) := by
  unfold Up at h
  rw [List.pairwise_append, List.pairwise_cons] at h
  exact ⟨h.1, h.2.1.2, fun z hz => h.2.2 z hz x List.mem_cons_self, h.2.1.1⟩
/-- how many of the first nodes go before a key -/
def plN (t : TS) (key : Int32) (L : List Nat) : Nat := (L.takeWhile (fun z => gB t.od (t.ky z) key)).length
theorem tw_all {p : Nat → Bool} : ∀ {A B : List Nat}, (∀ z ∈ A, p z = true) → (A ++ B).takeWhile p = A ++ B.takeWhile p := by
  intro A B
  induction A with
  | nil => intro _; rfl
  | cons x A ih =>
    intro h
    rw [List.cons_append, List.takeWhile_cons, if_pos (h x List.mem_cons_self), ih (fun z hz => h z (List.mem_cons_of_mem _ hz)), List.cons_append]
theorem tw_stop {p : Nat → Bool} : ∀ {A B : List Nat} {x : Nat}, p x = false → (A ++ x :: B).takeWhile p = A.takeWhile p := by
  intro A B x hx
  induction A with
  | nil => rw [List.nil_append, List.takeWhile_cons, if_neg (by rw [hx]; decide)]; rfl
  | cons y A ih =>
    rw [List.cons_append, List.takeWhile_cons, List.takeWhile_cons, ih]
theorem tw_t {t : TS} {key : Int32} {A B : List Nat} {x : Nat} (h : Up t (A ++ x :: B)) (hx : gB t.od (t.ky x) key = true) : (A ++ x :: B).takeWhile (fun z => gB t.od (t.ky z) key) = A ++ x :: B.takeWhile (fun z => gB t.od (t.ky z) key) := by
  obtain ⟨h1, h2, h3, h4⟩ := up_app h
  have q := (gB_rho _ _ _).mp hx
  rw [tw_all (fun z hz => (gB_rho _ _ _).mpr (Int.lt_trans (h3 z hz) q)), List.takeWhile_cons, if_pos hx]
theorem pl_t {t : TS} {key : Int32} {A B : List Nat} {x : Nat} (h : Up t (A ++ x :: B)) (hx : gB t.od (t.ky x) key = true) : plN t key (A ++ x :: B) = A.length + 1 + plN t key B := by
  unfold plN
  rw [tw_t h hx, List.length_append, List.length_cons]
  omega
theorem pl_f {t : TS} {key : Int32} {A B : List Nat} {x : Nat} (hx : gB t.od (t.ky x) key = false) : plN t key (A ++ x :: B) = plN t key A := by
  unfold plN
  rw [tw_stop hx]
theorem cb_spec {t : TS} (hz : Zero t) (key : Int32) : ∀ (n x : Nat) (L : List Nat) (h : Nat) (b : Int32), Sub t n x L h → Up t L → cb_go t key n x b = b + nI (plN t key L) := by
  intro n
  induction n with
  | zero =>
    intro x L h b hs _
    obtain ⟨rfl, rfl, rfl⟩ := hs
    rw [cb_go, show plN t key [] = 0 from rfl, nI_0, Int32.add_zero]
  | succ n ih =>
    intro x L h b hs hu
    rw [cb_go]
    rcases hs with ⟨rfl, rfl, rfl⟩ | ⟨h0, A, B, ha, hb, e1, e2, s1, s2, r1, r2, r3, r4⟩
    · rw [if_pos rfl, show plN t key [] = 0 from rfl, nI_0, Int32.add_zero]
    · subst e1
      obtain ⟨u1, u2, u3, u4⟩ := up_app hu
      rw [if_neg h0]
      cases hg : gB t.od (t.ky x) key with
      | true =>
        rw [if_pos rfl, ih _ _ _ _ s2 u2, pl_t hu hg, (sub_ct hz s1).1, nI_1, Int32.add_assoc, nI_add]
      | false => rw [if_neg (by decide), ih _ _ _ _ s1 u1, pl_f hg]
theorem sumL_app (v : Nat → Int32) : ∀ (A B : List Nat), sumL v (A ++ B) = sumL v A + sumL v B := by
  intro A B
  induction A with
  | nil => rw [List.nil_append, sumL_nil, Int64.zero_add]
  | cons x A ih => rw [List.cons_append, sumL_cons, sumL_cons, ih, Int64.add_assoc]
theorem tb_spec {t : TS} (hz : Zero t) (key : Int32) : ∀ (n x : Nat) (L : List Nat) (h : Nat) (b : Int64), Sub t n x L h → Up t L → tb_go t key n x b = b + sumL t.vl (L.takeWhile (fun z => gB t.od (t.ky z) key)) := by
  intro n
  induction n with
  | zero =>
    intro x L h b hs _
    obtain ⟨rfl, rfl, rfl⟩ := hs
    rw [tb_go, List.takeWhile_nil, sumL_nil, Int64.add_zero]
  | succ n ih =>
    intro x L h b hs hu
    rw [tb_go]
    rcases hs with ⟨rfl, rfl, rfl⟩ | ⟨h0, A, B, ha, hb, e1, e2, s1, s2, r1, r2, r3, r4⟩
    · rw [if_pos rfl, List.takeWhile_nil, sumL_nil, Int64.add_zero]
    · subst e1
      obtain ⟨u1, u2, u3, u4⟩ := up_app hu
      rw [if_neg h0]
      cases hg : gB t.od (t.ky x) key with
      | true =>
        rw [if_pos rfl, ih _ _ _ _ s2 u2, tw_t hu hg, sumL_app, (sub_ct hz s1).2.2]
        rw [sumL_cons]
        simp only [Int64.add_assoc]
      | false => rw [if_neg (by decide), ih _ _ _ _ s1 u1, tw_stop hg]
theorem na_spec {t : TS} (hz : Zero t) : ∀ (n x : Nat) (L : List Nat) (h k : Nat), Sub t n x L h → L.length ≤ 60 → k < L.length → L[k]? = some (na_go t n x (nI k)) := by
  intro n
  induction n with
  | zero =>
    intro x L h k hs _ hk
    obtain ⟨rfl, rfl, rfl⟩ := hs
    exact absurd hk (Nat.not_lt_zero _)
  | succ n ih =>
    intro x L h k hs hl hk
    rw [na_go]
    rcases hs with ⟨rfl, rfl, rfl⟩ | ⟨h0, A, B, ha, hb, e1, e2, s1, s2, r1, r2, r3, r4⟩
    · exact absurd hk (Nat.not_lt_zero _)
    · subst e1
      rw [List.length_append, List.length_cons] at hl hk
      rw [if_neg h0, (sub_ct hz s1).1]
      by_cases q1 : k = A.length
      · rw [if_pos (by rw [q1]), q1, List.getElem?_append_right (Nat.le_refl _), Nat.sub_self]
        rfl
      · rw [if_neg (fun q => q1 ((xn_eq (by omega) (by omega)).mp q))]
        by_cases q2 : A.length ≤ k
        · rw [if_pos ((xn_le (by omega) (by omega)).mpr q2), List.getElem?_append_right q2]
          obtain ⟨j, hj⟩ : ∃ j, k = A.length + 1 + j := ⟨k - A.length - 1, by omega⟩
          have e : nI k - (nI A.length + 1) = nI j := by rw [nI_1, pk_sub (by omega)]; congr 1; omega
          rw [e, show k - A.length = j + 1 by omega, List.getElem?_cons_succ]
          exact ih _ _ _ j s2 (by omega) (by omega)
        · rw [if_neg (fun q => q2 ((xn_le (by omega) (by omega)).mp q)), List.getElem?_append_left (by omega)]
          exact ih _ _ _ k s1 (by omega) (by omega)
theorem isB_nI {n : Nat} (hn : n < 2147483648) (i : Int32) : isB i (nI n) = true ↔ ∃ k, k < n ∧ i = nI k := by
  unfold isB
  by_cases h1 : i < 0
  · rw [if_pos h1]
    exact ⟨fun q => absurd q (by decide), fun ⟨k, hk, e⟩ => absurd h1 (by rw [e]; exact nI_pos (by omega))⟩
  · rw [if_neg h1]
    obtain ⟨j, hj, rfl⟩ := nI_of h1
    by_cases h2 : nI n ≤ nI j
    · rw [if_pos h2]
      refine ⟨fun q => absurd q (by decide), fun ⟨k, hk, e⟩ => ?_⟩
      have e2 : j = k := (xn_eq hj (by omega)).mp e
      have := (xn_le hn hj).mp h2
      omega
    · rw [if_neg h2]
      refine ⟨fun _ => ⟨j, ?_, rfl⟩, fun _ => rfl⟩
      rcases Nat.lt_or_ge j n with q | q
      · exact q
      · exact absurd ((xn_le hn hj).mpr q) h2
theorem nodeAt_in {t : TS} (hz : Zero t) {x : Nat} {L : List Nat} {h k : Nat} (hs : Sub t 60 x L h) (hl : L.length ≤ 60) (hk : k < L.length) : L[k]? = some (f_nodeAt t x (nI k)) := by
  unfold f_nodeAt
  rw [(sub_ct hz hs).1, if_pos ((isB_nI (by omega) _).mpr ⟨k, hk, rfl⟩)]
  exact na_spec hz 60 x L h k hs hl hk
theorem nodeAt_out {t : TS} (hz : Zero t) {x : Nat} {L : List Nat} {h : Nat} {i : Int32} (hs : Sub t 60 x L h) (hl : L.length ≤ 60) (hk : ∀ k, k < L.length → i ≠ nI k) : f_nodeAt t x i = 0 := by
  unfold f_nodeAt
  rw [(sub_ct hz hs).1, if_neg (fun q => by obtain ⟨k, h1, h2⟩ := (isB_nI (by omega) _).mp q; exact hk k h1 h2)]
