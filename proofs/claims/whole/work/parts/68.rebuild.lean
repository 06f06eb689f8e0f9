/-! rebuild -/
def rs (ro : Nat → Nat) : Nat → Nat → List Nat
  | _, 0 => []
  | a, m + 1 => ro a :: rs ro (a + 1) m
theorem rs_len (ro : Nat → Nat) : ∀ (m a : Nat), (rs ro a m).length = m := by
  intro m
  induction m with
  | zero => intro a; rfl
  | succ m ih => intro a; rw [rs, List.length_cons, ih]
theorem rs_split (ro : Nat → Nat) (q : Nat) : ∀ (p a : Nat), rs ro a (p + 1 + q) = rs ro a p ++ ro (a + p) :: rs ro (a + p + 1) q := by
  intro p
  induction p with
  | zero =>
    intro a
    rw [show 0 + 1 + q = q + 1 by omega, rs, rs, List.nil_append]
    rfl
  | succ p ih =>
    intro a
    rw [show p + 1 + 1 + q = (p + 1 + q) + 1 by omega, rs, rs, ih, List.cons_append, show a + 1 + p = a + (p + 1) by omega]
theorem rs_eq (ro : Nat → Nat) : ∀ (L : List Nat) (a : Nat), (∀ k, k < L.length → L[k]? = some (ro (a + k))) → rs ro a L.length = L := by
  intro L
  induction L with
  | nil => intro a _; rfl
  | cons x L ih =>
    intro a h
    have h0 := h 0 (by rw [List.length_cons]; omega)
    rw [List.getElem?_cons_zero, Nat.add_zero] at h0
    rw [List.length_cons, rs, ih (a + 1) (fun k hk => by
      have := h (k + 1) (by rw [List.length_cons]; omega)
      rw [List.getElem?_cons_succ] at this
      rw [this, show a + (k + 1) = a + 1 + k by omega]), Option.some.inj h0]
theorem halve_zero {n : Nat} {t : TS} {a b : Nat} (h : b ≤ a) : f_halve n t a b = (0, t) := by
  cases n with
  | zero => rfl
  | succ n => rw [f_halve]; exact if_pos h
theorem halve_succ {n : Nat} {t : TS} {a b : Nat} (h : ¬ b ≤ a) : f_halve (n + 1) t a b = (t.ro (a + (b - a) / 2), f_refresh (setRt (f_halve n (setLf (f_halve n t a (a + (b - a) / 2)).2 (t.ro (a + (b - a) / 2)) (f_halve n t a (a + (b - a) / 2)).1) (a + (b - a) / 2 + 1) b).2 (t.ro (a + (b - a) / 2)) (f_halve n (setLf (f_halve n t a (a + (b - a) / 2)).2 (t.ro (a + (b - a) / 2)) (f_halve n t a (a + (b - a) / 2)).1) (a + (b - a) / 2 + 1) b).1) (t.ro (a + (b - a) / 2))) := by
  rw [f_halve]; exact if_neg h
theorem hi_ok : ∀ m, m < 61 → m ≠ 0 → m < 2 ^ f_highest (nI m) := by decide +kernel
theorem halve_ok : ∀ (n : Nat) {t : TS} (_ : Zero t) (_ : t.kd = 3) (a m : Nat) (_ : m ≤ n) (_ : m ≤ 60) (_ : (rs t.ro a m).Nodup) (_ : ∀ z ∈ rs t.ro a m, z ≠ 0),
    ∃ h9, Sub (f_halve n t a (a + m)).2 60 (f_halve n t a (a + m)).1 (rs t.ro a m) h9 ∧ Off t (f_halve n t a (a + m)).2 (rs t.ro a m) ∧ (f_halve n t a (a + m)).2.ro = t.ro ∧ (∀ e, m < 2 ^ e → h9 ≤ e) := by
  intro n
  induction n with
  | zero =>
    intro t hz hk a m h1 _ _ _
    obtain rfl : m = 0 := by omega
    rw [halve_zero (by omega)]
    exact ⟨0, sub_nil t 60, Off.rfl t _, rfl, fun e _ => Nat.zero_le _⟩
  | succ n ih =>
    intro t hz hk a m h1 h2 h3 h4
    by_cases h0 : m = 0
    · subst h0
      rw [halve_zero (by omega)]
      exact ⟨0, sub_nil t 60, Off.rfl t _, rfl, fun e _ => Nat.zero_le _⟩
    · rw [halve_succ (by omega)]
      rw [show a + m - a = m by omega]
      obtain ⟨p, hp⟩ : ∃ p, p = m / 2 := ⟨_, rfl⟩
      obtain ⟨q, hq⟩ : ∃ q, q = m - m / 2 - 1 := ⟨_, rfl⟩
      have hm : m = p + 1 + q := by omega
      have hpw : ∀ e, m < 2 ^ e → ∃ f, e = f + 1 ∧ p < 2 ^ f ∧ q < 2 ^ f := fun e he => by
        cases e with
        | zero => rw [Nat.pow_zero] at he; omega
        | succ f => rw [Nat.pow_succ] at he; exact ⟨f, rfl, by omega, by omega⟩
      rw [← hp]
      rw [show a + m = a + p + 1 + q by omega]
      rw [hm, rs_split] at h3 h4 ⊢
      rw [hm] at h1 h2 h0
      obtain ⟨x, hx⟩ : ∃ x, x = t.ro (a + p) := ⟨_, rfl⟩
      rw [← hx] at h3 h4 ⊢
      have hx0 : x ≠ 0 := h4 x (List.mem_append_right _ List.mem_cons_self)
      obtain ⟨n1, n2, n3⟩ := List.nodup_append.mp h3
      obtain ⟨n4, n5⟩ := List.nodup_cons.mp n2
      obtain ⟨k1, S1, O1, R1, E1⟩ := ih hz hk a p (by omega) (by omega) n1 (fun z hz => h4 z (List.mem_append_left _ hz))
      generalize (f_halve n t a (a + p)).1 = l1 at *
      generalize (f_halve n t a (a + p)).2 = t1 at *
      have xP : ∀ z ∈ rs t.ro a p, z ∉ [x] := fun z hz q => n3 z hz x List.mem_cons_self (List.mem_singleton.mp q)
      have xQ : ∀ z ∈ rs t.ro (a + p + 1) q, z ∉ [x] := fun z hz q => n4 ((List.mem_singleton.mp q) ▸ hz)
      have dPQ : ∀ z ∈ rs t.ro a p, z ∉ rs t.ro (a + p + 1) q := fun z hz q => n3 z hz z (List.mem_cons_of_mem _ q) rfl
      obtain ⟨t2, e2⟩ : ∃ v, v = setLf t1 x l1 := ⟨_, rfl⟩
      have O2 : Off t1 t2 [x] := by rw [e2]; exact off_setLf t1 x l1
      have R2 : t2.ro = t.ro := by rw [e2]; exact R1
      have L2 : t2.lf x = l1 := by rw [e2]; exact up_eq
      rw [← e2]
      have n0P : 0 ∉ rs t.ro a p := fun q => h4 0 (List.mem_append_left _ q) rfl
      have n0Q : 0 ∉ rs t.ro (a + p + 1) q := fun q => h4 0 (List.mem_append_right _ (List.mem_cons_of_mem _ q)) rfl
      have n0x : 0 ∉ [x] := fun q => hx0 (List.mem_singleton.mp q).symm
      have z2 : Zero t2 := O2.zero n0x (O1.zero n0P hz)
      have kd2 : t2.kd = 3 := (O2.1.2.2.2.2.2.2.2.2.trans O1.1.2.2.2.2.2.2.2.2).trans hk
      obtain ⟨k2, S2, O3, R3, E3⟩ := ih z2 kd2 (a + p + 1) q (by omega) (by omega) (by rw [R2]; exact n5) (by rw [R2]; exact fun z hz => h4 z (List.mem_append_right _ (List.mem_cons_of_mem _ hz)))
      rw [R2] at S2 O3 R3
      generalize (f_halve n t2 (a + p + 1) (a + p + 1 + q)).1 = r1 at *
      generalize (f_halve n t2 (a + p + 1) (a + p + 1 + q)).2 = v at *
      have SP : Sub v 60 l1 (rs t.ro a p) k1 := sub_like (O3.like dPQ) (sub_like (O2.like xP) S1)
      have Lv : v.lf x = l1 := (O3.2 x (fun q => n4 q)).1.trans L2
      obtain ⟨t3, e3⟩ : ∃ w, w = setRt v x r1 := ⟨_, rfl⟩
      rw [← e3]
      have O4 : Off v t3 [x] := by rw [e3]; exact off_setRt v x r1
      have z3 : Zero t3 := O4.zero n0x (O3.zero n0Q z2)
      have L3 : t3.lf x = l1 := by rw [e3]; exact Lv
      have L4 : t3.rt x = r1 := by rw [e3]; exact up_eq
      have SP3 := sub_like (O4.like xP) SP
      have SQ3 := sub_like (O4.like xQ) S2
      obtain ⟨c1, c2, c3⟩ := refresh_x z3 (x := x) (by rw [L3]; exact SP3) (by rw [L4]; exact SQ3) (by rw [rs_len, rs_len]; omega)
      have O5 := off_refresh t3 x
      obtain ⟨u, eu⟩ : ∃ w, w = f_refresh t3 x := ⟨_, rfl⟩
      rw [← eu] at c1 c2 c3 O5 ⊢
      have U1 : u.lf x = l1 := by rw [eu]; exact L3
      have U2 : u.rt x = r1 := by rw [eu]; exact L4
      have kdu : u.kd = 3 := ((O5.1.2.2.2.2.2.2.2.2.trans O4.1.2.2.2.2.2.2.2.2).trans O3.1.2.2.2.2.2.2.2.2).trans kd2
      have hE : ∀ e, p + 1 + q < 2 ^ e → max k1 k2 + 1 ≤ e := fun e he => by
        obtain ⟨f, rfl, g1, g2⟩ := hpw e (by rw [hm]; exact he)
        have := E1 f g1
        have := E3 f g2
        omega
      refine ⟨max k1 k2 + 1, sub_up (sub_mk hx0 (by rw [U1]; exact sub_like (O5.like xP) SP3) (by rw [U2]; exact sub_like (O5.like xQ) SQ3) c1 c2 (by rw [c3, O5.1.2.1]) ((bal3 kdu).mpr ?_)) ?_, ?_, ?_, hE⟩
      · rw [rs_len, rs_len]
        have := hi_ok (p + 1 + q) (by omega) (by omega)
        rw [show p + q + 1 = p + 1 + q by omega]
        exact hE _ this
      · rw [List.length_append, List.length_cons, rs_len, rs_len]; omega
      · have mx : ∀ z ∈ [x], z ∈ rs t.ro a p ++ x :: rs t.ro (a + p + 1) q := fun z hz => by rw [List.mem_singleton.mp hz]; exact List.mem_append_right _ List.mem_cons_self
        have w1 := O1.trans O2 (rs t.ro a p ++ x :: rs t.ro (a + p + 1) q) (fun z hz => List.mem_append_left _ hz) mx
        have w2 := w1.trans O3 _ (fun z h => h) (fun z hz => List.mem_append_right _ (List.mem_cons_of_mem _ hz))
        exact (w2.trans O4 _ (fun z h => h) mx).trans O5 _ (fun z h => h) mx
      · rw [eu, show (f_refresh t3 x).ro = t3.ro from rfl, e3]; exact R3
/-- ro_go puts the nodes into the row -/
theorem rogo_ok (t : TS) (top : Nat) : ∀ (n i : Nat) (ro : Nat → Nat) (k : Nat), ro_go t top n i ro k = if i ≤ k ∧ k < i + n then f_nodeAt t top (nI k) else ro k := by
  intro n
  induction n with
  | zero => intro i ro k; rw [ro_go, if_neg (by omega)]
  | succ n ih =>
    intro i ro k
    rw [ro_go, ih]
    by_cases h : i + 1 ≤ k ∧ k < i + 1 + n
    · rw [if_pos h, if_pos (by omega)]
    · rw [if_neg h]
      by_cases h2 : k = i
      · rw [h2, up_eq, if_pos (by omega)]
      · rw [up_ne h2, if_neg (by omega)]
/-- the node at a place below x, where x's own kind may not be content -/
theorem na_top {t : TS} (hz : Zero t) {x n m ha hb : Nat} {A B : List Nat} (h0 : x ≠ 0) (s1 : Sub t n (t.lf x) A ha) (s2 : Sub t m (t.rt x) B hb) (hc : t.ct x = nI (A ++ x :: B).length) (hl : (A ++ x :: B).length ≤ 60) (k : Nat) (hk : k < (A ++ x :: B).length) : (A ++ x :: B)[k]? = some (f_nodeAt t x (nI k)) := by
  have hl2 : A.length + B.length + 1 ≤ 60 := by simp only [List.length_append, List.length_cons] at hl; omega
  have s1' := sub_up s1 (m := 59) (by omega)
  have s2' := sub_up s2 (m := 59) (by omega)
  unfold f_nodeAt
  rw [hc, if_pos ((isB_nI (by omega) _).mpr ⟨k, hk, rfl⟩), na_go, if_neg h0, (sub_ct hz s1).1]
  rw [List.length_append, List.length_cons] at hk
  by_cases q1 : k = A.length
  · rw [if_pos (by rw [q1]), q1, List.getElem?_append_right (Nat.le_refl _), Nat.sub_self]
    rfl
  · rw [if_neg (fun q => q1 ((xn_eq (by omega) (by omega)).mp q))]
    by_cases q2 : A.length ≤ k
    · rw [if_pos ((xn_le (by omega) (by omega)).mpr q2), List.getElem?_append_right q2]
      obtain ⟨j, hj⟩ : ∃ j, k = A.length + 1 + j := ⟨k - A.length - 1, by omega⟩
      have e : nI k - (nI A.length + 1) = nI j := by rw [nI_1, pk_sub (by omega)]; congr 1; omega
      rw [e, show k - A.length = j + 1 by omega, List.getElem?_cons_succ]
      exact na_spec hz 59 _ _ _ j s2' (by omega) (by omega)
    · rw [if_neg (fun q => q2 ((xn_le (by omega) (by omega)).mp q)), List.getElem?_append_left (by omega)]
      exact na_spec hz 59 _ _ _ k s1' (by omega) (by omega)
theorem rebuild_ok {t : TS} (hz : Zero t) (hk : t.kd = 3) {x n m ha hb : Nat} {A B : List Nat} (h0 : x ≠ 0) (s1 : Sub t n (t.lf x) A ha) (s2 : Sub t m (t.rt x) B hb) (hc : t.ct x = nI (A ++ x :: B).length) (hn : (A ++ x :: B).Nodup) (hl : (A ++ x :: B).length ≤ 60) :
    ∃ h9, Sub (f_rebuild t x (A ++ x :: B).length).2 60 (f_rebuild t x (A ++ x :: B).length).1 (A ++ x :: B) h9 ∧ Off t (f_rebuild t x (A ++ x :: B).length).2 (A ++ x :: B) := by
  unfold f_rebuild
  obtain ⟨ro, er⟩ : ∃ r, r = ro_go t x (A ++ x :: B).length 0 t.ro := ⟨_, rfl⟩
  rw [← er]
  have hr : rs ro 0 (A ++ x :: B).length = A ++ x :: B := rs_eq ro _ 0 (fun k hk => by
    rw [er, Nat.zero_add, rogo_ok, if_pos ⟨Nat.zero_le _, by omega⟩]
    exact na_top hz h0 s1 s2 hc hl k hk)
  have hne : ∀ z ∈ A ++ x :: B, z ≠ 0 := fun z hz => by
    rcases List.mem_append.mp hz with h | h
    · exact sub_ne0 s1 z h
    · rcases List.mem_cons.mp h with h | h
      · rw [h]; exact h0
      · exact sub_ne0 s2 z h
  have O0 : Off t (setRo t ro) [] := ⟨⟨rfl, rfl, rfl, rfl, rfl, rfl, rfl, rfl, rfl⟩, fun _ _ => ⟨rfl, rfl, rfl, rfl, rfl⟩⟩
  have e0 : (setRo t ro).ro = ro := rfl
  have z0 : Zero (setRo t ro) := hz
  have k0 : (setRo t ro).kd = 3 := hk
  generalize setRo t ro = t0 at *
  obtain ⟨h9, S, O, _, _⟩ := halve_ok 60 z0 k0 0 (A ++ x :: B).length hl hl (by rw [e0, hr]; exact hn) (by rw [e0, hr]; exact hne)
  rw [e0, hr, Nat.zero_add] at S O
  exact ⟨h9, S, O0.trans O _ (fun z h => absurd h List.not_mem_nil) (fun z h => h)⟩
/-- settle, of any kind -/
def Pre9 (kd a b ha hb : Nat) : Prop := (kd = 0 → ha ≤ hb + 2 ∧ hb ≤ ha + 2) ∧ (kd = 1 → a + 1 ≤ 3 * (b + 2) ∧ b + 1 ≤ 3 * (a + 2))
theorem settle_ok {t : TS} (hz : Zero t) (hk : t.kd < 4) {x n m ha hb : Nat} {A B : List Nat} (h0 : x ≠ 0) (s1 : Sub t n (t.lf x) A ha) (s2 : Sub t m (t.rt x) B hb) (hc : t.ct x = nI (A ++ x :: B).length) (hh : t.ht x = nI (max ha hb + 1)) (hs : t.to x = sumL t.vl (A ++ x :: B)) (hn : (A ++ x :: B).Nodup) (hl : (A ++ x :: B).length ≤ 60) (hp : Pre9 t.kd A.length B.length ha hb) :
    ∃ h9, Sub (f_settle t x).2 60 (f_settle t x).1 (A ++ x :: B) h9 ∧ Off t (f_settle t x).2 (A ++ x :: B) ∧ (t.kd = 0 → (h9 = max ha hb + 1 ∨ (h9 = max ha hb ∧ (hb + 2 ≤ ha ∨ ha + 2 ≤ hb)))) := by
  by_cases k0 : t.kd = 0
  · rw [settle_0 k0]
    obtain ⟨h9, S, O, E⟩ := settle_h hz k0 h0 s1 s2 hc hh hs hn hl (hp.1 k0).1 (hp.1 k0).2
    exact ⟨h9, S, O, fun _ => E⟩
  · by_cases k1 : t.kd = 1
    · rw [settle_1 k1]
      obtain ⟨h9, S, O⟩ := settle_w hz k1 h0 s1 s2 hc hh hs hn hl (hp.2 k1).1 (hp.2 k1).2
      exact ⟨h9, S, O, fun q => absurd q k0⟩
    · by_cases k2 : t.kd = 2
      · rw [settle_2 k2]
        obtain ⟨h9, S, O⟩ := sink_ok 60 hz k2 h0 s1 s2 hc hh hs hn hl (by simp only [List.length_append, List.length_cons] at hl; omega)
        exact ⟨h9, S, O, fun q => absurd q k0⟩
      · have k3 : t.kd = 3 := by omega
        rw [settle_3 k3 hc hl]
        by_cases q : f_suits3 t x = true
        · rw [if_pos q]
          refine ⟨_, sub_up (sub_mk h0 s1 s2 hc hh hs ((bal3 k3).mpr ?_)) hl, Off.rfl t _, fun q => absurd q k0⟩
          unfold f_suits3 at q
          have la := sub_len s1
          have lb := sub_len s2
          have lL : (A ++ x :: B).length = A.length + B.length + 1 := by simp only [List.length_append, List.length_cons]; omega
          rw [lL] at hl hc
          rw [hc, hh] at q
          have hb30 : f_highest (nI (A.length + B.length + 1)) < 61 := by
            have : ∀ m, m < 61 → f_highest (nI m) < 61 := by decide +kernel
            exact this _ (by omega)
          by_cases g : nI (f_highest (nI (A.length + B.length + 1))) < nI (max ha hb + 1)
          · rw [if_pos g] at q; exact absurd q (by decide)
          · rcases Nat.lt_or_ge (f_highest (nI (A.length + B.length + 1))) (max ha hb + 1) with w | w
            · exact absurd ((xn_lt (by omega) (by omega)).mpr w) g
            · exact w
        · rw [if_neg q]
          obtain ⟨h9, S, O⟩ := rebuild_ok hz k3 h0 s1 s2 hc hn hl
          exact ⟨h9, S, O, fun q => absurd q k0⟩
