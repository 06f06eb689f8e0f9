/-! a sound tree; the methods of a tree as functions of the list of its entries -/
theorem sub_at {t : TS} : ∀ {n : Nat} {x : Nat} {L : List Nat} {h : Nat}, n ≤ 60 → Sub t n x L h → ∀ z ∈ L, ∃ A B ha hb, Sub t 60 (t.lf z) A ha ∧ Sub t 60 (t.rt z) B hb ∧ t.ct z = nI (A ++ z :: B).length ∧ t.ht z = nI (max ha hb + 1) ∧ t.to z = sumL t.vl (A ++ z :: B) ∧ Bal t z A.length B.length ha hb ∧ A.length + B.length + 1 ≤ L.length := by
  intro n
  induction n with
  | zero =>
    intro x L h _ hs z hz
    obtain ⟨rfl, rfl, rfl⟩ := hs
    exact absurd hz List.not_mem_nil
  | succ n ih =>
    intro x L h hn hs z hz
    rcases hs with ⟨rfl, rfl, rfl⟩ | ⟨h0, A, B, ha, hb, e1, e2, s1, s2, r1, r2, r3, r4⟩
    · exact absurd hz List.not_mem_nil
    · subst e1
      rcases List.mem_append.mp hz with q | q
      · obtain ⟨A1, B1, a1, b1, w1, w2, w3, w4, w5, w6, w7⟩ := ih (by omega) s1 z q
        exact ⟨A1, B1, a1, b1, w1, w2, w3, w4, w5, w6, by rw [List.length_append]; omega⟩
      · rcases List.mem_cons.mp q with q | q
        · subst q
          subst e2
          exact ⟨A, B, ha, hb, sub_mono (by omega) s1, sub_mono (by omega) s2, r1, r2, r3, r4, by rw [List.length_append, List.length_cons]; omega⟩
        · obtain ⟨A1, B1, a1, b1, w1, w2, w3, w4, w5, w6, w7⟩ := ih (by omega) s2 z q
          exact ⟨A1, B1, a1, b1, w1, w2, w3, w4, w5, w6, by rw [List.length_append, List.length_cons]; omega⟩
theorem suits_ok {t : TS} (hz : Zero t) (hk : t.kd < 4) {z ha hb : Nat} {A B : List Nat} (s1 : Sub t 60 (t.lf z) A ha) (s2 : Sub t 60 (t.rt z) B hb) (hc : t.ct z = nI (A ++ z :: B).length) (hh : t.ht z = nI (max ha hb + 1)) (hb4 : Bal t z A.length B.length ha hb) (hl : A.length + B.length + 1 ≤ 60) : f_suits t z = true := by
  have la := sub_len s1
  have lb := sub_len s2
  by_cases k0 : t.kd = 0
  · rw [suits_0 k0]
    rw [bal0 k0] at hb4
    rw [if_neg (fun q => by have := (too_iff0 (sub_ct hz s1).2.1 (sub_ct hz s2).2.1 (by omega) (by omega)).mp q; omega), if_neg (fun q => by have := (too_iff0 (sub_ct hz s2).2.1 (sub_ct hz s1).2.1 (by omega) (by omega)).mp q; omega)]
  · by_cases k1 : t.kd = 1
    · rw [suits_1 k1]
      rw [bal1 k1] at hb4
      rw [if_neg (fun q => by have := (too_iff1 (sub_ct hz s1).1 (sub_ct hz s2).1 (by omega) (by omega)).mp q; omega), if_neg (fun q => by have := (too_iff1 (sub_ct hz s2).1 (sub_ct hz s1).1 (by omega) (by omega)).mp q; omega)]
    · by_cases k2 : t.kd = 2
      · rw [suits_2 k2]
        rw [bal2 k2] at hb4
        have e1 : pf_l t z = z := by
          unfold pf_l
          by_cases q : t.lf z = 0
          · rw [if_pos q]
          · rw [if_neg q, if_pos (hb4.1 q)]
        have e2 : f_preferred t z = z := by
          unfold f_preferred
          rw [e1]
          by_cases q : t.rt z = 0
          · rw [if_pos q]
          · rw [if_neg q, if_pos (hb4.2 q)]
        rw [if_pos e2]
      · have k3 : t.kd = 3 := by omega
        rw [suits_3 k3]
        rw [bal3 k3] at hb4
        unfold f_suits3
        rw [hc, hh, show (A ++ z :: B).length = A.length + B.length + 1 by rw [List.length_append, List.length_cons]; omega]
        have hb30 : f_highest (nI (A.length + B.length + 1)) < 61 := by
          have : ∀ m, m < 61 → f_highest (nI m) < 61 := by decide +kernel
          exact this _ (by omega)
        rw [if_neg (fun q => by have := (xn_lt (by omega) (by omega)).mp q; omega)]
theorem adds_ok {t : TS} (hz : Zero t) {z ha hb : Nat} {A B : List Nat} (s1 : Sub t 60 (t.lf z) A ha) (s2 : Sub t 60 (t.rt z) B hb) (hc : t.ct z = nI (A ++ z :: B).length) (hh : t.ht z = nI (max ha hb + 1)) (hs : t.to z = sumL t.vl (A ++ z :: B)) (hl : A.length + B.length + 1 ≤ 60) : f_addsUp t z = true := by
  obtain ⟨a1, a2, a3⟩ := sub_ct hz s1
  obtain ⟨b1, b2, b3⟩ := sub_ct hz s2
  have la := sub_len s1
  have lb := sub_len s2
  unfold f_addsUp
  rw [if_pos, if_pos, if_pos]
  · rw [hh, a2, b2, mx_nI (by omega) (by omega), nI_1]
  · rw [hs, a3, b3, sumL_app, sumL_cons, Int64.add_assoc, Int64.add_comm (sumL t.vl B)]
  · rw [hc, a1, b1, nI_add, nI_1, List.length_append, List.length_cons]
    congr 1
theorem inv_ct {t : TS} {L : List Nat} (I : Inv t L) : t.ct t.rn = nI L.length := by
  obtain ⟨⟨h, s⟩, hn, hz, _⟩ := I
  exact (sub_ct hz s).1
theorem inv_len {t : TS} {L : List Nat} (I : Inv t L) : L.length ≤ 60 := by have := I.2.2.2.2.1; omega
theorem sound_go {t : TS} {L : List Nat} (I : Inv t L) : ∀ (n i : Nat), n + i = L.length → so_go t L.length n i = true := by
  have hl := inv_len I
  obtain ⟨⟨h, s⟩, hn, hz, hu, hs, h1, h2, hw⟩ := I
  intro n
  induction n with
  | zero =>
    intro i _
    rw [so_go, nI_add, show L.length + t.ss = 60 by omega]
    rfl
  | succ n ih =>
    intro i hi
    rw [so_go]
    have hg := nodeAt_in hz s hl (k := i) (by omega)
    have hm := List.mem_of_getElem? hg
    obtain ⟨A, B, ha, hb, w1, w2, w3, w4, w5, w6, w7⟩ := sub_at (Nat.le_refl _) s _ hm
    rw [if_neg (sub_ne0 s _ hm), adds_ok hz w1 w2 w3 w4 w5 (by omega), if_neg (by decide), suits_ok hz hw.2.2.2.2.2.2 w1 w2 w3 w4 w6 (by omega), if_neg (by decide)]
    rw [if_neg, ih (i + 1) (by omega)]
    rintro ⟨q1, q2⟩
    have hp := nodeAt_in hz s hl (k := i - 1) (by omega)
    have q3 := (gB_f _ _ _).mp q2
    obtain ⟨g1, e1⟩ := List.getElem?_eq_some_iff.mp hp
    obtain ⟨g2, e2⟩ := List.getElem?_eq_some_iff.mp hg
    have q4 := List.pairwise_iff_getElem.mp hu (i - 1) i g1 g2 (by omega)
    rw [e1, e2] at q4
    omega
theorem inv_sound {t : TS} {L : List Nat} (I : Inv t L) : f_isSound t L.length = true := by
  unfold f_isSound
  exact sound_go I L.length 0 (by omega)
/-- the place of a key in a list of entries; is there one alike -/
def plE (od key : Int32) (E : List (Int32 × Int32)) : Nat := (E.takeWhile (fun e => gB od e.1 key)).length
def hitE (od key : Int32) (E : List (Int32 × Int32)) : Bool := match E[plE od key E]? with | some e => !(gB od key e.1) | none => false
def putE (od key v : Int32) (E : List (Int32 × Int32)) : List (Int32 × Int32) := if hitE od key E = true then E.take (plE od key E) ++ ((E.getD (plE od key E) (0, 0)).1, v) :: E.drop (plE od key E + 1) else E.take (plE od key E) ++ (key, v) :: E.drop (plE od key E)
def cutE (i : Nat) (E : List (Int32 × Int32)) : List (Int32 × Int32) := E.take i ++ E.drop (i + 1)
def sumE : List (Int32 × Int32) → Int64
  | [] => 0
  | e :: E => e.2.toInt64 + sumE E
theorem twE {p : Int32 × Int32 → Bool} : ∀ {A B : List (Int32 × Int32)}, (∀ e ∈ A, p e = true) → (∀ e, B.head? = some e → p e = false) → (A ++ B).takeWhile p = A := by
  intro A B
  induction A with
  | nil =>
    intro _ h
    rw [List.nil_append]
    cases B with
    | nil => rfl
    | cons e B => rw [List.takeWhile_cons, if_neg (by rw [h e rfl]; decide)]
  | cons x A ih =>
    intro h g
    rw [List.cons_append, List.takeWhile_cons, if_pos (h x List.mem_cons_self), ih (fun z hz => h z (List.mem_cons_of_mem _ hz)) g]
/-- a key that is alike to none -/
theorem missE {od key : Int32} {A B : List (Int32 × Int32)} (ha : ∀ e ∈ A, rho od e.1 < rho od key) (hb : ∀ e ∈ B, rho od key < rho od e.1) : plE od key (A ++ B) = A.length ∧ hitE od key (A ++ B) = false := by
  have e1 : plE od key (A ++ B) = A.length := by
    unfold plE
    rw [twE (fun e he => (gB_rho _ _ _).mpr (ha e he)) (fun e he => (gB_f _ _ _).mpr (by have := hb e (List.mem_of_head? he); omega))]
  refine ⟨e1, ?_⟩
  unfold hitE
  rw [e1, List.getElem?_append_right (Nat.le_refl _), Nat.sub_self]
  cases B with
  | nil => rfl
  | cons e B =>
    rw [List.getElem?_cons_zero]
    show (!gB od key e.1) = false
    rw [(gB_rho _ _ _).mpr (hb e List.mem_cons_self)]
    rfl
theorem foundE {od key : Int32} {A B : List (Int32 × Int32)} {e : Int32 × Int32} (ha : ∀ f ∈ A, rho od f.1 < rho od e.1) (he : rho od e.1 = rho od key) : plE od key (A ++ e :: B) = A.length ∧ hitE od key (A ++ e :: B) = true := by
  have e1 : plE od key (A ++ e :: B) = A.length := by
    unfold plE
    rw [twE (fun f hf => (gB_rho _ _ _).mpr (by have := ha f hf; omega)) (fun f hf => (gB_f _ _ _).mpr (by rw [List.head?_cons] at hf; rw [← Option.some.inj hf]; omega))]
  refine ⟨e1, ?_⟩
  unfold hitE
  rw [e1, List.getElem?_append_right (Nat.le_refl _), Nat.sub_self, List.getElem?_cons_zero]
  show (!gB od key e.1) = true
  rw [(gB_f _ _ _).mpr (by omega)]
  rfl
theorem takeA {A B : List (Int32 × Int32)} : (A ++ B).take A.length = A := by rw [List.take_left']; rfl
theorem dropA {A B : List (Int32 × Int32)} : (A ++ B).drop A.length = B := by rw [List.drop_left']; rfl
theorem drop1A {A B : List (Int32 × Int32)} {e : Int32 × Int32} : (A ++ e :: B).drop (A.length + 1) = B := by
  rw [show A ++ e :: B = (A ++ [e]) ++ B by rw [List.append_assoc, List.cons_append, List.nil_append], List.drop_left' (by rw [List.length_append, List.length_cons, List.length_nil])]
theorem putE_miss {od key v : Int32} {A B : List (Int32 × Int32)} (ha : ∀ e ∈ A, rho od e.1 < rho od key) (hb : ∀ e ∈ B, rho od key < rho od e.1) : putE od key v (A ++ B) = A ++ (key, v) :: B := by
  obtain ⟨h1, h2⟩ := missE ha hb
  unfold putE
  rw [if_neg (by rw [h2]; decide), h1, takeA, dropA]
theorem putE_found {od key v : Int32} {A B : List (Int32 × Int32)} {e : Int32 × Int32} (ha : ∀ f ∈ A, rho od f.1 < rho od e.1) (he : rho od e.1 = rho od key) : putE od key v (A ++ e :: B) = A ++ (e.1, v) :: B := by
  obtain ⟨h1, h2⟩ := foundE (B := B) ha he
  unfold putE
  rw [if_pos h2, h1, takeA, drop1A]
  congr 3
  rw [List.getD_eq_getElem?_getD, List.getElem?_append_right (Nat.le_refl _), Nat.sub_self]
  rfl
theorem cutE_found {A B : List (Int32 × Int32)} {e : Int32 × Int32} : cutE A.length (A ++ e :: B) = A ++ B := by
  unfold cutE
  rw [takeA, drop1A]
theorem befE {t : TS} {key : Int32} {A : List Nat} (h : Bef t key A) : ∀ e ∈ ents t A, rho t.od e.1 < rho t.od key := fun e he => by
  obtain ⟨z, hz, rfl⟩ := List.mem_map.mp he
  exact h z hz
theorem behE {t : TS} {key : Int32} {A : List Nat} (h : Beh t key A) : ∀ e ∈ ents t A, rho t.od key < rho t.od e.1 := fun e he => by
  obtain ⟨z, hz, rfl⟩ := List.mem_map.mp he
  exact h z hz
theorem upA {t : TS} {A B : List Nat} {z : Nat} (h : Up t (A ++ z :: B)) : ∀ f ∈ ents t A, rho t.od f.1 < rho t.od (t.ky z) := fun e he => by
  obtain ⟨y, hy, rfl⟩ := List.mem_map.mp he
  exact (up_app h).2.2.1 y hy
/-- M t E: the tree t holds the entries E -/
def Holds (t : TS) (E : List (Int32 × Int32)) : Prop := ∃ L, Inv t L ∧ ents t L = E
theorem holds_up {t : TS} {E : List (Int32 × Int32)} (h : Holds t E) : UpE t.od E := by
  obtain ⟨L, I, rfl⟩ := h
  exact (up_ents t L).mp I.2.2.2.1
theorem holds_len {t : TS} {E : List (Int32 × Int32)} (h : Holds t E) : E.length ≤ 60 := by
  obtain ⟨L, I, rfl⟩ := h
  rw [ents_len]; exact inv_len I
theorem holds_ct {t : TS} {E : List (Int32 × Int32)} (h : Holds t E) : t.ct t.rn = nI E.length := by
  obtain ⟨L, I, rfl⟩ := h
  rw [ents_len]; exact inv_ct I
theorem holds_wf {t : TS} {E : List (Int32 × Int32)} (h : Holds t E) : WF t := by
  obtain ⟨L, I, rfl⟩ := h
  exact I.2.2.2.2.2.2.2
theorem holds_zero {t : TS} {E : List (Int32 × Int32)} (h : Holds t E) : Zero t := by
  obtain ⟨L, I, rfl⟩ := h
  exact I.2.2.1
theorem holds_sound {t : TS} {E : List (Int32 × Int32)} (h : Holds t E) : f_isSound t E.length = true := by
  obtain ⟨L, I, rfl⟩ := h
  rw [ents_len]; exact inv_sound I
theorem pl_ents (t : TS) (key : Int32) : ∀ L : List Nat, plN t key L = plE t.od key (ents t L) := by
  intro L
  unfold plN plE ents
  rw [List.takeWhile_map, List.length_map]
  rfl
theorem holds_cb {t : TS} {E : List (Int32 × Int32)} (h : Holds t E) (key : Int32) : f_countBefore t key = nI (plE t.od key E) := by
  obtain ⟨L, ⟨⟨h, s⟩, hn, hz, hu, _⟩, rfl⟩ := h
  unfold f_countBefore
  rw [cb_spec hz key 60 t.rn L h 0 s hu, pl_ents, Int32.zero_add]
theorem sumE_ents (t : TS) : ∀ L : List Nat, sumL t.vl L = sumE (ents t L) := by
  intro L
  induction L with
  | nil => rfl
  | cons z L ih => rw [sumL_cons, ents_cons, sumE, ih]
theorem holds_tb {t : TS} {E : List (Int32 × Int32)} (h : Holds t E) (key : Int32) : f_totalBefore t key = sumE (E.take (plE t.od key E)) := by
  obtain ⟨L, ⟨⟨h, s⟩, hn, hz, hu, _⟩, rfl⟩ := h
  unfold f_totalBefore
  rw [tb_spec hz key 60 t.rn L h 0 s hu, Int64.zero_add, sumE_ents]
  unfold plE ents
  rw [List.takeWhile_map, List.length_map, ← List.map_take]
  congr 2
  exact (List.prefix_iff_eq_take.mp (List.takeWhile_prefix _))
theorem holds_na {t : TS} {E : List (Int32 × Int32)} (h : Holds t E) {k : Nat} (hk : k < E.length) : f_nodeAt t t.rn (nI k) ≠ 0 ∧ E[k]? = some (t.ky (f_nodeAt t t.rn (nI k)), t.vl (f_nodeAt t t.rn (nI k))) := by
  obtain ⟨L, I, rfl⟩ := h
  have hl := inv_len I
  obtain ⟨⟨h, s⟩, hn, hz, hu, _⟩ := I
  rw [ents_len] at hk
  have hg := nodeAt_in hz s hl hk
  refine ⟨sub_ne0 s _ (List.mem_of_getElem? hg), ?_⟩
  unfold ents
  rw [List.getElem?_map, hg]
  rfl
theorem holds_na0 {t : TS} {E : List (Int32 × Int32)} (h : Holds t E) {i : Int32} (hk : ∀ k, k < E.length → i ≠ nI k) : f_nodeAt t t.rn i = 0 := by
  obtain ⟨L, I, rfl⟩ := h
  have hl := inv_len I
  obtain ⟨⟨h, s⟩, hn, hz, hu, _⟩ := I
  rw [ents_len] at hk
  exact nodeAt_out hz s hl hk
/-- trace: none alike, or the entry's node -/
theorem holds_tr {t : TS} {E : List (Int32 × Int32)} (h : Holds t E) (key : Int32) : Holds (f_trace t key).2 E ∧ ((f_trace t key).2.od = t.od ∧ (f_trace t key).2.kd = t.kd ∧ (f_trace t key).2.ky = t.ky ∧ (f_trace t key).2.vl = t.vl ∧ (f_trace t key).2.rn = t.rn) ∧
    ((hitE t.od key E = false ∧ (f_trace t key).1 = 0) ∨ (hitE t.od key E = true ∧ (f_trace t key).1 ≠ 0 ∧ E[plE t.od key E]? = some (t.ky (f_trace t key).1, t.vl (f_trace t key).1))) := by
  obtain ⟨L, I, rfl⟩ := h
  obtain ⟨j1, j2, j3, j4, j5, j6, j7, j8⟩ := inv_trace I key
  refine ⟨⟨L, j1, j2⟩, ⟨j3, j4, j6, j7, j5⟩, ?_⟩
  obtain ⟨⟨h, s⟩, hn, hz, hu, hs, h1, h2, hw⟩ := I
  obtain ⟨pa, d, e, ⟨e0, A, B, eL, C, ba, bb⟩ | ⟨e0, d', A, B, M1, M2, k1, k2, ed, ep, eL, C, s1, s2, bo, er⟩⟩ := trace_ok s hn hu key
  · rw [eL, ents_app]
    exact Or.inl ⟨(missE (befE ba) (behE bb)).2, e0⟩
  · have eL2 : A ++ ((M1 ++ (f_trace t key).1 :: M2) ++ B) = (A ++ M1) ++ (f_trace t key).1 :: (M2 ++ B) := by simp only [List.append_assoc, List.cons_append]
    rw [eL2] at eL
    rw [eL] at hu ⊢
    rw [ents_app, ents_cons]
    obtain ⟨q1, q2⟩ := foundE (od := t.od) (key := key) (A := ents t (A ++ M1)) (B := ents t (M2 ++ B)) (e := (t.ky (f_trace t key).1, t.vl (f_trace t key).1)) (upA hu) er
    refine Or.inr ⟨q2, e0, ?_⟩
    rw [q1, List.getElem?_append_right (Nat.le_refl _), Nat.sub_self, List.getElem?_cons_zero]
theorem holds_assign {t : TS} {E : List (Int32 × Int32)} (h : Holds t E) (key v : Int32) : okAssign t key v ∧ (f_assign t key v).2.od = t.od ∧ (f_assign t key v).2.kd = t.kd ∧
    ((hitE t.od key E = false ∧ E.length = 60 → (f_assign t key v).1 = false ∧ Holds (f_assign t key v).2 E) ∧ (hitE t.od key E = true → (f_assign t key v).1 = false) ∧ (hitE t.od key E = false → E.length < 60 → (f_assign t key v).1 = true) ∧ (hitE t.od key E = true ∨ E.length < 60 → Holds (f_assign t key v).2 (putE t.od key v E))) := by
  obtain ⟨L, I, rfl⟩ := h
  obtain ⟨g1, g2, g3, ⟨A, z, B, eL, er, et, z0, r1, r2, r3⟩ | ⟨A, B, eL, ba, bb, et, ⟨l6, r1, r2, r3⟩ | ⟨l6, r1, x, r2, r3⟩⟩⟩ := assign_ok I key v <;> generalize f_assign t key v = fa at *
  · have hu := I.2.2.2.1
    rw [eL] at hu
    obtain ⟨q1, q2⟩ := foundE (od := t.od) (key := key) (A := ents t A) (B := ents t B) (e := (t.ky z, t.vl z)) (upA hu) er
    have eE : ents t L = ents t A ++ (t.ky z, t.vl z) :: ents t B := by rw [eL, ents_app, ents_cons]
    rw [eE]
    refine ⟨g1, g2, g3, fun q => (by rw [q2] at q; exact absurd q.1 (by decide)), fun _ => r1, fun q => (by rw [q2] at q; exact absurd q (by decide)), fun _ => ⟨L, r2, ?_⟩⟩
    have eP := putE_found (od := t.od) (key := key) (v := v) (A := ents t A) (B := ents t B) (e := (t.ky z, t.vl z)) (upA hu) er
    exact r3.trans eP.symm
  · have hm := (missE (od := t.od) (key := key) (befE ba) (behE bb)).2
    rw [← ents_app, ← eL] at hm
    rw [ents_len]
    refine ⟨g1, g2, g3, fun _ => ⟨r1, L, r2, r3⟩, fun q => (by rw [hm] at q; exact absurd q (by decide)), fun _ q => by omega, fun q => ?_⟩
    rcases q with q | q
    · rw [hm] at q; exact absurd q (by decide)
    · omega
  · have hm := (missE (od := t.od) (key := key) (befE ba) (behE bb)).2
    rw [← ents_app, ← eL] at hm
    rw [ents_len]
    refine ⟨g1, g2, g3, fun q => by omega, fun q => (by rw [hm] at q; exact absurd q (by decide)), fun _ _ => r1, fun q => ⟨A ++ x :: B, r2, ?_⟩⟩
    rw [r3, eL, ents_app t A B, putE_miss (befE ba) (behE bb)]
theorem holds_delete {t : TS} {E : List (Int32 × Int32)} (h : Holds t E) (key : Int32) : okDelete t key ∧ (f_delete t key).2.od = t.od ∧ (f_delete t key).2.kd = t.kd ∧
    ((hitE t.od key E = false ∧ (f_delete t key).1 = false ∧ Holds (f_delete t key).2 E) ∨ (hitE t.od key E = true ∧ (f_delete t key).1 = true ∧ Holds (f_delete t key).2 (cutE (plE t.od key E) E))) := by
  obtain ⟨L, I, rfl⟩ := h
  obtain ⟨g1, g2, g3, ⟨A, B, eL, ba, bb, et, r1, r2, r3⟩ | ⟨A, z, R, eL, er, et, z0, r1, L2, r2, r3⟩⟩ := delete_ok I key
  · have hm := (missE (od := t.od) (key := key) (befE ba) (behE bb)).2
    rw [← ents_app, ← eL] at hm
    exact ⟨g1, g2, g3, Or.inl ⟨hm, r1, L, r2, r3⟩⟩
  · have hu := I.2.2.2.1
    rw [eL] at hu
    obtain ⟨q1, q2⟩ := foundE (od := t.od) (key := key) (A := ents t A) (B := ents t R) (e := (t.ky z, t.vl z)) (upA hu) er
    have eE : ents t L = ents t A ++ (t.ky z, t.vl z) :: ents t R := by rw [eL, ents_app, ents_cons]
    rw [eE]
    refine ⟨g1, g2, g3, Or.inr ⟨q2, r1, L2, r2, ?_⟩⟩
    rw [q1, cutE_found]
    exact r3
theorem holds_clear {t : TS} {E : List (Int32 × Int32)} (h : Holds t E) {kd : Nat} (hk : kd < 4) (od : Int32) : Holds (f_clear t kd od) [] := ⟨[], clear_ok (holds_zero h) (holds_wf h) hk od, rfl⟩
