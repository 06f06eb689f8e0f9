/-! a map of the class and a map of the reference -/
def WalkOK (w : KS) (K cp : List Int32) (gv : Nat) (ho : Bool) : Prop := gv ≤ cp.length ∧ ∃ st en pl : Nat, w.2.2.2.2.1 = nI st ∧ w.2.2.2.2.2.1 = nI en ∧ w.2.2.2.2.2.2 = nI pl ∧ ((w.2.1 = false ∧ pl ≤ en ∧ en ≤ K.length ∧ cp.drop gv = (K.take en).drop pl ∧ (ho = true → 1 ≤ gv ∧ 1 ≤ pl ∧ cp[gv - 1]? = K[pl - 1]?)) ∨ (w.2.1 = true ∧ st ≤ pl ∧ pl ≤ K.length ∧ cp.drop gv = ((K.take pl).drop st).reverse ∧ (ho = true → 1 ≤ gv ∧ pl < K.length ∧ cp[gv - 1]? = K[pl]?)))
abbrev kyE (E : List (Int32 × Int32)) : List Int32 := E.map (·.1)
def Rel1 (N : Nat) (m : MS) (r : RW) : Prop := Holds m.1 r.en ∧ m.1.od = r.od ∧ (m.2.1.1 = decide (r.hw % 2 = 1) ∧ m.2.1.2.1 = decide (1 < r.hw) ∧ m.2.1.2.2.1 = r.lo ∧ m.2.1.2.2.2 = r.hg) ∧ (r.hw ≤ 3 ∧ (r.hw = 3 → gB r.od r.hg r.lo = false)) ∧ m.2.2.2 = r.cg ∧ (∃ c k : Nat, c ≤ N ∧ k ≤ c ∧ r.cg = nI c ∧ r.kw = nI k) ∧ (m.2.2.1.1 = r.wk ∧ m.2.2.1.2.2.1 = r.ho ∧ m.2.2.1.2.2.2.1 = r.kw) ∧ (r.wk = true → r.kw = r.cg → WalkOK m.2.2.1 (kyE r.en) r.cp r.gv r.ho)
theorem rel_mono {N M : Nat} {m : MS} {r : RW} (h : Rel1 N m r) (hn : N ≤ M) : Rel1 M m r := by
  obtain ⟨h1, h2, h3, h4, h5, ⟨c, k, h6, h7, h8, h9⟩, h10, h11⟩ := h
  exact ⟨h1, h2, h3, h4, h5, ⟨c, k, by omega, h7, h8, h9⟩, h10, h11⟩
theorem rel_len {N : Nat} {m : MS} {r : RW} (h : Rel1 N m r) : r.en.length ≤ 60 := holds_len h.1
theorem rel_ct {N : Nat} {m : MS} {r : RW} (h : Rel1 N m r) : m.1.ct m.1.rn = nI r.en.length := holds_ct h.1
theorem rel_wf {N : Nat} {m : MS} {r : RW} (h : Rel1 N m r) : WF m.1 := holds_wf h.1
/-- another tree, the same entries -/
theorem rel_tree {N : Nat} {m : MS} {r : RW} {t : TS} (h : Rel1 N m r) (ht : Holds t r.en) (ho : t.od = r.od) : Rel1 N (t, m.2) r := by
  obtain ⟨h1, h2, h3, h4, h5, h6, h7, h8⟩ := h
  exact ⟨ht, ho, h3, h4, h5, h6, h7, h8⟩
/-- the same keys -/
theorem rel_val {N : Nat} {m : MS} {r : RW} {t : TS} {E : List (Int32 × Int32)} (h : Rel1 N m r) (ht : Holds t E) (ho : t.od = r.od) (hk : kyE E = kyE r.en) : Rel1 N (t, m.2) (rEn r E r.cg) := by
  obtain ⟨h1, h2, h3, h4, h5, h6, h7, h8⟩ := h
  refine ⟨ht, ho, h3, h4, h5, h6, h7, fun a b => ?_⟩
  have := h8 a b
  rw [← hk] at this
  exact this
/-- other keys, CHANGES goes on -/
theorem rel_cg {N d : Nat} {m : MS} {r : RW} {t : TS} {E : List (Int32 × Int32)} (h : Rel1 N m r) (hN : N ≤ 1000000) (hd : 1 ≤ d) (hd2 : d ≤ 61) (ht : Holds t E) (ho : t.od = r.od) : Rel1 (N + 61) (t, m.2.1, m.2.2.1, m.2.2.2 + nI d) (rEn r E (r.cg + nI d)) := by
  obtain ⟨h1, h2, h3, h4, h5, ⟨c, k, h6, h7, h8, h9⟩, h10, h11⟩ := h
  have e : r.cg + nI d = nI (c + d) := by rw [h8, nI_add]
  refine ⟨ht, ho, h3, h4, ?_, ⟨c + d, k, by omega, by omega, e, h9⟩, h10, fun _ b => ?_⟩
  · show m.2.2.2 + nI d = r.cg + nI d
    rw [h5]
  · have b' : r.kw = r.cg + nI d := b
    rw [e, h9] at b'
    have := (xn_eq (by omega) (by omega)).mp b'
    omega
theorem rel_tr {N : Nat} {m : MS} {r : RW} (h : Rel1 N m r) (key : Int32) : Rel1 N ((f_trace m.1 key).2, m.2) r := by
  obtain ⟨g1, g2, _⟩ := holds_tr h.1 key
  exact rel_tree h g1 (g2.1.trans h.2.1)
theorem holds_okA {t : TS} {E : List (Int32 × Int32)} (h : Holds t E) (key v : Int32) : okA t key v := by
  have ho := (holds_assign h key v).1
  obtain ⟨L, I, _⟩ := h
  exact ⟨by have := I.2.2.2.2.1; omega, ho, fun q => (I.2.2.2.2.2.1 (t.ss - 1) (by omega)).1⟩
theorem tr_hit {N : Nat} {m : MS} {r : RW} (h : Rel1 N m r) (key : Int32) : ((f_trace m.1 key).1 = 0 ↔ hitE r.od key r.en = false) ∧ (hitE r.od key r.en = true → r.en[plE r.od key r.en]? = some (m.1.ky (f_trace m.1 key).1, m.1.vl (f_trace m.1 key).1)) := by
  obtain ⟨_, _, g3⟩ := holds_tr h.1 key
  rw [h.2.1] at g3
  rcases g3 with ⟨a, b⟩ | ⟨a, b, c⟩
  · exact ⟨⟨fun _ => a, fun _ => b⟩, fun q => by rw [a] at q; cases q⟩
  · exact ⟨⟨fun q => absurd q b, fun q => by rw [a] at q; cases q⟩, fun _ => c⟩
/-- valueOf -/
theorem sim_get {N : Nat} {m : MS} {r : RW} (h : Rel1 N m r) (key : Int32) : ((f_trace m.1 key).1 ≠ 0 → F_get key r = ((f_trace m.1 key).2.vl (f_trace m.1 key).1, 0, r)) ∧ ((f_trace m.1 key).1 = 0 → F_get key r = (0, 2, r)) := by
  obtain ⟨g1, g2⟩ := tr_hit h key
  refine ⟨fun q => ?_, fun q => F_get_0 (g1.mp q)⟩
  have hh : hitE r.od key r.en = true := by
    cases e : hitE r.od key r.en with
    | true => rfl
    | false => exact absurd (g1.mpr e) q
  refine F_get_1 hh ?_
  rw [List.getD_eq_getElem?_getD, g2 hh, (holds_tr h.1 key).2.1.2.2.2.1]
  rfl
theorem hit_or (od key : Int32) (E : List (Int32 × Int32)) : hitE od key E = true ∨ hitE od key E = false := by cases hitE od key E <;> simp
theorem ky_put {od key v : Int32} {E : List (Int32 × Int32)} (h : hitE od key E = true) : kyE (putE od key v E) = kyE E := by
  have hl := hit_lt h
  rw [putE_hit h]
  show List.map _ _ = List.map _ E
  rw [List.map_append, List.map_cons]
  have e1 : (E.getD (plE od key E) (0, 0)).1 :: (E.drop (plE od key E + 1)).map (·.1) = (E.drop (plE od key E)).map (·.1) := by
    rw [List.drop_eq_getElem_cons hl, List.map_cons, List.getD_eq_getElem?_getD, List.getElem?_eq_getElem hl]
    rfl
  show List.map (·.1) (E.take (plE od key E)) ++ ((E.getD (plE od key E) (0, 0)).1 :: (E.drop (plE od key E + 1)).map (·.1)) = _
  rw [e1, ← List.map_append, List.take_append_drop]
/-- store -/
theorem sim_store {N : Nat} {m : MS} {r : RW} (h : Rel1 N m r) (hN : N ≤ 1000000) (key v : Int32) :
    ((m.1.ct m.1.rn < 60 → okA m.1 key v) ∧ (¬ m.1.ct m.1.rn < 60 → okA (f_trace m.1 key).2 key v)) ∧
    ((m.1.ct m.1.rn < 60 ∨ (f_trace m.1 key).1 ≠ 0) → (F_enter key v r).2.1 = 0 ∧ bI (f_assign (st_t m.1 key) key v).1 = (F_enter key v r).1 ∧ Rel1 (N + 61) ((f_assign (st_t m.1 key) key v).2, m.2.1, m.2.2.1, if (f_assign (st_t m.1 key) key v).1 = true then m.2.2.2 + 1 else m.2.2.2) (F_enter key v r).2.2) ∧
    ((¬ m.1.ct m.1.rn < 60 ∧ (f_trace m.1 key).1 = 0) → F_enter key v r = (0, 2, r)) := by
  obtain ⟨g1, g2⟩ := tr_hit h key
  have hl := rel_len h
  have hc := rel_ct h
  have hlt : m.1.ct m.1.rn < 60 ↔ r.en.length < 60 := by rw [hc]; exact xn_lt (a := r.en.length) (b := 60) (by omega) (by decide)
  refine ⟨⟨fun _ => holds_okA h.1 key v, fun _ => holds_okA (holds_tr h.1 key).1 key v⟩, fun q => ?_, fun q => ?_⟩
  · have hs : Holds (st_t m.1 key) r.en ∧ (st_t m.1 key).od = r.od := by
      by_cases c : m.1.ct m.1.rn < 60
      · rw [st_t1 c]; exact ⟨h.1, h.2.1⟩
      · rw [st_t0 c]; exact ⟨(holds_tr h.1 key).1, (holds_tr h.1 key).2.1.1.trans h.2.1⟩
    obtain ⟨s1, s2⟩ := hs
    obtain ⟨_, a1, _, a2, a3, a4, a5⟩ := holds_assign s1 key v
    rw [s2] at a1 a2 a3 a4 a5
    generalize f_assign (st_t m.1 key) key v = fa at *
    rcases hit_or r.od key r.en with hh | hh
    · have e := a3 hh
      rw [F_enter_hit hh, ← putE_hit hh, e]
      refine ⟨rfl, rfl, ?_⟩
      rw [if_neg (by decide)]
      exact rel_mono (rel_val h (a5 (Or.inl hh)) a1 (ky_put hh)) (by omega)
    · have hl2 : r.en.length < 60 := by
        rcases q with q | q
        · exact hlt.mp q
        · exact absurd (g1.mpr hh) q
      have e := a4 hh hl2
      rw [F_enter_new hh (by omega), ← putE_new hh, e]
      refine ⟨rfl, rfl, ?_⟩
      rw [if_pos rfl]
      exact rel_cg (d := 1) h hN (by omega) (by omega) (a5 (Or.inr hl2)) a1
  · have hno : ¬ r.en.length < 60 := fun c => q.1 (hlt.mpr c)
    exact F_enter_full (g1.mp q.2) (by omega)
/-- takeOut -/
theorem sim_remove {N : Nat} {m : MS} {r : RW} (h : Rel1 N m r) (hN : N ≤ 1000000) (key : Int32) : okDelete m.1 key ∧ (F_remove key r).2.1 = 0 ∧ bI (f_delete m.1 key).1 = (F_remove key r).1 ∧ Rel1 (N + 61) ((f_delete m.1 key).2, m.2.1, m.2.2.1, if (f_delete m.1 key).1 = true then m.2.2.2 + 1 else m.2.2.2) (F_remove key r).2.2 := by
  obtain ⟨a0, a1, _, a2⟩ := holds_delete h.1 key
  rw [h.2.1] at a1 a2
  generalize f_delete m.1 key = fd at *
  rcases a2 with ⟨b1, b2, b3⟩ | ⟨b1, b2, b3⟩
  · rw [F_remove_0 b1, b2]
    refine ⟨a0, rfl, rfl, ?_⟩
    rw [if_neg (by decide)]
    exact rel_mono (rel_tree h b3 a1) (by omega)
  · rw [F_remove_1 b1, b2]
    refine ⟨a0, rfl, rfl, ?_⟩
    rw [if_pos rfl]
    exact rel_cg (d := 1) h hN (by omega) (by omega) b3 a1
/-- keyAt -/
theorem sim_keyAt {N : Nat} {m : MS} {r : RW} (h : Rel1 N m r) (i : Int32) : (f_nodeAt m.1 m.1.rn i ≠ 0 → ∃ k, k < r.en.length ∧ i = nI k ∧ m.1.ky (f_nodeAt m.1 m.1.rn i) = (r.en.getD k (0, 0)).1) ∧ (f_nodeAt m.1 m.1.rn i = 0 → ∀ k, k < r.en.length → i ≠ nI k) := by
  constructor
  · intro q
    by_cases c : ∃ k, k < r.en.length ∧ i = nI k
    · obtain ⟨k, c1, c2⟩ := c
      refine ⟨k, c1, c2, ?_⟩
      subst c2
      rw [List.getD_eq_getElem?_getD, (holds_na h.1 c1).2]
      rfl
    · exact absurd (holds_na0 h.1 (fun k hk e => c ⟨k, hk, e⟩)) q
  · intro q k hk e
    subst e
    exact (holds_na h.1 hk).1 q
theorem sim_cb {N : Nat} {m : MS} {r : RW} (h : Rel1 N m r) (key : Int32) : f_countBefore m.1 key = nI (plE r.od key r.en) := by rw [holds_cb h.1, h.2.1]
theorem sim_cu {N : Nat} {m : MS} {r : RW} (h : Rel1 N m r) (key : Int32) : f_countUpTo m.1 key = nI (plE r.od key r.en + if hitE r.od key r.en = true then 1 else 0) := by
  obtain ⟨g1, _⟩ := tr_hit h key
  unfold f_countUpTo
  rw [sim_cb h]
  rcases hit_or r.od key r.en with hh | hh
  · rw [if_neg (fun q => by rw [g1.mp q] at hh; cases hh), if_pos hh, nI_1]
  · rw [if_pos (g1.mpr hh), hh, if_neg (by decide), Int32.add_zero, Nat.add_zero]
theorem sim_tb {N : Nat} {m : MS} {r : RW} (h : Rel1 N m r) (key : Int32) : f_totalBefore m.1 key = sumE (r.en.take (plE r.od key r.en)) := by rw [holds_tb h.1, h.2.1]
theorem sim_start {N : Nat} {m : MS} {r : RW} (h : Rel1 N m r) : f_start m.2.1 m.1 = nI (begR r) := by
  have h3 := h.2.2.1
  by_cases c : r.hw % 2 = 1
  · rw [start_1 (by rw [h3.1]; exact decide_eq_true c), sim_cb h, h3.2.2.1, beg_1 c]
  · rw [start_0 (by rw [h3.1]; exact decide_eq_false c), beg_0 c]; rfl
theorem sim_end {N : Nat} {m : MS} {r : RW} (h : Rel1 N m r) : f_end m.2.1 m.1 = nI (endR r) := by
  have h3 := h.2.2.1
  by_cases c : 1 < r.hw
  · rw [end_1 (by rw [h3.2.1]; exact decide_eq_true c), sim_cb h, h3.2.2.2, enR_1 c]
  · rw [end_0 (by rw [h3.2.1]; exact decide_eq_false c), rel_ct h, enR_0 c]
theorem rel_be {N : Nat} {m : MS} {r : RW} (h : Rel1 N m r) : begR r ≤ endR r ∧ endR r ≤ r.en.length ∧ r.en.length ≤ 60 := ⟨beg_le_end h.2.2.2.1.1 h.2.2.2.1.2, end_le r, rel_len h⟩
theorem sim_eor {N : Nat} {m : MS} {r : RW} (h : Rel1 N m r) (b : Bool) : f_eor m.2.1 m.1 b = if begR r = endR r then -1 else nI (if b = true then endR r - 1 else begR r) := by
  obtain ⟨g1, g2, g3⟩ := rel_be h
  unfold f_eor
  rw [sim_start h, sim_end h]
  by_cases c : begR r = endR r
  · rw [if_pos c, c, if_neg (fun q => by have := (xn_lt (by omega) (by omega)).mp q; omega)]
  · rw [if_neg c, if_pos ((xn_lt (by omega) (by omega)).mpr (by omega))]
    cases b
    · rw [if_neg (by decide), if_neg (by decide)]
    · rw [if_pos rfl, if_pos rfl]
      exact pk_sub (b := 1) (by omega)
theorem sim_holds {N : Nat} {m : MS} {r : RW} (h : Rel1 N m r) (key : Int32) : f_holds m.2.1 m.1.od key = true ↔ ¬ outR key r := by
  obtain ⟨_, h2, ⟨a1, a2, a3, a4⟩, _⟩ := h
  unfold f_holds outR
  rw [a1, a2, a3, a4, h2]
  by_cases c1 : r.hw % 2 = 1 <;> by_cases c2 : 1 < r.hw <;> cases gB r.od key r.lo <;> cases gB r.od key r.hg <;> simp [c1, c2]
/-- beginAnew -/
theorem sim_new {N : Nat} {m : MS} {r : RW} (h : Rel1 N m r) {kd : Nat} (hk : kd < 4) (od : Int32) : Rel1 (N + 61) (f_clear m.1 kd od, (false, false, m.2.1.2.2.1, m.2.1.2.2.2), (false, m.2.2.1.2.1, m.2.2.1.2.2.1, m.2.2.1.2.2.2.1, m.2.2.1.2.2.2.2.1, m.2.2.1.2.2.2.2.2.1, m.2.2.1.2.2.2.2.2.2), m.2.2.2 + 1) (rNew r od) := by
  have hc := holds_clear h.1 hk od
  obtain ⟨h1, h2, h3, h4, h5, ⟨c, k, h6, h7, h8, h9⟩, h10, h11⟩ := h
  refine ⟨hc, rfl, ⟨rfl, rfl, h3.2.2.1, h3.2.2.2⟩, ⟨Nat.zero_le _, fun q => absurd q (show ¬ 0 = 3 by decide)⟩, ?_, ⟨c + 1, k, by omega, by omega, ?_, h9⟩, ⟨rfl, h10.2⟩, fun q => absurd q (show ¬ false = true by decide)⟩
  · show m.2.2.2 + 1 = r.cg + 1
    rw [h5]
  · show r.cg + 1 = _
    rw [h8, nI_1]
/-- narrow -/
theorem nar_1 {n : Nat} (h : n < 4) (f s : Int32) : f_narrow (nI n) f s = (decide (n % 2 = 1), decide (1 < n), f, s) := by
  match n, h with
  | 0, _ => rfl
  | 1, _ => rfl
  | 2, _ => rfl
  | 3, _ => rfl
theorem sim_narrow {N n : Nat} {m : MS} {r : RW} (h : Rel1 N m r) (hn : n < 4) (f s : Int32) (h3 : n = 3 → gB r.od s f = false) : Rel1 N (m.1, f_narrow (nI n) f s, m.2.2.1, m.2.2.2) (r.od, r.en, r.cg, n, f, s, r.wk, r.kw, r.cp, r.gv, r.ho) := by
  obtain ⟨a1, a2, a3, a4, a5, a6, a7, a8⟩ := h
  rw [nar_1 hn]
  exact ⟨a1, a2, ⟨rfl, rfl, rfl, rfl⟩, ⟨by show n ≤ 3; omega, h3⟩, a5, a6, a7, a8⟩
/-- the walk -/
theorem sim_walk {N : Nat} {m : MS} {r : RW} (h : Rel1 N m r) (b : Bool) : Rel1 N (m.1, m.2.1, f_startWalk m.2.2.1 (f_start m.2.1 m.1) (f_end m.2.1 m.1) b m.2.2.2, m.2.2.2) (F_iterate b r).2.2 := by
  obtain ⟨g1, g2, g3⟩ := rel_be h
  rw [sim_start h, sim_end h]
  obtain ⟨h1, h2, h3, h4, h5, ⟨c, k, h6, h7, h8, h9⟩, h10, h11⟩ := h
  refine ⟨h1, h2, h3, h4, h5, ⟨c, c, h6, Nat.le_refl _, h8, h8⟩, ⟨rfl, rfl, h5⟩, fun _ _ => ⟨Nat.zero_le _, begR r, endR r, if b = true then endR r else begR r, rfl, rfl, ?_, ?_⟩⟩
  · cases b <;> rfl
  · have e : kyE ((r.en.take (endR r)).drop (begR r)) = ((kyE r.en).take (endR r)).drop (begR r) := by
      show List.map _ _ = _
      rw [List.map_drop, List.map_take]
    have hl : (kyE r.en).length = r.en.length := List.length_map _
    cases b
    · refine Or.inl ⟨rfl, g1, by show endR r ≤ (kyE r.en).length; omega, ?_, fun q => absurd q (show ¬ false = true by decide)⟩
      show (walkL false r).drop 0 = ((kyE r.en).take (endR r)).drop (begR r)
      rw [List.drop_zero, ← e]; rfl
    · refine Or.inr ⟨rfl, g1, by show endR r ≤ (kyE r.en).length; omega, ?_, fun q => absurd q (show ¬ false = true by decide)⟩
      show (walkL true r).drop 0 = (((kyE r.en).take (endR r)).drop (begR r)).reverse
      rw [List.drop_zero, ← e]; rfl
theorem sim_can {N : Nat} {m : MS} {r : RW} (h : Rel1 N m r) : f_canWalk m.2.2.1 m.2.2.2 = true ↔ r.wk = true ∧ r.kw = r.cg := by
  obtain ⟨_, _, _, _, h5, _, ⟨a1, a2, a3⟩, _⟩ := h
  unfold f_canWalk
  rw [a1, a3, h5]
  by_cases c1 : r.wk = true
  · rw [if_pos c1]
    by_cases c2 : r.kw = r.cg
    · rw [if_pos c2]; exact ⟨fun _ => ⟨c1, c2⟩, fun _ => rfl⟩
    · rw [if_neg c2]; exact ⟨fun q => absurd q (by decide), fun q => absurd q.2 c2⟩
  · rw [if_neg c1]; exact ⟨fun q => absurd q (by decide), fun q => absurd q.1 c1⟩
theorem sim_canD {N : Nat} {m : MS} {r : RW} (h : Rel1 N m r) : f_canDrop m.2.2.1 m.2.2.2 = true ↔ r.wk = true ∧ r.kw = r.cg ∧ r.ho = true := by
  have hc := sim_can h
  unfold f_canDrop
  by_cases c : f_canWalk m.2.2.1 m.2.2.2 = true
  · rw [if_pos c, h.2.2.2.2.2.2.1.2.1]
    obtain ⟨c1, c2⟩ := hc.mp c
    exact ⟨fun q => ⟨c1, c2, q⟩, fun q => q.2.2⟩
  · rw [if_neg c]
    exact ⟨fun q => absurd q (by decide), fun q => absurd (hc.mpr ⟨q.1, q.2.1⟩) c⟩
theorem drop_at {α : Type} {A B : List α} {g p : Nat} (h : A.drop g = B.drop p) : A[g]? = B[p]? := by
  have := congrArg (fun L : List α => L[0]?) h
  simp only [List.getElem?_drop, Nat.add_zero] at this
  exact this
theorem drop_s {α : Type} {A B : List α} {g p : Nat} (h : A.drop g = B.drop p) : A.drop (g + 1) = B.drop (p + 1) := by
  have := congrArg List.tail h
  rw [List.tail_drop, List.tail_drop] at this
  exact this
theorem ky_at {E : List (Int32 × Int32)} {i : Nat} (h : i < E.length) : (kyE E)[i]? = some (E.getD i (0, 0)).1 := by
  show (List.map _ E)[i]? = _
  rw [List.getElem?_map, List.getD_eq_getElem?_getD, List.getElem?_eq_getElem h]
  rfl
/-- next -/
theorem sim_next {N : Nat} {m : MS} {r : RW} (h : Rel1 N m r) (hw : r.wk = true) (hk : r.kw = r.cg) :
    (f_nodeAt m.1 m.1.rn (f_ahead m.2.2.1) ≠ 0 → (F_next r).2.1 = 0 ∧ m.1.ky (f_nodeAt m.1 m.1.rn (f_ahead m.2.2.1)) = (F_next r).1 ∧ Rel1 N (m.1, m.2.1, f_step m.2.2.1, m.2.2.2) (F_next r).2.2) ∧
    (f_nodeAt m.1 m.1.rn (f_ahead m.2.2.1) = 0 → F_next r = (0, 3, r)) := by
  obtain ⟨k1, k2⟩ := sim_keyAt h (f_ahead m.2.2.1)
  have hl := rel_len h
  have hky : (kyE r.en).length = r.en.length := List.length_map _
  obtain ⟨h1, h2, h3, h4, h5, h6, h10, h11⟩ := h
  obtain ⟨w0, st, en, pl, w1, w2, w3, w4⟩ := h11 hw hk
  have step : ∀ k, k < r.en.length → r.gv < r.cp.length → r.cp[r.gv]? = (kyE r.en)[k]? → r.cp.getD r.gv 0 = (r.en.getD k (0, 0)).1 := by
    intro k a1 a2 a3
    rw [List.getD_eq_getElem?_getD, a3, ky_at a1]
    rfl
  rcases w4 with ⟨b1, b2, b3, b4, b5⟩ | ⟨b1, b2, b3, b4, b5⟩
  · have ea : f_ahead m.2.2.1 = if en ≤ pl then -1 else nI pl := by
      unfold f_ahead
      rw [b1, if_neg (by decide), w2, w3]
      by_cases c : en ≤ pl
      · rw [if_pos c, if_pos ((xn_le (by omega) (by omega)).mpr c)]
      · rw [if_neg c, if_neg (fun q => c ((xn_le (by omega) (by omega)).mp q))]
    have hlen := congrArg List.length b4
    rw [List.length_drop, List.length_drop, List.length_take] at hlen
    constructor
    · intro q
      obtain ⟨k, c1, c2, c3⟩ := k1 q
      have hlt : ¬ en ≤ pl := fun e => by
        rw [ea, if_pos e] at c2
        exact absurd (c2.symm) (by
          intro e2
          have := congrArg Int32.toInt e2
          rw [show (nI k).toInt = k from Int32.toInt_ofNat_of_lt (by omega), show (-1 : Int32).toInt = -1 from rfl] at this
          omega)
      rw [ea, if_neg hlt] at c2
      have hkp : pl = k := (xn_eq (by omega) (by omega)).mp c2
      subst hkp
      have hat := drop_at b4
      rw [List.getElem?_take, if_pos (by omega)] at hat
      have hx := step pl c1 (by omega) hat
      rw [F_next_0 hw hk (by omega) hx]
      refine ⟨rfl, c3, h1, h2, h3, h4, h5, h6, ⟨h10.1, rfl, h10.2.2⟩, fun _ _ => ⟨by show r.gv + 1 ≤ r.cp.length; omega, st, en, pl + 1, w1, w2, ?_, Or.inl ⟨b1, by omega, b3, drop_s b4, fun _ => ⟨by show 1 ≤ r.gv + 1; omega, by omega, ?_⟩⟩⟩⟩
      · show m.2.2.1.2.2.2.2.2.2 + (if m.2.2.1.2.1 = true then -1 else 1) = nI (pl + 1)
        rw [w3, b1, if_neg (by decide), nI_1]
      · show r.cp[r.gv + 1 - 1]? = (kyE r.en)[pl + 1 - 1]?
        rw [Nat.add_sub_cancel, Nat.add_sub_cancel]; exact hat
    · intro q
      have c := k2 q
      have he : en ≤ pl := by
        by_cases e : en ≤ pl
        · exact e
        · exact absurd (by rw [ea, if_neg e]) (c pl (by omega))
      exact F_next_3 hw hk (by omega)
  · have ea : f_ahead m.2.2.1 = if pl ≤ st then -1 else nI (pl - 1) := by
      unfold f_ahead
      rw [b1, if_pos rfl, w1, w3]
      by_cases c : pl ≤ st
      · rw [if_pos c, if_pos ((xn_le (by omega) (by omega)).mpr c)]
      · rw [if_neg c, if_neg (fun q => c ((xn_le (by omega) (by omega)).mp q))]
        exact pk_sub (b := 1) (by omega)
    have hlen := congrArg List.length b4
    rw [List.length_drop, List.length_reverse, List.length_drop, List.length_take] at hlen
    constructor
    · intro q
      obtain ⟨k, c1, c2, c3⟩ := k1 q
      have hlt : ¬ pl ≤ st := fun e => by
        rw [ea, if_pos e] at c2
        have := congrArg Int32.toInt c2
        rw [show (nI k).toInt = k from Int32.toInt_ofNat_of_lt (by omega), show (-1 : Int32).toInt = -1 from rfl] at this
        omega
      rw [ea, if_neg hlt] at c2
      have hkp : pl - 1 = k := (xn_eq (by omega) (by omega)).mp c2
      have hsp : ((kyE r.en).take pl).drop st = ((kyE r.en).take (pl - 1)).drop st ++ [(r.en.getD k (0, 0)).1] := by
        have e0 : (kyE r.en).take pl = (kyE r.en).take (pl - 1) ++ [(r.en.getD k (0, 0)).1] := by
          rw [show pl = (pl - 1) + 1 by omega, List.take_add_one, hkp, ky_at c1, Nat.add_sub_cancel]
          rfl
        rw [e0, List.drop_append_of_le_length (by rw [List.length_take]; omega)]
      rw [hsp, List.reverse_append] at b4
      have b4' : r.cp.drop r.gv = (r.en.getD k (0, 0)).1 :: (((kyE r.en).take (pl - 1)).drop st).reverse := b4
      have hat : r.cp[r.gv]? = some (r.en.getD k (0, 0)).1 := by
        have := congrArg (fun L : List Int32 => L[0]?) b4'
        simp only [List.getElem?_drop, Nat.add_zero, List.getElem?_cons_zero] at this
        exact this
      have hx : r.cp.getD r.gv 0 = (r.en.getD k (0, 0)).1 := by rw [List.getD_eq_getElem?_getD, hat]; rfl
      have hdr : r.cp.drop (r.gv + 1) = (((kyE r.en).take (pl - 1)).drop st).reverse := by
        have := congrArg List.tail b4'
        rw [List.tail_drop, List.tail_cons] at this
        exact this
      rw [F_next_0 hw hk (by omega) hx]
      refine ⟨rfl, c3, h1, h2, h3, h4, h5, h6, ⟨h10.1, rfl, h10.2.2⟩, fun _ _ => ⟨by show r.gv + 1 ≤ r.cp.length; omega, st, en, pl - 1, w1, w2, ?_, Or.inr ⟨b1, by omega, by show pl - 1 ≤ (kyE r.en).length; omega, hdr, fun _ => ⟨by show 1 ≤ r.gv + 1; omega, by show pl - 1 < (kyE r.en).length; omega, ?_⟩⟩⟩⟩
      · show m.2.2.1.2.2.2.2.2.2 + (if m.2.2.1.2.1 = true then -1 else 1) = nI (pl - 1)
        rw [w3, b1, if_pos rfl]
        exact nI_dec (by omega)
      · show r.cp[r.gv + 1 - 1]? = (kyE r.en)[pl - 1]?
        rw [Nat.add_sub_cancel, hat, hkp, ky_at c1]
    · intro q
      have c := k2 q
      have he : pl ≤ st := by
        by_cases e : pl ≤ st
        · exact e
        · exact absurd (by rw [ea, if_neg e]) (c (pl - 1) (by omega))
      exact F_next_3 hw hk (by omega)
/-! drop -/
theorem up_pl {od : Int32} {E : List (Int32 × Int32)} (hu : UpE od E) {x : Nat} {e : Int32 × Int32} (h : E[x]? = some e) : plE od e.1 E = x ∧ hitE od e.1 E = true := by
  obtain ⟨h1, h2⟩ := List.getElem?_eq_some_iff.mp h
  have hs : E = E.take x ++ e :: E.drop (x + 1) := by rw [← dropc h, List.take_append_drop]
  have hp : ∀ f ∈ E.take x, rho od f.1 < rho od e.1 := by
    intro f hf
    obtain ⟨i, hi, rfl⟩ := List.mem_iff_getElem.mp hf
    rw [List.length_take] at hi
    rw [List.getElem_take, ← h2]
    exact List.pairwise_iff_getElem.mp hu i x (by omega) h1 (by omega)
  have hl : (E.take x).length = x := by rw [List.length_take]; omega
  have := foundE (od := od) (key := e.1) (A := E.take x) (B := E.drop (x + 1)) (e := e) hp rfl
  rw [← hs, hl] at this
  exact this
theorem ky_cut (x : Nat) (E : List (Int32 × Int32)) : kyE (cutE x E) = (kyE E).take x ++ (kyE E).drop (x + 1) := by
  unfold cutE
  show List.map _ _ = _
  rw [List.map_append, List.map_take, List.map_drop]
theorem take_cut {α : Type} {K : List α} {x n : Nat} (h : n ≤ x) (hx : x ≤ K.length) : (K.take x ++ K.drop (x + 1)).take n = K.take n := by
  rw [List.take_append_of_le_length (by rw [List.length_take]; omega), List.take_take]
  congr 1
  omega
theorem drop_cut {α : Type} {K : List α} {x en : Nat} (h : x + 1 ≤ en) (hx : x < K.length) : ((K.take x ++ K.drop (x + 1)).take (en - 1)).drop x = (K.take en).drop (x + 1) := by
  apply List.ext_getElem?
  intro i
  have hl : (K.take x).length = x := by rw [List.length_take]; omega
  rw [List.getElem?_drop, List.getElem?_drop, List.getElem?_take, List.getElem?_take]
  by_cases c : x + 1 + i < en
  · rw [if_pos (by omega), if_pos c, List.getElem?_append_right (by omega), hl, List.getElem?_drop]
    congr 1
    omega
  · rw [if_neg (by omega), if_neg c]
/-- what the reference's drop needs, and what the class does -/
theorem sim_drop {N : Nat} {m : MS} {r : RW} (h : Rel1 N m r) (hN : N ≤ 1000000) (hw : r.wk = true) (hk : r.kw = r.cg) (ho : r.ho = true) :
    (1 ≤ r.gv ∧ plE r.od (r.cp.getD (r.gv - 1) 0) r.en < r.en.length) ∧ f_nodeAt m.1 m.1.rn (f_latest m.2.2.1) ≠ 0 ∧ okDelete m.1 (m.1.ky (f_nodeAt m.1 m.1.rn (f_latest m.2.2.1))) ∧ (F_drop r).2.1 = 0 ∧
    Rel1 (N + 61) ((f_delete m.1 (m.1.ky (f_nodeAt m.1 m.1.rn (f_latest m.2.2.1)))).2, m.2.1, setKn (f_forget m.2.2.1) (m.2.2.2 + 1), m.2.2.2 + 1) (F_drop r).2.2 := by
  have hl := rel_len h
  have hup := holds_up h.1
  have hky : (kyE r.en).length = r.en.length := List.length_map _
  obtain ⟨h1, h2, h3, h4, h5, ⟨c, k, h6, h7, h8, h9⟩, h10, h11⟩ := h
  rw [h2] at hup
  obtain ⟨w0, st, en, pl, w1, w2, w3, w4⟩ := h11 hw hk
  -- the place of the latest entry
  have hx : ∃ x, x < r.en.length ∧ f_latest m.2.2.1 = nI x ∧ 1 ≤ r.gv ∧ r.cp[r.gv - 1]? = (kyE r.en)[x]? := by
    rcases w4 with ⟨b1, b2, b3, b4, b5⟩ | ⟨b1, b2, b3, b4, b5⟩
    · obtain ⟨d1, d2, d3⟩ := b5 ho
      refine ⟨pl - 1, by omega, ?_, d1, d3⟩
      unfold f_latest
      rw [b1, if_neg (by decide), w3]
      exact pk_sub (b := 1) (by omega)
    · obtain ⟨d1, d2, d3⟩ := b5 ho
      refine ⟨pl, by omega, ?_, d1, d3⟩
      unfold f_latest
      rw [b1, if_pos rfl, w3]
  obtain ⟨x, x1, x2, x3, x4⟩ := hx
  obtain ⟨n1, n2⟩ := holds_na h1 x1
  rw [x2]
  have hky2 : m.1.ky (f_nodeAt m.1 m.1.rn (nI x)) = (r.en.getD x (0, 0)).1 := by rw [List.getD_eq_getElem?_getD, n2]; rfl
  have hcp : r.cp.getD (r.gv - 1) 0 = (r.en.getD x (0, 0)).1 := by rw [List.getD_eq_getElem?_getD, x4, ky_at x1]; rfl
  have hge : r.en[x]? = some (r.en.getD x (0, 0)) := by rw [List.getD_eq_getElem?_getD, List.getElem?_eq_getElem x1]; rfl
  obtain ⟨p1, p2⟩ := up_pl hup hge
  obtain ⟨a0, a1, _, a2⟩ := holds_delete h1 (r.en.getD x (0, 0)).1
  rw [h2] at a1 a2
  rw [hky2, hcp, p1]
  have hF := F_drop_0 hw hk ho hcp
  rw [p1] at hF
  rw [hF]
  generalize f_delete m.1 (r.en.getD x (0, 0)).1 = fd at *
  rcases a2 with ⟨q1, _, _⟩ | ⟨_, q2, q3⟩
  · rw [p2] at q1; cases q1
  · rw [p1] at q3
    refine ⟨⟨x3, x1⟩, n1, a0, rfl, q3, a1, h3, h4, ?_, ⟨c + 1, c + 1, by omega, Nat.le_refl _, ?_, ?_⟩, ?_, fun _ _ => ?_⟩
    · show m.2.2.2 + 1 = r.cg + 1
      rw [h5]
    · show r.cg + 1 = _
      rw [h8, nI_1]
    · show r.cg + 1 = _
      rw [h8, nI_1]
    · have e1 : (f_forget m.2.2.1).1 = m.2.2.1.1 ∧ (f_forget m.2.2.1).2.2.1 = false := by
        unfold f_forget
        by_cases q : m.2.2.1.2.1 = true
        · rw [if_pos q]; exact ⟨rfl, rfl⟩
        · rw [if_neg q]; exact ⟨rfl, rfl⟩
      refine ⟨e1.1.trans h10.1, e1.2, ?_⟩
      show m.2.2.2 + 1 = r.cg + 1
      rw [h5]
    · show WalkOK (setKn (f_forget m.2.2.1) (m.2.2.2 + 1)) (kyE (cutE x r.en)) r.cp r.gv false
      rw [ky_cut]
      have hcl : ((kyE r.en).take x ++ (kyE r.en).drop (x + 1)).length = r.en.length - 1 := by rw [List.length_append, List.length_take, List.length_drop]; omega
      rcases w4 with ⟨b1, b2, b3, b4, b5⟩ | ⟨b1, b2, b3, b4, b5⟩
      · obtain ⟨d1, d2, d3⟩ := b5 ho
        have ex : x = pl - 1 := by
          have e : nI (pl - 1) = nI x := by
            rw [← x2]
            unfold f_latest
            rw [b1, if_neg (by decide), w3]
            exact (pk_sub (b := 1) (by omega)).symm
          exact ((xn_eq (by omega) (by omega)).mp e).symm
        have ef : f_forget m.2.2.1 = (m.2.2.1.1, m.2.2.1.2.1, false, m.2.2.1.2.2.2.1, m.2.2.1.2.2.2.2.1, m.2.2.1.2.2.2.2.2.1 - 1, m.2.2.1.2.2.2.2.2.2 - 1) := by
          unfold f_forget
          rw [if_neg (by rw [b1]; decide)]
        rw [ef]
        refine ⟨w0, st, en - 1, pl - 1, w1, ?_, ?_, Or.inl ⟨b1, by omega, by omega, ?_, fun q => absurd q (by decide)⟩⟩
        · show m.2.2.1.2.2.2.2.2.1 - 1 = _
          rw [w2]; exact pk_sub (b := 1) (by omega)
        · show m.2.2.1.2.2.2.2.2.2 - 1 = _
          rw [w3]; exact pk_sub (b := 1) (by omega)
        · rw [b4, ex, drop_cut (by omega) (by omega), show pl - 1 + 1 = pl by omega]
      · obtain ⟨d1, d2, d3⟩ := b5 ho
        have ex : x = pl := by
          have e : nI pl = nI x := by
            rw [← x2]
            unfold f_latest
            rw [b1, if_pos rfl, w3]
          exact ((xn_eq (by omega) (by omega)).mp e).symm
        have ef : f_forget m.2.2.1 = (m.2.2.1.1, m.2.2.1.2.1, false, m.2.2.1.2.2.2.1, m.2.2.1.2.2.2.2.1, m.2.2.1.2.2.2.2.2.1, m.2.2.1.2.2.2.2.2.2) := by
          unfold f_forget
          rw [if_pos b1]
        rw [ef]
        refine ⟨w0, st, en, pl, w1, w2, w3, Or.inr ⟨b1, b2, by omega, ?_, fun q => absurd q (by decide)⟩⟩
        rw [b4, ex, take_cut (Nat.le_refl _) (by omega)]
