/-! two maps of the class and two of the reference -/
theorem rel_join {N d : Nat} {m : MS} {r : RW} {t : TS} {E : List (Int32 × Int32)} (h : Rel1 N m r) (hN : N ≤ 1000000) (hd : d ≤ 61) (ht : Holds t E) (ho : t.od = r.od) (hk : d = 0 → kyE E = kyE r.en) : Rel1 (N + 61) (t, m.2.1, m.2.2.1, m.2.2.2 + nI d) (rEn r E (r.cg + nI d)) := by
  by_cases c : d = 0
  · subst c
    rw [show (nI 0 : Int32) = 0 from rfl, Int32.add_zero, Int32.add_zero]
    exact rel_mono (rel_val h ht ho (hk rfl)) (by omega)
  · exact rel_cg h hN (by omega) hd ht ho
theorem UN0 {t2 : TS} {E2 : List (Int32 × Int32)} (h2 : Holds t2 E2) : ∀ (n i : Nat) (t : TS), (∃ E, Holds t E) → n + i ≤ E2.length → okUn t2 n i t := by
  intro n
  induction n with
  | zero => intro i t _ _; trivial
  | succ n ih =>
    intro i t h hn
    obtain ⟨E, h⟩ := h
    obtain ⟨g1, _⟩ := holds_tr h (un_key t2 i)
    refine ⟨holds_okA g1 _ _, ih (i + 1) _ ?_ (by omega)⟩
    obtain ⟨_, _, _, a2, _, _, a5⟩ := holds_assign g1 (un_key t2 i) (un_v t t2 i)
    by_cases c : hitE (f_trace t (un_key t2 i)).2.od (un_key t2 i) E = true ∨ E.length < 60
    · exact ⟨_, a5 c⟩
    · have hl := holds_len h
      have hc : hitE (f_trace t (un_key t2 i)).2.od (un_key t2 i) E = false ∧ E.length = 60 := by
        rcases hit_or (f_trace t (un_key t2 i)).2.od (un_key t2 i) E with q | q
        · exact absurd (Or.inl q) c
        · refine ⟨q, ?_⟩
          have hno : ¬ E.length < 60 := fun z => c (Or.inr z)
          omega
      exact ⟨_, (a2 hc).2⟩
theorem sim_unite {N : Nat} {m m2 : MS} {r s : RW} (h : Rel1 N m r) (h2 : Rel1 N m2 s) (hN : N ≤ 1000000) (ho : r.od = s.od) :
    okUn m2.1 s.en.length 0 (cm_go m2.1 s.en.length 0 m.1 0).2 ∧
    (((cm_go m2.1 s.en.length 0 m.1 0).2.ct (cm_go m2.1 s.en.length 0 m.1 0).2.rn + nI (cm_go m2.1 s.en.length 0 m.1 0).1 ≤ 60) → (F_join 0 r s).2.1 = 0 ∧ nI (cm_go m2.1 s.en.length 0 m.1 0).1 = (F_join 0 r s).1 ∧ Rel1 (N + 61) (un_go m2.1 s.en.length 0 (cm_go m2.1 s.en.length 0 m.1 0).2, m.2.1, m.2.2.1, m.2.2.2 + nI (cm_go m2.1 s.en.length 0 m.1 0).1) (F_join 0 r s).2.2) ∧
    (¬ ((cm_go m2.1 s.en.length 0 m.1 0).2.ct (cm_go m2.1 s.en.length 0 m.1 0).2.rn + nI (cm_go m2.1 s.en.length 0 m.1 0).1 ≤ 60) → F_join 0 r s = (0, 2, r)) ∧ Rel1 N ((cm_go m2.1 s.en.length 0 m.1 0).2, m.2) r := by
  have l1 := rel_len h
  have l2 := rel_len h2
  have u1 := holds_up h.1
  have u2 := holds_up h2.1
  rw [h.2.1] at u1
  rw [h2.2.1, ← ho] at u2
  have hnil : allLt r.od [] s.en := fun x hx => absurd hx List.not_mem_nil
  obtain ⟨c1, c2, c3, c4⟩ := CM (od := r.od) h2.1 120 [] r.en s.en 0 0 m.1 h.1 h.2.1 List.drop_zero u2 hnil u1 (by omega)
  obtain ⟨q1, q2⟩ := mg_len0 r.od 120 r.en s.en (by omega)
  rw [Nat.zero_add] at c1
  have hok := UN0 h2.1 s.en.length 0 (cm_go m2.1 s.en.length 0 m.1 0).2 ⟨_, c2⟩ (by omega)
  have hun := fun hh => UN (od := r.od) h2.1 120 [] r.en s.en 0 (cm_go m2.1 s.en.length 0 m.1 0).2 c2 c3 List.drop_zero u2 hnil u1 (by omega) hh
  have hct := holds_ct c2
  have c2' : Holds (cm_go m2.1 s.en.length 0 m.1 0).2 r.en := c2
  generalize cm_go m2.1 s.en.length 0 m.1 0 = C at *
  have hle : C.2.ct C.2.rn + nI C.1 ≤ 60 ↔ r.en.length + (mgE r.od 0 120 r.en s.en).2 ≤ 60 := by
    rw [hct, c1, List.nil_append, nI_add]
    exact xn_le (b := 60) (by omega) (by decide)
  refine ⟨hok, fun q => ?_, fun q => ?_, rel_tree h c2' c3⟩
  · have q' := hle.mp q
    obtain ⟨_, g2, g3, _⟩ := hun (by rw [List.length_nil]; omega)
    rw [F_join_0 (show isB 0 3 = true by decide) ho rfl rfl (by omega), c1]
    refine ⟨rfl, rfl, ?_⟩
    exact rel_join h hN (by omega) g2 g3 (fun z => ky_mg0 r.od 120 r.en s.en (by omega) z)
  · exact F_join_2 (show isB 0 3 = true by decide) ho rfl (by have hno : ¬ _ := fun z => q (hle.mpr z); omega)
theorem sim_unite_a {N : Nat} {m : MS} {r : RW} (h : Rel1 N m r) (hN : N ≤ 1000000) :
    okUna r.en.length 0 (cma_go r.en.length 0 m.1 0).2 ∧ (cma_go r.en.length 0 m.1 0).2.ct (cma_go r.en.length 0 m.1 0).2.rn = nI r.en.length ∧ ((cma_go r.en.length 0 m.1 0).2.ct (cma_go r.en.length 0 m.1 0).2.rn + nI (cma_go r.en.length 0 m.1 0).1 ≤ 60) ∧
    (F_join 0 r r).2.1 = 0 ∧ nI (cma_go r.en.length 0 m.1 0).1 = (F_join 0 r r).1 ∧ Rel1 (N + 61) (una_go r.en.length 0 (cma_go r.en.length 0 m.1 0).2, m.2.1, m.2.2.1, m.2.2.2 + nI (cma_go r.en.length 0 m.1 0).1) (F_join 0 r r).2.2 := by
  have l1 := rel_len h
  obtain ⟨c1, c2, c3, c4⟩ := CMA r.en [] 0 m.1 h.1
  have c1 : (cma_go r.en.length 0 m.1 0).1 = 0 := c1
  have c2 : Holds (cma_go r.en.length 0 m.1 0).2 r.en := c2
  have c3 : (cma_go r.en.length 0 m.1 0).2.od = m.1.od := c3
  obtain ⟨g1, g2, g3, g4⟩ := UNA r.en [] (cma_go r.en.length 0 m.1 0).2 c2
  have g1 : okUna r.en.length 0 (cma_go r.en.length 0 m.1 0).2 := g1
  have g2 : Holds (una_go r.en.length 0 (cma_go r.en.length 0 m.1 0).2) (r.en.map x3) := g2
  have g3 : (una_go r.en.length 0 (cma_go r.en.length 0 m.1 0).2).od = (cma_go r.en.length 0 m.1 0).2.od := g3
  have hct := holds_ct c2
  generalize cma_go r.en.length 0 m.1 0 = C at *
  have hmg := mg_self r.od 0 (by decide) 120 r.en (by omega)
  refine ⟨g1, hct, ?_, ?_⟩
  · rw [hct, c1, nI_add]
    exact (xn_le (b := 60) (by omega) (by decide)).mpr (by omega)
  · rw [F_join_0 (show isB 0 3 = true by decide) rfl rfl rfl (by rw [hmg, List.length_map]; omega), c1, hmg]
    refine ⟨rfl, rfl, ?_⟩
    refine rel_join h hN (by omega) g2 (g3.trans (c3.trans h.2.1)) (fun _ => ?_)
    show List.map _ (List.map _ _) = List.map _ _
    rw [List.map_map]
    rfl
theorem gone_eq {a b d : Nat} (h : b + d = a) : nI a - nI b = nI d := by
  rw [pk_sub (by omega)]
  congr 1
  omega
theorem sim_inter {N : Nat} {m m2 : MS} {r s : RW} (h : Rel1 N m r) (h2 : Rel1 N m2 s) (hN : N ≤ 1000000) (ho : r.od = s.od) :
    okIn r.en.length m.1 m2.1 ∧ (F_join 1 r s).2.1 = 0 ∧ (nI r.en.length - (in_go r.en.length m.1 m2.1).1.ct (in_go r.en.length m.1 m2.1).1.rn) = (F_join 1 r s).1 ∧ Rel1 (N + 61) ((in_go r.en.length m.1 m2.1).1, m.2.1, m.2.2.1, m.2.2.2 + (nI r.en.length - (in_go r.en.length m.1 m2.1).1.ct (in_go r.en.length m.1 m2.1).1.rn)) (F_join 1 r s).2.2 ∧ Rel1 N ((in_go r.en.length m.1 m2.1).2, m2.2) s := by
  have l1 := rel_len h
  have l2 := rel_len h2
  have u1 := holds_up h.1
  have u2 := holds_up h2.1
  rw [h.2.1] at u1
  rw [h2.2.1, ← ho] at u2
  obtain ⟨g1, g2, g3, g4, g5, _, _⟩ := IN (od := r.od) (E2 := s.en) r.en.length r.en [] m.1 m2.1 rfl (by rw [List.append_nil]; exact h.1) h2.1 h.2.1 (h2.2.1.trans ho.symm)
  rw [List.append_nil] at g2
  obtain ⟨⟨k1, k2⟩, _⟩ := MG r.od 120 r.en [] s.en u1 u2 (fun x hx => absurd hx List.not_mem_nil) (by omega)
  rw [List.nil_append] at k1
  have hct := holds_ct g2
  generalize in_go r.en.length m.1 m2.1 = C at *
  have hl : (r.en.filterMap (gI r.od s.en)).length ≤ r.en.length := List.length_filterMap_le _ _
  have hg : nI r.en.length - C.1.ct C.1.rn = nI (mgE r.od 1 120 r.en s.en).2 := by
    rw [hct, ← k1]; exact gone_eq k2
  rw [F_join_0 (show isB 1 3 = true by decide) ho k1 rfl (by omega), hg]
  refine ⟨g1, rfl, rfl, ?_, rel_tree h2 g3 (g5.trans ho)⟩
  refine rel_join h hN (by rw [k1] at k2; omega) g2 g4 (fun z => ky_fm (gI_k r.od s.en) r.en (by rw [k1] at k2; omega))
theorem sim_subt {N : Nat} {m m2 : MS} {r s : RW} (h : Rel1 N m r) (h2 : Rel1 N m2 s) (hN : N ≤ 1000000) (ho : r.od = s.od) :
    okSu r.en.length m.1 m2.1 ∧ (F_join 2 r s).2.1 = 0 ∧ (nI r.en.length - (su_go r.en.length m.1 m2.1).1.ct (su_go r.en.length m.1 m2.1).1.rn) = (F_join 2 r s).1 ∧ Rel1 (N + 61) ((su_go r.en.length m.1 m2.1).1, m.2.1, m.2.2.1, m.2.2.2 + (nI r.en.length - (su_go r.en.length m.1 m2.1).1.ct (su_go r.en.length m.1 m2.1).1.rn)) (F_join 2 r s).2.2 ∧ Rel1 N ((su_go r.en.length m.1 m2.1).2, m2.2) s := by
  have l1 := rel_len h
  have l2 := rel_len h2
  have u1 := holds_up h.1
  have u2 := holds_up h2.1
  rw [h.2.1] at u1
  rw [h2.2.1, ← ho] at u2
  obtain ⟨g1, g2, g3, g4, g5, _, _⟩ := SU (od := r.od) (E2 := s.en) r.en.length r.en [] m.1 m2.1 rfl (by rw [List.append_nil]; exact h.1) h2.1 h.2.1 (h2.2.1.trans ho.symm)
  rw [List.append_nil] at g2
  obtain ⟨_, ⟨k1, k2⟩⟩ := MG r.od 120 r.en [] s.en u1 u2 (fun x hx => absurd hx List.not_mem_nil) (by omega)
  rw [List.nil_append] at k1
  have hct := holds_ct g2
  generalize su_go r.en.length m.1 m2.1 = C at *
  have hl : (r.en.filterMap (gS r.od s.en)).length ≤ r.en.length := List.length_filterMap_le _ _
  have hg : nI r.en.length - C.1.ct C.1.rn = nI (mgE r.od 2 120 r.en s.en).2 := by
    rw [hct, ← k1]; exact gone_eq k2
  rw [F_join_0 (show isB 2 3 = true by decide) ho k1 rfl (by omega), hg]
  refine ⟨g1, rfl, rfl, ?_, rel_tree h2 g3 (g5.trans ho)⟩
  refine rel_join h hN (by rw [k1] at k2; omega) g2 g4 (fun z => ky_fm (gS_k r.od s.en) r.en (by rw [k1] at k2; omega))
theorem sim_inter_a {N : Nat} {m : MS} {r : RW} (h : Rel1 N m r) (hN : N ≤ 1000000) :
    okIna r.en.length m.1 ∧ (F_join 1 r r).2.1 = 0 ∧ (nI r.en.length - (ina_go r.en.length m.1).ct (ina_go r.en.length m.1).rn) = (F_join 1 r r).1 ∧ Rel1 (N + 61) (ina_go r.en.length m.1, m.2.1, m.2.2.1, m.2.2.2 + (nI r.en.length - (ina_go r.en.length m.1).ct (ina_go r.en.length m.1).rn)) (F_join 1 r r).2.2 := by
  have l1 := rel_len h
  obtain ⟨g1, g2, g3, _⟩ := INA r.en.length r.en [] m.1 rfl (by rw [List.append_nil]; exact h.1)
  rw [List.append_nil] at g2
  have hmg := mg_self r.od 1 (by decide) 120 r.en (by omega)
  have hct := holds_ct g2
  generalize ina_go r.en.length m.1 = C at *
  have hg : nI r.en.length - C.ct C.rn = nI 0 := by
    rw [hct, List.length_map]; exact gone_eq (by omega)
  rw [F_join_0 (show isB 1 3 = true by decide) rfl rfl rfl (by rw [hmg, List.length_map]; omega), hg, hmg]
  refine ⟨g1, rfl, rfl, ?_⟩
  refine rel_join h hN (by omega) g2 (g3.trans h.2.1) (fun _ => ?_)
  show List.map _ (List.map _ _) = List.map _ _
  rw [List.map_map]
  rfl
theorem sim_subt_a {N : Nat} {m : MS} {r : RW} (h : Rel1 N m r) (hN : N ≤ 1000000) :
    okSua r.en.length m.1 ∧ (F_join 2 r r).2.1 = 0 ∧ (nI r.en.length - (sua_go r.en.length m.1).ct (sua_go r.en.length m.1).rn) = (F_join 2 r r).1 ∧ Rel1 (N + 61) (sua_go r.en.length m.1, m.2.1, m.2.2.1, m.2.2.2 + (nI r.en.length - (sua_go r.en.length m.1).ct (sua_go r.en.length m.1).rn)) (F_join 2 r r).2.2 := by
  have l1 := rel_len h
  obtain ⟨g1, g2, g3, _⟩ := SUA r.en.length r.en m.1 rfl h.1
  have hmg := mg_self2 r.od 120 r.en (by omega)
  have hct := holds_ct g2
  generalize sua_go r.en.length m.1 = C at *
  have hg : nI r.en.length - C.ct C.rn = nI r.en.length := by
    rw [hct]; exact gone_eq (by rw [List.length_nil]; omega)
  rw [F_join_0 (show isB 2 3 = true by decide) rfl rfl rfl (by rw [hmg]; show ¬ 60 < 0; omega), hg, hmg]
  refine ⟨g1, rfl, rfl, ?_⟩
  refine rel_join h hN (by show r.en.length ≤ 61; omega) g2 (g3.trans h.2.1) (fun z => ?_)
  have z : r.en.length = 0 := z
  rw [List.eq_nil_of_length_eq_zero z]
/-- split -/
theorem sim_split {N : Nat} {m m2 : MS} {r s : RW} (h : Rel1 N m r) (h2 : Rel1 N m2 s) (hN : N ≤ 1000000) (key : Int32) :
    f_countBefore m.1 key = nI (plE r.od key r.en) ∧ plE r.od key r.en ≤ r.en.length ∧ okMv (plE r.od key r.en) (r.en.length - plE r.od key r.en) m.1 (f_clear m2.1 m.1.kd m.1.od) ∧
    nI r.en.length - (mv_go (plE r.od key r.en) (r.en.length - plE r.od key r.en) m.1 (f_clear m2.1 m.1.kd m.1.od)).1.ct (mv_go (plE r.od key r.en) (r.en.length - plE r.od key r.en) m.1 (f_clear m2.1 m.1.kd m.1.od)).1.rn = nI (r.en.length - plE r.od key r.en) ∧
    Rel1 (N + 61) ((mv_go (plE r.od key r.en) (r.en.length - plE r.od key r.en) m.1 (f_clear m2.1 m.1.kd m.1.od)).1, m.2.1, m.2.2.1, m.2.2.2 + nI (r.en.length - plE r.od key r.en)) (spR key r) ∧
    Rel1 (N + 61) ((mv_go (plE r.od key r.en) (r.en.length - plE r.od key r.en) m.1 (f_clear m2.1 m.1.kd m.1.od)).2, (false, false, m2.2.1.2.2.1, m2.2.1.2.2.2), (false, m2.2.2.1.2.1, m2.2.2.1.2.2.1, m2.2.2.1.2.2.2.1, m2.2.2.1.2.2.2.2.1, m2.2.2.1.2.2.2.2.2.1, m2.2.2.1.2.2.2.2.2.2), m2.2.2.2 + 1 + (nI r.en.length - nI (plE r.od key r.en))) (spT key r s (r.en.length - plE r.od key r.en)) := by
  have l1 := rel_len h
  have hp := plE_le r.od key r.en
  have hkd : m.1.kd < 4 := (rel_wf h).2.2.2.2.2.2
  have hnew := sim_new h2 hkd m.1.od
  have hcl := holds_clear h2.1 hkd m.1.od
  have hco : (f_clear m2.1 m.1.kd m.1.od).od = m.1.od := rfl
  obtain ⟨g1, g2, g3, g4, g5, _, _⟩ := MV (plE r.od key r.en) (A := r.en.take (plE r.od key r.en)) (by rw [List.length_take]; omega) (r.en.length - plE r.od key r.en) (r.en.drop (plE r.od key r.en)) [] m.1 (f_clear m2.1 m.1.kd m.1.od) (by rw [List.length_drop]) (by rw [List.take_append_drop]; exact h.1) hcl hco.symm (fun _ _ y hy => absurd hy List.not_mem_nil) (by rw [List.length_nil]; omega)
  rw [List.append_nil] at g3
  have hct := holds_ct g2
  generalize mv_go (plE r.od key r.en) (r.en.length - plE r.od key r.en) m.1 (f_clear m2.1 m.1.kd m.1.od) = C at *
  rw [List.length_take] at hct
  refine ⟨sim_cb h key, hp, g1, ?_, ?_, ?_⟩
  · rw [hct]; exact gone_eq (by omega)
  · refine rel_join h hN (by omega) g2 (g4.trans h.2.1) (fun z => ?_)
    have e : plE r.od key r.en = r.en.length := by omega
    rw [e, List.take_length]
  · have e2 : nI r.en.length - nI (plE r.od key r.en) = nI (r.en.length - plE r.od key r.en) := pk_sub hp
    rw [e2]
    obtain ⟨a1, a2, a3, a4, a5, ⟨c, k, b1, b2, b3, b4⟩, a7, a8⟩ := h2
    refine ⟨?_, ?_, ⟨rfl, rfl, a3.2.2.1, a3.2.2.2⟩, ⟨Nat.zero_le _, fun q => absurd q (show ¬ 0 = 3 by decide)⟩, ?_, ⟨c + 1 + (r.en.length - plE r.od key r.en), k, by omega, by omega, ?_, b4⟩, ⟨rfl, a7.2⟩, fun q => absurd q (show ¬ false = true by decide)⟩
    · show Holds C.2 ((r.en.drop (plE r.od key r.en)).take (r.en.length - plE r.od key r.en))
      rw [List.take_of_length_le (by rw [List.length_drop]; omega)]
      exact g3
    · exact g5.trans (hco.trans h.2.1)
    · show m2.2.2.2 + 1 + _ = s.cg + 1 + _
      rw [a5]
    · show s.cg + 1 + nI _ = _
      rw [b3, nI_1, nI_add]
