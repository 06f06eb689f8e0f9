/-! the invariant is kept by delete and clear; a sound tree -/
theorem cut_ok {t : TS} (hz : Zero t) (hk : t.kd < 4) {e g w h ho co : Nat} {A B M : List Nat} (hd : t.dp = e + 1) (hg : t.pa e = g) (g0 : g ≠ 0) (C : Ctx t e g A B ho co) (ew : (if t.lf g ≠ 0 then t.lf g else t.rt g) = w) (s : Sub t 60 w M h) (hn : (A ++ (M ++ B)).Nodup) (hgn : g ∉ A ++ (M ++ B)) (hl : (A ++ (M ++ B)).length ≤ 60) (hc : M.length ≤ co + 1 ∧ co ≤ M.length + 1) (hh : t.kd = 0 → h ≤ ho + 1 ∧ ho ≤ h + 1) :
    (f_cut t).dp = e ∧ okClimb e (f_cut t) ∧ (∃ h9, Sub (f_climb e (f_cut t)) 60 (f_climb e (f_cut t)).rn (A ++ (M ++ B)) h9) ∧ Zero (f_climb e (f_cut t)) ∧ (f_climb e (f_cut t)).ky = t.ky ∧ (f_climb e (f_cut t)).vl = t.vl ∧ (f_climb e (f_cut t)).sp = va_up t.sp t.ss g ∧ (f_climb e (f_cut t)).ss = t.ss + 1 ∧ (f_climb e (f_cut t)).od = t.od ∧ (f_climb e (f_cut t)).kd = t.kd := by
  obtain ⟨d1, d2, d3, d4⟩ := nd_m hn
  have eP : e = t.dp - 1 := by omega
  have C0 : Ctx (setPa t t.pa e) e g A B ho co := ctx_tr e C d1 (fun _ _ => rfl) rfl rfl (fun z _ => ⟨rfl, rfl, fun _ => ⟨rfl, rfl, rfl, rfl, rfl⟩⟩)
  obtain ⟨C1, K1⟩ := ctx_set w C0 d1 hg.symm g0 (fun q => hgn (in_m q))
  have ed : (f_setAt (setPa t t.pa e) e w).dp = e := setAt_dp _ _ _
  have ecut : f_cut t = ((f_setAt (setPa t t.pa e) e w).ky, (f_setAt (setPa t t.pa e) e w).vl, (f_setAt (setPa t t.pa e) e w).lf, (f_setAt (setPa t t.pa e) e w).rt, (f_setAt (setPa t t.pa e) e w).ct, (f_setAt (setPa t t.pa e) e w).ht, (f_setAt (setPa t t.pa e) e w).to, va_up (f_setAt (setPa t t.pa e) e w).sp (f_setAt (setPa t t.pa e) e w).ss g, (f_setAt (setPa t t.pa e) e w).pa, (f_setAt (setPa t t.pa e) e w).ro, (f_setAt (setPa t t.pa e) e w).ss + 1, (f_setAt (setPa t t.pa e) e w).dp, (f_setAt (setPa t t.pa e) e w).rn, (f_setAt (setPa t t.pa e) e w).od, (f_setAt (setPa t t.pa e) e w).kd) := by
    unfold f_cut
    dsimp only
    rw [← eP, hg, ew]
  generalize f_setAt (setPa t t.pa e) e w = t1 at *
  have S1 : Sub t1 60 w M h := sub_like (K1.like d3) (sub_like (like_setPa t _ _ _) s)
  have n0 : 0 ∉ A ++ B := ctx_ne0 e C
  have z1 : Zero t1 := K1.zero n0 hz
  obtain ⟨⟨b1, b2, b3, b4, b5, b6, b7, b8⟩, b⟩ := K1
  obtain ⟨t2, e2⟩ : ∃ v, v = f_cut t := ⟨_, rfl⟩
  rw [← e2] at ecut ⊢
  have C2 : Ctx t2 e w A B ho co := by
    rw [ecut]
    exact ctx_tr e C1 d1 (fun _ _ => rfl) rfl rfl (fun z _ => ⟨rfl, rfl, fun _ => ⟨rfl, rfl, rfl, rfl, rfl⟩⟩)
  have S2 : Sub t2 60 w M h := by
    rw [ecut]
    exact sub_like (t := t1) ⟨rfl, fun z _ => ⟨rfl, rfl, rfl, rfl, rfl, rfl, rfl⟩⟩ S1
  have z2 : Zero t2 := by rw [ecut]; exact z1
  have f1 : t2.ky = t.ky := by rw [ecut]; exact b1
  have f2 : t2.vl = t.vl := by rw [ecut]; exact b2
  have f3 : t2.sp = va_up t.sp t.ss g := by rw [ecut]; show va_up t1.sp t1.ss g = _; rw [b3, b5]; rfl
  have f4 : t2.ss = t.ss + 1 := by rw [ecut]; show t1.ss + 1 = _; rw [b5]; rfl
  have f5 : t2.od = t.od := by rw [ecut]; exact b7
  have f6 : t2.kd = t.kd := by rw [ecut]; exact b8
  have f7 : t2.dp = e := by rw [ecut]; exact ed
  clear ecut e2
  obtain ⟨g1, ⟨h9, g2⟩, g3⟩ := climb_hole e z2 (by rw [f6]; exact hk) C2 S2 hn hl hc (by rw [f6]; exact hh)
  have n1 : 0 ∉ A ++ (M ++ B) := fun q => sub_ne0 g2 0 q rfl
  have zu := g3.zero n1 z2
  obtain ⟨⟨q1, q2, q3, q4, q5, q6, q7, q8⟩, q⟩ := g3
  exact ⟨f7, g1, ⟨h9, g2⟩, zu, q1.trans f1, q2.trans f2, q3.trans f3, q5.trans f4, q7.trans f5, q8.trans f6⟩
theorem inv_cut {t u : TS} {L L2 : List Nat} {g : Nat} (I : Inv t L) (hS : ∃ h, Sub u 60 u.rn L2 h) (hn : L2.Nodup) (hz : Zero u) (hu : UpE u.od (ents u L2)) (e1 : u.sp = va_up t.sp t.ss g) (e2 : u.ss = t.ss + 1) (g0 : g ≠ 0) (hgL : g ∈ L) (hg2 : g ∉ L2) (hsub : ∀ z ∈ L2, z ∈ L) (hlen : L2.length + 1 = L.length) (hw : WF u) : Inv u L2 := by
  obtain ⟨_, _, _, _, hs, h1, h2, _⟩ := I
  refine ⟨hS, hn, hz, (up_ents u L2).mpr hu, by omega, ?_, ?_, hw⟩
  · rw [e1, e2]
    intro i hi
    by_cases q : i = t.ss
    · rw [q, up_eq]; exact ⟨g0, hg2⟩
    · rw [up_ne q]
      obtain ⟨a1, a2⟩ := h1 i (by omega)
      exact ⟨a1, fun w => a2 (hsub _ w)⟩
  · rw [e1, e2]
    intro i j hi hj
    by_cases q : i = t.ss
    · by_cases r : j = t.ss
      · intro _; omega
      · rw [q, up_eq, up_ne r]
        intro w
        exact absurd (w ▸ hgL) (h1 j (by omega)).2
    · by_cases r : j = t.ss
      · rw [r, up_eq, up_ne q]
        intro w
        exact absurd (w ▸ hgL) (h1 i (by omega)).2
      · rw [up_ne q, up_ne r]
        exact h2 i j (by omega) (by omega)
/-- what delete(key) does -/
theorem delete_ok {t : TS} {L : List Nat} (I : Inv t L) (key : Int32) : okDelete t key ∧ (f_delete t key).2.od = t.od ∧ (f_delete t key).2.kd = t.kd ∧
    ((∃ A B, L = A ++ B ∧ Bef t key A ∧ Beh t key B ∧ (f_trace t key).1 = 0 ∧ (f_delete t key).1 = false ∧ Inv (f_delete t key).2 L ∧ ents (f_delete t key).2 L = ents t L) ∨
     (∃ A z R, L = A ++ z :: R ∧ rho t.od (t.ky z) = rho t.od key ∧ (f_trace t key).1 = z ∧ z ≠ 0 ∧ (f_delete t key).1 = true ∧ ∃ L2, Inv (f_delete t key).2 L2 ∧ ents (f_delete t key).2 L2 = ents t A ++ ents t R)) := by
  have IT := inv_trace I key
  have I0 := I
  obtain ⟨⟨h, s⟩, hn, hz, hu, hs, h1, h2, hw⟩ := I
  obtain ⟨pa, d, e, ⟨e0, A, B, eL, C, ba, bb⟩ | ⟨e0, d', A, B, M1, M2, k1, k2, ed, ep, eL, C, s1, s2, bo, er⟩⟩ := trace_ok s hn hu key
  · refine ⟨fun q => absurd e0 q, ?_⟩
    rw [delete_none e0]
    exact ⟨IT.2.2.1, IT.2.2.2.1, Or.inl ⟨A, B, eL, ba, bb, e0, rfl, IT.1, IT.2.1⟩⟩
  · have w := wf_delete hw key
    have okd : okDelete t key ↔ t.ss < 60 ∧ okClimb (f_cut (del_t1 t key)).dp (f_cut (del_t1 t key)) := ⟨fun q => q e0, fun q _ => q⟩
    rw [okd]
    rw [delete_some e0] at w ⊢
    have hss : t.ss < 60 := by
      rw [eL] at hs
      simp only [List.length_append, List.length_cons] at hs
      omega
    have edel : del_t1 t key = if t.lf (f_trace t key).1 ≠ 0 ∧ t.rt (f_trace t key).1 ≠ 0 then f_takeFollower (setPa t pa d) (f_trace t key).1 else setPa t pa d := by
      unfold del_t1; rw [e, show (setPa t pa d).lf = t.lf from rfl, show (setPa t pa d).rt = t.rt from rfl]
    generalize del_t1 t key = t2 at *
    generalize (f_trace t key).1 = z at *
    have hL60 : L.length ≤ 60 := by omega
    have hue := (up_ents t L).mp hu
    subst eL
    obtain ⟨d1, d2, d3, d4⟩ := nd_m hn
    have hzm : z ∈ M1 ++ z :: M2 := List.mem_append_right _ List.mem_cons_self
    have np1 : ∀ y ∈ M1, y ≠ z := fun y hy => (List.nodup_append.mp d2).2.2 y hy z List.mem_cons_self
    have np2 : ∀ y ∈ M2, y ≠ z := fun y hy q => (List.nodup_cons.mp (List.nodup_append.mp d2).2.1).1 (q ▸ hy)
    have npAB : ∀ y ∈ A ++ B, y ≠ z := fun y hy q => d4 y hy (q ▸ hzm)
    have eL : A ++ ((M1 ++ z :: M2) ++ B) = (A ++ M1) ++ z :: (M2 ++ B) := by simp only [List.append_assoc, List.cons_append]
    subst ed
    by_cases hb : t.lf z ≠ 0 ∧ t.rt z ≠ 0
    · rw [if_pos hb] at edel
      have hlen : A.length + M1.length + M2.length + B.length + 1 ≤ 60 := by simp only [List.length_append, List.length_cons] at hL60; omega
      have hd60 : d' + 1 + M2.length ≤ 60 := by
        have := ctx_len d' C
        omega
      have nd2 : ((A ++ (M1 ++ [z])) ++ (M2 ++ B)).Nodup := by
        have : (A ++ (M1 ++ [z])) ++ (M2 ++ B) = A ++ ((M1 ++ z :: M2) ++ B) := by simp only [List.append_assoc, List.cons_append, List.nil_append]
        rw [this]; exact hn
      have epz : (setPa t pa (d' + 1)).pa d' = z := ep
      have C2 : Ctx (setPa t pa (d' + 1)) (d' + 1) (t.rt z) (A ++ (M1 ++ [z])) B k2 M2.length := by
        refine ⟨by rw [epz]; exact e0, A, B, M1, k1, Or.inr ?_⟩
        rw [epz]
        exact ⟨rfl, sub_like (like_setPa t _ _ _) s1, rfl, rfl, bo, C⟩
      obtain ⟨d2', g, B2, N2, k9, a1, a2, a3, a4, a5, a6, a7, a8, a9, a10⟩ := tfgo_ok (60 - (d' + 1)) (t.rt z) (d' + 1) pa (A ++ (M1 ++ [z])) B M2 k2 (by omega) hb.2 (sub_up s2 (by omega)) C2 nd2
      have etf : f_takeFollower (setPa t pa (d' + 1)) z = setKV (setPa t (tf_go t.lf (60 - (d' + 1)) (t.rt z) (d' + 1) pa).2 (tf_go t.lf (60 - (d' + 1)) (t.rt z) (d' + 1) pa).1) z ((tf_go t.lf (60 - (d' + 1)) (t.rt z) (d' + 1) pa).2 ((tf_go t.lf (60 - (d' + 1)) (t.rt z) (d' + 1) pa).1 - 1)) := rfl
      rw [etf] at edel
      generalize tf_go t.lf (60 - (d' + 1)) (t.rt z) (d' + 1) pa = r at *
      rw [a1, Nat.add_sub_cancel, a3] at edel
      rw [a1] at a10
      rw [a7] at nd2
      have nd3 : ((A ++ (M1 ++ [z])) ++ (N2 ++ B2)).Nodup ∧ g ∉ (A ++ (M1 ++ [z])) ++ (N2 ++ B2) := by
        have q := (List.Perm.nodup_iff List.perm_middle).mp nd2
        exact ⟨(List.nodup_cons.mp q).2, (List.nodup_cons.mp q).1⟩
      have hgz : g ≠ z := np2 g a8
      have nAB2 : ((A ++ (M1 ++ [z])) ++ B2).Nodup := (nd_m nd3.1).1
      have hrz : r.2 d' = z := (a4 d' (by omega)).trans ep
      have C3 : Ctx t2 d2' g (A ++ (M1 ++ [z])) B2 (k9 + 1) (N2.length + 1) := by
        rw [edel]
        refine ctx_tr d2' a10 nAB2 (fun _ _ => rfl) rfl rfl (fun y hy => ⟨rfl, rfl, fun hk => ?_⟩)
        have y1 : y ≠ z := fun q => hk d' (by omega) (q.trans hrz.symm)
        exact ⟨rfl, rfl, rfl, upd_ne y1, upd_ne y1⟩
      have zN2 : ∀ y ∈ N2, y ≠ z := fun y hy q => (nd_m nd3.1).2.2.1 y hy (q ▸ List.mem_append_left _ (List.mem_append_right _ (List.mem_append_right _ List.mem_cons_self)))
      have zB2 : ∀ y ∈ B2, y ≠ z := fun y hy q => (List.nodup_append.mp nAB2).2.2 z (List.mem_append_right _ (List.mem_append_right _ List.mem_cons_self)) y hy q.symm
      have S3 : Sub t2 60 (t.rt g) N2 k9 := by
        rw [edel]
        exact sub_like (t := t) ⟨rfl, fun y hy => ⟨rfl, rfl, rfl, rfl, rfl, upd_ne (zN2 y hy), upd_ne (zN2 y hy)⟩⟩ a9
      have f1 : t2.lf = t.lf := by rw [edel]; rfl
      have f2 : t2.rt = t.rt := by rw [edel]; rfl
      have f3 : t2.pa = r.2 := by rw [edel]; rfl
      have f4 : t2.dp = d2' + 1 := by rw [edel]; rfl
      have f5 : t2.ky = upd t.ky z (t.ky g) := by rw [edel]; rfl
      have f6 : t2.vl = upd t.vl z (t.vl g) := by rw [edel]; rfl
      have f7 : t2.sp = t.sp := by rw [edel]; rfl
      have f8 : t2.ss = t.ss := by rw [edel]; rfl
      have f9 : t2.od = t.od := by rw [edel]; rfl
      have f10 : t2.kd = t.kd := by rw [edel]; rfl
      have z2 : Zero t2 := by rw [edel]; exact hz
      clear edel etf
      have lenE : M2.length + B.length = N2.length + B2.length + 1 := by
        have := congrArg List.length a7
        simp only [List.length_append, List.length_cons] at this
        omega
      obtain ⟨c1, c2, c3, c4, c5, c6, c7, c8, c9, c10⟩ := cut_ok z2 (by rw [f10]; exact hw.2.2.2.2.2.2) f4 (by rw [f3]; exact a3) a5 C3 (w := t.rt g) (by rw [f1, f2, a6, if_neg (fun q => q rfl)]) S3 nd3.1 nd3.2 (by simp only [List.length_append, List.length_cons, List.length_nil]; omega) (by omega) (fun _ => by omega)
      rw [c1] at w ⊢
      generalize f_climb d2' (f_cut t2) = u at *
      rw [f7, f8] at c7
      rw [f8] at c8
      rw [f5] at c5
      rw [f6] at c6
      have memz : ∀ y ∈ A ++ M1, y ≠ z := fun y hy => by
        rcases List.mem_append.mp hy with q | q
        · exact npAB y (List.mem_append_left _ q)
        · exact np1 y q
      have memN : ∀ y ∈ N2 ++ B2, y ≠ z := fun y hy => by
        rcases List.mem_append.mp hy with q | q
        · exact zN2 y q
        · exact zB2 y q
      have eE : ents u ((A ++ (M1 ++ [z])) ++ (N2 ++ B2)) = ents t (A ++ M1) ++ ents t (M2 ++ B) := by
        rw [show (A ++ (M1 ++ [z])) ++ (N2 ++ B2) = (A ++ M1) ++ z :: (N2 ++ B2) by simp only [List.append_assoc, List.cons_append, List.nil_append]]
        rw [ents_app, ents_cons, a7, ents_cons, c5, c6, upd_eq, upd_eq]
        rw [ents_congr (t := t) (u := u) (L := A ++ M1) (fun y hy => by rw [c5, c6, upd_ne (memz y hy), upd_ne (memz y hy)]; exact ⟨rfl, rfl⟩)]
        rw [ents_congr (t := t) (u := u) (L := N2 ++ B2) (fun y hy => by rw [c5, c6, upd_ne (memN y hy), upd_ne (memN y hy)]; exact ⟨rfl, rfl⟩)]
      have hmem : ∀ y, y ∈ M2 ++ B → y ∈ A ++ ((M1 ++ z :: M2) ++ B) := fun y hy => by
        rcases List.mem_append.mp hy with q | q
        · exact List.mem_append_right _ (List.mem_append_left _ (List.mem_append_right _ (List.mem_cons_of_mem _ q)))
        · exact List.mem_append_right _ (List.mem_append_right _ q)
      refine ⟨⟨hss, c2⟩, c9.trans f9, c10.trans f10, Or.inr ⟨A ++ M1, z, M2 ++ B, eL, er, rfl, e0, rfl, _, inv_cut I0 c3 nd3.1 c4 ?_ c7 c8 a5 ?_ nd3.2 ?_ ?_ w, eE⟩⟩
      · rw [eE, c9.trans f9]
        rw [eL, ents_app, ents_cons] at hue
        unfold UpE at hue ⊢
        exact hue.sublist (List.Sublist.append (List.Sublist.refl _) (List.sublist_cons_self _ _))
      · exact List.mem_append_right _ (List.mem_append_left _ (List.mem_append_right _ (List.mem_cons_of_mem _ a8)))
      · intro y hy
        rcases List.mem_append.mp hy with q | q
        · rcases List.mem_append.mp q with q | q
          · exact List.mem_append_left _ q
          · rcases List.mem_append.mp q with q | q
            · exact List.mem_append_right _ (List.mem_append_left _ (List.mem_append_left _ q))
            · rw [List.mem_singleton.mp q]; exact List.mem_append_right _ (List.mem_append_left _ hzm)
        · exact hmem y (by rw [a7]; exact List.mem_cons_of_mem _ q)
      · simp only [List.length_append, List.length_cons, List.length_nil]
        omega
    · rw [if_neg hb] at edel
      have hone : ∃ wn, (if t.lf z ≠ 0 then t.lf z else t.rt z) = wn ∧ Sub t 60 wn (M1 ++ M2) (max k1 k2) := by
        by_cases q : t.lf z ≠ 0
        · have q2 : t.rt z = 0 := Classical.byContradiction (fun g => hb ⟨q, g⟩)
          rw [q2] at s2
          obtain ⟨rfl, rfl⟩ := sub_z s2
          rw [if_pos q, List.append_nil, Nat.max_zero]
          exact ⟨_, rfl, s1⟩
        · have q2 : t.lf z = 0 := Classical.byContradiction q
          rw [q2] at s1
          obtain ⟨rfl, rfl⟩ := sub_z s1
          rw [if_neg q, List.nil_append, Nat.zero_max]
          exact ⟨_, rfl, s2⟩
      obtain ⟨wn, ew, sw⟩ := hone
      have eL2 : A ++ ((M1 ++ M2) ++ B) = (A ++ M1) ++ (M2 ++ B) := by simp only [List.append_assoc]
      have nd3 : (A ++ ((M1 ++ M2) ++ B)).Nodup ∧ z ∉ A ++ ((M1 ++ M2) ++ B) := by
        have q := hn
        rw [eL] at q
        have q := (List.Perm.nodup_iff List.perm_middle).mp q
        rw [eL2]
        exact ⟨(List.nodup_cons.mp q).2, (List.nodup_cons.mp q).1⟩
      have C3 : Ctx t2 d' z A B (max k1 k2 + 1) (M1.length + M2.length + 1) := by rw [edel]; exact C
      have f1 : t2.lf = t.lf := by rw [edel]; rfl
      have f2 : t2.rt = t.rt := by rw [edel]; rfl
      have f3 : t2.pa = pa := by rw [edel]; rfl
      have f4 : t2.dp = d' + 1 := by rw [edel]; rfl
      have f5 : t2.ky = t.ky := by rw [edel]; rfl
      have f6 : t2.vl = t.vl := by rw [edel]; rfl
      have f7 : t2.sp = t.sp := by rw [edel]; rfl
      have f8 : t2.ss = t.ss := by rw [edel]; rfl
      have f9 : t2.od = t.od := by rw [edel]; rfl
      have f10 : t2.kd = t.kd := by rw [edel]; rfl
      have z2 : Zero t2 := by rw [edel]; exact hz
      have S3 : Sub t2 60 wn (M1 ++ M2) (max k1 k2) := by rw [edel]; exact sub_like (like_setPa t _ _ _) sw
      clear edel
      have hlen : A.length + M1.length + M2.length + B.length + 1 ≤ 60 := by simp only [List.length_append, List.length_cons] at hL60; omega
      obtain ⟨c1, c2, c3, c4, c5, c6, c7, c8, c9, c10⟩ := cut_ok z2 (by rw [f10]; exact hw.2.2.2.2.2.2) f4 (by rw [f3]; exact ep) e0 C3 (w := wn) (by rw [f1, f2]; exact ew) S3 nd3.1 nd3.2 (by simp only [List.length_append]; omega) (by rw [List.length_append]; omega) (fun _ => by omega)
      rw [c1] at w ⊢
      generalize f_climb d' (f_cut t2) = u at *
      rw [f7, f8] at c7
      rw [f8] at c8
      rw [f5] at c5
      rw [f6] at c6
      have eE : ents u (A ++ ((M1 ++ M2) ++ B)) = ents t (A ++ M1) ++ ents t (M2 ++ B) := by
        rw [eL2, ents_app]
        rw [ents_congr (t := t) (u := u) (L := A ++ M1) (fun y hy => by rw [c5, c6]; exact ⟨rfl, rfl⟩)]
        rw [ents_congr (t := t) (u := u) (L := M2 ++ B) (fun y hy => by rw [c5, c6]; exact ⟨rfl, rfl⟩)]
      refine ⟨⟨hss, c2⟩, c9.trans f9, c10.trans f10, Or.inr ⟨A ++ M1, z, M2 ++ B, eL, er, rfl, e0, rfl, _, inv_cut I0 c3 nd3.1 c4 ?_ c7 c8 e0 (List.mem_append_right _ (List.mem_append_left _ hzm)) nd3.2 ?_ ?_ w, eE⟩⟩
      · rw [eE, c9.trans f9]
        rw [eL, ents_app, ents_cons] at hue
        unfold UpE at hue ⊢
        exact hue.sublist (List.Sublist.append (List.Sublist.refl _) (List.sublist_cons_self _ _))
      · intro y hy
        rw [eL]
        rw [eL2] at hy
        rcases List.mem_append.mp hy with q | q
        · exact List.mem_append_left _ q
        · exact List.mem_append_right _ (List.mem_cons_of_mem _ q)
      · simp only [List.length_append, List.length_cons]
        omega
theorem spgo_ok : ∀ (n i : Nat) (sp : Nat → Nat) (k : Nat), sp_go n i sp k = if i ≤ k ∧ k < i + n then 60 - k else sp k := by
  intro n
  induction n with
  | zero => intro i sp k; rw [sp_go, if_neg (by omega)]
  | succ n ih =>
    intro i sp k
    rw [sp_go, ih]
    by_cases h : i + 1 ≤ k ∧ k < i + 1 + n
    · rw [if_pos h, if_pos (by omega)]
    · rw [if_neg h]
      by_cases h2 : k = i
      · rw [h2, up_eq, if_pos (by omega)]
      · rw [up_ne h2, if_neg (by omega)]
theorem clear_ok {t : TS} (hz : Zero t) (hw : WF t) {kd : Nat} (hk : kd < 4) (od : Int32) : Inv (f_clear t kd od) [] := by
  have hsp : ∀ i, i < 60 → (f_clear t kd od).sp i = 60 - i := fun i hi => by
    show sp_go 60 0 t.sp i = _
    rw [spgo_ok, if_pos (by omega)]
  have w := wf_clear hw hk od
  have e1 : (f_clear t kd od).ss = 60 := rfl
  refine ⟨⟨0, sub_nil _ 60⟩, List.nodup_nil, hz, List.Pairwise.nil, rfl, ?_, ?_, w⟩
  · rw [e1]
    intro i hi
    rw [hsp i hi]
    exact ⟨by omega, List.not_mem_nil⟩
  · rw [e1]
    intro i j hi hj
    rw [hsp i hi, hsp j hj]
    omega
