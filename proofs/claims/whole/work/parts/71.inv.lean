/-! the invariant of a tree, kept by assign -/
def ents (t : TS) (L : List Nat) : List (Int32 × Int32) := L.map (fun z => (t.ky z, t.vl z))
def UpE (od : Int32) (E : List (Int32 × Int32)) : Prop := E.Pairwise (fun e f => rho od e.1 < rho od f.1)
theorem up_ents (t : TS) (L : List Nat) : Up t L ↔ UpE t.od (ents t L) := by
  unfold Up UpE ents
  rw [List.pairwise_map]
theorem ents_app (t : TS) (A B : List Nat) : ents t (A ++ B) = ents t A ++ ents t B := List.map_append
theorem ents_cons (t : TS) (z : Nat) (B : List Nat) : ents t (z :: B) = (t.ky z, t.vl z) :: ents t B := List.map_cons
theorem ents_len (t : TS) (L : List Nat) : (ents t L).length = L.length := List.length_map _
theorem ents_congr {t u : TS} : ∀ {L : List Nat}, (∀ z ∈ L, u.ky z = t.ky z ∧ u.vl z = t.vl z) → ents u L = ents t L := by
  intro L
  induction L with
  | nil => intro _; rfl
  | cons x L ih =>
    intro h
    rw [ents_cons, ents_cons, ih (fun z hz => h z (List.mem_cons_of_mem _ hz)), (h x List.mem_cons_self).1, (h x List.mem_cons_self).2]
def Inv (t : TS) (L : List Nat) : Prop := (∃ h, Sub t 60 t.rn L h) ∧ L.Nodup ∧ Zero t ∧ Up t L ∧ t.ss + L.length = 60 ∧ (∀ i, i < t.ss → t.sp i ≠ 0 ∧ t.sp i ∉ L) ∧ (∀ i j, i < t.ss → j < t.ss → t.sp i = t.sp j → i = j) ∧ WF t
theorem inv_trace {t : TS} {L : List Nat} (I : Inv t L) (key : Int32) : Inv (f_trace t key).2 L ∧ ents (f_trace t key).2 L = ents t L ∧ (f_trace t key).2.od = t.od ∧ (f_trace t key).2.kd = t.kd ∧ (f_trace t key).2.rn = t.rn ∧ (f_trace t key).2.ky = t.ky ∧ (f_trace t key).2.vl = t.vl ∧ (f_trace t key).2.ss = t.ss := by
  obtain ⟨⟨h, s⟩, hn, hz, hu, hs, h1, h2, hw⟩ := I
  obtain ⟨pa, d, e, _⟩ := trace_ok s hn hu key
  have w := (wf_trace hw key).2
  rw [e] at w ⊢
  exact ⟨⟨⟨h, sub_like (like_setPa t _ _ _) s⟩, hn, hz, hu, hs, h1, h2, w⟩, rfl, rfl, rfl, rfl, rfl, rfl, rfl⟩
theorem nd_ins {A B : List Nat} {x : Nat} (h : (A ++ B).Nodup) (hx : x ∉ A ++ B) : (A ++ x :: B).Nodup :=
  (List.Perm.nodup_iff List.perm_middle).mpr (List.nodup_cons.mpr ⟨hx, h⟩)
/-- hang: the new node x stands in the hole -/
theorem hang_ok {t : TS} {A B : List Nat} {key v : Int32} (C : Ctx t t.dp 0 A B 0 0) (hn : (A ++ B).Nodup) (ba : Bef t key A) (bb : Beh t key B) (hx0 : t.sp (t.ss - 1) ≠ 0) (hx : t.sp (t.ss - 1) ∉ A ++ B) :
    Ctx (setVl (f_hang t key) (t.sp (t.ss - 1)) v) t.dp (t.sp (t.ss - 1)) A B 0 0 ∧ (setVl (f_hang t key) (t.sp (t.ss - 1)) v).lf (t.sp (t.ss - 1)) = 0 ∧ (setVl (f_hang t key) (t.sp (t.ss - 1)) v).rt (t.sp (t.ss - 1)) = 0 ∧
    ((setVl (f_hang t key) (t.sp (t.ss - 1)) v).ky = upd t.ky (t.sp (t.ss - 1)) key ∧ (setVl (f_hang t key) (t.sp (t.ss - 1)) v).vl = upd t.vl (t.sp (t.ss - 1)) v ∧ (setVl (f_hang t key) (t.sp (t.ss - 1)) v).pa t.dp = t.sp (t.ss - 1) ∧ (setVl (f_hang t key) (t.sp (t.ss - 1)) v).sp = t.sp ∧ (setVl (f_hang t key) (t.sp (t.ss - 1)) v).ss = t.ss - 1 ∧ (setVl (f_hang t key) (t.sp (t.ss - 1)) v).od = t.od ∧ (setVl (f_hang t key) (t.sp (t.ss - 1)) v).kd = t.kd ∧ (setVl (f_hang t key) (t.sp (t.ss - 1)) v).ct = t.ct ∧ (setVl (f_hang t key) (t.sp (t.ss - 1)) v).ht = t.ht ∧ (setVl (f_hang t key) (t.sp (t.ss - 1)) v).to = t.to) := by
  generalize ex : t.sp (t.ss - 1) = x at *
  cases hd : t.dp with
  | zero =>
    rw [hd] at C
    obtain ⟨_, rfl, rfl⟩ := C
    have eh : f_hang t key = (upd t.ky x key, t.vl, va_up t.lf x 0, va_up t.rt x 0, t.ct, t.ht, t.to, t.sp, va_up t.pa t.dp x, t.ro, t.ss - 1, t.dp + 1, x, t.od, t.kd) := by
      unfold f_hang
      rw [ex]
      exact if_pos hd
    rw [eh, hd]
    exact ⟨⟨rfl, rfl, rfl⟩, up_eq, up_eq, rfl, rfl, (up_eq : va_up t.pa 0 x 0 = x), rfl, rfl, rfl, rfl, rfl, rfl, rfl⟩
  | succ n =>
    rw [hd] at C
    have hd0 : ¬ t.dp = 0 := by omega
    have hpi := ctx_in (n + 1) C n (Nat.lt_succ_self n)
    have hpx : t.pa n ≠ x := fun q => hx (q ▸ hpi)
    have hne : ∀ z ∈ A ++ B, z ≠ x := fun z hz q => hx (q ▸ hz)
    have ekp : upd t.ky x key (t.pa n) = t.ky (t.pa n) := upd_ne hpx
    obtain ⟨h0, A', B', S, hs, ⟨e1, s, rfl, rfl, b, c⟩ | ⟨e1, s, rfl, rfl, b, c⟩⟩ := C
    · have hg : gB t.od key (upd t.ky x key (t.pa n)) = true := by
        rw [ekp]; exact (gB_rho _ _ _).mpr (bb _ List.mem_cons_self)
      have eh : f_hang t key = (upd t.ky x key, t.vl, va_up (va_up t.lf x 0) (t.pa n) x, va_up t.rt x 0, t.ct, t.ht, t.to, t.sp, va_up t.pa t.dp x, t.ro, t.ss - 1, t.dp + 1, t.rn, t.od, t.kd) := by
        unfold f_hang
        rw [ex, show t.dp - 1 = n by omega]
        exact (if_neg hd0).trans (if_pos hg)
      rw [eh, hd]
      obtain ⟨d1, d2, d3, d4⟩ := nd_l hn
      refine ⟨⟨?_, A, B', S, hs, Or.inl ?_⟩, (up_ne (fun q => hpx q.symm)).trans up_eq, up_eq, rfl, rfl, up_eq, rfl, rfl, rfl, rfl, rfl, rfl, rfl⟩
      · show va_up t.pa (n + 1) x n ≠ 0
        rw [up_ne (by omega)]; exact h0
      · rw [show (setVl (upd t.ky x key, t.vl, va_up (va_up t.lf x 0) (t.pa n) x, va_up t.rt x 0, t.ct, t.ht, t.to, t.sp, va_up t.pa (n + 1) x, t.ro, t.ss - 1, n + 1 + 1, t.rn, t.od, t.kd) x v).pa n = t.pa n from up_ne (by omega)]
        refine ⟨up_eq, ?_, rfl, rfl, b, ctx_tr n c d1 (fun k hk => up_ne (by omega)) rfl rfl (fun z hz => ?_)⟩
        · rw [show (setVl (upd t.ky x key, t.vl, va_up (va_up t.lf x 0) (t.pa n) x, va_up t.rt x 0, t.ct, t.ht, t.to, t.sp, va_up t.pa (n + 1) x, t.ro, t.ss - 1, n + 1 + 1, t.rn, t.od, t.kd) x v).rt (t.pa n) = t.rt (t.pa n) from up_ne hpx]
          refine sub_like (t := t) ⟨rfl, fun z hz => ?_⟩ s
          have z1 : z ≠ x := hne z (List.mem_append_right _ (List.mem_cons_of_mem _ (List.mem_append_left _ hz)))
          have z2 : z ≠ t.pa n := fun q => d2 (q ▸ hz)
          exact ⟨(up_ne z2).trans (up_ne z1), up_ne z1, rfl, rfl, rfl, upd_ne z1, upd_ne z1⟩
        · have z1 : z ≠ x := hne z (in_l hz)
          have z2 : z ≠ t.pa n := fun q => d3 (q ▸ hz)
          exact ⟨(up_ne z2).trans (up_ne z1), up_ne z1, fun _ => ⟨rfl, rfl, rfl, upd_ne z1, upd_ne z1⟩⟩
    · have hg : ¬ gB t.od key (upd t.ky x key (t.pa n)) = true := by
        rw [ekp]
        intro q
        have q1 := (gB_rho _ _ _).mp q
        have q2 := ba (t.pa n) (List.mem_append_right _ (List.mem_append_right _ List.mem_cons_self))
        omega
      have eh : f_hang t key = (upd t.ky x key, t.vl, va_up t.lf x 0, va_up (va_up t.rt x 0) (t.pa n) x, t.ct, t.ht, t.to, t.sp, va_up t.pa t.dp x, t.ro, t.ss - 1, t.dp + 1, t.rn, t.od, t.kd) := by
        unfold f_hang
        rw [ex, show t.dp - 1 = n by omega]
        exact (if_neg hd0).trans (if_neg hg)
      rw [eh, hd]
      obtain ⟨d1, d2, d3, d4⟩ := nd_r hn
      refine ⟨⟨?_, A', B, S, hs, Or.inr ?_⟩, up_eq, (up_ne (fun q => hpx q.symm)).trans up_eq, rfl, rfl, up_eq, rfl, rfl, rfl, rfl, rfl, rfl, rfl⟩
      · show va_up t.pa (n + 1) x n ≠ 0
        rw [up_ne (by omega)]; exact h0
      · rw [show (setVl (upd t.ky x key, t.vl, va_up t.lf x 0, va_up (va_up t.rt x 0) (t.pa n) x, t.ct, t.ht, t.to, t.sp, va_up t.pa (n + 1) x, t.ro, t.ss - 1, n + 1 + 1, t.rn, t.od, t.kd) x v).pa n = t.pa n from up_ne (by omega)]
        refine ⟨up_eq, ?_, rfl, rfl, b, ctx_tr n c d1 (fun k hk => up_ne (by omega)) rfl rfl (fun z hz => ?_)⟩
        · rw [show (setVl (upd t.ky x key, t.vl, va_up t.lf x 0, va_up (va_up t.rt x 0) (t.pa n) x, t.ct, t.ht, t.to, t.sp, va_up t.pa (n + 1) x, t.ro, t.ss - 1, n + 1 + 1, t.rn, t.od, t.kd) x v).lf (t.pa n) = t.lf (t.pa n) from up_ne hpx]
          refine sub_like (t := t) ⟨rfl, fun z hz => ?_⟩ s
          have z1 : z ≠ x := hne z (List.mem_append_left _ (List.mem_append_right _ (List.mem_append_left _ hz)))
          have z2 : z ≠ t.pa n := fun q => d2 (q ▸ hz)
          exact ⟨up_ne z1, (up_ne z2).trans (up_ne z1), rfl, rfl, rfl, upd_ne z1, upd_ne z1⟩
        · have z1 : z ≠ x := hne z (in_r hz)
          have z2 : z ≠ t.pa n := fun q => d3 (q ▸ hz)
          exact ⟨up_ne z1, (up_ne z2).trans (up_ne z1), fun _ => ⟨rfl, rfl, rfl, upd_ne z1, upd_ne z1⟩⟩
/-- what assign(key, v) does -/
theorem assign_ok {t : TS} {L : List Nat} (I : Inv t L) (key v : Int32) : okAssign t key v ∧ (f_assign t key v).2.od = t.od ∧ (f_assign t key v).2.kd = t.kd ∧
    ((∃ A z B, L = A ++ z :: B ∧ rho t.od (t.ky z) = rho t.od key ∧ (f_trace t key).1 = z ∧ z ≠ 0 ∧ (f_assign t key v).1 = false ∧ Inv (f_assign t key v).2 L ∧ ents (f_assign t key v).2 L = ents t A ++ (t.ky z, v) :: ents t B) ∨
     (∃ A B, L = A ++ B ∧ Bef t key A ∧ Beh t key B ∧ (f_trace t key).1 = 0 ∧
       ((L.length = 60 ∧ (f_assign t key v).1 = false ∧ Inv (f_assign t key v).2 L ∧ ents (f_assign t key v).2 L = ents t L) ∨
        (L.length < 60 ∧ (f_assign t key v).1 = true ∧ ∃ x, Inv (f_assign t key v).2 (A ++ x :: B) ∧ ents (f_assign t key v).2 (A ++ x :: B) = ents t A ++ (key, v) :: ents t B)))) := by
  have IT := inv_trace I key
  obtain ⟨⟨h, s⟩, hn, hz, hu, hs, h1, h2, hw⟩ := I
  obtain ⟨pa, d, e, ⟨e0, A, B, eL, C, ba, bb⟩ | ⟨e0, d', A, B, M1, M2, k1, k2, ed, ep, eL, C, s1, s2, bo, er⟩⟩ := trace_ok s hn hu key
  · by_cases hss : 0 < t.ss
    · have hss2 : 0 < (f_trace t key).2.ss := by rw [e]; exact hss
      have w := wf_assign hw key v
      rw [assign_new e0 hss2] at w ⊢
      subst eL
      have hx := h1 (t.ss - 1) (by omega)
      have hL : (A ++ B).length < 60 := by omega
      rw [hang_dp] at w ⊢
      obtain ⟨c1, c2, c3, c4, c5, c6, c7, c8, c9, c10, c11, c12, c13⟩ := hang_ok (t := setPa t pa d) (key := key) (v := v) C hn ba bb hx.1 hx.2
      have okd : okAssign t key v ↔ okClimb (f_hang (f_trace t key).2 key).dp (setVl (f_hang (f_trace t key).2 key) ((f_trace t key).2.sp ((f_trace t key).2.ss - 1)) v) := ⟨fun q => q.1 e0 hss2, fun q => ⟨fun _ _ => q, fun g => absurd e0 g⟩⟩
      rw [okd, hang_dp]
      rw [e] at w ⊢
      rw [show (setPa t pa d).sp ((setPa t pa d).ss - 1) = t.sp (t.ss - 1) from rfl] at *
      rw [show (setPa t pa d).dp = d from rfl] at *
      generalize setVl (f_hang (setPa t pa d) key) (t.sp (t.ss - 1)) v = t3 at *
      generalize exx : t.sp (t.ss - 1) = x at *
      have z3 : Zero t3 := by unfold Zero; rw [c11, c12, c13]; exact hz
      have n3 : (A ++ x :: B).Nodup := nd_ins hn hx.2
      have l3 : (A ++ x :: B).length ≤ 60 := by simp only [List.length_append, List.length_cons] at hL ⊢; omega
      have n3' : (A ++ (([] ++ x :: []) ++ B)).Nodup := n3
      have l3' : (A ++ (([] ++ x :: []) ++ B)).length ≤ 60 := l3
      obtain ⟨g1, ⟨h9, g2⟩, g3⟩ := climb_at z3 (by rw [c10]; exact hw.2.2.2.2.2.2) c6 hx.1 c1 (by rw [c2]; exact sub_nil t3 60) (by rw [c3]; exact sub_nil t3 60) n3' l3' ⟨fun _ => by omega, fun _ => by simp only [List.length_nil]; omega⟩ (by simp only [List.length_nil]; omega) (fun _ => by omega)
      rw [show A ++ (([] ++ x :: []) ++ B) = A ++ x :: B from rfl] at g2 g3
      generalize f_climb (d + 1) t3 = u at *
      obtain ⟨⟨q1, q2, q3, q4, q5, q6, q7, q8⟩, q⟩ := g3
      have n0 : 0 ∉ A ++ x :: B := fun q => sub_ne0 g2 0 q rfl
      have euE : ents u (A ++ x :: B) = ents t A ++ (key, v) :: ents t B := by
        rw [ents_app, ents_cons, q1, q2, c4, c5, upd_eq, upd_eq]
        rw [ents_congr (t := t) (u := u) (L := A) (fun z hz => ?_), ents_congr (t := t) (u := u) (L := B) (fun z hz => ?_)]
        · have z1 : z ≠ x := fun q => hx.2 (q ▸ List.mem_append_right _ hz)
          rw [q1, q2, c4, c5, upd_ne z1, upd_ne z1]; exact ⟨rfl, rfl⟩
        · have z1 : z ≠ x := fun q => hx.2 (q ▸ List.mem_append_left _ hz)
          rw [q1, q2, c4, c5, upd_ne z1, upd_ne z1]; exact ⟨rfl, rfl⟩
      have ku : u.kd = t.kd := q8.trans c10
      have ou : u.od = t.od := q7.trans c9
      refine ⟨g1, ou, ku, Or.inr ⟨A, B, rfl, ba, bb, e0, Or.inr ⟨hL, rfl, x, ⟨⟨h9, g2⟩, n3, ⟨(q 0 n0).2.2.1.trans z3.1, (q 0 n0).2.2.2.1.trans z3.2.1, (q 0 n0).2.2.2.2.trans z3.2.2⟩, ?_, ?_, ?_, ?_, w⟩, euE⟩⟩⟩
      · rw [up_ents, euE, ou]
        have hu2 := (up_ents t (A ++ B)).mp hu
        rw [ents_app] at hu2
        unfold UpE at hu2 ⊢
        rw [List.pairwise_append] at hu2 ⊢
        refine ⟨hu2.1, List.pairwise_cons.mpr ⟨fun f hf => ?_, hu2.2.1⟩, fun a ha b hb => ?_⟩
        · obtain ⟨z, hz, rfl⟩ := List.mem_map.mp hf
          exact bb z hz
        · rcases List.mem_cons.mp hb with hb | hb
          · obtain ⟨z, hz, rfl⟩ := List.mem_map.mp ha
            rw [hb]; exact ba z hz
          · exact hu2.2.2 a ha b hb
      · rw [q5, c8]
        show t.ss - 1 + (A ++ x :: B).length = 60
        simp only [List.length_append, List.length_cons] at hs ⊢
        omega
      · rw [q5, c8, q3, c7]
        intro i hi
        have hi2 : i < t.ss - 1 := hi
        obtain ⟨a1, a2⟩ := h1 i (by omega)
        refine ⟨a1, fun q => ?_⟩
        rcases List.mem_append.mp q with q | q
        · exact a2 (List.mem_append_left _ q)
        · rcases List.mem_cons.mp q with q | q
          · have := h2 i (t.ss - 1) (by omega) (by omega) (Eq.trans q exx.symm)
            omega
          · exact a2 (List.mem_append_right _ q)
      · rw [q5, c8, q3, c7]
        intro i j hi hj
        have hi2 : i < t.ss - 1 := hi
        have hj2 : j < t.ss - 1 := hj
        exact h2 i j (by omega) (by omega)
    · have hss2 : ¬ 0 < (f_trace t key).2.ss := by rw [e]; exact hss
      refine ⟨⟨fun _ q => absurd q hss2, fun q => absurd e0 q⟩, ?_⟩
      rw [assign_full e0 hss2]
      exact ⟨IT.2.2.1, IT.2.2.2.1, Or.inr ⟨A, B, eL, ba, bb, e0, Or.inl ⟨by omega, rfl, IT.1, IT.2.1⟩⟩⟩
  · have w := wf_assign hw key v
    have okd : okAssign t key v ↔ okClimb (f_trace t key).2.dp (setVl (f_trace t key).2 (f_trace t key).1 v) := ⟨fun q => q.2 e0, fun q => ⟨fun g => absurd g e0, fun _ => q⟩⟩
    rw [okd]
    rw [assign_old e0] at w ⊢
    rw [e] at w ⊢
    generalize (f_trace t key).1 = z at *
    subst eL
    rw [show (setPa t pa d).dp = d from rfl] at *
    obtain ⟨d1, d2, d3, d4⟩ := nd_m hn
    have hzm : z ∈ M1 ++ z :: M2 := List.mem_append_right _ List.mem_cons_self
    have np1 : ∀ y ∈ M1, y ≠ z := fun y hy => (List.nodup_append.mp d2).2.2 y hy z List.mem_cons_self
    have np2 : ∀ y ∈ M2, y ≠ z := fun y hy q => (List.nodup_cons.mp (List.nodup_append.mp d2).2.1).1 (q ▸ hy)
    have npAB : ∀ y ∈ A ++ B, y ≠ z := fun y hy q => d4 y hy (q ▸ hzm)
    have C3 : Ctx (setVl (setPa t pa d) z v) d' z A B (max k1 k2 + 1) (M1.length + M2.length + 1) := ctx_tr d' C d1 (fun _ _ => rfl) rfl rfl (fun y hy => ⟨rfl, rfl, fun _ => ⟨rfl, rfl, rfl, rfl, upd_ne (npAB y hy)⟩⟩)
    have S1 : Sub (setVl (setPa t pa d) z v) 60 (t.lf z) M1 k1 := sub_like (t := t) ⟨rfl, fun y hy => ⟨rfl, rfl, rfl, rfl, rfl, rfl, upd_ne (np1 y hy)⟩⟩ s1
    have S2 : Sub (setVl (setPa t pa d) z v) 60 (t.rt z) M2 k2 := sub_like (t := t) ⟨rfl, fun y hy => ⟨rfl, rfl, rfl, rfl, rfl, rfl, upd_ne (np2 y hy)⟩⟩ s2
    have f1 : (setVl (setPa t pa d) z v).lf = t.lf := rfl
    have f2 : (setVl (setPa t pa d) z v).rt = t.rt := rfl
    have f3 : (setVl (setPa t pa d) z v).pa = pa := rfl
    have f4 : (setVl (setPa t pa d) z v).kd = t.kd := rfl
    have f5 : (setVl (setPa t pa d) z v).ky = t.ky := rfl
    have f6 : (setVl (setPa t pa d) z v).vl = upd t.vl z v := rfl
    have f7 : (setVl (setPa t pa d) z v).sp = t.sp := rfl
    have f8 : (setVl (setPa t pa d) z v).ss = t.ss := rfl
    have f9 : (setVl (setPa t pa d) z v).od = t.od := rfl
    have z3 : Zero (setVl (setPa t pa d) z v) := hz
    generalize setVl (setPa t pa d) z v = t3 at *
    obtain ⟨g1, ⟨h9, g2⟩, g3⟩ := climb_at z3 (by rw [f4]; exact hw.2.2.2.2.2.2) (by rw [f3]; exact ep) e0 C3 (by rw [f1]; exact S1) (by rw [f2]; exact S2) hn (by omega) (by rw [f4]; exact bo) (by omega) (fun _ => by omega)
    rw [ed] at w ⊢
    generalize f_climb (d' + 1) t3 = u at *
    obtain ⟨⟨q1, q2, q3, q4, q5, q6, q7, q8⟩, q⟩ := g3
    have n0 : 0 ∉ A ++ ((M1 ++ z :: M2) ++ B) := fun q => sub_ne0 g2 0 q rfl
    have eL : A ++ ((M1 ++ z :: M2) ++ B) = (A ++ M1) ++ z :: (M2 ++ B) := by simp only [List.append_assoc, List.cons_append]
    refine ⟨g1, q7.trans f9, q8.trans f4, Or.inl ⟨A ++ M1, z, M2 ++ B, eL, er, rfl, e0, rfl, ⟨⟨h9, g2⟩, hn, ⟨(q 0 n0).2.2.1.trans z3.1, (q 0 n0).2.2.2.1.trans z3.2.1, (q 0 n0).2.2.2.2.trans z3.2.2⟩, ?_, ?_, ?_, ?_, w⟩, ?_⟩⟩
    · unfold Up; rw [q1, f5, q7, f9]; exact hu
    · rw [q5, f8]; exact hs
    · rw [q5, f8, q3, f7]; exact h1
    · rw [q5, f8, q3, f7]; exact h2
    · rw [eL, ents_app, ents_cons, q1, q2, f5, f6, upd_eq]
      rw [ents_congr (t := t) (u := u) (L := A ++ M1) (fun y hy => ?_), ents_congr (t := t) (u := u) (L := M2 ++ B) (fun y hy => ?_)]
      · rw [q1, q2, f5, f6]
        refine ⟨rfl, upd_ne ?_⟩
        rcases List.mem_append.mp hy with hy | hy
        · exact np2 y hy
        · exact npAB y (List.mem_append_right _ hy)
      · rw [q1, q2, f5, f6]
        refine ⟨rfl, upd_ne ?_⟩
        rcases List.mem_append.mp hy with hy | hy
        · exact npAB y (List.mem_append_left _ hy)
        · exact np1 y hy
