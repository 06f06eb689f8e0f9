/-! trace -/
def Bef (t : TS) (key : Int32) (A : List Nat) : Prop := ∀ z ∈ A, rho t.od (t.ky z) < rho t.od key
def Beh (t : TS) (key : Int32) (B : List Nat) : Prop := ∀ z ∈ B, rho t.od key < rho t.od (t.ky z)
theorem like_setPa (t : TS) (pa : Nat → Nat) (d : Nat) (L : List Nat) : Like t (setPa t pa d) L := ⟨rfl, fun _ _ => ⟨rfl, rfl, rfl, rfl, rfl, rfl, rfl⟩⟩
theorem ctx_pa {t : TS} {pa q : Nat → Nat} {d e n y : Nat} {A B : List Nat} {ho co : Nat} (h : Ctx (setPa t pa d) n y A B ho co) (hn : (A ++ B).Nodup) (hp : ∀ k, k < n → q k = pa k) : Ctx (setPa t q e) n y A B ho co :=
  ctx_tr n h hn hp rfl rfl (fun z _ => ⟨rfl, rfl, fun _ => ⟨rfl, rfl, rfl, rfl, rfl⟩⟩)
/-- one step down -/
theorem ctx_left {t : TS} {pa : Nat → Nat} {d x h1 h2 : Nat} {A B M1 M2 : List Nat} (h0 : x ≠ 0) (C : Ctx (setPa t pa d) d x A B (max h1 h2 + 1) (M1.length + M2.length + 1)) (hn : (A ++ B).Nodup) (s2 : Sub t 60 (t.rt x) M2 h2) (b : Bo t.kd M1.length M2.length h1 h2) (e : Nat) : Ctx (setPa t (va_up pa d x) e) (d + 1) (t.lf x) A (x :: (M2 ++ B)) h1 M1.length := by
  have ex : (setPa t (va_up pa d x) e).pa d = x := up_eq
  refine ⟨by rw [ex]; exact h0, A, B, M2, h2, Or.inl ?_⟩
  rw [ex]
  exact ⟨rfl, sub_like (like_setPa t _ _ _) s2, rfl, rfl, b, ctx_pa C hn (fun k hk => up_ne (by omega))⟩
theorem ctx_right {t : TS} {pa : Nat → Nat} {d x h1 h2 : Nat} {A B M1 M2 : List Nat} (h0 : x ≠ 0) (C : Ctx (setPa t pa d) d x A B (max h1 h2 + 1) (M1.length + M2.length + 1)) (hn : (A ++ B).Nodup) (s1 : Sub t 60 (t.lf x) M1 h1) (b : Bo t.kd M1.length M2.length h1 h2) (e : Nat) : Ctx (setPa t (va_up pa d x) e) (d + 1) (t.rt x) (A ++ (M1 ++ [x])) B h2 M2.length := by
  have ex : (setPa t (va_up pa d x) e).pa d = x := up_eq
  refine ⟨by rw [ex]; exact h0, A, B, M1, h1, Or.inr ?_⟩
  rw [ex]
  exact ⟨rfl, sub_like (like_setPa t _ _ _) s1, rfl, rfl, b, ctx_pa C hn (fun k hk => up_ne (by omega))⟩
theorem up_mid {t : TS} {A M1 M2 B : List Nat} {x : Nat} (h : Up t (A ++ ((M1 ++ x :: M2) ++ B))) : (∀ z ∈ M1, rho t.od (t.ky z) < rho t.od (t.ky x)) ∧ (∀ z ∈ M2, rho t.od (t.ky x) < rho t.od (t.ky z)) := by
  have e : A ++ ((M1 ++ x :: M2) ++ B) = (A ++ M1) ++ x :: (M2 ++ B) := by simp only [List.append_assoc, List.cons_append]
  rw [e] at h
  obtain ⟨_, _, h3, h4⟩ := up_app h
  exact ⟨fun z hz => h3 z (List.mem_append_right _ hz), fun z hz => h4 z (List.mem_append_left _ hz)⟩
theorem trgo_ok {t : TS} (key : Int32) : ∀ (n x d : Nat) (pa : Nat → Nat) (A B M : List Nat) (h : Nat), n ≤ 60 → Sub t n x M h → Ctx (setPa t pa d) d x A B h M.length → (A ++ (M ++ B)).Nodup → Up t (A ++ (M ++ B)) → Bef t key A → Beh t key B →
    ((tr_go t.ky t.lf t.rt t.od key n x d pa).1 = 0 ∧ ∃ A2 B2, A ++ (M ++ B) = A2 ++ B2 ∧ Ctx (setPa t (tr_go t.ky t.lf t.rt t.od key n x d pa).2.2 (tr_go t.ky t.lf t.rt t.od key n x d pa).2.1) (tr_go t.ky t.lf t.rt t.od key n x d pa).2.1 0 A2 B2 0 0 ∧ Bef t key A2 ∧ Beh t key B2) ∨
    ((tr_go t.ky t.lf t.rt t.od key n x d pa).1 ≠ 0 ∧ ∃ d' A2 B2 M1 M2 h1 h2, (tr_go t.ky t.lf t.rt t.od key n x d pa).2.1 = d' + 1 ∧ (tr_go t.ky t.lf t.rt t.od key n x d pa).2.2 d' = (tr_go t.ky t.lf t.rt t.od key n x d pa).1 ∧ A ++ (M ++ B) = A2 ++ ((M1 ++ (tr_go t.ky t.lf t.rt t.od key n x d pa).1 :: M2) ++ B2) ∧ Ctx (setPa t (tr_go t.ky t.lf t.rt t.od key n x d pa).2.2 (tr_go t.ky t.lf t.rt t.od key n x d pa).2.1) d' (tr_go t.ky t.lf t.rt t.od key n x d pa).1 A2 B2 (max h1 h2 + 1) (M1.length + M2.length + 1) ∧
      Sub t 60 (t.lf (tr_go t.ky t.lf t.rt t.od key n x d pa).1) M1 h1 ∧ Sub t 60 (t.rt (tr_go t.ky t.lf t.rt t.od key n x d pa).1) M2 h2 ∧ Bo t.kd M1.length M2.length h1 h2 ∧ rho t.od (t.ky (tr_go t.ky t.lf t.rt t.od key n x d pa).1) = rho t.od key) := by
  intro n
  induction n with
  | zero =>
    intro x d pa A B M h _ s C hn hu ba bb
    obtain ⟨rfl, rfl, rfl⟩ := s
    rw [tr_go]
    exact Or.inl ⟨rfl, A, B, rfl, C, ba, bb⟩
  | succ n ih =>
    intro x d pa A B M h hn60 s C hn hu ba bb
    rw [tr_go]
    rcases s with ⟨rfl, rfl, rfl⟩ | ⟨h0, M1, M2, h1, h2, e1, e2, s1, s2, r1, r2, r3, r4⟩
    · rw [if_pos rfl]
      exact Or.inl ⟨rfl, A, B, rfl, C, ba, bb⟩
    · subst e1; subst e2
      rw [if_neg h0]
      have eC : (M1 ++ x :: M2).length = M1.length + M2.length + 1 := by rw [List.length_append, List.length_cons]; omega
      rw [eC] at C
      have hd := (nd_m hn).1
      obtain ⟨u1, u2⟩ := up_mid hu
      by_cases g1 : gB t.od key (t.ky x) = true
      · rw [if_pos g1]
        have eL : A ++ ((M1 ++ x :: M2) ++ B) = A ++ (M1 ++ (x :: (M2 ++ B))) := by simp only [List.append_assoc, List.cons_append]
        rw [eL] at hn hu ⊢
        have q := (gB_rho _ _ _).mp g1
        exact ih (t.lf x) (d + 1) (va_up pa d x) A (x :: (M2 ++ B)) M1 h1 (by omega) s1 (ctx_left h0 C hd (sub_mono (by omega) s2) (bo_of r4) _) hn hu ba (fun z hz => by
          rcases List.mem_cons.mp hz with w | w
          · rw [w]; exact q
          · rcases List.mem_append.mp w with w | w
            · exact Int.lt_trans q (u2 z w)
            · exact bb z w)
      · rw [if_neg g1]
        by_cases g2 : gB t.od (t.ky x) key = true
        · rw [if_pos g2]
          have eL : A ++ ((M1 ++ x :: M2) ++ B) = (A ++ (M1 ++ [x])) ++ (M2 ++ B) := by simp only [List.append_assoc, List.cons_append, List.nil_append]
          rw [eL] at hn hu ⊢
          have q := (gB_rho _ _ _).mp g2
          exact ih (t.rt x) (d + 1) (va_up pa d x) (A ++ (M1 ++ [x])) B M2 h2 (by omega) s2 (ctx_right h0 C hd (sub_mono (by omega) s1) (bo_of r4) _) hn hu (fun z hz => by
            rcases List.mem_append.mp hz with w | w
            · exact ba z w
            · rcases List.mem_append.mp w with w | w
              · exact Int.lt_trans (u1 z w) q
              · rw [List.mem_singleton.mp w]; exact q) bb
        · rw [if_neg g2]
          refine Or.inr ⟨h0, d, A, B, M1, M2, h1, h2, rfl, up_eq, rfl, ctx_pa C hd (fun k hk => up_ne (by omega)), sub_mono (by omega) s1, sub_mono (by omega) s2, bo_of r4, ?_⟩
          have w1 := (gB_f _ _ _).mp (Bool.eq_false_iff.mpr g1)
          have w2 := (gB_f _ _ _).mp (Bool.eq_false_iff.mpr g2)
          show rho t.od (t.ky x) = rho t.od key
          omega
/-- what trace(key) answers over a tree of the nodes L -/
theorem trace_ok {t : TS} {L : List Nat} {h : Nat} (s : Sub t 60 t.rn L h) (hn : L.Nodup) (hu : Up t L) (key : Int32) :
    ∃ pa d, (f_trace t key).2 = setPa t pa d ∧
      (((f_trace t key).1 = 0 ∧ ∃ A B, L = A ++ B ∧ Ctx (setPa t pa d) d 0 A B 0 0 ∧ Bef t key A ∧ Beh t key B) ∨
       ((f_trace t key).1 ≠ 0 ∧ ∃ d' A B M1 M2 h1 h2, d = d' + 1 ∧ pa d' = (f_trace t key).1 ∧ L = A ++ ((M1 ++ (f_trace t key).1 :: M2) ++ B) ∧ Ctx (setPa t pa d) d' (f_trace t key).1 A B (max h1 h2 + 1) (M1.length + M2.length + 1) ∧ Sub t 60 (t.lf (f_trace t key).1) M1 h1 ∧ Sub t 60 (t.rt (f_trace t key).1) M2 h2 ∧ Bo t.kd M1.length M2.length h1 h2 ∧ rho t.od (t.ky (f_trace t key).1) = rho t.od key)) := by
  have e : L = [] ++ (L ++ []) := by rw [List.nil_append, List.append_nil]
  have q := trgo_ok key 60 t.rn 0 t.pa [] [] L h (Nat.le_refl _) s ⟨rfl, rfl, rfl⟩ (by rw [← e]; exact hn) (by rw [← e]; exact hu) (fun z hz => absurd hz List.not_mem_nil) (fun z hz => absurd hz List.not_mem_nil)
  rw [← e] at q
  have e1 : (f_trace t key).1 = (tr_go t.ky t.lf t.rt t.od key 60 t.rn 0 t.pa).1 := by rw [f_trace]
  have e2 : (f_trace t key).2 = setPa t (tr_go t.ky t.lf t.rt t.od key 60 t.rn 0 t.pa).2.2 (tr_go t.ky t.lf t.rt t.od key 60 t.rn 0 t.pa).2.1 := by rw [f_trace]
  rw [e1, e2]
  generalize tr_go t.ky t.lf t.rt t.od key 60 t.rn 0 t.pa = r at *
  exact ⟨r.2.2, r.2.1, rfl, q⟩
/-- the way to the follower: down the left -/
theorem tfgo_ok {t : TS} : ∀ (n x d : Nat) (pa : Nat → Nat) (A B M : List Nat) (h : Nat), n ≤ 60 → x ≠ 0 → Sub t n x M h → Ctx (setPa t pa d) d x A B h M.length → (A ++ (M ++ B)).Nodup →
    ∃ d' g B2 M2 h2, (tf_go t.lf n x d pa).1 = d' + 1 ∧ d ≤ d' ∧ (tf_go t.lf n x d pa).2 d' = g ∧ (∀ k, k < d → (tf_go t.lf n x d pa).2 k = pa k) ∧ g ≠ 0 ∧ t.lf g = 0 ∧ M ++ B = g :: (M2 ++ B2) ∧ g ∈ M ∧ Sub t 60 (t.rt g) M2 h2 ∧ Ctx (setPa t (tf_go t.lf n x d pa).2 (tf_go t.lf n x d pa).1) d' g A B2 (h2 + 1) (M2.length + 1) := by
  intro n
  induction n with
  | zero => intro x d pa A B M h _ h0 s; exact absurd s.1 h0
  | succ n ih =>
    intro x d pa A B M h hn60 h0 s C hn
    rw [tf_go, if_neg h0]
    rcases s with ⟨rfl, rfl, rfl⟩ | ⟨_, M1, M2, h1, h2, e1, e2, s1, s2, r1, r2, r3, r4⟩
    · exact absurd rfl h0
    · subst e1; subst e2
      have eC : (M1 ++ x :: M2).length = M1.length + M2.length + 1 := by rw [List.length_append, List.length_cons]; omega
      rw [eC] at C
      have hd := (nd_m hn).1
      by_cases hx : t.lf x = 0
      · rw [hx] at s1 ⊢
        obtain ⟨rfl, rfl⟩ := sub_z s1
        have er : tf_go t.lf n 0 (d + 1) (va_up pa d x) = (d + 1, va_up pa d x) := by
          cases n with
          | zero => rfl
          | succ n => rw [tf_go, if_pos rfl]
        rw [er]
        refine ⟨d, x, B, M2, h2, rfl, Nat.le_refl _, up_eq, fun k hk => up_ne (by omega), h0, hx, ?_, ?_, sub_mono (by omega) s2, ?_⟩
        · rw [List.nil_append, List.cons_append]
        · exact List.mem_append_right _ List.mem_cons_self
        · have C2 := ctx_pa C hd (q := va_up pa d x) (e := d + 1) (fun k hk => up_ne (by omega))
          rw [show max 0 h2 + 1 = h2 + 1 by omega, show ([] : List Nat).length + M2.length + 1 = M2.length + 1 by rw [List.length_nil]; omega] at C2
          exact C2
      · have eL : A ++ ((M1 ++ x :: M2) ++ B) = A ++ (M1 ++ (x :: (M2 ++ B))) := by simp only [List.append_assoc, List.cons_append]
        have eM : (M1 ++ x :: M2) ++ B = M1 ++ (x :: (M2 ++ B)) := by simp only [List.append_assoc, List.cons_append]
        rw [eL] at hn
        rw [eM]
        obtain ⟨d', g, B2, N2, k2, a1, a2, a3, a4, a5, a6, a7, a8, a9, a10⟩ := ih (t.lf x) (d + 1) (va_up pa d x) A (x :: (M2 ++ B)) M1 h1 (by omega) hx s1 (ctx_left h0 C hd (sub_mono (by omega) s2) (bo_of r4) _) hn
        exact ⟨d', g, B2, N2, k2, a1, by omega, a3, fun k hk => (a4 k (by omega)).trans (up_ne (by omega)), a5, a6, a7, List.mem_append_left _ a8, a9, a10⟩
