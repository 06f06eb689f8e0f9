/-! two maps: unite -/
def allLt (od : Int32) (A B : List (Int32 × Int32)) : Prop := ∀ a ∈ A, ∀ b ∈ B, rho od a.1 < rho od b.1
theorem mg_nilR (od : Int32) : ∀ (n : Nat) (A : List (Int32 × Int32)), A.length ≤ n → mgE od 0 n A [] = (A, 0) := by
  intro n
  induction n with
  | zero =>
    intro A h
    have e1 : A = [] := List.eq_nil_of_length_eq_zero (by omega)
    subst e1; rfl
  | succ n ih =>
    intro A h
    cases A with
    | nil => rfl
    | cons a A =>
      rw [List.length_cons] at h
      rw [mgE_a, if_neg (by decide), ih A (by omega)]
theorem upE_app {od : Int32} {A B : List (Int32 × Int32)} (h : UpE od (A ++ B)) : UpE od A ∧ UpE od B ∧ allLt od A B := by
  have := List.pairwise_append.mp h
  exact ⟨this.1, this.2.1, fun a ha b hb => this.2.2 a ha b hb⟩
theorem upE_cons {od : Int32} {a : Int32 × Int32} {A : List (Int32 × Int32)} (h : UpE od (a :: A)) : (∀ b ∈ A, rho od a.1 < rho od b.1) ∧ UpE od A := List.pairwise_cons.mp h
theorem unkey {t2 : TS} {E2 R : List (Int32 × Int32)} {i : Nat} {b : Int32 × Int32} (h2 : Holds t2 E2) (hd : E2.drop i = b :: R) : un_key t2 i = b.1 ∧ t2.vl (f_nodeAt t2 t2.rn (nI i)) = b.2 ∧ E2.drop (i + 1) = R ∧ i < E2.length := by
  have hl : i < E2.length := by
    by_cases c : i < E2.length
    · exact c
    · rw [List.drop_eq_nil_of_le (by omega)] at hd; cases hd
  have hg := (holds_na h2 hl).2
  rw [List.drop_eq_getElem_cons hl] at hd
  have e1 : E2[i] = b := (List.cons.inj hd).1
  rw [List.getElem?_eq_getElem hl, e1] at hg
  have hg := Option.some.inj hg
  refine ⟨?_, ?_, (List.cons.inj hd).2, hl⟩
  · show t2.ky _ = b.1
    rw [hg]
  · rw [hg]
/-- the step of unite over lists -/
def stU (od : Int32) (E : List (Int32 × Int32)) (b : Int32 × Int32) : List (Int32 × Int32) := putE od b.1 (if hitE od b.1 E = true then 2 * (E.getD (plE od b.1 E) (0, 0)).2 + b.2 else b.2) E
theorem un_step_ok {t t2 : TS} {E E2 R : List (Int32 × Int32)} {i : Nat} {b : Int32 × Int32} (h : Holds t E) (h2 : Holds t2 E2) (hd : E2.drop i = b :: R) (hr : hitE t.od b.1 E = true ∨ E.length < 60) : okA (f_trace t (un_key t2 i)).2 (un_key t2 i) (un_v t t2 i) ∧ Holds (un_step t t2 i) (stU t.od E b) ∧ (un_step t t2 i).od = t.od ∧ (un_step t t2 i).kd = t.kd := by
  obtain ⟨k1, k2, _, _⟩ := unkey h2 hd
  obtain ⟨g1, ⟨g2, g2k, gk, gv, _⟩, g3⟩ := holds_tr h b.1
  have ev : un_v t t2 i = if hitE t.od b.1 E = true then 2 * (E.getD (plE t.od b.1 E) (0, 0)).2 + b.2 else b.2 := by
    unfold un_v un_val
    rw [k1, k2]
    rcases g3 with ⟨a1, a2⟩ | ⟨a1, a2, a3⟩
    · rw [if_pos a2, a1, if_neg (by decide)]
    · rw [if_neg a2, if_pos a1, gv, List.getD_eq_getElem?_getD, a3]
      rfl
  unfold un_step
  rw [ev, k1]
  obtain ⟨_, a1, ak, _, _, _, a5⟩ := holds_assign g1 b.1 (if hitE t.od b.1 E = true then 2 * (E.getD (plE t.od b.1 E) (0, 0)).2 + b.2 else b.2)
  rw [g2] at a1 a5
  refine ⟨holds_okA g1 _ _, ?_, a1, ak.trans g2k⟩
  exact a5 hr
/-- E = A ++ E1: the keys of A are behind; the step's list, and which way it goes -/
theorem stU_miss0 {od : Int32} {A : List (Int32 × Int32)} {b : Int32 × Int32} (ha : ∀ e ∈ A, rho od e.1 < rho od b.1) : hitE od b.1 A = false ∧ stU od A b = A ++ [b] := by
  have h := missE (od := od) (key := b.1) (A := A) (B := []) ha (fun e he => absurd he List.not_mem_nil)
  rw [List.append_nil] at h
  refine ⟨h.2, ?_⟩
  unfold stU
  rw [h.2, if_neg (by decide)]
  have := putE_miss (od := od) (key := b.1) (v := b.2) (A := A) (B := []) ha (fun e he => absurd he List.not_mem_nil)
  rw [List.append_nil] at this
  exact this
theorem stU_miss {od : Int32} {A A1 : List (Int32 × Int32)} {a b : Int32 × Int32} (ha : ∀ e ∈ A, rho od e.1 < rho od b.1) (hb : ∀ e ∈ a :: A1, rho od b.1 < rho od e.1) : hitE od b.1 (A ++ a :: A1) = false ∧ stU od (A ++ a :: A1) b = A ++ b :: a :: A1 := by
  have h := missE (od := od) (key := b.1) ha hb
  refine ⟨h.2, ?_⟩
  unfold stU
  rw [h.2, if_neg (by decide)]
  exact putE_miss ha hb
theorem stU_hit {od : Int32} {A A1 : List (Int32 × Int32)} {a b : Int32 × Int32} (ha : ∀ e ∈ A, rho od e.1 < rho od a.1) (he : rho od a.1 = rho od b.1) : hitE od b.1 (A ++ a :: A1) = true ∧ stU od (A ++ a :: A1) b = A ++ (a.1, 2 * a.2 + b.2) :: A1 := by
  have h := foundE (od := od) (key := b.1) (A := A) (B := A1) (e := a) ha he
  refine ⟨h.2, ?_⟩
  unfold stU
  rw [h.2, if_pos rfl, h.1, putE_found ha he]
  congr 3
  rw [List.getD_eq_getElem?_getD, List.getElem?_append_right (Nat.le_refl _), Nat.sub_self]
  rfl
theorem gB_t {od x y : Int32} (h : gB od x y = true) : rho od x < rho od y := (gB_rho od x y).mp h
theorem gB_n {od x y : Int32} (h : ¬ gB od x y = true) : rho od y ≤ rho od x := (gB_f od x y).mp (by cases e : gB od x y with | true => exact absurd e h | false => rfl)
theorem snoc_app {A B : List (Int32 × Int32)} {a : Int32 × Int32} : A ++ a :: B = (A ++ [a]) ++ B := by rw [List.append_assoc]; rfl
theorem UN {t2 : TS} {E2 : List (Int32 × Int32)} {od : Int32} (h2 : Holds t2 E2) : ∀ (n : Nat) (A E1 R : List (Int32 × Int32)) (i : Nat) (t : TS), Holds t (A ++ E1) → t.od = od → E2.drop i = R → UpE od R → allLt od A R → UpE od (A ++ E1) → E1.length + R.length ≤ n → A.length + E1.length + (mgE od 0 n E1 R).2 ≤ 60 →
    okUn t2 R.length i t ∧ Holds (un_go t2 R.length i t) (A ++ (mgE od 0 n E1 R).1) ∧ (un_go t2 R.length i t).od = od ∧ (un_go t2 R.length i t).kd = t.kd := by
  intro n
  induction n with
  | zero =>
    intro A E1 R i t h ho hd hR hA hu hn h60
    have e1 : E1 = [] := List.eq_nil_of_length_eq_zero (by omega)
    have e2 : R = [] := List.eq_nil_of_length_eq_zero (by omega)
    subst e1; subst e2
    exact ⟨trivial, h, ho, rfl⟩
  | succ n ih =>
    intro A E1 R i t h ho hd hR hA hu hn h60
    cases R with
    | nil =>
      rw [mg_nilR od (n + 1) E1 (by omega)]
      exact ⟨trivial, h, ho, rfl⟩
    | cons b R =>
      obtain ⟨hbR, hR'⟩ := upE_cons hR
      obtain ⟨_, _, hd', _⟩ := unkey h2 hd
      have hAb : ∀ e ∈ A, rho od e.1 < rho od b.1 := fun e he => hA e he b List.mem_cons_self
      cases E1 with
      | nil =>
        rw [mgE_b, if_pos rfl] at h60 ⊢
        have h60 : A.length + 0 + ((mgE od 0 n [] R).2 + 1) ≤ 60 := h60
        rw [List.length_cons, List.length_nil] at hn
        rw [List.append_nil] at h hu
        obtain ⟨m1, m2⟩ := stU_miss0 hAb
        obtain ⟨s1, s2, s3, s4⟩ := un_step_ok h h2 hd (Or.inr (by omega))
        rw [ho] at s2 s3
        rw [m2] at s2
        have hA2 : allLt od (A ++ [b]) R := fun x hx y hy => by
          rcases List.mem_append.mp hx with q | q
          · exact hA x q y (List.mem_cons_of_mem _ hy)
          · rw [List.mem_singleton.mp q]; exact hbR y hy
        have hu2 : UpE od ((A ++ [b]) ++ []) := by
          rw [List.append_nil]
          exact List.pairwise_append.mpr ⟨hu, List.pairwise_singleton _ _, fun x hx y hy => by rw [List.mem_singleton.mp hy]; exact hAb x hx⟩
        obtain ⟨r1, r2, r3, r4⟩ := ih (A ++ [b]) [] R (i + 1) (un_step t t2 i) (by rw [List.append_nil]; exact s2) s3 hd' hR' hA2 hu2 (by rw [List.length_nil]; omega) (by rw [List.length_append, List.length_cons, List.length_nil]; omega)
        refine ⟨⟨s1, r1⟩, ?_, r3, r4.trans s4⟩
        show Holds _ (A ++ (b :: (mgE od 0 n [] R).1))
        rw [snoc_app]; exact r2
      | cons a A1 =>
        rw [List.length_cons, List.length_cons] at hn
        obtain ⟨u1, u2, u3⟩ := upE_app hu
        obtain ⟨haA, u4⟩ := upE_cons u2
        have hAa : ∀ e ∈ A, rho od e.1 < rho od a.1 := fun e he => u3 e he a List.mem_cons_self
        rw [mgE_ab] at h60 ⊢
        by_cases c1 : gB od a.1 b.1 = true
        · rw [if_pos c1, if_neg (by decide)] at h60 ⊢
          have h60 : A.length + (A1.length + 1) + (mgE od 0 n A1 (b :: R)).2 ≤ 60 := h60
          have hab := gB_t c1
          have hA2 : allLt od (A ++ [a]) (b :: R) := fun x hx y hy => by
            rcases List.mem_append.mp hx with q | q
            · exact hA x q y hy
            · rw [List.mem_singleton.mp q]
              rcases List.mem_cons.mp hy with z | z
              · rw [z]; exact hab
              · have := hbR y z; omega
          rw [snoc_app] at h hu
          obtain ⟨r1, r2, r3, r4⟩ := ih (A ++ [a]) A1 (b :: R) i t h ho hd hR hA2 hu (by rw [List.length_cons]; omega) (by rw [List.length_append, List.length_cons, List.length_nil]; omega)
          refine ⟨r1, ?_, r3, r4⟩
          show Holds _ (A ++ (a :: (mgE od 0 n A1 (b :: R)).1))
          rw [snoc_app]; exact r2
        · rw [if_neg c1] at h60 ⊢
          have hba := gB_n c1
          by_cases c2 : gB od b.1 a.1 = true
          · rw [if_pos c2, if_pos rfl] at h60 ⊢
            have h60 : A.length + (A1.length + 1) + ((mgE od 0 n (a :: A1) R).2 + 1) ≤ 60 := h60
            have hlt := gB_t c2
            have hbE : ∀ e ∈ a :: A1, rho od b.1 < rho od e.1 := fun e he => by
              rcases List.mem_cons.mp he with z | z
              · rw [z]; exact hlt
              · have := haA e z; omega
            obtain ⟨m1, m2⟩ := stU_miss hAb hbE
            obtain ⟨s1, s2, s3, s4⟩ := un_step_ok h h2 hd (Or.inr (by rw [List.length_append, List.length_cons]; omega))
            rw [ho] at s2 s3
            rw [m2, snoc_app] at s2
            have hA2 : allLt od (A ++ [b]) R := fun x hx y hy => by
              rcases List.mem_append.mp hx with q | q
              · exact hA x q y (List.mem_cons_of_mem _ hy)
              · rw [List.mem_singleton.mp q]; exact hbR y hy
            have hu2 := holds_up s2
            rw [s3] at hu2
            obtain ⟨r1, r2, r3, r4⟩ := ih (A ++ [b]) (a :: A1) R (i + 1) (un_step t t2 i) s2 s3 hd' hR' hA2 hu2 (by rw [List.length_cons]; omega) (by rw [List.length_append, List.length_cons, List.length_nil, List.length_cons]; omega)
            refine ⟨⟨s1, r1⟩, ?_, r3, r4.trans s4⟩
            show Holds _ (A ++ (b :: (mgE od 0 n (a :: A1) R).1))
            rw [snoc_app]; exact r2
          · rw [if_neg c2, if_neg (by decide)] at h60 ⊢
            have h60 : A.length + (A1.length + 1) + (mgE od 0 n A1 R).2 ≤ 60 := h60
            have hab := gB_n c2
            have heq : rho od a.1 = rho od b.1 := by omega
            obtain ⟨m1, m2⟩ := stU_hit (A1 := A1) hAa heq
            obtain ⟨s1, s2, s3, s4⟩ := un_step_ok h h2 hd (Or.inl (by rw [ho]; exact m1))
            rw [ho] at s2 s3
            rw [m2, snoc_app] at s2
            have hA2 : allLt od (A ++ [(a.1, 2 * a.2 + b.2)]) R := fun x hx y hy => by
              rcases List.mem_append.mp hx with q | q
              · exact hA x q y (List.mem_cons_of_mem _ hy)
              · rw [List.mem_singleton.mp q]
                have := hbR y hy
                show rho od a.1 < _
                omega
            have hu2 := holds_up s2
            rw [s3] at hu2
            obtain ⟨r1, r2, r3, r4⟩ := ih (A ++ [(a.1, 2 * a.2 + b.2)]) A1 R (i + 1) (un_step t t2 i) s2 s3 hd' hR' hA2 hu2 (by omega) (by rw [List.length_append, List.length_cons, List.length_nil]; omega)
            refine ⟨⟨s1, r1⟩, ?_, r3, r4.trans s4⟩
            show Holds _ (A ++ ((a.1, 2 * a.2 + b.2) :: (mgE od 0 n A1 R).1))
            rw [snoc_app]; exact r2
/-- countMissing -/
theorem CM {t2 : TS} {E2 : List (Int32 × Int32)} {od : Int32} (h2 : Holds t2 E2) : ∀ (n : Nat) (A E1 R : List (Int32 × Int32)) (i k : Nat) (t : TS), Holds t (A ++ E1) → t.od = od → E2.drop i = R → UpE od R → allLt od A R → UpE od (A ++ E1) → E1.length + R.length ≤ n →
    (cm_go t2 R.length i t k).1 = k + (mgE od 0 n E1 R).2 ∧ Holds (cm_go t2 R.length i t k).2 (A ++ E1) ∧ (cm_go t2 R.length i t k).2.od = od ∧ (cm_go t2 R.length i t k).2.kd = t.kd := by
  intro n
  induction n with
  | zero =>
    intro A E1 R i k t h ho hd hR hA hu hn
    have e1 : E1 = [] := List.eq_nil_of_length_eq_zero (by omega)
    have e2 : R = [] := List.eq_nil_of_length_eq_zero (by omega)
    subst e1; subst e2
    exact ⟨rfl, h, ho, rfl⟩
  | succ n ih =>
    intro A E1 R i k t h ho hd hR hA hu hn
    cases R with
    | nil =>
      rw [mg_nilR od (n + 1) E1 (by omega)]
      exact ⟨rfl, h, ho, rfl⟩
    | cons b R =>
      obtain ⟨hbR, hR'⟩ := upE_cons hR
      obtain ⟨k1, _, hd', _⟩ := unkey h2 hd
      have hAb : ∀ e ∈ A, rho od e.1 < rho od b.1 := fun e he => hA e he b List.mem_cons_self
      obtain ⟨g1, ⟨g2, g2k, _⟩, g3⟩ := holds_tr h b.1
      rw [ho] at g2 g3
      have hA' : allLt od A R := fun x hx y hy => hA x hx y (List.mem_cons_of_mem _ hy)
      have ego : ∀ c, cm_go t2 (b :: R).length i t c = cm_go t2 R.length (i + 1) (f_trace t b.1).2 (if (f_trace t b.1).1 = 0 then c + 1 else c) := fun c => by
        show cm_go t2 (R.length + 1) i t c = _
        rw [cm_go]
        have : t2.ky (f_nodeAt t2 t2.rn (nI i)) = b.1 := k1
        rw [this]
      cases E1 with
      | nil =>
        rw [List.length_cons, List.length_nil] at hn
        rw [ego, mgE_b, if_pos rfl]
        have hm := (stU_miss0 hAb).1
        rw [List.append_nil] at g3
        have ht : (f_trace t b.1).1 = 0 := by
          rcases g3 with ⟨_, q⟩ | ⟨q, _⟩
          · exact q
          · rw [hm] at q; cases q
        rw [if_pos ht]
        obtain ⟨r1, r2, r3, r4⟩ := ih A [] R (i + 1) (k + 1) (f_trace t b.1).2 g1 g2 hd' hR' hA' hu (by rw [List.length_nil]; omega)
        exact ⟨by rw [r1]; show _ = k + (_ + 1); omega, r2, r3, r4.trans g2k⟩
      | cons a A1 =>
        rw [List.length_cons, List.length_cons] at hn
        obtain ⟨u1, u2, u3⟩ := upE_app hu
        obtain ⟨haA, u4⟩ := upE_cons u2
        have hAa : ∀ e ∈ A, rho od e.1 < rho od a.1 := fun e he => u3 e he a List.mem_cons_self
        rw [mgE_ab]
        by_cases c1 : gB od a.1 b.1 = true
        · rw [if_pos c1, if_neg (by decide)]
          have hab := gB_t c1
          have hA2 : allLt od (A ++ [a]) (b :: R) := fun x hx y hy => by
            rcases List.mem_append.mp hx with q | q
            · exact hA x q y hy
            · rw [List.mem_singleton.mp q]
              rcases List.mem_cons.mp hy with z | z
              · rw [z]; exact hab
              · have := hbR y z; omega
          rw [snoc_app] at h hu ⊢
          exact ih (A ++ [a]) A1 (b :: R) i k t h ho hd hR hA2 hu (by rw [List.length_cons]; omega)
        · rw [if_neg c1, ego]
          have hba := gB_n c1
          by_cases c2 : gB od b.1 a.1 = true
          · rw [if_pos c2, if_pos rfl]
            have hlt := gB_t c2
            have hbE : ∀ e ∈ a :: A1, rho od b.1 < rho od e.1 := fun e he => by
              rcases List.mem_cons.mp he with z | z
              · rw [z]; exact hlt
              · have := haA e z; omega
            have hm := (stU_miss hAb hbE).1
            have ht : (f_trace t b.1).1 = 0 := by
              rcases g3 with ⟨_, q⟩ | ⟨q, _⟩
              · exact q
              · rw [hm] at q; cases q
            rw [if_pos ht]
            obtain ⟨r1, r2, r3, r4⟩ := ih A (a :: A1) R (i + 1) (k + 1) (f_trace t b.1).2 g1 g2 hd' hR' hA' hu (by rw [List.length_cons]; omega)
            exact ⟨by rw [r1]; show _ = k + (_ + 1); omega, r2, r3, r4.trans g2k⟩
          · rw [if_neg c2, if_neg (show ¬ (0 : Int32) = 2 by decide)]
            have hab := gB_n c2
            have heq : rho od a.1 = rho od b.1 := by omega
            have hm := (stU_hit (A1 := A1) (b := b) hAa heq).1
            have ht : ¬ (f_trace t b.1).1 = 0 := by
              rcases g3 with ⟨q, _⟩ | ⟨_, q, _⟩
              · rw [hm] at q; cases q
              · exact q
            rw [if_neg ht]
            have hA2 : allLt od (A ++ [a]) R := fun x hx y hy => by
              rcases List.mem_append.mp hx with q | q
              · exact hA x q y (List.mem_cons_of_mem _ hy)
              · rw [List.mem_singleton.mp q]
                have := hbR y hy
                omega
            rw [snoc_app] at g1 hu ⊢
            obtain ⟨r1, r2, r3, r4⟩ := ih (A ++ [a]) A1 R (i + 1) k (f_trace t b.1).2 g1 g2 hd' hR' hA2 hu (by omega)
            exact ⟨r1, r2, r3, r4.trans g2k⟩
/-! the map joined with itself -/
theorem gB_self (od x : Int32) : gB od x x = false := (gB_f od x x).mpr (Int.le_refl _)
def x3 (e : Int32 × Int32) : Int32 × Int32 := (e.1, 2 * e.2 + e.2)
theorem mg_self (od op : Int32) (hop : ¬ op = 2) : ∀ (n : Nat) (E : List (Int32 × Int32)), E.length ≤ n → mgE od op n E E = (E.map x3, 0) := by
  intro n
  induction n with
  | zero =>
    intro E h
    have e1 : E = [] := List.eq_nil_of_length_eq_zero (by omega)
    subst e1; rfl
  | succ n ih =>
    intro E h
    cases E with
    | nil => rfl
    | cons a E =>
      rw [List.length_cons] at h
      rw [mgE_ab, gB_self, if_neg (by decide), if_neg (by decide), if_neg hop, ih E (by omega)]
      rfl
theorem mg_self2 (od : Int32) : ∀ (n : Nat) (E : List (Int32 × Int32)), E.length ≤ n → mgE od 2 n E E = ([], E.length) := by
  intro n
  induction n with
  | zero =>
    intro E h
    have e1 : E = [] := List.eq_nil_of_length_eq_zero (by omega)
    subst e1; rfl
  | succ n ih =>
    intro E h
    cases E with
    | nil => rfl
    | cons a E =>
      rw [List.length_cons] at h
      rw [mgE_ab, gB_self, if_neg (by decide), if_neg (by decide), if_pos rfl, ih E (by omega)]
      rfl
/-- an entry of the tree, by its place -/
theorem na_at {t : TS} {A B : List (Int32 × Int32)} {e : Int32 × Int32} (h : Holds t (A ++ e :: B)) : f_nodeAt t t.rn (nI A.length) ≠ 0 ∧ t.ky (f_nodeAt t t.rn (nI A.length)) = e.1 ∧ t.vl (f_nodeAt t t.rn (nI A.length)) = e.2 ∧ (∀ f ∈ A, rho t.od f.1 < rho t.od e.1) ∧ plE t.od e.1 (A ++ e :: B) = A.length ∧ hitE t.od e.1 (A ++ e :: B) = true := by
  obtain ⟨g1, g2⟩ := holds_na h (k := A.length) (by rw [List.length_append, List.length_cons]; omega)
  rw [List.getElem?_append_right (Nat.le_refl _), Nat.sub_self, List.getElem?_cons_zero] at g2
  have g2 := Option.some.inj g2
  have hu := (upE_app (holds_up h)).2.2
  have hA : ∀ f ∈ A, rho t.od f.1 < rho t.od e.1 := fun f hf => hu f hf e List.mem_cons_self
  have hf := foundE (od := t.od) (key := e.1) (A := A) (B := B) (e := e) hA rfl
  refine ⟨g1, ?_, ?_, hA, hf.1, hf.2⟩
  · rw [g2]
  · rw [g2]
theorem tr_at {t : TS} {A B : List (Int32 × Int32)} {e : Int32 × Int32} (h : Holds t (A ++ e :: B)) : (f_trace t e.1).1 ≠ 0 ∧ t.vl (f_trace t e.1).1 = e.2 ∧ Holds (f_trace t e.1).2 (A ++ e :: B) ∧ (f_trace t e.1).2.od = t.od ∧ (f_trace t e.1).2.kd = t.kd ∧ (f_trace t e.1).2.ky = t.ky ∧ (f_trace t e.1).2.vl = t.vl := by
  obtain ⟨_, _, _, _, p1, p2⟩ := na_at h
  obtain ⟨g1, ⟨g2, g3, g4, g5, _⟩, g6⟩ := holds_tr h e.1
  rcases g6 with ⟨q, _⟩ | ⟨_, q1, q2⟩
  · rw [p2] at q; cases q
  · rw [p1, List.getElem?_append_right (Nat.le_refl _), Nat.sub_self, List.getElem?_cons_zero] at q2
    have q2 := Option.some.inj q2
    exact ⟨q1, (congrArg Prod.snd q2).symm, g1, g2, g3, g4, g5⟩
theorem put_at {t : TS} {A B : List (Int32 × Int32)} {e : Int32 × Int32} (h : Holds t (A ++ e :: B)) (v : Int32) : okA t e.1 v ∧ Holds (f_assign t e.1 v).2 (A ++ (e.1, v) :: B) ∧ (f_assign t e.1 v).2.od = t.od ∧ (f_assign t e.1 v).2.kd = t.kd := by
  obtain ⟨_, _, _, hA, p1, p2⟩ := na_at h
  obtain ⟨_, a1, ak, _, _, _, a5⟩ := holds_assign h e.1 v
  have := a5 (Or.inl p2)
  rw [putE_found hA rfl] at this
  exact ⟨holds_okA h _ _, this, a1, ak⟩
theorem del_at {t : TS} {A B : List (Int32 × Int32)} {e : Int32 × Int32} (h : Holds t (A ++ e :: B)) : okDelete t e.1 ∧ Holds (f_delete t e.1).2 (A ++ B) ∧ (f_delete t e.1).2.od = t.od ∧ (f_delete t e.1).2.kd = t.kd := by
  obtain ⟨_, _, _, hA, p1, p2⟩ := na_at h
  obtain ⟨a0, a1, ak, a2⟩ := holds_delete h e.1
  rcases a2 with ⟨q, _⟩ | ⟨_, _, q⟩
  · rw [p2] at q; cases q
  · rw [p1, cutE_found] at q
    exact ⟨a0, q, a1, ak⟩
/-- unite with itself -/
theorem UNA : ∀ (R A : List (Int32 × Int32)) (t : TS), Holds t (A ++ R) → okUna R.length A.length t ∧ Holds (una_go R.length A.length t) (A ++ R.map x3) ∧ (una_go R.length A.length t).od = t.od ∧ (una_go R.length A.length t).kd = t.kd := by
  intro R
  induction R with
  | nil => intro A t h; exact ⟨trivial, h, rfl, rfl⟩
  | cons e R ih =>
    intro A t h
    obtain ⟨n0, n1, n2, _⟩ := na_at h
    obtain ⟨t1, t2, t3, t4, t5, t6, t7⟩ := tr_at h
    have hk : un_key t A.length = e.1 := n1
    have hv : un_v t t A.length = 2 * e.2 + e.2 := by
      unfold un_v un_val
      rw [hk, if_neg t1, t7, t2, n2]
    obtain ⟨p1, p2, p3, p4⟩ := put_at t3 (2 * e.2 + e.2)
    have hs : un_step t t A.length = (f_assign (f_trace t e.1).2 e.1 (2 * e.2 + e.2)).2 := by
      unfold un_step
      rw [hk, hv]
    rw [← hs] at p2 p3 p4
    rw [snoc_app] at p2
    obtain ⟨r1, r2, r3, r4⟩ := ih (A ++ [(e.1, 2 * e.2 + e.2)]) (un_step t t A.length) p2
    rw [List.length_append, List.length_cons, List.length_nil] at r1 r2 r3 r4
    refine ⟨⟨by rw [hk, hv]; exact p1, r1⟩, ?_, r3.trans (p3.trans t4), r4.trans (p4.trans t5)⟩
    show Holds _ (A ++ (x3 e :: R.map x3))
    rw [snoc_app]; exact r2
theorem CMA : ∀ (R A : List (Int32 × Int32)) (k : Nat) (t : TS), Holds t (A ++ R) → (cma_go R.length A.length t k).1 = k ∧ Holds (cma_go R.length A.length t k).2 (A ++ R) ∧ (cma_go R.length A.length t k).2.od = t.od ∧ (cma_go R.length A.length t k).2.kd = t.kd := by
  intro R
  induction R with
  | nil => intro A k t h; exact ⟨rfl, h, rfl, rfl⟩
  | cons e R ih =>
    intro A k t h
    obtain ⟨n0, n1, n2, _⟩ := na_at h
    obtain ⟨t1, t2, t3, t4, t5, t6, t7⟩ := tr_at h
    have ego : cma_go (e :: R).length A.length t k = cma_go R.length (A.length + 1) (f_trace t e.1).2 k := by
      show cma_go (R.length + 1) A.length t k = _
      rw [cma_go, n1, if_neg t1]
    rw [ego]
    rw [snoc_app] at t3 ⊢
    obtain ⟨r1, r2, r3, r4⟩ := ih (A ++ [e]) k (f_trace t e.1).2 t3
    rw [List.length_append, List.length_cons, List.length_nil] at r1 r2 r3 r4
    exact ⟨r1, r2, r3.trans t4, r4.trans t5⟩
/-- intersect with itself: R is done, A to come, from the end -/
theorem INA : ∀ (n : Nat) (A D : List (Int32 × Int32)) (t : TS), A.length = n → Holds t (A ++ D) → okIna n t ∧ Holds (ina_go n t) (A.map x3 ++ D) ∧ (ina_go n t).od = t.od ∧ (ina_go n t).kd = t.kd := by
  intro n
  induction n with
  | zero =>
    intro A D t hA h
    have e1 : A = [] := List.eq_nil_of_length_eq_zero hA
    subst e1
    exact ⟨trivial, h, rfl, rfl⟩
  | succ n ih =>
    intro A D t hA h
    obtain ⟨A0, e, rfl⟩ : ∃ A0 e, A = A0 ++ [e] := by
      rcases List.eq_nil_or_concat A with q | ⟨A0, e, q⟩
      · rw [q] at hA; cases hA
      · exact ⟨A0, e, by rw [q, List.concat_eq_append]⟩
    rw [List.length_append, List.length_cons, List.length_nil] at hA
    have hl : A0.length = n := by omega
    rw [← snoc_app] at h
    obtain ⟨n0, n1, n2, _⟩ := na_at h
    obtain ⟨t1, t2, t3, t4, t5, t6, t7⟩ := tr_at h
    rw [hl] at n0 n1 n2
    have hk : in_key t n = e.1 := n1
    have hv : ina_v t n = 2 * e.2 + e.2 := by
      unfold ina_v
      rw [hk, t7, t2, n2]
    obtain ⟨p1, p2, p3, p4⟩ := put_at t3 (2 * e.2 + e.2)
    have hs : ina_step t n = (f_assign (f_trace t e.1).2 e.1 (2 * e.2 + e.2)).2 := by
      unfold ina_step
      rw [hk, hv, if_neg t1]
    rw [← hs] at p2 p3 p4
    obtain ⟨r1, r2, r3, r4⟩ := ih A0 ((e.1, 2 * e.2 + e.2) :: D) (ina_step t n) hl p2
    refine ⟨⟨fun q => ?_, fun _ => by rw [hk, hv]; exact p1, r1⟩, ?_, r3.trans (p3.trans t4), r4.trans (p4.trans t5)⟩
    · rw [hk] at q; exact absurd q t1
    · rw [List.map_append, List.append_assoc]; exact r2
theorem SUA : ∀ (n : Nat) (A : List (Int32 × Int32)) (t : TS), A.length = n → Holds t A → okSua n t ∧ Holds (sua_go n t) [] ∧ (sua_go n t).od = t.od ∧ (sua_go n t).kd = t.kd := by
  intro n
  induction n with
  | zero =>
    intro A t hA h
    have e1 : A = [] := List.eq_nil_of_length_eq_zero hA
    subst e1
    exact ⟨trivial, h, rfl, rfl⟩
  | succ n ih =>
    intro A t hA h
    obtain ⟨A0, e, rfl⟩ : ∃ A0 e, A = A0 ++ [e] := by
      rcases List.eq_nil_or_concat A with q | ⟨A0, e, q⟩
      · rw [q] at hA; cases hA
      · exact ⟨A0, e, by rw [q, List.concat_eq_append]⟩
    rw [List.length_append, List.length_cons, List.length_nil] at hA
    have hl : A0.length = n := by omega
    obtain ⟨n0, n1, n2, _⟩ := na_at h
    obtain ⟨t1, t2, t3, t4, t5, t6, t7⟩ := tr_at h
    rw [hl] at n0 n1 n2
    have hk : in_key t n = e.1 := n1
    obtain ⟨p1, p2, p3, p4⟩ := del_at t3
    have hs : sua_step t n = (f_delete (f_trace t e.1).2 e.1).2 := by
      unfold sua_step
      rw [hk, if_neg t1]
    rw [← hs, List.append_nil] at p2
    rw [← hs] at p3 p4
    obtain ⟨r1, r2, r3, r4⟩ := ih A0 (sua_step t n) hl p2
    exact ⟨⟨fun _ => by rw [hk]; exact p1, r1⟩, r2, r3.trans (p3.trans t4), r4.trans (p4.trans t5)⟩
/-! intersect, subtract -/
def gI (od : Int32) (E2 : List (Int32 × Int32)) (a : Int32 × Int32) : Option (Int32 × Int32) := if hitE od a.1 E2 = true then some (a.1, 2 * a.2 + (E2.getD (plE od a.1 E2) (0, 0)).2) else none
def gS (od : Int32) (E2 : List (Int32 × Int32)) (a : Int32 × Int32) : Option (Int32 × Int32) := if hitE od a.1 E2 = true then none else some a
theorem IN {od : Int32} {E2 : List (Int32 × Int32)} : ∀ (n : Nat) (A D : List (Int32 × Int32)) (t t2 : TS), A.length = n → Holds t (A ++ D) → Holds t2 E2 → t.od = od → t2.od = od → okIn n t t2 ∧ Holds (in_go n t t2).1 (A.filterMap (gI od E2) ++ D) ∧ Holds (in_go n t t2).2 E2 ∧ (in_go n t t2).1.od = od ∧ (in_go n t t2).2.od = od ∧ (in_go n t t2).1.kd = t.kd ∧ (in_go n t t2).2.kd = t2.kd := by
  intro n
  induction n with
  | zero =>
    intro A D t t2 hA h h2 ho ho2
    have e1 : A = [] := List.eq_nil_of_length_eq_zero hA
    subst e1
    exact ⟨trivial, h, h2, ho, ho2, rfl, rfl⟩
  | succ n ih =>
    intro A D t t2 hA h h2 ho ho2
    obtain ⟨A0, e, rfl⟩ : ∃ A0 e, A = A0 ++ [e] := by
      rcases List.eq_nil_or_concat A with q | ⟨A0, e, q⟩
      · rw [q] at hA; cases hA
      · exact ⟨A0, e, by rw [q, List.concat_eq_append]⟩
    rw [List.length_append, List.length_cons, List.length_nil] at hA
    have hl : A0.length = n := by omega
    rw [← snoc_app] at h
    obtain ⟨n0, n1, n2, _⟩ := na_at h
    rw [hl] at n0 n1 n2
    have hk : in_key t n = e.1 := n1
    obtain ⟨g1, ⟨g2, g2k, _, g5, _⟩, g6⟩ := holds_tr h2 e.1
    rw [ho2] at g2 g6
    have hin : in_go (n + 1) t t2 = in_go n (in_step t t2 n) (f_trace t2 e.1).2 := by rw [in_go, hk]
    rw [hin]
    rcases g6 with ⟨q1, q2⟩ | ⟨q1, q2, q3⟩
    · have hs : in_step t t2 n = (f_delete t e.1).2 := by
        unfold in_step
        rw [hk, if_pos q2]
      obtain ⟨p1, p2, p3, p4⟩ := del_at h
      rw [← hs] at p2 p3 p4
      obtain ⟨r1, r2, r3, r4, r5, r6, r7⟩ := ih A0 D (in_step t t2 n) (f_trace t2 e.1).2 hl p2 g1 (p3.trans ho) g2
      refine ⟨⟨fun _ => by rw [hk]; exact p1, fun q => (by rw [hk] at q; exact absurd q2 q), by rw [hk]; exact r1⟩, ?_, r3, r4, r5, r6.trans p4, r7.trans g2k⟩
      have e0 : [e].filterMap (gI od E2) = [] := by
        rw [List.filterMap_cons]
        unfold gI
        rw [q1, if_neg (by decide)]
        rfl
      rw [List.filterMap_append, e0, List.append_nil]
      exact r2
    · have hv : in_v t t2 n = 2 * e.2 + (E2.getD (plE od e.1 E2) (0, 0)).2 := by
        unfold in_v
        rw [hk, n2, g5, List.getD_eq_getElem?_getD, q3]
        rfl
      have hs : in_step t t2 n = (f_assign t e.1 (2 * e.2 + (E2.getD (plE od e.1 E2) (0, 0)).2)).2 := by
        unfold in_step
        rw [hk, if_neg q2, hv]
      obtain ⟨p1, p2, p3, p4⟩ := put_at h (2 * e.2 + (E2.getD (plE od e.1 E2) (0, 0)).2)
      rw [← hs] at p2 p3 p4
      obtain ⟨r1, r2, r3, r4, r5, r6, r7⟩ := ih A0 _ (in_step t t2 n) (f_trace t2 e.1).2 hl p2 g1 (p3.trans ho) g2
      refine ⟨⟨fun q => (by rw [hk] at q; exact absurd q q2), fun _ => by rw [hk, hv]; exact p1, by rw [hk]; exact r1⟩, ?_, r3, r4, r5, r6.trans p4, r7.trans g2k⟩
      have e0 : [e].filterMap (gI od E2) = [(e.1, 2 * e.2 + (E2.getD (plE od e.1 E2) (0, 0)).2)] := by
        rw [List.filterMap_cons]
        unfold gI
        rw [q1, if_pos rfl]
        rfl
      rw [List.filterMap_append, e0, ← snoc_app]
      exact r2
theorem SU {od : Int32} {E2 : List (Int32 × Int32)} : ∀ (n : Nat) (A D : List (Int32 × Int32)) (t t2 : TS), A.length = n → Holds t (A ++ D) → Holds t2 E2 → t.od = od → t2.od = od → okSu n t t2 ∧ Holds (su_go n t t2).1 (A.filterMap (gS od E2) ++ D) ∧ Holds (su_go n t t2).2 E2 ∧ (su_go n t t2).1.od = od ∧ (su_go n t t2).2.od = od ∧ (su_go n t t2).1.kd = t.kd ∧ (su_go n t t2).2.kd = t2.kd := by
  intro n
  induction n with
  | zero =>
    intro A D t t2 hA h h2 ho ho2
    have e1 : A = [] := List.eq_nil_of_length_eq_zero hA
    subst e1
    exact ⟨trivial, h, h2, ho, ho2, rfl, rfl⟩
  | succ n ih =>
    intro A D t t2 hA h h2 ho ho2
    obtain ⟨A0, e, rfl⟩ : ∃ A0 e, A = A0 ++ [e] := by
      rcases List.eq_nil_or_concat A with q | ⟨A0, e, q⟩
      · rw [q] at hA; cases hA
      · exact ⟨A0, e, by rw [q, List.concat_eq_append]⟩
    rw [List.length_append, List.length_cons, List.length_nil] at hA
    have hl : A0.length = n := by omega
    rw [← snoc_app] at h
    obtain ⟨n0, n1, n2, _⟩ := na_at h
    rw [hl] at n0 n1 n2
    have hk : in_key t n = e.1 := n1
    obtain ⟨g1, ⟨g2, g2k, _, g5, _⟩, g6⟩ := holds_tr h2 e.1
    rw [ho2] at g2 g6
    have hin : su_go (n + 1) t t2 = su_go n (su_step t t2 n) (f_trace t2 e.1).2 := by rw [su_go, hk]
    rw [hin]
    rcases g6 with ⟨q1, q2⟩ | ⟨q1, q2, q3⟩
    · have hs : su_step t t2 n = t := by
        unfold su_step
        rw [hk, if_pos q2]
      obtain ⟨r1, r2, r3, r4, r5, r6, r7⟩ := ih A0 (e :: D) t (f_trace t2 e.1).2 hl h g1 ho g2
      rw [hs]
      refine ⟨⟨fun q => (by rw [hk] at q; exact absurd q2 q), by rw [hk, hs]; exact r1⟩, ?_, r3, r4, r5, r6, r7.trans g2k⟩
      have e0 : [e].filterMap (gS od E2) = [e] := by
        rw [List.filterMap_cons]
        unfold gS
        rw [q1, if_neg (by decide)]
        rfl
      rw [List.filterMap_append, e0, ← snoc_app]
      exact r2
    · have hs : su_step t t2 n = (f_delete t e.1).2 := by
        unfold su_step
        rw [hk, if_neg q2]
      obtain ⟨p1, p2, p3, p4⟩ := del_at h
      rw [← hs] at p2 p3 p4
      obtain ⟨r1, r2, r3, r4, r5, r6, r7⟩ := ih A0 D (su_step t t2 n) (f_trace t2 e.1).2 hl p2 g1 (p3.trans ho) g2
      refine ⟨⟨fun _ => by rw [hk]; exact p1, by rw [hk]; exact r1⟩, ?_, r3, r4, r5, r6.trans p4, r7.trans g2k⟩
      have e0 : [e].filterMap (gS od E2) = [] := by
        rw [List.filterMap_cons]
        unfold gS
        rw [q1, if_pos rfl]
        rfl
      rw [List.filterMap_append, e0, List.append_nil]
      exact r2
/-! the merge as a filter -/
theorem mg_nil1 (od op : Int32) : ∀ (n : Nat) (A : List (Int32 × Int32)), A.length ≤ n → mgE od op n A [] = if op = 1 then ([], A.length) else (A, 0) := by
  intro n
  induction n with
  | zero =>
    intro A h
    have e1 : A = [] := List.eq_nil_of_length_eq_zero (by omega)
    subst e1
    by_cases c : op = 1
    · rw [if_pos c]; rfl
    · rw [if_neg c]; rfl
  | succ n ih =>
    intro A h
    cases A with
    | nil =>
      by_cases c : op = 1
      · rw [if_pos c]; rfl
      · rw [if_neg c]; rfl
    | cons a A =>
      rw [List.length_cons] at h
      rw [mgE_a, ih A (by omega)]
      by_cases c : op = 1
      · rw [if_pos c, if_pos c, if_pos c]; rfl
      · rw [if_neg c, if_neg c, if_neg c]
/-- where the list asked is C ++ B, all of C before a: what is found of a -/
theorem ask_nil {od : Int32} {C : List (Int32 × Int32)} {a : Int32 × Int32} (h : ∀ e ∈ C, rho od e.1 < rho od a.1) : hitE od a.1 C = false := (stU_miss0 h).1
theorem ask_lt {od : Int32} {C B : List (Int32 × Int32)} {a b : Int32 × Int32} (h : ∀ e ∈ C, rho od e.1 < rho od a.1) (hb : ∀ e ∈ b :: B, rho od a.1 < rho od e.1) : hitE od a.1 (C ++ b :: B) = false := (missE h hb).2
theorem ask_eq {od : Int32} {C B : List (Int32 × Int32)} {a b : Int32 × Int32} (h : ∀ e ∈ C, rho od e.1 < rho od b.1) (hb : rho od b.1 = rho od a.1) : hitE od a.1 (C ++ b :: B) = true ∧ ((C ++ b :: B).getD (plE od a.1 (C ++ b :: B)) (0, 0)).2 = b.2 := by
  obtain ⟨p1, p2⟩ := foundE (B := B) h hb
  refine ⟨p2, ?_⟩
  rw [p1, List.getD_eq_getElem?_getD, List.getElem?_append_right (Nat.le_refl _), Nat.sub_self]
  rfl
theorem gI_0 {od : Int32} {E : List (Int32 × Int32)} {a : Int32 × Int32} (h : hitE od a.1 E = false) : gI od E a = none := by unfold gI; rw [h]; exact if_neg (by decide)
theorem gS_0 {od : Int32} {E : List (Int32 × Int32)} {a : Int32 × Int32} (h : hitE od a.1 E = false) : gS od E a = some a := by unfold gS; rw [h]; exact if_neg (by decide)
theorem gI_1 {od : Int32} {E : List (Int32 × Int32)} {a : Int32 × Int32} {v : Int32} (h : hitE od a.1 E = true ∧ (E.getD (plE od a.1 E) (0, 0)).2 = v) : gI od E a = some (a.1, 2 * a.2 + v) := by unfold gI; rw [if_pos h.1, h.2]
theorem gS_1 {od : Int32} {E : List (Int32 × Int32)} {a : Int32 × Int32} (h : hitE od a.1 E = true) : gS od E a = none := by unfold gS; exact if_pos h
theorem fm_none {g : Int32 × Int32 → Option (Int32 × Int32)} {A : List (Int32 × Int32)} (h : ∀ a ∈ A, g a = none) : A.filterMap g = [] := by
  induction A with
  | nil => rfl
  | cons a A ih => rw [List.filterMap_cons, h a List.mem_cons_self, ih (fun x hx => h x (List.mem_cons_of_mem _ hx))]
theorem fm_some {g : Int32 × Int32 → Option (Int32 × Int32)} {A : List (Int32 × Int32)} (h : ∀ a ∈ A, g a = some a) : A.filterMap g = A := by
  induction A with
  | nil => rfl
  | cons a A ih => rw [List.filterMap_cons, h a List.mem_cons_self, ih (fun x hx => h x (List.mem_cons_of_mem _ hx))]
theorem MG (od : Int32) : ∀ (n : Nat) (A C B : List (Int32 × Int32)), UpE od A → UpE od (C ++ B) → allLt od C A → A.length + B.length ≤ n →
    ((mgE od 1 n A B).1 = A.filterMap (gI od (C ++ B)) ∧ (mgE od 1 n A B).1.length + (mgE od 1 n A B).2 = A.length) ∧ ((mgE od 2 n A B).1 = A.filterMap (gS od (C ++ B)) ∧ (mgE od 2 n A B).1.length + (mgE od 2 n A B).2 = A.length) := by
  intro n
  induction n with
  | zero =>
    intro A C B hA hC hCA hn
    have e1 : A = [] := List.eq_nil_of_length_eq_zero (by omega)
    subst e1
    exact ⟨⟨rfl, rfl⟩, ⟨rfl, rfl⟩⟩
  | succ n ih =>
    intro A C B hA hC hCA hn
    cases B with
    | nil =>
      rw [List.append_nil] at hC ⊢
      rw [mg_nil1 od 1 (n + 1) A (by omega), mg_nil1 od 2 (n + 1) A (by omega), if_pos rfl, if_neg (by decide)]
      have hmiss : ∀ a ∈ A, hitE od a.1 C = false := fun a ha => ask_nil (fun e he => hCA e he a ha)
      refine ⟨⟨(fm_none (fun a ha => gI_0 (hmiss a ha))).symm, by show 0 + A.length = _; omega⟩, ⟨(fm_some (fun a ha => gS_0 (hmiss a ha))).symm, Nat.add_zero _⟩⟩
    | cons b B =>
      obtain ⟨u1, u2, u3⟩ := upE_app hC
      obtain ⟨hbB, u4⟩ := upE_cons u2
      cases A with
      | nil =>
        rw [List.length_cons, List.length_nil] at hn
        rw [mgE_b, mgE_b, if_neg (by decide), if_neg (by decide)]
        have hC2 : UpE od ((C ++ [b]) ++ B) := by rw [← snoc_app]; exact hC
        obtain ⟨⟨r1, r2⟩, ⟨r3, r4⟩⟩ := ih [] (C ++ [b]) B hA hC2 (fun _ _ y hy => absurd hy List.not_mem_nil) (by rw [List.length_nil]; omega)
        exact ⟨⟨r1, r2⟩, ⟨r3, r4⟩⟩
      | cons a A =>
        rw [List.length_cons, List.length_cons] at hn
        obtain ⟨haA, hA'⟩ := upE_cons hA
        have hCa : ∀ e ∈ C, rho od e.1 < rho od a.1 := fun e he => hCA e he a List.mem_cons_self
        have hCb : ∀ e ∈ C, rho od e.1 < rho od b.1 := fun e he => u3 e he b List.mem_cons_self
        have hCA' : allLt od C A := fun x hx y hy => hCA x hx y (List.mem_cons_of_mem _ hy)
        rw [mgE_ab, mgE_ab]
        by_cases c1 : gB od a.1 b.1 = true
        · rw [if_pos c1, if_pos rfl, if_pos c1, if_neg (show ¬ (2 : Int32) = 1 by decide)]
          have hab := gB_t c1
          have hh : hitE od a.1 (C ++ b :: B) = false := ask_lt hCa (fun e he => by
            rcases List.mem_cons.mp he with z | z
            · rw [z]; exact hab
            · have := hbB e z; omega)
          obtain ⟨⟨r1, r2⟩, ⟨r3, r4⟩⟩ := ih A C (b :: B) hA' hC hCA' (by rw [List.length_cons]; omega)
          refine ⟨⟨?_, ?_⟩, ⟨?_, ?_⟩⟩
          · rw [List.filterMap_cons, gI_0 hh]; exact r1
          · show (mgE od 1 n A (b :: B)).1.length + ((mgE od 1 n A (b :: B)).2 + 1) = A.length + 1; omega
          · rw [List.filterMap_cons, gS_0 hh]; show _ :: _ = _ :: _; rw [r3]
          · show _ + 1 + _ = A.length + 1; omega
        · have hba := gB_n c1
          rw [if_neg c1, if_neg c1]
          have hC2 : UpE od ((C ++ [b]) ++ B) := by rw [← snoc_app]; exact hC
          by_cases c2 : gB od b.1 a.1 = true
          · rw [if_pos c2, if_pos c2, if_neg (show ¬ (1 : Int32) = 0 by decide), if_neg (show ¬ (2 : Int32) = 0 by decide)]
            have hlt := gB_t c2
            have hCA2 : allLt od (C ++ [b]) (a :: A) := fun x hx y hy => by
              rcases List.mem_append.mp hx with q | q
              · exact hCA x q y hy
              · rw [List.mem_singleton.mp q]
                rcases List.mem_cons.mp hy with z | z
                · rw [z]; exact hlt
                · have := haA y z; omega
            obtain ⟨⟨r1, r2⟩, ⟨r3, r4⟩⟩ := ih (a :: A) (C ++ [b]) B hA hC2 hCA2 (by rw [List.length_cons]; omega)
            rw [← snoc_app] at r1 r3
            exact ⟨⟨r1, r2⟩, ⟨r3, r4⟩⟩
          · have hab := gB_n c2
            have heq : rho od b.1 = rho od a.1 := by omega
            rw [if_neg c2, if_neg c2, if_neg (show ¬ (1 : Int32) = 2 by decide), if_pos rfl]
            have hh := ask_eq (B := B) hCb heq
            have hCA2 : allLt od (C ++ [b]) A := fun x hx y hy => by
              rcases List.mem_append.mp hx with q | q
              · exact hCA' x q y hy
              · rw [List.mem_singleton.mp q]
                have := haA y hy
                omega
            obtain ⟨⟨r1, r2⟩, ⟨r3, r4⟩⟩ := ih A (C ++ [b]) B hA' hC2 hCA2 (by omega)
            rw [← snoc_app] at r1 r3
            refine ⟨⟨?_, ?_⟩, ⟨?_, ?_⟩⟩
            · rw [List.filterMap_cons, gI_1 hh]; show _ :: _ = _ :: _; rw [r1]
            · show _ + 1 + _ = A.length + 1; omega
            · rw [List.filterMap_cons, gS_1 hh.1]; exact r3
            · show (mgE od 2 n A B).1.length + ((mgE od 2 n A B).2 + 1) = A.length + 1; omega
theorem mg_len0 (od : Int32) : ∀ (n : Nat) (A B : List (Int32 × Int32)), A.length + B.length ≤ n → (mgE od 0 n A B).1.length = A.length + (mgE od 0 n A B).2 ∧ (mgE od 0 n A B).2 ≤ B.length := by
  intro n
  induction n with
  | zero =>
    intro A B hn
    have e1 : A = [] := List.eq_nil_of_length_eq_zero (by omega)
    subst e1
    exact ⟨rfl, Nat.zero_le _⟩
  | succ n ih =>
    intro A B hn
    cases B with
    | nil => rw [mg_nilR od (n + 1) A (by omega)]; exact ⟨rfl, Nat.zero_le _⟩
    | cons b B =>
      cases A with
      | nil =>
        rw [List.length_cons, List.length_nil] at hn
        rw [mgE_b, if_pos rfl]
        obtain ⟨r1, r2⟩ := ih [] B (by rw [List.length_nil]; omega)
        rw [List.length_nil] at r1
        exact ⟨by show _ + 1 = 0 + (_ + 1); omega, by show _ + 1 ≤ B.length + 1; omega⟩
      | cons a A =>
        rw [List.length_cons, List.length_cons] at hn
        rw [mgE_ab]
        by_cases c1 : gB od a.1 b.1 = true
        · rw [if_pos c1, if_neg (by decide)]
          obtain ⟨r1, r2⟩ := ih A (b :: B) (by rw [List.length_cons]; omega)
          exact ⟨by show _ + 1 = A.length + 1 + _; omega, r2⟩
        · rw [if_neg c1]
          by_cases c2 : gB od b.1 a.1 = true
          · rw [if_pos c2, if_pos rfl]
            obtain ⟨r1, r2⟩ := ih (a :: A) B (by rw [List.length_cons]; omega)
            rw [List.length_cons] at r1
            exact ⟨by show _ + 1 = A.length + 1 + (_ + 1); omega, by show _ + 1 ≤ B.length + 1; omega⟩
          · rw [if_neg c2, if_neg (by decide)]
            obtain ⟨r1, r2⟩ := ih A B (by omega)
            exact ⟨by show _ + 1 = A.length + 1 + _; omega, by show _ ≤ B.length + 1; omega⟩
/-- where nothing moved, the keys are the same -/
theorem ky_mg0 (od : Int32) : ∀ (n : Nat) (A B : List (Int32 × Int32)), A.length + B.length ≤ n → (mgE od 0 n A B).2 = 0 → kyE (mgE od 0 n A B).1 = kyE A := by
  intro n
  induction n with
  | zero =>
    intro A B hn _
    have e1 : A = [] := List.eq_nil_of_length_eq_zero (by omega)
    subst e1
    rfl
  | succ n ih =>
    intro A B hn h0
    cases B with
    | nil => rw [mg_nilR od (n + 1) A (by omega)]
    | cons b B =>
      cases A with
      | nil =>
        rw [mgE_b, if_pos rfl] at h0
        exact absurd h0 (Nat.succ_ne_zero _)
      | cons a A =>
        rw [List.length_cons, List.length_cons] at hn
        rw [mgE_ab] at h0 ⊢
        by_cases c1 : gB od a.1 b.1 = true
        · rw [if_pos c1, if_neg (by decide)] at h0 ⊢
          have := ih A (b :: B) (by rw [List.length_cons]; omega) h0
          show a.1 :: kyE _ = a.1 :: kyE A
          rw [this]
        · rw [if_neg c1] at h0 ⊢
          by_cases c2 : gB od b.1 a.1 = true
          · rw [if_pos c2, if_pos rfl] at h0
            exact absurd h0 (Nat.succ_ne_zero _)
          · rw [if_neg c2, if_neg (by decide)] at h0 ⊢
            have := ih A B (by omega) h0
            show a.1 :: kyE _ = a.1 :: kyE A
            rw [this]
theorem ky_fm {g : Int32 × Int32 → Option (Int32 × Int32)} (hg : ∀ a b, g a = some b → b.1 = a.1) : ∀ A : List (Int32 × Int32), (A.filterMap g).length = A.length → kyE (A.filterMap g) = kyE A := by
  intro A
  induction A with
  | nil => intro _; rfl
  | cons a A ih =>
    intro h
    have hle := List.length_filterMap_le g A
    rw [List.filterMap_cons] at h ⊢
    cases e : g a with
    | none =>
      rw [e] at h
      have h : (A.filterMap g).length = A.length + 1 := h
      omega
    | some b =>
      rw [e] at h
      have h : (A.filterMap g).length + 1 = A.length + 1 := h
      show b.1 :: kyE _ = a.1 :: kyE A
      rw [ih (by omega), hg a b e]
theorem gI_k (od : Int32) (E : List (Int32 × Int32)) (a b : Int32 × Int32) (h : gI od E a = some b) : b.1 = a.1 := by
  unfold gI at h
  by_cases c : hitE od a.1 E = true
  · rw [if_pos c] at h; rw [← Option.some.inj h]
  · rw [if_neg c] at h; cases h
theorem gS_k (od : Int32) (E : List (Int32 × Int32)) (a b : Int32 × Int32) (h : gS od E a = some b) : b.1 = a.1 := by
  unfold gS at h
  by_cases c : hitE od a.1 E = true
  · rw [if_pos c] at h; cases h
  · rw [if_neg c] at h; rw [← Option.some.inj h]
/-! moveBehind -/
theorem MV (s : Nat) {A : List (Int32 × Int32)} (hs : A.length = s) : ∀ (n : Nat) (B D : List (Int32 × Int32)) (t t2 : TS), B.length = n → Holds t (A ++ B) → Holds t2 D → t.od = t2.od → allLt t.od (A ++ B) D → D.length + n ≤ 60 → okMv s n t t2 ∧ Holds (mv_go s n t t2).1 A ∧ Holds (mv_go s n t t2).2 (B ++ D) ∧ (mv_go s n t t2).1.od = t.od ∧ (mv_go s n t t2).2.od = t2.od ∧ (mv_go s n t t2).1.kd = t.kd ∧ (mv_go s n t t2).2.kd = t2.kd := by
  intro n
  induction n with
  | zero =>
    intro B D t t2 hB h h2 ho hlt h60
    have e1 : B = [] := List.eq_nil_of_length_eq_zero hB
    subst e1
    rw [List.append_nil] at h
    exact ⟨trivial, h, h2, rfl, rfl, rfl, rfl⟩
  | succ n ih =>
    intro B D t t2 hB h h2 ho hlt h60
    obtain ⟨B0, e, rfl⟩ : ∃ A0 e, B = A0 ++ [e] := by
      rcases List.eq_nil_or_concat B with q | ⟨A0, e, q⟩
      · rw [q] at hB; cases hB
      · exact ⟨A0, e, by rw [q, List.concat_eq_append]⟩
    rw [List.length_append, List.length_cons, List.length_nil] at hB
    have hl : (A ++ B0).length = s + n := by rw [List.length_append]; omega
    rw [← List.append_assoc] at h hlt
    obtain ⟨n0, n1, n2, hA, _⟩ := na_at h
    rw [hl] at n0 n1 n2
    have hk : in_key t (s + n) = e.1 := n1
    obtain ⟨p1, p2, p3, p4⟩ := del_at h
    rw [List.append_nil] at p2
    have hD : ∀ f ∈ D, rho t2.od e.1 < rho t2.od f.1 := fun f hf => by
      rw [← ho]
      exact hlt e (List.mem_append_right _ List.mem_cons_self) f hf
    obtain ⟨_, a1, ak, _, _, _, a5⟩ := holds_assign h2 e.1 e.2
    have hm := missE (od := t2.od) (key := e.1) (A := []) (B := D) (fun x hx => absurd hx List.not_mem_nil) hD
    have hp := putE_miss (od := t2.od) (key := e.1) (v := e.2) (A := []) (B := D) (fun x hx => absurd hx List.not_mem_nil) hD
    rw [List.nil_append] at hm hp
    have a6 := a5 (Or.inr (by omega))
    rw [hp, List.nil_append] at a6
    have es : mv_step t t2 (s + n) = ((f_delete t e.1).2, (f_assign t2 e.1 e.2).2) := by
      unfold mv_step
      rw [hk, n2]
    have hlt2 : allLt (f_delete t e.1).2.od (A ++ B0) (e :: D) := fun x hx y hy => by
      rw [p3]
      rcases List.mem_cons.mp hy with z | z
      · rw [z]; exact hA x hx
      · exact hlt x (List.mem_append_left _ hx) y z
    obtain ⟨r1, r2, r3, r4, r5, r6, r7⟩ := ih B0 (e :: D) (f_delete t e.1).2 (f_assign t2 e.1 e.2).2 (by omega) p2 a6 (by rw [p3, a1, ho]) hlt2 (by rw [List.length_cons]; omega)
    have eg : mv_go s (n + 1) t t2 = mv_go s n (f_delete t e.1).2 (f_assign t2 e.1 e.2).2 := by rw [mv_go, es]
    rw [eg]
    refine ⟨⟨by rw [hk, n2]; exact holds_okA h2 _ _, by rw [hk]; exact p1, by rw [es]; exact r1⟩, r2, ?_, r4.trans p3, r5.trans a1, r6.trans p4, r7.trans ak⟩
    rw [← snoc_app]
    exact r3
