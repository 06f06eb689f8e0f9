/-! what is alike off some nodes; refresh; the raises -/
def Off (t u : TS) (P : List Nat) : Prop := (u.ky = t.ky ∧ u.vl = t.vl ∧ u.sp = t.sp ∧ u.pa = t.pa ∧ u.ss = t.ss ∧ u.dp = t.dp ∧ u.rn = t.rn ∧ u.od = t.od ∧ u.kd = t.kd) ∧ ∀ z, z ∉ P → u.lf z = t.lf z ∧ u.rt z = t.rt z ∧ u.ct z = t.ct z ∧ u.ht z = t.ht z ∧ u.to z = t.to z
theorem Off.rfl (t : TS) (P : List Nat) : Off t t P := ⟨⟨Eq.refl _, Eq.refl _, Eq.refl _, Eq.refl _, Eq.refl _, Eq.refl _, Eq.refl _, Eq.refl _, Eq.refl _⟩, fun _ _ => ⟨Eq.refl _, Eq.refl _, Eq.refl _, Eq.refl _, Eq.refl _⟩⟩
theorem Off.trans {t u v : TS} {P Q : List Nat} (h : Off t u P) (g : Off u v Q) (R : List Nat) (hP : ∀ z ∈ P, z ∈ R) (hQ : ∀ z ∈ Q, z ∈ R) : Off t v R := by
  obtain ⟨⟨a1, a2, a3, a4, a5, a6, a7, a8, a9⟩, a⟩ := h
  obtain ⟨⟨b1, b2, b3, b4, b5, b6, b7, b8, b9⟩, b⟩ := g
  refine ⟨⟨b1.trans a1, b2.trans a2, b3.trans a3, b4.trans a4, b5.trans a5, b6.trans a6, b7.trans a7, b8.trans a8, b9.trans a9⟩, fun z hz => ?_⟩
  obtain ⟨c1, c2, c3, c4, c5⟩ := a z (fun q => hz (hP z q))
  obtain ⟨d1, d2, d3, d4, d5⟩ := b z (fun q => hz (hQ z q))
  exact ⟨d1.trans c1, d2.trans c2, d3.trans c3, d4.trans c4, d5.trans c5⟩
theorem Off.wide {t u : TS} {P : List Nat} (h : Off t u P) (R : List Nat) (hP : ∀ z ∈ P, z ∈ R) : Off t u R := ⟨h.1, fun z hz => h.2 z (fun q => hz (hP z q))⟩
theorem Off.like {t u : TS} {P L : List Nat} (h : Off t u P) (hd : ∀ z ∈ L, z ∉ P) : Like t u L := by
  obtain ⟨⟨a1, a2, a3, a4, a5, a6, a7, a8, a9⟩, a⟩ := h
  refine ⟨a9, fun z hz => ?_⟩
  obtain ⟨c1, c2, c3, c4, c5⟩ := a z (hd z hz)
  exact ⟨c1, c2, c3, c4, c5, by rw [a1], by rw [a2]⟩
theorem Off.zero {t u : TS} {P : List Nat} (h : Off t u P) (h0 : 0 ∉ P) (hz : Zero t) : Zero u := by
  obtain ⟨c1, c2, c3, c4, c5⟩ := h.2 0 h0
  exact ⟨c3.trans hz.1, c4.trans hz.2.1, c5.trans hz.2.2⟩
theorem Off.up {t u : TS} {P L : List Nat} (h : Off t u P) (hu : Up t L) : Up u L := by
  unfold Up at hu ⊢
  rw [h.1.1, h.1.2.2.2.2.2.2.2.1]
  exact hu
theorem upd_ne {f : Nat → Int32} {k j : Nat} {v : Int32} (h : j ≠ k) : upd f k v j = f j := if_neg h
theorem upd_eq {f : Nat → Int32} {k : Nat} {v : Int32} : upd f k v k = v := if_pos rfl
theorem updL_ne {f : Nat → Int64} {k j : Nat} {v : Int64} (h : j ≠ k) : vp_updL f k v j = f j := if_neg h
theorem updL_eq {f : Nat → Int64} {k : Nat} {v : Int64} : vp_updL f k v k = v := if_pos rfl
theorem up_ne {f : Nat → Nat} {k j v : Nat} (h : j ≠ k) : va_up f k v j = f j := if_neg h
theorem up_eq {f : Nat → Nat} {k v : Nat} : va_up f k v k = v := if_pos rfl
theorem off_refresh (t : TS) (x : Nat) : Off t (f_refresh t x) [x] := by
  refine ⟨⟨rfl, rfl, rfl, rfl, rfl, rfl, rfl, rfl, rfl⟩, fun z hz => ?_⟩
  have h : z ≠ x := fun q => hz (by rw [q]; exact List.mem_singleton.mpr rfl)
  exact ⟨rfl, rfl, upd_ne h, upd_ne h, updL_ne h⟩
theorem off_setLf (t : TS) (x y : Nat) : Off t (setLf t x y) [x] := by
  refine ⟨⟨rfl, rfl, rfl, rfl, rfl, rfl, rfl, rfl, rfl⟩, fun z hz => ?_⟩
  have h : z ≠ x := fun q => hz (by rw [q]; exact List.mem_singleton.mpr rfl)
  exact ⟨up_ne h, rfl, rfl, rfl, rfl⟩
theorem off_setRt (t : TS) (x y : Nat) : Off t (setRt t x y) [x] := by
  refine ⟨⟨rfl, rfl, rfl, rfl, rfl, rfl, rfl, rfl, rfl⟩, fun z hz => ?_⟩
  have h : z ≠ x := fun q => hz (by rw [q]; exact List.mem_singleton.mpr rfl)
  exact ⟨rfl, up_ne h, rfl, rfl, rfl⟩
theorem mx_nI {a b : Nat} (ha : a < 2147483648) (hb : b < 2147483648) : mx (nI a) (nI b) = nI (max a b) := by
  unfold mx
  by_cases h : a ≤ b
  · rw [if_pos ((xn_le ha hb).mpr h), Nat.max_eq_right h]
  · rw [if_neg (fun q => h ((xn_le ha hb).mp q)), Nat.max_eq_left (by omega)]
theorem refresh_x {t : TS} (hz : Zero t) {x n m ha hb : Nat} {A B : List Nat} (s1 : Sub t n (t.lf x) A ha) (s2 : Sub t m (t.rt x) B hb) (hl : A.length + B.length ≤ 60) : (f_refresh t x).ct x = nI (A ++ x :: B).length ∧ (f_refresh t x).ht x = nI (max ha hb + 1) ∧ (f_refresh t x).to x = sumL t.vl (A ++ x :: B) := by
  obtain ⟨a1, a2, a3⟩ := sub_ct hz s1
  obtain ⟨b1, b2, b3⟩ := sub_ct hz s2
  have h1 := sub_len s1
  have h2 := sub_len s2
  refine ⟨?_, ?_, ?_⟩
  · show upd t.ct x (t.ct (t.lf x) + t.ct (t.rt x) + 1) x = _
    rw [upd_eq, a1, b1, nI_add, nI_1, List.length_append, List.length_cons]
    congr 1
  · show upd t.ht x (mx (t.ht (t.lf x)) (t.ht (t.rt x)) + 1) x = _
    rw [upd_eq, a2, b2, mx_nI (by omega) (by omega), nI_1]
  · show vp_updL t.to x (t.to (t.lf x) + t.to (t.rt x) + (t.vl x).toInt64) x = _
    rw [updL_eq, a3, b3, sumL_app, sumL_cons, Int64.add_assoc, Int64.add_comm (sumL t.vl B)]
theorem nd_parts {A B C : List Nat} {x y : Nat} (h : ((A ++ y :: B) ++ x :: C).Nodup) : (∀ z ∈ A, z ≠ x ∧ z ≠ y) ∧ (∀ z ∈ B, z ≠ x ∧ z ≠ y) ∧ (∀ z ∈ C, z ≠ x ∧ z ≠ y) ∧ x ≠ y := by
  rw [List.nodup_append] at h
  obtain ⟨h1, h2, h3⟩ := h
  rw [List.nodup_append] at h1
  obtain ⟨g1, g2, g3⟩ := h1
  rw [List.nodup_cons] at h2 g2
  have hx : x ∈ x :: C := List.mem_cons_self
  have hy : y ∈ A ++ y :: B := List.mem_append_right _ List.mem_cons_self
  refine ⟨fun z hz => ⟨h3 z (List.mem_append_left _ hz) x hx, g3 z hz y List.mem_cons_self⟩, fun z hz => ⟨h3 z (List.mem_append_right _ (List.mem_cons_of_mem _ hz)) x hx, fun q => g2.1 (q ▸ hz)⟩, fun z hz => ⟨fun q => h2.1 (q ▸ hz), fun q => h3 y hy z (List.mem_cons_of_mem _ hz) q.symm⟩, fun q => h3 y hy x hx q.symm⟩
/-- raiseLeft: y = left of x comes up -/
theorem rotL {t : TS} (hz : Zero t) {x n1 n2 n3 ha hb hc : Nat} {A B C : List Nat} (h0 : x ≠ 0) (hy : t.lf x ≠ 0) (s1 : Sub t n1 (t.lf (t.lf x)) A ha) (s2 : Sub t n2 (t.rt (t.lf x)) B hb) (s3 : Sub t n3 (t.rt x) C hc) (hn : ((A ++ t.lf x :: B) ++ x :: C).Nodup) (hl : A.length + B.length + C.length + 2 ≤ 60) :
    Off t (f_raiseLeft t x) [x, t.lf x] ∧ (f_raiseLeft t x).lf (t.lf x) = t.lf (t.lf x) ∧ (f_raiseLeft t x).rt (t.lf x) = x ∧ (f_raiseLeft t x).lf x = t.rt (t.lf x) ∧ (f_raiseLeft t x).rt x = t.rt x ∧
    (Bal (f_raiseLeft t x) x B.length C.length hb hc → Sub (f_raiseLeft t x) 60 x (B ++ x :: C) (max hb hc + 1)) ∧
    (Bal (f_raiseLeft t x) x B.length C.length hb hc → Bal (f_raiseLeft t x) (t.lf x) A.length (B.length + C.length + 1) ha (max hb hc + 1) → Sub (f_raiseLeft t x) 60 (t.lf x) (A ++ t.lf x :: (B ++ x :: C)) (max ha (max hb hc + 1) + 1)) := by
  obtain ⟨dA, dB, dC, hxy⟩ := nd_parts hn
  generalize hye : t.lf x = y at *
  have hyx : y ≠ x := fun q => hxy q.symm
  obtain ⟨t1, e1⟩ : ∃ v, v = setRt (setLf t x (t.rt y)) y x := ⟨_, rfl⟩
  have eu : f_raiseLeft t x = f_refresh (f_refresh t1 x) y := by rw [e1]; unfold f_raiseLeft; rw [hye]
  have o1 : Off t t1 [x, y] := by
    rw [e1]
    exact (off_setLf t x (t.rt y)).trans (off_setRt _ y x) _ (fun z hz => by rw [List.mem_singleton.mp hz]; exact List.mem_cons_self) (fun z hz => by rw [List.mem_singleton.mp hz]; exact List.mem_cons_of_mem _ List.mem_cons_self)
  have l1 : t1.lf x = t.rt y := by rw [e1]; exact up_eq
  have l2 : t1.rt x = t.rt x := by rw [e1]; exact up_ne hxy
  have l3 : t1.lf y = t.lf y := by rw [e1]; exact up_ne hyx
  have l4 : t1.rt y = x := by rw [e1]; exact up_eq
  have in2 : ∀ {L : List Nat}, (∀ z ∈ L, z ≠ x ∧ z ≠ y) → ∀ z ∈ L, z ∉ [x, y] := fun h z hz q => by
    rcases List.mem_cons.mp q with q | q
    · exact (h z hz).1 q
    · exact (h z hz).2 (List.mem_singleton.mp q)
  have z1 : Zero t1 := o1.zero (fun q => by
    rcases List.mem_cons.mp q with q | q
    · exact h0 q.symm
    · exact hy (List.mem_singleton.mp q).symm) hz
  have a1 : Sub t1 n1 (t.lf y) A ha := sub_like (o1.like (in2 dA)) s1
  have b1 : Sub t1 n2 (t.rt y) B hb := sub_like (o1.like (in2 dB)) s2
  have c1 : Sub t1 n3 (t.rt x) C hc := sub_like (o1.like (in2 dC)) s3
  obtain ⟨t2, e2⟩ : ∃ v, v = f_refresh t1 x := ⟨_, rfl⟩
  have o2 : Off t1 t2 [x] := by rw [e2]; exact off_refresh t1 x
  have in1 : ∀ {L : List Nat}, (∀ z ∈ L, z ≠ x ∧ z ≠ y) → ∀ z ∈ L, z ∉ [x] := fun h z hz q => (h z hz).1 (List.mem_singleton.mp q)
  have in1y : ∀ {L : List Nat}, (∀ z ∈ L, z ≠ x ∧ z ≠ y) → ∀ z ∈ L, z ∉ [y] := fun h z hz q => (h z hz).2 (List.mem_singleton.mp q)
  have z2 : Zero t2 := o2.zero (fun q => h0 (List.mem_singleton.mp q).symm) z1
  obtain ⟨r1, r2, r3⟩ := refresh_x z1 (x := x) (by rw [l1]; exact b1) (by rw [l2]; exact c1) (by omega)
  rw [← e2] at r1 r2 r3
  obtain ⟨u, e3⟩ : ∃ v, v = f_refresh t2 y := ⟨_, rfl⟩
  have o3 : Off t2 u [y] := by rw [e3]; exact off_refresh t2 y
  have euu : f_raiseLeft t x = u := by rw [eu, ← e2, ← e3]
  rw [euu]
  have oT : Off t u [x, y] := (o1.trans o2 [x, y] (fun z h => h) (fun z hz => by rw [List.mem_singleton.mp hz]; exact List.mem_cons_self)).trans o3 _ (fun z h => h) (fun z hz => by rw [List.mem_singleton.mp hz]; exact List.mem_cons_of_mem _ List.mem_cons_self)
  have m1 : u.lf x = t.rt y := by rw [e3, e2]; exact l1
  have m2 : u.rt x = t.rt x := by rw [e3, e2]; exact l2
  have m3 : u.lf y = t.lf y := by rw [e3, e2]; exact l3
  have m4 : u.rt y = x := by rw [e3, e2]; exact l4
  have hvl : u.vl = t.vl := oT.1.2.1
  have ux := o3.2 x (fun q => hxy (List.mem_singleton.mp q))
  have b2 : Sub u n2 (t.rt y) B hb := sub_like (oT.like (in2 dB)) s2
  have c2 : Sub u n3 (t.rt x) C hc := sub_like (oT.like (in2 dC)) s3
  have low : Bal u x B.length C.length hb hc → Sub u (max n2 n3 + 1) x (B ++ x :: C) (max hb hc + 1) := fun hb1 => by
    refine sub_mk h0 (by rw [m1]; exact b2) (by rw [m2]; exact c2) (ux.2.2.1.trans r1) (ux.2.2.2.1.trans r2) (ux.2.2.2.2.trans ?_) hb1
    rw [r3, hvl, o1.1.2.1]
  refine ⟨oT, m3, m4, m1, m2, fun hb1 => sub_up (low hb1) (by rw [List.length_append, List.length_cons]; omega), fun hb1 hb2 => ?_⟩
  have a2 : Sub u n1 (t.lf y) A ha := sub_like (oT.like (in2 dA)) s1
  have sx := low hb1
  -- x below y in t2
  have sx2 : Sub t2 (max n2 n3 + 1) x (B ++ x :: C) (max hb hc + 1) := by
    have hk : t2.kd = u.kd := o3.1.2.2.2.2.2.2.2.2.symm
    refine sub_like (t := u) ⟨hk, fun z hz => ?_⟩ sx
    have hzy : z ∉ [y] := fun q => by
      have q := List.mem_singleton.mp q
      rcases List.mem_append.mp hz with h | h
      · exact (dB z h).2 q
      · rcases List.mem_cons.mp h with h | h
        · exact hxy (h.symm.trans q)
        · exact (dC z h).2 q
    obtain ⟨c1, c2, c3, c4, c5⟩ := o3.2 z hzy
    exact ⟨c1.symm, c2.symm, c3.symm, c4.symm, c5.symm, by rw [o3.1.1], by rw [o3.1.2.1]⟩
  have a3 : Sub t2 n1 (t.lf y) A ha := sub_like (o2.like (in1 dA)) a1
  obtain ⟨v1, v2, v3⟩ := refresh_x z2 (x := y) (A := A) (B := B ++ x :: C) (by rw [show t2.lf y = t.lf y by rw [e2]; exact l3]; exact a3) (by rw [show t2.rt y = x by rw [e2]; exact l4]; exact sx2) (by rw [List.length_append, List.length_cons]; omega)
  rw [← e3] at v1 v2 v3
  refine sub_up (sub_mk hy (by rw [m3]; exact a2) (by rw [m4]; exact sx) v1 v2 ?_ ?_) ?_
  · rw [v3, hvl, o2.1.2.1, o1.1.2.1]
  · rw [List.length_append, List.length_cons]
    exact hb2
  · simp only [List.length_append, List.length_cons]
    omega
/-- raiseRight: y = right of x comes up -/
theorem rotR {t : TS} (hz : Zero t) {x n1 n2 n3 ha hb hc : Nat} {A B C : List Nat} (h0 : x ≠ 0) (hy : t.rt x ≠ 0) (s1 : Sub t n1 (t.lf x) A ha) (s2 : Sub t n2 (t.lf (t.rt x)) B hb) (s3 : Sub t n3 (t.rt (t.rt x)) C hc) (hn : ((A ++ x :: B) ++ t.rt x :: C).Nodup) (hl : A.length + B.length + C.length + 2 ≤ 60) :
    Off t (f_raiseRight t x) [x, t.rt x] ∧ (f_raiseRight t x).rt (t.rt x) = t.rt (t.rt x) ∧ (f_raiseRight t x).lf (t.rt x) = x ∧ (f_raiseRight t x).rt x = t.lf (t.rt x) ∧ (f_raiseRight t x).lf x = t.lf x ∧
    (Bal (f_raiseRight t x) x A.length B.length ha hb → Sub (f_raiseRight t x) 60 x (A ++ x :: B) (max ha hb + 1)) ∧
    (Bal (f_raiseRight t x) x A.length B.length ha hb → Bal (f_raiseRight t x) (t.rt x) (A.length + B.length + 1) C.length (max ha hb + 1) hc → Sub (f_raiseRight t x) 60 (t.rt x) ((A ++ x :: B) ++ t.rt x :: C) (max (max ha hb + 1) hc + 1)) := by
  obtain ⟨dA, dB, dC, hyx⟩ := nd_parts hn
  generalize hye : t.rt x = y at *
  have hxy : x ≠ y := fun q => hyx q.symm
  obtain ⟨t1, e1⟩ : ∃ v, v = setLf (setRt t x (t.lf y)) y x := ⟨_, rfl⟩
  have eu : f_raiseRight t x = f_refresh (f_refresh t1 x) y := by rw [e1]; unfold f_raiseRight; rw [hye]
  have o1 : Off t t1 [x, y] := by
    rw [e1]
    exact (off_setRt t x (t.lf y)).trans (off_setLf _ y x) _ (fun z hz => by rw [List.mem_singleton.mp hz]; exact List.mem_cons_self) (fun z hz => by rw [List.mem_singleton.mp hz]; exact List.mem_cons_of_mem _ List.mem_cons_self)
  have l1 : t1.rt x = t.lf y := by rw [e1]; exact up_eq
  have l2 : t1.lf x = t.lf x := by rw [e1]; exact up_ne hxy
  have l3 : t1.rt y = t.rt y := by rw [e1]; exact up_ne hyx
  have l4 : t1.lf y = x := by rw [e1]; exact up_eq
  have in2 : ∀ {L : List Nat}, (∀ z ∈ L, z ≠ y ∧ z ≠ x) → ∀ z ∈ L, z ∉ [x, y] := fun h z hz q => by
    rcases List.mem_cons.mp q with q | q
    · exact (h z hz).2 q
    · exact (h z hz).1 (List.mem_singleton.mp q)
  have z1 : Zero t1 := o1.zero (fun q => by
    rcases List.mem_cons.mp q with q | q
    · exact h0 q.symm
    · exact hy (List.mem_singleton.mp q).symm) hz
  have a1 : Sub t1 n1 (t.lf x) A ha := sub_like (o1.like (in2 dA)) s1
  have b1 : Sub t1 n2 (t.lf y) B hb := sub_like (o1.like (in2 dB)) s2
  have c1 : Sub t1 n3 (t.rt y) C hc := sub_like (o1.like (in2 dC)) s3
  obtain ⟨t2, e2⟩ : ∃ v, v = f_refresh t1 x := ⟨_, rfl⟩
  have o2 : Off t1 t2 [x] := by rw [e2]; exact off_refresh t1 x
  have in1 : ∀ {L : List Nat}, (∀ z ∈ L, z ≠ y ∧ z ≠ x) → ∀ z ∈ L, z ∉ [x] := fun h z hz q => (h z hz).2 (List.mem_singleton.mp q)
  have z2 : Zero t2 := o2.zero (fun q => h0 (List.mem_singleton.mp q).symm) z1
  obtain ⟨r1, r2, r3⟩ := refresh_x z1 (x := x) (by rw [l2]; exact a1) (by rw [l1]; exact b1) (by omega)
  rw [← e2] at r1 r2 r3
  obtain ⟨u, e3⟩ : ∃ v, v = f_refresh t2 y := ⟨_, rfl⟩
  have o3 : Off t2 u [y] := by rw [e3]; exact off_refresh t2 y
  have euu : f_raiseRight t x = u := by rw [eu, ← e2, ← e3]
  rw [euu]
  have oT : Off t u [x, y] := (o1.trans o2 [x, y] (fun z h => h) (fun z hz => by rw [List.mem_singleton.mp hz]; exact List.mem_cons_self)).trans o3 _ (fun z h => h) (fun z hz => by rw [List.mem_singleton.mp hz]; exact List.mem_cons_of_mem _ List.mem_cons_self)
  have m1 : u.rt x = t.lf y := by rw [e3, e2]; exact l1
  have m2 : u.lf x = t.lf x := by rw [e3, e2]; exact l2
  have m3 : u.rt y = t.rt y := by rw [e3, e2]; exact l3
  have m4 : u.lf y = x := by rw [e3, e2]; exact l4
  have hvl : u.vl = t.vl := oT.1.2.1
  have ux := o3.2 x (fun q => hxy (List.mem_singleton.mp q))
  have a2 : Sub u n1 (t.lf x) A ha := sub_like (oT.like (in2 dA)) s1
  have b2 : Sub u n2 (t.lf y) B hb := sub_like (oT.like (in2 dB)) s2
  have low : Bal u x A.length B.length ha hb → Sub u (max n1 n2 + 1) x (A ++ x :: B) (max ha hb + 1) := fun hb1 => by
    refine sub_mk h0 (by rw [m2]; exact a2) (by rw [m1]; exact b2) (ux.2.2.1.trans r1) (ux.2.2.2.1.trans r2) (ux.2.2.2.2.trans ?_) hb1
    rw [r3, hvl, o1.1.2.1]
  refine ⟨oT, m3, m4, m1, m2, fun hb1 => sub_up (low hb1) (by rw [List.length_append, List.length_cons]; omega), fun hb1 hb2 => ?_⟩
  have c2 : Sub u n3 (t.rt y) C hc := sub_like (oT.like (in2 dC)) s3
  have sx := low hb1
  have sx2 : Sub t2 (max n1 n2 + 1) x (A ++ x :: B) (max ha hb + 1) := by
    have hk : t2.kd = u.kd := o3.1.2.2.2.2.2.2.2.2.symm
    refine sub_like (t := u) ⟨hk, fun z hz => ?_⟩ sx
    have hzy : z ∉ [y] := fun q => by
      have q := List.mem_singleton.mp q
      rcases List.mem_append.mp hz with h | h
      · exact (dA z h).1 q
      · rcases List.mem_cons.mp h with h | h
        · exact hxy (h.symm.trans q)
        · exact (dB z h).1 q
    obtain ⟨c1, c2, c3, c4, c5⟩ := o3.2 z hzy
    exact ⟨c1.symm, c2.symm, c3.symm, c4.symm, c5.symm, by rw [o3.1.1], by rw [o3.1.2.1]⟩
  have c3 : Sub t2 n3 (t.rt y) C hc := sub_like (o2.like (in1 dC)) c1
  obtain ⟨v1, v2, v3⟩ := refresh_x z2 (x := y) (A := A ++ x :: B) (B := C) (by rw [show t2.lf y = x by rw [e2]; exact l4]; exact sx2) (by rw [show t2.rt y = t.rt y by rw [e2]; exact l3]; exact c3) (by rw [List.length_append, List.length_cons]; omega)
  rw [← e3] at v1 v2 v3
  refine sub_up (sub_mk hy (by rw [m4]; exact sx) (by rw [m3]; exact c2) v1 v2 ?_ ?_) ?_
  · rw [v3, hvl, o2.1.2.1, o1.1.2.1]
  · rw [List.length_append, List.length_cons]
    exact hb2
  · simp only [List.length_append, List.length_cons]
    omega
