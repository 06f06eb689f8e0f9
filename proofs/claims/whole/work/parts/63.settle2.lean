/-! settle of the kinds by heights and by weights -/
theorem bal_num {t u : TS} {x y a b ha hb : Nat} (hk : u.kd = t.kd) (h2 : t.kd < 2) (h : Bal t x a b ha hb) : Bal u y a b ha hb := by
  unfold Bal at h ⊢
  rw [hk]
  by_cases h0 : t.kd = 0
  · rw [if_pos h0] at h ⊢; exact h
  · rw [if_neg h0] at h ⊢
    rw [if_pos (by omega)] at h ⊢
    exact h
/-- one raise: the left side's top l comes up -/
theorem single_L {t : TS} (hz : Zero t) {x n m h1 h2 hb : Nat} {A1 A2 B : List Nat} (h0 : x ≠ 0) (hy : t.lf x ≠ 0) (s1 : Sub t n (t.lf (t.lf x)) A1 h1) (s2 : Sub t n (t.rt (t.lf x)) A2 h2) (s3 : Sub t m (t.rt x) B hb) (hn : ((A1 ++ t.lf x :: A2) ++ x :: B).Nodup) (hl : ((A1 ++ t.lf x :: A2) ++ x :: B).length ≤ 60) (hk : t.kd < 2)
    (b1 : Bal t x A2.length B.length h2 hb) (b2 : Bal t x A1.length (A2.length + B.length + 1) h1 (max h2 hb + 1)) :
    Off t (f_raiseLeft t x) ((A1 ++ t.lf x :: A2) ++ x :: B) ∧ Sub (f_raiseLeft t x) 60 (t.lf x) ((A1 ++ t.lf x :: A2) ++ x :: B) (max h1 (max h2 hb + 1) + 1) := by
  have hl2 : A1.length + A2.length + B.length + 2 ≤ 60 := by
    simp only [List.length_append, List.length_cons] at hl; omega
  obtain ⟨o, m1, m2, m3, m4, lo, top⟩ := rotL hz h0 hy s1 s2 s3 hn hl2
  have hkd : (f_raiseLeft t x).kd = t.kd := o.1.2.2.2.2.2.2.2.2
  refine ⟨o.wide _ (fun z hz => ?_), ?_⟩
  · rcases List.mem_cons.mp hz with q | q
    · rw [q]; exact List.mem_append_right _ List.mem_cons_self
    · rw [List.mem_singleton.mp q]; exact List.mem_append_left _ (List.mem_append_right _ List.mem_cons_self)
  · rw [List.append_assoc, List.cons_append]
    exact top (bal_num hkd hk b1) (bal_num hkd hk b2)
/-- two raises: the inner top r comes up -/
theorem double_L {t : TS} (hz : Zero t) {x n m h1 g1 g2 hb : Nat} {A1 C1 C2 B : List Nat} (h0 : x ≠ 0) (hy : t.lf x ≠ 0) (hr : t.rt (t.lf x) ≠ 0) (s1 : Sub t n (t.lf (t.lf x)) A1 h1) (s2 : Sub t n (t.lf (t.rt (t.lf x))) C1 g1) (s3 : Sub t n (t.rt (t.rt (t.lf x))) C2 g2) (s4 : Sub t m (t.rt x) B hb)
    (hn : ((A1 ++ t.lf x :: (C1 ++ t.rt (t.lf x) :: C2)) ++ x :: B).Nodup) (hl : ((A1 ++ t.lf x :: (C1 ++ t.rt (t.lf x) :: C2)) ++ x :: B).length ≤ 60) (hk : t.kd < 2)
    (b1 : Bal t x A1.length C1.length h1 g1) (b2 : Bal t x C2.length B.length g2 hb) (b3 : Bal t x (A1.length + C1.length + 1) (C2.length + B.length + 1) (max h1 g1 + 1) (max g2 hb + 1)) :
    (setLf (f_raiseRight t (t.lf x)) x (t.rt (t.lf x))).lf x = t.rt (t.lf x) ∧
    Off t (f_raiseLeft (setLf (f_raiseRight t (t.lf x)) x (t.rt (t.lf x))) x) ((A1 ++ t.lf x :: (C1 ++ t.rt (t.lf x) :: C2)) ++ x :: B) ∧ Sub (f_raiseLeft (setLf (f_raiseRight t (t.lf x)) x (t.rt (t.lf x))) x) 60 (t.rt (t.lf x)) ((A1 ++ t.lf x :: (C1 ++ t.rt (t.lf x) :: C2)) ++ x :: B) (max (max h1 g1 + 1) (max g2 hb + 1) + 1) := by
  have hl2 : A1.length + C1.length + C2.length + B.length + 3 ≤ 60 := by
    simp only [List.length_append, List.length_cons] at hl; omega
  have eL : (A1 ++ t.lf x :: (C1 ++ t.rt (t.lf x) :: C2)) ++ x :: B = ((A1 ++ t.lf x :: C1) ++ t.rt (t.lf x) :: C2) ++ x :: B := by
    simp only [List.append_assoc, List.cons_append]
  rw [eL] at hn hl ⊢
  generalize hle : t.lf x = l at *
  generalize hre : t.rt l = r at *
  have hnA : ((A1 ++ l :: C1) ++ r :: C2).Nodup := (List.nodup_append.mp hn).1
  obtain ⟨dA, dC1, dC2, hrl⟩ := nd_parts hnA
  obtain ⟨eAl, eC2, eB, hxr⟩ := nd_parts hn
  have hxl : x ≠ l := fun q => (eAl l (List.mem_append_right _ List.mem_cons_self)).1 q.symm
  obtain ⟨o1, p1, p2, p3, p4, lo, _⟩ := rotR hz (x := l) hy (by rw [hre]; exact hr) s1 (by rw [hre]; exact s2) (by rw [hre]; exact s3) (by rw [hre]; exact hnA) (by omega)
  rw [hre] at o1 p1 p2 p3
  generalize ht1 : f_raiseRight t l = t1 at *
  have k1 : t1.kd = t.kd := o1.1.2.2.2.2.2.2.2.2
  have sl : Sub t1 60 l (A1 ++ l :: C1) (max h1 g1 + 1) := lo (bal_num k1 hk b1)
  obtain ⟨t2, e2⟩ : ∃ v, v = setLf t1 x r := ⟨_, rfl⟩
  rw [← e2]
  have o2 : Off t1 t2 [x] := by rw [e2]; exact off_setLf t1 x r
  have q1 : t2.lf x = r := by rw [e2]; exact up_eq
  have q2 : t2.rt x = t.rt x := by
    rw [e2]
    exact (o1.2 x (fun q => by
      rcases List.mem_cons.mp q with q | q
      · exact hxl q
      · exact hxr (List.mem_singleton.mp q))).2.1
  have q3 : t2.lf r = l := by rw [e2]; exact (up_ne (fun q => hxr q.symm)).trans p2
  have q4 : t2.rt r = t.rt r := by rw [e2]; exact p1
  have no2 : ∀ {L : List Nat}, (∀ z ∈ L, z ≠ x) → ∀ z ∈ L, z ∉ [x] := fun h z hz q => h z hz (List.mem_singleton.mp q)
  have nolr : ∀ {L : List Nat}, (∀ z ∈ L, z ≠ r ∧ z ≠ l) → ∀ z ∈ L, z ∉ [l, r] := fun h z hz q => by
    rcases List.mem_cons.mp q with q | q
    · exact (h z hz).2 q
    · exact (h z hz).1 (List.mem_singleton.mp q)
  have z1 : Zero t1 := o1.zero (fun q => by
    rcases List.mem_cons.mp q with q | q
    · exact hy q.symm
    · exact hr (List.mem_singleton.mp q).symm) hz
  have z2 : Zero t2 := o2.zero (fun q => h0 (List.mem_singleton.mp q).symm) z1
  have u1 : Sub t2 60 l (A1 ++ l :: C1) (max h1 g1 + 1) := sub_like (o2.like (no2 (fun z hz => (eAl z hz).1))) sl
  have dC2' : ∀ z ∈ C2, z ≠ r ∧ z ≠ l := fun z hz => ⟨(dC2 z hz).1, (dC2 z hz).2⟩
  have u2 : Sub t2 n (t.rt r) C2 g2 := sub_like (o2.like (no2 (fun z hz => (eC2 z hz).1))) (sub_like (o1.like (nolr dC2')) s3)
  have dB' : ∀ z ∈ B, z ≠ r ∧ z ≠ l := fun z hz => ⟨(eB z hz).2, fun q => by
    have h9 := (List.nodup_append.mp hn).2.2 l (List.mem_append_left _ (List.mem_append_right _ List.mem_cons_self)) z (List.mem_cons_of_mem _ hz)
    exact h9 q.symm⟩
  have u3 : Sub t2 m (t.rt x) B hb := sub_like (o2.like (no2 (fun z hz => (eB z hz).1))) (sub_like (o1.like (nolr dB')) s4)
  have k2 : t2.kd = t.kd := (o2.1.2.2.2.2.2.2.2.2).trans k1
  obtain ⟨o3, v1, v2, v3, v4, _, top⟩ := rotL z2 (x := x) h0 (by rw [q1]; exact hr) (by rw [q1, q3]; exact u1) (by rw [q1, q4]; exact u2) (by rw [q2]; exact u3) (by rw [q1]; exact hn) (by rw [List.length_append, List.length_cons]; omega)
  rw [q1] at o3 top
  have k3 : (f_raiseLeft t2 x).kd = t.kd := (o3.1.2.2.2.2.2.2.2.2).trans k2
  refine ⟨q1, ?_, ?_⟩
  · have mx : x ∈ ((A1 ++ l :: C1) ++ r :: C2) ++ x :: B := List.mem_append_right _ List.mem_cons_self
    have mr : r ∈ ((A1 ++ l :: C1) ++ r :: C2) ++ x :: B := List.mem_append_left _ (List.mem_append_right _ List.mem_cons_self)
    have ml : l ∈ ((A1 ++ l :: C1) ++ r :: C2) ++ x :: B := List.mem_append_left _ (List.mem_append_left _ (List.mem_append_right _ List.mem_cons_self))
    refine (o1.trans o2 [x, l, r] (fun z hz => List.mem_cons_of_mem _ hz) (fun z hz => by rw [List.mem_singleton.mp hz]; exact List.mem_cons_self)).trans o3 _ (fun z hz => ?_) (fun z hz => ?_)
    · rcases List.mem_cons.mp hz with q | q
      · rw [q]; exact mx
      · rcases List.mem_cons.mp q with q | q
        · rw [q]; exact ml
        · rw [List.mem_singleton.mp q]; exact mr
    · rcases List.mem_cons.mp hz with q | q
      · rw [q]; exact mx
      · rw [List.mem_singleton.mp q]; exact mr
  · rw [List.append_assoc, List.cons_append]
    refine top (bal_num k3 hk b2) ?_
    rw [List.length_append, List.length_cons]
    exact bal_num k3 hk b3
