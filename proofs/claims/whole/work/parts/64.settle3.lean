theorem single_R {t : TS} (hz : Zero t) {x n m ha h1 h2 : Nat} {A B1 B2 : List Nat} (h0 : x ≠ 0) (hy : t.rt x ≠ 0) (s1 : Sub t m (t.lf x) A ha) (s2 : Sub t n (t.lf (t.rt x)) B1 h1) (s3 : Sub t n (t.rt (t.rt x)) B2 h2) (hn : (A ++ x :: (B1 ++ t.rt x :: B2)).Nodup) (hl : (A ++ x :: (B1 ++ t.rt x :: B2)).length ≤ 60) (hk : t.kd < 2)
    (b1 : Bal t x A.length B1.length ha h1) (b2 : Bal t x (A.length + B1.length + 1) B2.length (max ha h1 + 1) h2) :
    Off t (f_raiseRight t x) (A ++ x :: (B1 ++ t.rt x :: B2)) ∧ Sub (f_raiseRight t x) 60 (t.rt x) (A ++ x :: (B1 ++ t.rt x :: B2)) (max (max ha h1 + 1) h2 + 1) := by
  have eL : A ++ x :: (B1 ++ t.rt x :: B2) = (A ++ x :: B1) ++ t.rt x :: B2 := by simp only [List.append_assoc, List.cons_append]
  rw [eL] at hn hl ⊢
  have hl2 : A.length + B1.length + B2.length + 2 ≤ 60 := by
    simp only [List.length_append, List.length_cons] at hl; omega
  obtain ⟨o, m1, m2, m3, m4, lo, top⟩ := rotR hz h0 hy s1 s2 s3 hn hl2
  have hkd : (f_raiseRight t x).kd = t.kd := o.1.2.2.2.2.2.2.2.2
  refine ⟨o.wide _ (fun z hz => ?_), top (bal_num hkd hk b1) (bal_num hkd hk b2)⟩
  rcases List.mem_cons.mp hz with q | q
  · rw [q]; exact List.mem_append_left _ (List.mem_append_right _ List.mem_cons_self)
  · rw [List.mem_singleton.mp q]; exact List.mem_append_right _ List.mem_cons_self
theorem double_R {t : TS} (hz : Zero t) {x n m h1 g1 g2 hb : Nat} {A1 C1 C2 B : List Nat} (h0 : x ≠ 0) (hy : t.rt x ≠ 0) (hr : t.lf (t.rt x) ≠ 0) (s1 : Sub t n (t.rt (t.rt x)) A1 h1) (s2 : Sub t n (t.lf (t.lf (t.rt x))) C1 g1) (s3 : Sub t n (t.rt (t.lf (t.rt x))) C2 g2) (s4 : Sub t m (t.lf x) B hb)
    (hn : (B ++ x :: ((C1 ++ t.lf (t.rt x) :: C2) ++ t.rt x :: A1)).Nodup) (hl : (B ++ x :: ((C1 ++ t.lf (t.rt x) :: C2) ++ t.rt x :: A1)).length ≤ 60) (hk : t.kd < 2)
    (b1 : Bal t x C2.length A1.length g2 h1) (b2 : Bal t x B.length C1.length hb g1) (b3 : Bal t x (B.length + C1.length + 1) (C2.length + A1.length + 1) (max hb g1 + 1) (max g2 h1 + 1)) :
    (setRt (f_raiseLeft t (t.rt x)) x (t.lf (t.rt x))).rt x = t.lf (t.rt x) ∧
    Off t (f_raiseRight (setRt (f_raiseLeft t (t.rt x)) x (t.lf (t.rt x))) x) (B ++ x :: ((C1 ++ t.lf (t.rt x) :: C2) ++ t.rt x :: A1)) ∧ Sub (f_raiseRight (setRt (f_raiseLeft t (t.rt x)) x (t.lf (t.rt x))) x) 60 (t.lf (t.rt x)) (B ++ x :: ((C1 ++ t.lf (t.rt x) :: C2) ++ t.rt x :: A1)) (max (max hb g1 + 1) (max g2 h1 + 1) + 1) := by
  have hl2 : A1.length + C1.length + C2.length + B.length + 3 ≤ 60 := by
    simp only [List.length_append, List.length_cons] at hl; omega
  have eL : B ++ x :: ((C1 ++ t.lf (t.rt x) :: C2) ++ t.rt x :: A1) = (B ++ x :: C1) ++ t.lf (t.rt x) :: (C2 ++ t.rt x :: A1) := by
    simp only [List.append_assoc, List.cons_append]
  have hnA : ((C1 ++ t.lf (t.rt x) :: C2) ++ t.rt x :: A1).Nodup := (List.nodup_cons.mp (List.nodup_append.mp hn).2.1).2
  rw [eL] at hn hl ⊢
  generalize hle : t.rt x = l at *
  generalize hre : t.lf l = r at *
  obtain ⟨dC1, dC2, dA, hlr⟩ := nd_parts hnA
  obtain ⟨eB, eC1, eR, hrx⟩ := nd_parts hn
  have hxr : x ≠ r := fun q => hrx q.symm
  have hxl : x ≠ l := fun q => (eR l (List.mem_append_right _ List.mem_cons_self)).2 q.symm
  obtain ⟨o1, p1, p2, p3, p4, lo, _⟩ := rotL hz (x := l) hy (by rw [hre]; exact hr) (by rw [hre]; exact s2) (by rw [hre]; exact s3) s1 (by rw [hre]; exact hnA) (by omega)
  rw [hre] at o1 p1 p2 p3
  generalize ht1 : f_raiseLeft t l = t1 at *
  have k1 : t1.kd = t.kd := o1.1.2.2.2.2.2.2.2.2
  have sl : Sub t1 60 l (C2 ++ l :: A1) (max g2 h1 + 1) := lo (bal_num k1 hk b1)
  obtain ⟨t2, e2⟩ : ∃ v, v = setRt t1 x r := ⟨_, rfl⟩
  rw [← e2]
  have o2 : Off t1 t2 [x] := by rw [e2]; exact off_setRt t1 x r
  have q1 : t2.rt x = r := by rw [e2]; exact up_eq
  have q2 : t2.lf x = t.lf x := by
    rw [e2]
    exact (o1.2 x (fun q => by
      rcases List.mem_cons.mp q with q | q
      · exact hxl q
      · exact hxr (List.mem_singleton.mp q))).1
  have q3 : t2.rt r = l := by rw [e2]; exact (up_ne hrx).trans p2
  have q4 : t2.lf r = t.lf r := by rw [e2]; exact p1
  have no2 : ∀ {L : List Nat}, (∀ z ∈ L, z ≠ x) → ∀ z ∈ L, z ∉ [x] := fun h z hz q => h z hz (List.mem_singleton.mp q)
  have nolr : ∀ {L : List Nat}, (∀ z ∈ L, z ≠ l ∧ z ≠ r) → ∀ z ∈ L, z ∉ [l, r] := fun h z hz q => by
    rcases List.mem_cons.mp q with q | q
    · exact (h z hz).1 q
    · exact (h z hz).2 (List.mem_singleton.mp q)
  have z1 : Zero t1 := o1.zero (fun q => by
    rcases List.mem_cons.mp q with q | q
    · exact hy q.symm
    · exact hr (List.mem_singleton.mp q).symm) hz
  have z2 : Zero t2 := o2.zero (fun q => h0 (List.mem_singleton.mp q).symm) z1
  have u1 : Sub t2 60 l (C2 ++ l :: A1) (max g2 h1 + 1) := sub_like (o2.like (no2 (fun z hz => (eR z hz).2))) sl
  have u2 : Sub t2 n (t.lf r) C1 g1 := sub_like (o2.like (no2 (fun z hz => (eC1 z hz).2))) (sub_like (o1.like (nolr dC1)) s2)
  have dB' : ∀ z ∈ B, z ≠ l ∧ z ≠ r := fun z hz => ⟨(List.nodup_append.mp hn).2.2 z (List.mem_append_left _ hz) l (List.mem_cons_of_mem _ (List.mem_append_right _ List.mem_cons_self)), (eB z hz).1⟩
  have u3 : Sub t2 m (t.lf x) B hb := sub_like (o2.like (no2 (fun z hz => (eB z hz).2))) (sub_like (o1.like (nolr dB')) s4)
  have k2 : t2.kd = t.kd := (o2.1.2.2.2.2.2.2.2.2).trans k1
  obtain ⟨o3, v1, v2, v3, v4, _, top⟩ := rotR z2 (x := x) h0 (by rw [q1]; exact hr) (by rw [q2]; exact u3) (by rw [q1, q4]; exact u2) (by rw [q1, q3]; exact u1) (by rw [q1]; exact hn) (by rw [List.length_append, List.length_cons]; omega)
  rw [q1] at o3 top
  have k3 : (f_raiseRight t2 x).kd = t.kd := (o3.1.2.2.2.2.2.2.2.2).trans k2
  refine ⟨q1, ?_, ?_⟩
  · have mx : x ∈ (B ++ x :: C1) ++ r :: (C2 ++ l :: A1) := List.mem_append_left _ (List.mem_append_right _ List.mem_cons_self)
    have mr : r ∈ (B ++ x :: C1) ++ r :: (C2 ++ l :: A1) := List.mem_append_right _ List.mem_cons_self
    have ml : l ∈ (B ++ x :: C1) ++ r :: (C2 ++ l :: A1) := List.mem_append_right _ (List.mem_cons_of_mem _ (List.mem_append_right _ List.mem_cons_self))
    refine (o1.trans o2 [x, l, r] (fun z hz => List.mem_cons_of_mem _ hz) (fun z hz => by rw [List.mem_singleton.mp hz]; exact List.mem_cons_self)).trans o3 _ (fun z hz => ?_) (fun z hz => ?_)
    · rcases List.mem_cons.mp hz with q | q
      · rw [q]; exact mx
      · rcases List.mem_cons.mp q with q | q
        · rw [q]; exact ml
        · rw [List.mem_singleton.mp q]; exact mr
    · rcases List.mem_cons.mp hz with q | q
      · rw [q]; exact mx
      · rw [List.mem_singleton.mp q]; exact mr
  · refine top (bal_num k3 hk b2) ?_
    rw [List.length_append, List.length_cons]
    exact bal_num k3 hk b3
