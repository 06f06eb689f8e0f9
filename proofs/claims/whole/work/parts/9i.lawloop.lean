theorem po0 {α : Type} {x k o q m0 m1 m2 : List α} : (((m1 ++ m2) ++ (((x ++ k) ++ m0) ++ o)) ++ q).Perm (((m1 ++ m2) ++ q) ++ (((x ++ k) ++ m0) ++ o)) := by
  classical exact List.perm_iff_count.mpr (fun y => by simp only [List.count_append]; omega)
theorem pi1 {α : Type} {x k o q m0 m1 m2 : List α} : (((m1 ++ m2) ++ q) ++ (((x ++ k) ++ m0) ++ o)).Perm (((m0 ++ m2) ++ q) ++ (((x ++ k) ++ m1) ++ o)) := by
  classical exact List.perm_iff_count.mpr (fun y => by simp only [List.count_append]; omega)
theorem po1 {α : Type} {x k o q m0 m1 m2 : List α} : (((m0 ++ m2) ++ (((x ++ k) ++ m1) ++ o)) ++ q).Perm (((m1 ++ m2) ++ q) ++ (((x ++ k) ++ m0) ++ o)) := by
  classical exact List.perm_iff_count.mpr (fun y => by simp only [List.count_append]; omega)
theorem pi2 {α : Type} {x k o q m0 m1 m2 : List α} : (((m1 ++ m2) ++ q) ++ (((x ++ k) ++ m0) ++ o)).Perm (((m0 ++ m1) ++ q) ++ (((x ++ k) ++ m2) ++ o)) := by
  classical exact List.perm_iff_count.mpr (fun y => by simp only [List.count_append]; omega)
theorem po2 {α : Type} {x k o q m0 m1 m2 : List α} : (((m0 ++ m1) ++ (((x ++ k) ++ m2) ++ o)) ++ q).Perm (((m1 ++ m2) ++ q) ++ (((x ++ k) ++ m0) ++ o)) := by
  classical exact List.perm_iff_count.mpr (fun y => by simp only [List.count_append]; omega)
theorem pj01 {α : Type} {x k o q m0 m1 m2 : List α} : (((m1 ++ m2) ++ q) ++ (((x ++ k) ++ m0) ++ o)).Perm ((m2 ++ q) ++ ((((x ++ k) ++ m0) ++ m1) ++ o)) := by
  classical exact List.perm_iff_count.mpr (fun y => by simp only [List.count_append]; omega)
theorem pq01 {α : Type} {x k o q m0 m1 m2 : List α} : ((m2 ++ ((((x ++ k) ++ m0) ++ m1) ++ o)) ++ q).Perm (((m1 ++ m2) ++ q) ++ (((x ++ k) ++ m0) ++ o)) := by
  classical exact List.perm_iff_count.mpr (fun y => by simp only [List.count_append]; omega)
theorem pj02 {α : Type} {x k o q m0 m1 m2 : List α} : (((m1 ++ m2) ++ q) ++ (((x ++ k) ++ m0) ++ o)).Perm ((m1 ++ q) ++ ((((x ++ k) ++ m0) ++ m2) ++ o)) := by
  classical exact List.perm_iff_count.mpr (fun y => by simp only [List.count_append]; omega)
theorem pq02 {α : Type} {x k o q m0 m1 m2 : List α} : ((m1 ++ ((((x ++ k) ++ m0) ++ m2) ++ o)) ++ q).Perm (((m1 ++ m2) ++ q) ++ (((x ++ k) ++ m0) ++ o)) := by
  classical exact List.perm_iff_count.mpr (fun y => by simp only [List.count_append]; omega)
theorem pj10 {α : Type} {x k o q m0 m1 m2 : List α} : (((m1 ++ m2) ++ q) ++ (((x ++ k) ++ m0) ++ o)).Perm ((m2 ++ q) ++ ((((x ++ k) ++ m1) ++ m0) ++ o)) := by
  classical exact List.perm_iff_count.mpr (fun y => by simp only [List.count_append]; omega)
theorem pq10 {α : Type} {x k o q m0 m1 m2 : List α} : ((m2 ++ ((((x ++ k) ++ m1) ++ m0) ++ o)) ++ q).Perm (((m1 ++ m2) ++ q) ++ (((x ++ k) ++ m0) ++ o)) := by
  classical exact List.perm_iff_count.mpr (fun y => by simp only [List.count_append]; omega)
theorem pj12 {α : Type} {x k o q m0 m1 m2 : List α} : (((m1 ++ m2) ++ q) ++ (((x ++ k) ++ m0) ++ o)).Perm ((m0 ++ q) ++ ((((x ++ k) ++ m1) ++ m2) ++ o)) := by
  classical exact List.perm_iff_count.mpr (fun y => by simp only [List.count_append]; omega)
theorem pq12 {α : Type} {x k o q m0 m1 m2 : List α} : ((m0 ++ ((((x ++ k) ++ m1) ++ m2) ++ o)) ++ q).Perm (((m1 ++ m2) ++ q) ++ (((x ++ k) ++ m0) ++ o)) := by
  classical exact List.perm_iff_count.mpr (fun y => by simp only [List.count_append]; omega)
theorem pj20 {α : Type} {x k o q m0 m1 m2 : List α} : (((m1 ++ m2) ++ q) ++ (((x ++ k) ++ m0) ++ o)).Perm ((m1 ++ q) ++ ((((x ++ k) ++ m2) ++ m0) ++ o)) := by
  classical exact List.perm_iff_count.mpr (fun y => by simp only [List.count_append]; omega)
theorem pq20 {α : Type} {x k o q m0 m1 m2 : List α} : ((m1 ++ ((((x ++ k) ++ m2) ++ m0) ++ o)) ++ q).Perm (((m1 ++ m2) ++ q) ++ (((x ++ k) ++ m0) ++ o)) := by
  classical exact List.perm_iff_count.mpr (fun y => by simp only [List.count_append]; omega)
theorem pj21 {α : Type} {x k o q m0 m1 m2 : List α} : (((m1 ++ m2) ++ q) ++ (((x ++ k) ++ m0) ++ o)).Perm ((m0 ++ q) ++ ((((x ++ k) ++ m2) ++ m1) ++ o)) := by
  classical exact List.perm_iff_count.mpr (fun y => by simp only [List.count_append]; omega)
theorem pq21 {α : Type} {x k o q m0 m1 m2 : List α} : ((m0 ++ ((((x ++ k) ++ m2) ++ m1) ++ o)) ++ q).Perm (((m1 ++ m2) ++ q) ++ (((x ++ k) ++ m0) ++ o)) := by
  classical exact List.perm_iff_count.mpr (fun y => by simp only [List.count_append]; omega)

set_option maxHeartbeats 4000000 in
set_option maxRecDepth 100000 in
theorem disp1 {p : Program} {l : Launch} {e : Env} {s : State} {m : MethodId} {args : Array Value} {below : List Frame} {meth : Method} {c : Code} {H : Heap} {locs : List Loc} {Q : State → Prop} {ls : Array Slot} {D : va_G} {ca : Nat → ClassId} {A : Nat → Prop} {f kq bb : Nat → Nat} {ad : Nat → Nat → Nat} {g b i N cells slots : Nat} {q : QS} {ov : Nat → Int64} {pc : Nat} (mm : Int32) (z0 z1 z2 : MS) (h0 : Rel1 N z0 (ab q 0)) (h1 : Rel1 N z1 (ab q 1)) (h2 : Rel1 N z2 (ab q 2)) (hP : va_P D vwCl ((((wMp ca kq (ad 1) z1) ++ (wMp ca kq (ad 2) z2)) ++ (wQ ca bb q)) ++ ((wX ca f kq ad) ++ (wKd kq) ++ (wMp ca kq (ad 0) z0) ++ [(g, .inl (ca 1, 1, .inr (.inl ov)))])) H) (hD : va_D A ((((wMp ca kq (ad 1) z1) ++ (wMp ca kq (ad 2) z2)) ++ (wQ ca bb q)) ++ ((wX ca f kq ad) ++ (wKd kq) ++ (wMp ca kq (ad 0) z0) ++ [(g, .inl (ca 1, 1, .inr (.inl ov)))]))) (KB : ∀ (H : Heap) (locs : List Loc) (ls : Array Slot) (z0 z1 z2 : MS) (q9 : QS) (ov : Nat → Int64), WQ q9 → Rel1 (N + 61) z0 (ab q9 0) → Rel1 (N + 61) z1 (ab q9 1) → Rel1 (N + 61) z2 (ab q9 2) → va_P D vwCl ((((wMp ca kq (ad 1) z1) ++ (wMp ca kq (ad 2) z2)) ++ (wQ ca bb q9)) ++ ((wX ca f kq ad) ++ (wKd kq) ++ (wMp ca kq (ad 0) z0) ++ [(g, .inl (ca 1, 1, .inr (.inl ov)))])) H → va_D A ((((wMp ca kq (ad 1) z1) ++ (wMp ca kq (ad 2) z2)) ++ (wQ ca bb q9)) ++ ((wX ca f kq ad) ++ (wKd kq) ++ (wMp ca kq (ad 0) z0) ++ [(g, .inl (ca 1, 1, .inr (.inl ov)))])) → va_S A s.heap H locs → lv_has ls 8 [(4, .int (nI i)), (3, .ref g), (2, .ref (bb 0)), (1, .ref (f 0)), (0, .ref b)] → W p l e room_1 s m args below meth c H locs (cells + 3) (slots + 18) Q (F0 m 1507 ls [])) (Case : ∀ (wr : va_W) (j : Nat) (y0 : MS), j < 3 → (isB mm 3 = true → mm = nI j ∧ j < 3) → Rel1 N y0 (ab q j) → va_P D vwCl ((wr ++ (wQ ca bb q)) ++ ((wX ca f kq ad) ++ (wKd kq) ++ (wMp ca kq (ad j) y0) ++ [(g, .inl (ca 1, 1, .inr (.inl ov)))])) H → va_D A ((wr ++ (wQ ca bb q)) ++ ((wX ca f kq ad) ++ (wKd kq) ++ (wMp ca kq (ad j) y0) ++ [(g, .inl (ca 1, 1, .inr (.inl ov)))])) → (∀ (H : Heap) (locs : List Loc) (ls : Array Slot) (u : MO) (q9 : QS), WQ q9 → (∀ i, ¬ i = j → ab q9 i = ab q i) → Rel1 (N + 61) u.1 (ab q9 j) → va_P D vwCl ((wr ++ (wH ca f kq ad j g u)) ++ (wQ ca bb q9)) H → va_D A ((wr ++ (wH ca f kq ad j g u)) ++ (wQ ca bb q9)) → va_S A s.heap H locs → lv_has ls 8 [(4, .int (nI i)), (3, .ref g), (2, .ref (bb 0)), (1, .ref (f 0)), (0, .ref b)] → W p l e room_1 s m args below meth c H locs (cells + 3) (slots + 18) Q (F0 m 1507 ls [])) → W p l e room_1 s m args below meth c H locs cells slots Q (F0 m pc ls [])) : W p l e room_1 s m args below meth c H locs cells slots Q (F0 m pc ls []) := by
  obtain ⟨j, hj, hm⟩ := pick mm
  rcases (show j = 0 ∨ j = 1 ∨ j = 2 by omega) with rfl | rfl | rfl
  · exact Case ((wMp ca kq (ad 1) z1) ++ (wMp ca kq (ad 2) z2)) 0 z0 hj hm h0 hP hD (fun H locs ls u q9 hW ha hr hP hD hS hl => KB H locs ls u.1 z1 z2 q9 u.2 hW hr (by rw [ha 1 (by decide)]; exact rel_mono h1 (by omega)) (by rw [ha 2 (by decide)]; exact rel_mono h2 (by omega)) (va_P.perm hP po0) (va_D.perm hD po0) hS hl)
  · exact Case ((wMp ca kq (ad 0) z0) ++ (wMp ca kq (ad 2) z2)) 1 z1 hj hm h1 (hP.perm pi1) (hD.perm pi1) (fun H locs ls u q9 hW ha hr hP hD hS hl => KB H locs ls z0 u.1 z2 q9 u.2 hW (by rw [ha 0 (by decide)]; exact rel_mono h0 (by omega)) hr (by rw [ha 2 (by decide)]; exact rel_mono h2 (by omega)) (va_P.perm hP po1) (va_D.perm hD po1) hS hl)
  · exact Case ((wMp ca kq (ad 0) z0) ++ (wMp ca kq (ad 1) z1)) 2 z2 hj hm h2 (hP.perm pi2) (hD.perm pi2) (fun H locs ls u q9 hW ha hr hP hD hS hl => KB H locs ls z0 z1 u.1 q9 u.2 hW (by rw [ha 0 (by decide)]; exact rel_mono h0 (by omega)) (by rw [ha 1 (by decide)]; exact rel_mono h1 (by omega)) hr (va_P.perm hP po2) (va_D.perm hD po2) hS hl)

theorem pick2 (mm nn : Int32) : (∃ j k, j < 3 ∧ k < 3 ∧ ¬ j = k ∧ (isB mm 3 = true → mm = nI j ∧ j < 3) ∧ (isB nn 3 = true → nn = nI k ∧ k < 3)) ∨ (∃ j, j < 3 ∧ mm = nI j ∧ nn = nI j) := by
  have other : ∀ j : Nat, ∃ k, k < 3 ∧ ¬ j = k := fun j => by
    by_cases h : j = 0
    · exact ⟨1, by decide, by omega⟩
    · exact ⟨0, by decide, by omega⟩
  rcases isB3 mm with h | ⟨j, h1, h2⟩
  · obtain ⟨k, hk, hn⟩ := pick nn
    obtain ⟨j, hj, hne⟩ := other k
    exact Or.inl ⟨j, k, hj, hk, fun h => hne h.symm, (fun q => by rw [h] at q; cases q), hn⟩
  · rcases isB3 nn with g | ⟨k, g1, g2⟩
    · obtain ⟨k, hk, hne⟩ := other j
      exact Or.inl ⟨j, k, h1, hk, hne, fun _ => ⟨h2, h1⟩, (fun q => by rw [g] at q; cases q)⟩
    · by_cases e : j = k
      · subst e
        exact Or.inr ⟨j, h1, h2, g2⟩
      · exact Or.inl ⟨j, k, h1, g1, e, fun _ => ⟨h2, h1⟩, fun _ => ⟨g2, g1⟩⟩

set_option maxHeartbeats 4000000 in
set_option maxRecDepth 100000 in
theorem disp2 {p : Program} {l : Launch} {e : Env} {s : State} {m : MethodId} {args : Array Value} {below : List Frame} {meth : Method} {c : Code} {H : Heap} {locs : List Loc} {Q : State → Prop} {ls : Array Slot} {D : va_G} {ca : Nat → ClassId} {A : Nat → Prop} {f kq bb : Nat → Nat} {ad : Nat → Nat → Nat} {g b i N cells slots : Nat} {q : QS} {ov : Nat → Int64} {pc : Nat} (mm nn : Int32) (z0 z1 z2 : MS) (h0 : Rel1 N z0 (ab q 0)) (h1 : Rel1 N z1 (ab q 1)) (h2 : Rel1 N z2 (ab q 2)) (hP : va_P D vwCl ((((wMp ca kq (ad 1) z1) ++ (wMp ca kq (ad 2) z2)) ++ (wQ ca bb q)) ++ ((wX ca f kq ad) ++ (wKd kq) ++ (wMp ca kq (ad 0) z0) ++ [(g, .inl (ca 1, 1, .inr (.inl ov)))])) H) (hD : va_D A ((((wMp ca kq (ad 1) z1) ++ (wMp ca kq (ad 2) z2)) ++ (wQ ca bb q)) ++ ((wX ca f kq ad) ++ (wKd kq) ++ (wMp ca kq (ad 0) z0) ++ [(g, .inl (ca 1, 1, .inr (.inl ov)))]))) (KB : ∀ (H : Heap) (locs : List Loc) (ls : Array Slot) (z0 z1 z2 : MS) (q9 : QS) (ov : Nat → Int64), WQ q9 → Rel1 (N + 61) z0 (ab q9 0) → Rel1 (N + 61) z1 (ab q9 1) → Rel1 (N + 61) z2 (ab q9 2) → va_P D vwCl ((((wMp ca kq (ad 1) z1) ++ (wMp ca kq (ad 2) z2)) ++ (wQ ca bb q9)) ++ ((wX ca f kq ad) ++ (wKd kq) ++ (wMp ca kq (ad 0) z0) ++ [(g, .inl (ca 1, 1, .inr (.inl ov)))])) H → va_D A ((((wMp ca kq (ad 1) z1) ++ (wMp ca kq (ad 2) z2)) ++ (wQ ca bb q9)) ++ ((wX ca f kq ad) ++ (wKd kq) ++ (wMp ca kq (ad 0) z0) ++ [(g, .inl (ca 1, 1, .inr (.inl ov)))])) → va_S A s.heap H locs → lv_has ls 8 [(4, .int (nI i)), (3, .ref g), (2, .ref (bb 0)), (1, .ref (f 0)), (0, .ref b)] → W p l e room_1 s m args below meth c H locs (cells + 3) (slots + 18) Q (F0 m 1507 ls [])) (CaseD : ∀ (wr : va_W) (j j1 : Nat) (y0 y1 : MS), ¬ j = j1 → (isB mm 3 = true → mm = nI j ∧ j < 3) → (isB nn 3 = true → nn = nI j1 ∧ j1 < 3) → Rel1 N y0 (ab q j) → Rel1 N y1 (ab q j1) → va_P D vwCl ((wr ++ (wQ ca bb q)) ++ ((wX ca f kq ad) ++ (wKd kq) ++ (wMp ca kq (ad j) y0) ++ (wMp ca kq (ad j1) y1) ++ [(g, .inl (ca 1, 1, .inr (.inl ov)))])) H → va_D A ((wr ++ (wQ ca bb q)) ++ ((wX ca f kq ad) ++ (wKd kq) ++ (wMp ca kq (ad j) y0) ++ (wMp ca kq (ad j1) y1) ++ [(g, .inl (ca 1, 1, .inr (.inl ov)))])) → (∀ (H : Heap) (locs : List Loc) (ls : Array Slot) (u : MO2) (q9 : QS), WQ q9 → (∀ i, ¬ i = j → ¬ i = j1 → ab q9 i = ab q i) → Rel1 (N + 61) u.1.1 (ab q9 j) → Rel1 (N + 61) u.1.2 (ab q9 j1) → va_P D vwCl ((wr ++ (wH2 ca f kq ad j j1 g u)) ++ (wQ ca bb q9)) H → va_D A ((wr ++ (wH2 ca f kq ad j j1 g u)) ++ (wQ ca bb q9)) → va_S A s.heap H locs → lv_has ls 8 [(4, .int (nI i)), (3, .ref g), (2, .ref (bb 0)), (1, .ref (f 0)), (0, .ref b)] → W p l e room_1 s m args below meth c H locs (cells + 3) (slots + 18) Q (F0 m 1507 ls [])) → W p l e room_1 s m args below meth c H locs cells slots Q (F0 m pc ls [])) (CaseA : ∀ (wr : va_W) (j : Nat) (y0 : MS), j < 3 → mm = nI j → nn = nI j → Rel1 N y0 (ab q j) → va_P D vwCl ((wr ++ (wQ ca bb q)) ++ ((wX ca f kq ad) ++ (wKd kq) ++ (wMp ca kq (ad j) y0) ++ [(g, .inl (ca 1, 1, .inr (.inl ov)))])) H → va_D A ((wr ++ (wQ ca bb q)) ++ ((wX ca f kq ad) ++ (wKd kq) ++ (wMp ca kq (ad j) y0) ++ [(g, .inl (ca 1, 1, .inr (.inl ov)))])) → (∀ (H : Heap) (locs : List Loc) (ls : Array Slot) (u : MO) (q9 : QS), WQ q9 → (∀ i, ¬ i = j → ab q9 i = ab q i) → Rel1 (N + 61) u.1 (ab q9 j) → va_P D vwCl ((wr ++ (wH ca f kq ad j g u)) ++ (wQ ca bb q9)) H → va_D A ((wr ++ (wH ca f kq ad j g u)) ++ (wQ ca bb q9)) → va_S A s.heap H locs → lv_has ls 8 [(4, .int (nI i)), (3, .ref g), (2, .ref (bb 0)), (1, .ref (f 0)), (0, .ref b)] → W p l e room_1 s m args below meth c H locs (cells + 3) (slots + 18) Q (F0 m 1507 ls [])) → W p l e room_1 s m args below meth c H locs cells slots Q (F0 m pc ls [])) : W p l e room_1 s m args below meth c H locs cells slots Q (F0 m pc ls []) := by
  rcases pick2 mm nn with ⟨j, k, hj, hk, hne, hm, hn⟩ | ⟨j, hj, e1, e2⟩
  · rcases (show (j = 0 ∧ k = 1) ∨ (j = 0 ∧ k = 2) ∨ (j = 1 ∧ k = 0) ∨ (j = 1 ∧ k = 2) ∨ (j = 2 ∧ k = 0) ∨ (j = 2 ∧ k = 1) by omega) with ⟨rfl, rfl⟩ | ⟨rfl, rfl⟩ | ⟨rfl, rfl⟩ | ⟨rfl, rfl⟩ | ⟨rfl, rfl⟩ | ⟨rfl, rfl⟩
    · exact CaseD (wMp ca kq (ad 2) z2) 0 1 z0 z1 hne hm hn h0 h1 (hP.perm pj01) (hD.perm pj01) (fun H locs ls u q9 hW ha hr hr2 hP hD hS hl => KB H locs ls u.1.1 u.1.2 z2 q9 u.2 hW hr hr2 (by rw [ha 2 (by decide) (by decide)]; exact rel_mono h2 (by omega)) (va_P.perm hP pq01) (va_D.perm hD pq01) hS hl)
    · exact CaseD (wMp ca kq (ad 1) z1) 0 2 z0 z2 hne hm hn h0 h2 (hP.perm pj02) (hD.perm pj02) (fun H locs ls u q9 hW ha hr hr2 hP hD hS hl => KB H locs ls u.1.1 z1 u.1.2 q9 u.2 hW hr (by rw [ha 1 (by decide) (by decide)]; exact rel_mono h1 (by omega)) hr2 (va_P.perm hP pq02) (va_D.perm hD pq02) hS hl)
    · exact CaseD (wMp ca kq (ad 2) z2) 1 0 z1 z0 hne hm hn h1 h0 (hP.perm pj10) (hD.perm pj10) (fun H locs ls u q9 hW ha hr hr2 hP hD hS hl => KB H locs ls u.1.2 u.1.1 z2 q9 u.2 hW hr2 hr (by rw [ha 2 (by decide) (by decide)]; exact rel_mono h2 (by omega)) (va_P.perm hP pq10) (va_D.perm hD pq10) hS hl)
    · exact CaseD (wMp ca kq (ad 0) z0) 1 2 z1 z2 hne hm hn h1 h2 (hP.perm pj12) (hD.perm pj12) (fun H locs ls u q9 hW ha hr hr2 hP hD hS hl => KB H locs ls z0 u.1.1 u.1.2 q9 u.2 hW (by rw [ha 0 (by decide) (by decide)]; exact rel_mono h0 (by omega)) hr hr2 (va_P.perm hP pq12) (va_D.perm hD pq12) hS hl)
    · exact CaseD (wMp ca kq (ad 1) z1) 2 0 z2 z0 hne hm hn h2 h0 (hP.perm pj20) (hD.perm pj20) (fun H locs ls u q9 hW ha hr hr2 hP hD hS hl => KB H locs ls u.1.2 z1 u.1.1 q9 u.2 hW hr2 (by rw [ha 1 (by decide) (by decide)]; exact rel_mono h1 (by omega)) hr (va_P.perm hP pq20) (va_D.perm hD pq20) hS hl)
    · exact CaseD (wMp ca kq (ad 0) z0) 2 1 z2 z1 hne hm hn h2 h1 (hP.perm pj21) (hD.perm pj21) (fun H locs ls u q9 hW ha hr hr2 hP hD hS hl => KB H locs ls z0 u.1.2 u.1.1 q9 u.2 hW (by rw [ha 0 (by decide) (by decide)]; exact rel_mono h0 (by omega)) hr2 hr (va_P.perm hP pq21) (va_D.perm hD pq21) hS hl)
  · rcases (show j = 0 ∨ j = 1 ∨ j = 2 by omega) with rfl | rfl | rfl
    · exact CaseA ((wMp ca kq (ad 1) z1) ++ (wMp ca kq (ad 2) z2)) 0 z0 hj e1 e2 h0 hP hD (fun H locs ls u q9 hW ha hr hP hD hS hl => KB H locs ls u.1 z1 z2 q9 u.2 hW hr (by rw [ha 1 (by decide)]; exact rel_mono h1 (by omega)) (by rw [ha 2 (by decide)]; exact rel_mono h2 (by omega)) (va_P.perm hP po0) (va_D.perm hD po0) hS hl)
    · exact CaseA ((wMp ca kq (ad 0) z0) ++ (wMp ca kq (ad 2) z2)) 1 z1 hj e1 e2 h1 (hP.perm pi1) (hD.perm pi1) (fun H locs ls u q9 hW ha hr hP hD hS hl => KB H locs ls z0 u.1 z2 q9 u.2 hW (by rw [ha 0 (by decide)]; exact rel_mono h0 (by omega)) hr (by rw [ha 2 (by decide)]; exact rel_mono h2 (by omega)) (va_P.perm hP po1) (va_D.perm hD po1) hS hl)
    · exact CaseA ((wMp ca kq (ad 0) z0) ++ (wMp ca kq (ad 1) z1)) 2 z2 hj e1 e2 h2 (hP.perm pi2) (hD.perm pi2) (fun H locs ls u q9 hW ha hr hP hD hS hl => KB H locs ls z0 z1 u.1 q9 u.2 hW (by rw [ha 0 (by decide)]; exact rel_mono h0 (by omega)) (by rw [ha 1 (by decide)]; exact rel_mono h1 (by omega)) hr (va_P.perm hP po2) (va_D.perm hD po2) hS hl)

theorem tab20 {x : Int32} (h : ∀ k : Nat, k < 20 → ¬ x = nI k) : x.toInt < 0 ∨ 19 < x.toInt := by
  have a : ∀ k : Nat, k < 20 → ¬ x.toInt = (k : Int) := fun k hk e => h k hk (Int32.toInt_inj.mp (e.trans (by
    have : ∀ k : Nat, k < 20 → (k : Int) = (nI k).toInt := by decide
    exact this k hk)))
  rcases Int.lt_or_le x.toInt 0 with q | q
  · exact Or.inl q
  · refine Or.inr ?_
    rcases Int.lt_or_le 19 x.toInt with g | g
    · exact g
    · exact absurd (Int.toNat_of_nonneg q).symm (a x.toInt.toNat (by omega))
theorem more5 {i L : Nat} (hL : L ≤ 2560) (hi : i ≤ L) (c : ¬ (nI L - 5 < nI i)) : i + 5 ≤ L := by
  rcases Nat.lt_or_ge L (i + 5) with q | q
  · refine absurd ?_ c
    rcases Nat.lt_or_ge L 5 with g | g
    · have : ∀ L : Nat, L < 5 → ∀ i : Nat, i < 5 → nI L - 5 < nI i := by decide
      exact this L g i (by omega)
    · rw [show nI L - 5 = nI (L - 5) from pk_sub (a := L) (b := 5) g]
      exact (xn_lt (by omega) (by omega)).mpr (by omega)
  · exact q
set_option maxHeartbeats 4000000 in
set_option maxRecDepth 100000 in
theorem law_loop {p : Program} {l : Launch} {e : Env} {s : State} {m : MethodId} {args : Array Value} {below : List Frame} {meth : Method} {c : Code} {Q : State → Prop} {D : va_G} {ca : Nat → ClassId} {A : Nat → Prop} {f kq bb : Nat → Nat} {ad : Nat → Nat → Nat} {g b L : Nat} {xs : Nat → Int32} (hx : p.tables.exec = Jvm.exec) (hb : c.code = cL_law) (hml : c.maxLocals = 8) (hts : ∀ w ∈ wsL_law, w.before args s = true) (hown : s.vm.findClass RL = some m.cls) (hKN : xK D (TY ca) s) (hTZ : TZ A s s.heap) (hNC : NC s) (hA : ∀ q : Nat, s.heap.size ≤ q → A q) (hl9 : l.stackTraces = false) (hX : va_X b L xs s s.heap) (hbl : b < s.heap.size) (hbA : ¬ A b) (hL : L ≤ 2560) (hEnd : ∀ (H : Heap) (locs : List Loc) (ls : Array Slot) (cells slots : Nat), cells ≤ 9000 → slots ≤ 60000 → va_S A s.heap H locs → W p l e room_1 s m args below meth c H locs cells slots Q (F0 m 1513 ls [])) : ∀ (n i N cells slots : Nat), i ≤ L → L + 5 ≤ i + 5 * n → N ≤ 61 * i → cells ≤ 1000 + 3 * i → slots ≤ 10000 + 18 * i → ∀ (z0 z1 z2 : MS) (q : QS) (ov : Nat → Int64) (H : Heap) (locs : List Loc) (ls : Array Slot), WQ q → Rel1 N z0 (ab q 0) → Rel1 N z1 (ab q 1) → Rel1 N z2 (ab q 2) → va_P D vwCl ((((wMp ca kq (ad 1) z1) ++ (wMp ca kq (ad 2) z2)) ++ (wQ ca bb q)) ++ ((wX ca f kq ad) ++ (wKd kq) ++ (wMp ca kq (ad 0) z0) ++ [(g, .inl (ca 1, 1, .inr (.inl ov)))])) H → va_D A ((((wMp ca kq (ad 1) z1) ++ (wMp ca kq (ad 2) z2)) ++ (wQ ca bb q)) ++ ((wX ca f kq ad) ++ (wKd kq) ++ (wMp ca kq (ad 0) z0) ++ [(g, .inl (ca 1, 1, .inr (.inl ov)))])) → va_S A s.heap H locs → lv_has ls 8 [(4, .int (nI i)), (3, .ref g), (2, .ref (bb 0)), (1, .ref (f 0)), (0, .ref b)] → W p l e room_1 s m args below meth c H locs cells slots Q (F0 m 23 ls []) := by
  intro n
  induction n with
  | zero =>
    intro i N cells slots a1 a2
    exact absurd a2 (by omega)
  | succ n ih =>
    intro i N cells slots a1 a2 a3 a4 a5 z0 z1 z2 q ov H locs ls hq h0 h1 h2 hP hD hS hl
    refine lv_iload hx hb dL_law_23 (lv_at hl 0 rfl) ?_
    refine lv_aload_n hx hb dL_law_25 rfl (lv_at hl 4 rfl) ?_
    refine va_slen hx hb hX hbl hbA hS dL_law_26 ?_
    refine lv_iconst (v := 5) hx hb dL_law_27 (by decide) ?_
    refine lv_isub hx hb dL_law_28 ?_
    refine lv_icmp_gt (tgt := 1513) hx hb dL_law_29 (by decide) (fun c29 => ?_) (fun c29 => ?_)
    · exact hEnd H locs ls cells slots (by omega) (by omega) hS
    have hiL : i + 5 ≤ L := more5 hL a1 c29
    have hN9 : N ≤ 1000000 := by omega
    have hcl : cells + 3 ≤ 601024 := by omega
    have hsl : slots + 18 ≤ 7293033 := by omega
    have KB : ∀ (H : Heap) (locs : List Loc) (ls : Array Slot) (z0 z1 z2 : MS) (q9 : QS) (ov : Nat → Int64), WQ q9 → Rel1 (N + 61) z0 (ab q9 0) → Rel1 (N + 61) z1 (ab q9 1) → Rel1 (N + 61) z2 (ab q9 2) → va_P D vwCl ((((wMp ca kq (ad 1) z1) ++ (wMp ca kq (ad 2) z2)) ++ (wQ ca bb q9)) ++ ((wX ca f kq ad) ++ (wKd kq) ++ (wMp ca kq (ad 0) z0) ++ [(g, .inl (ca 1, 1, .inr (.inl ov)))])) H → va_D A ((((wMp ca kq (ad 1) z1) ++ (wMp ca kq (ad 2) z2)) ++ (wQ ca bb q9)) ++ ((wX ca f kq ad) ++ (wKd kq) ++ (wMp ca kq (ad 0) z0) ++ [(g, .inl (ca 1, 1, .inr (.inl ov)))])) → va_S A s.heap H locs → lv_has ls 8 [(4, .int (nI i)), (3, .ref g), (2, .ref (bb 0)), (1, .ref (f 0)), (0, .ref b)] → W p l e room_1 s m args below meth c H locs (cells + 3) (slots + 18) Q (F0 m 1507 ls []) := by
      intro H locs ls z0 z1 z2 q9 ov b1 b2 b3 b4 hP hD hS hl
      refine lv_iinc (v := nI (i + 5)) (lv' := [(4, .int (nI (i + 5))), (3, .ref g), (2, .ref (bb 0)), (1, .ref (f 0)), (0, .ref b)]) hx hb dL_law_1507 hl (k := 0) rfl (nI_add i 5) (by decide) rfl (fun ls hl => ?_)
      refine lv_goto (tgt := 23) hx hb dL_law_1510 (by decide) ?_
      exact ih (i + 5) (N + 61) (cells + 3) (slots + 18) hiL (by omega) (by omega) (by omega) (by omega) z0 z1 z2 q9 ov H locs ls b1 b2 b3 b4 hP hD hS hl
    refine lv_aload_n hx hb dL_law_32 rfl (lv_at hl 4 rfl) ?_
    refine lv_iload hx hb dL_law_33 (lv_at hl 0 rfl) ?_
    refine va_sld hx hb hX hbl hbA hS (vp_in_nI (n := i) (by omega) (by omega)) dL_law_35 ?_
    refine xr_top (y := xs i) (congrArg xs (nI_clamp (by omega))) ?_
    refine lv_bipush (v := 31) hx hb dL_law_36 (by decide) ?_
    refine lv_iand hx hb dL_law_38 ?_
    by_cases k_0 : xs i &&& 31 = 0
    · refine lv_tableIn (tgt := 132) (off := 93) hx hb dL_law_39 (by rw [k_0]; decide) (by rw [k_0]; decide) (by rw [k_0]; rfl) (by decide) ?_
      exact disp1 (xs (i + 1)) z0 z1 z2 h0 h1 h2 hP hD KB (fun wr j y0 _ hm hR hP hD K9 => k_make hx hb hml hts hown hKN hTZ hNC hA hl9 hX hbl hbA hiL hL hN9 hcl hsl wr j y0 hq hm hR hP hD hS hl K9)
    by_cases k_1 : xs i &&& 31 = 1
    · refine lv_tableIn (tgt := 192) (off := 153) hx hb dL_law_39 (by rw [k_1]; decide) (by rw [k_1]; decide) (by rw [k_1]; rfl) (by decide) ?_
      exact disp1 (xs (i + 1)) z0 z1 z2 h0 h1 h2 hP hD KB (fun wr j y0 _ hm hR hP hD K9 => k_put hx hb hml hts hown hKN hTZ hNC hA hl9 hX hbl hbA hiL hL hN9 hcl hsl wr j y0 hq hm hR hP hD hS hl K9)
    by_cases k_2 : xs i &&& 31 = 2
    · refine lv_tableIn (tgt := 279) (off := 240) hx hb dL_law_39 (by rw [k_2]; decide) (by rw [k_2]; decide) (by rw [k_2]; rfl) (by decide) ?_
      exact disp1 (xs (i + 1)) z0 z1 z2 h0 h1 h2 hP hD KB (fun wr j y0 _ hm hR hP hD K9 => k_remove hx hb hml hts hown hKN hTZ hNC hA hl9 hX hbl hbA hiL hL hN9 hcl hsl wr j y0 hq hm hR hP hD hS hl K9)
    by_cases k_3 : xs i &&& 31 = 3
    · refine lv_tableIn (tgt := 354) (off := 315) hx hb dL_law_39 (by rw [k_3]; decide) (by rw [k_3]; decide) (by rw [k_3]; rfl) (by decide) ?_
      exact disp1 (xs (i + 1)) z0 z1 z2 h0 h1 h2 hP hD KB (fun wr j y0 _ hm hR hP hD K9 => k_get hx hb hml hts hown hKN hTZ hNC hA hl9 hX hbl hbA hiL hL hN9 hcl hsl wr j y0 hq hm hR hP hD hS hl K9)
    by_cases k_4 : xs i &&& 31 = 4
    · refine lv_tableIn (tgt := 422) (off := 383) hx hb dL_law_39 (by rw [k_4]; decide) (by rw [k_4]; decide) (by rw [k_4]; rfl) (by decide) ?_
      exact disp1 (xs (i + 1)) z0 z1 z2 h0 h1 h2 hP hD KB (fun wr j y0 _ hm hR hP hD K9 => k_near hx hb hml hts hown hKN hTZ hNC hA hl9 hX hbl hbA hiL hL hN9 hcl hsl wr j y0 hq hm hR hP hD hS hl K9)
    by_cases k_5 : xs i &&& 31 = 5
    · refine lv_tableIn (tgt := 502) (off := 463) hx hb dL_law_39 (by rw [k_5]; decide) (by rw [k_5]; decide) (by rw [k_5]; rfl) (by decide) ?_
      exact disp1 (xs (i + 1)) z0 z1 z2 h0 h1 h2 hP hD KB (fun wr j y0 _ hm hR hP hD K9 => k_size hx hb hml hts hown hKN hTZ hNC hA hl9 hX hbl hbA hiL hL hN9 hcl hsl wr j y0 hq hm hR hP hD hS hl K9)
    by_cases k_6 : xs i &&& 31 = 6
    · refine lv_tableIn (tgt := 558) (off := 519) hx hb dL_law_39 (by rw [k_6]; decide) (by rw [k_6]; decide) (by rw [k_6]; rfl) (by decide) ?_
      exact disp1 (xs (i + 1)) z0 z1 z2 h0 h1 h2 hP hD KB (fun wr j y0 _ hm hR hP hD K9 => k_rank hx hb hml hts hown hKN hTZ hNC hA hl9 hX hbl hbA hiL hL hN9 hcl hsl wr j y0 hq hm hR hP hD hS hl K9)
    by_cases k_7 : xs i &&& 31 = 7
    · refine lv_tableIn (tgt := 626) (off := 587) hx hb dL_law_39 (by rw [k_7]; decide) (by rw [k_7]; decide) (by rw [k_7]; rfl) (by decide) ?_
      exact disp1 (xs (i + 1)) z0 z1 z2 h0 h1 h2 hP hD KB (fun wr j y0 _ hm hR hP hD K9 => k_select hx hb hml hts hown hKN hTZ hNC hA hl9 hX hbl hbA hiL hL hN9 hcl hsl wr j y0 hq hm hR hP hD hS hl K9)
    by_cases k_8 : xs i &&& 31 = 8
    · refine lv_tableIn (tgt := 694) (off := 655) hx hb dL_law_39 (by rw [k_8]; decide) (by rw [k_8]; decide) (by rw [k_8]; rfl) (by decide) ?_
      exact disp1 (xs (i + 1)) z0 z1 z2 h0 h1 h2 hP hD KB (fun wr j y0 _ hm hR hP hD K9 => k_sum hx hb hml hts hown hKN hTZ hNC hA hl9 hX hbl hbA hiL hL hN9 hcl hsl wr j y0 hq hm hR hP hD hS hl K9)
    by_cases k_9 : xs i &&& 31 = 9
    · refine lv_tableIn (tgt := 761) (off := 722) hx hb dL_law_39 (by rw [k_9]; decide) (by rw [k_9]; decide) (by rw [k_9]; rfl) (by decide) ?_
      exact disp1 (xs (i + 1)) z0 z1 z2 h0 h1 h2 hP hD KB (fun wr j y0 _ hm hR hP hD K9 => k_range hx hb hml hts hown hKN hTZ hNC hA hl9 hX hbl hbA hiL hL hN9 hcl hsl wr j y0 hq hm hR hP hD hS hl K9)
    by_cases k_10 : xs i &&& 31 = 10
    · refine lv_tableIn (tgt := 833) (off := 794) hx hb dL_law_39 (by rw [k_10]; decide) (by rw [k_10]; decide) (by rw [k_10]; rfl) (by decide) ?_
      exact disp1 (xs (i + 1)) z0 z1 z2 h0 h1 h2 hP hD KB (fun wr j y0 _ hm hR hP hD K9 => k_within hx hb hml hts hown hKN hTZ hNC hA hl9 hX hbl hbA hiL hL hN9 hcl hsl wr j y0 hq hm hR hP hD hS hl K9)
    by_cases k_11 : xs i &&& 31 = 11
    · refine lv_tableIn (tgt := 901) (off := 862) hx hb dL_law_39 (by rw [k_11]; decide) (by rw [k_11]; decide) (by rw [k_11]; rfl) (by decide) ?_
      exact disp1 (xs (i + 1)) z0 z1 z2 h0 h1 h2 hP hD KB (fun wr j y0 _ hm hR hP hD K9 => k_putWithin hx hb hml hts hown hKN hTZ hNC hA hl9 hX hbl hbA hiL hL hN9 hcl hsl wr j y0 hq hm hR hP hD hS hl K9)
    by_cases k_12 : xs i &&& 31 = 12
    · refine lv_tableIn (tgt := 988) (off := 949) hx hb dL_law_39 (by rw [k_12]; decide) (by rw [k_12]; decide) (by rw [k_12]; rfl) (by decide) ?_
      exact disp1 (xs (i + 1)) z0 z1 z2 h0 h1 h2 hP hD KB (fun wr j y0 _ hm hR hP hD K9 => k_poll hx hb hml hts hown hKN hTZ hNC hA hl9 hX hbl hbA hiL hL hN9 hcl hsl wr j y0 hq hm hR hP hD hS hl K9)
    by_cases k_13 : xs i &&& 31 = 13
    · refine lv_tableIn (tgt := 1072) (off := 1033) hx hb dL_law_39 (by rw [k_13]; decide) (by rw [k_13]; decide) (by rw [k_13]; rfl) (by decide) ?_
      exact disp1 (xs (i + 1)) z0 z1 z2 h0 h1 h2 hP hD KB (fun wr j y0 _ hm hR hP hD K9 => k_iterate hx hb hml hts hown hKN hTZ hNC hA hl9 hX hbl hbA hiL hL hN9 hcl hsl wr j y0 hq hm hR hP hD hS hl K9)
    by_cases k_14 : xs i &&& 31 = 14
    · refine lv_tableIn (tgt := 1136) (off := 1097) hx hb dL_law_39 (by rw [k_14]; decide) (by rw [k_14]; decide) (by rw [k_14]; rfl) (by decide) ?_
      exact disp1 (xs (i + 1)) z0 z1 z2 h0 h1 h2 hP hD KB (fun wr j y0 _ hm hR hP hD K9 => k_next hx hb hml hts hown hKN hTZ hNC hA hl9 hX hbl hbA hiL hL hN9 hcl hsl wr j y0 hq hm hR hP hD hS hl K9)
    by_cases k_15 : xs i &&& 31 = 15
    · refine lv_tableIn (tgt := 1192) (off := 1153) hx hb dL_law_39 (by rw [k_15]; decide) (by rw [k_15]; decide) (by rw [k_15]; rfl) (by decide) ?_
      exact disp1 (xs (i + 1)) z0 z1 z2 h0 h1 h2 hP hD KB (fun wr j y0 _ hm hR hP hD K9 => k_drop hx hb hml hts hown hKN hTZ hNC hA hl9 hX hbl hbA hiL hL hN9 hcl hsl wr j y0 hq hm hR hP hD hS hl K9)
    by_cases k_16 : xs i &&& 31 = 16
    · refine lv_tableIn (tgt := 1228) (off := 1189) hx hb dL_law_39 (by rw [k_16]; decide) (by rw [k_16]; decide) (by rw [k_16]; rfl) (by decide) ?_
      exact disp2 (xs (i + 1)) (xs (i + 2)) z0 z1 z2 h0 h1 h2 hP hD KB (fun wr j j1 y0 y1 hne hm hn hR hR2 hP hD K9 => k_join hx hb hml hts hown hKN hTZ hNC hA hl9 hX hbl hbA hiL hL hN9 hcl hsl wr j j1 y0 y1 hq hm hn hne hR hR2 hP hD hS hl K9) (fun wr j y0 hj e1 e2 hR hP hD K9 => k_join_a hx hb hml hts hown hKN hTZ hNC hA hl9 hX hbl hbA hiL hL hN9 hcl hsl wr j y0 hq hj e1 e2 hR hP hD hS hl K9)
    by_cases k_17 : xs i &&& 31 = 17
    · refine lv_tableIn (tgt := 1308) (off := 1269) hx hb dL_law_39 (by rw [k_17]; decide) (by rw [k_17]; decide) (by rw [k_17]; rfl) (by decide) ?_
      exact disp2 (xs (i + 1)) (xs (i + 3)) z0 z1 z2 h0 h1 h2 hP hD KB (fun wr j j1 y0 y1 hne hm hn hR hR2 hP hD K9 => k_split hx hb hml hts hown hKN hTZ hNC hA hl9 hX hbl hbA hiL hL hN9 hcl hsl wr j j1 y0 y1 hq hm hn hne hR hR2 hP hD hS hl K9) (fun wr j y0 hj e1 e2 hR hP hD K9 => k_split_a hx hb hml hts hown hKN hTZ hNC hA hl9 hX hbl hbA hiL hL hN9 hcl hsl wr j y0 hq hj e1 e2 hR hP hD hS hl K9)
    by_cases k_18 : xs i &&& 31 = 18
    · refine lv_tableIn (tgt := 1388) (off := 1349) hx hb dL_law_39 (by rw [k_18]; decide) (by rw [k_18]; decide) (by rw [k_18]; rfl) (by decide) ?_
      exact disp1 (xs (i + 1)) z0 z1 z2 h0 h1 h2 hP hD KB (fun wr j y0 _ hm hR hP hD K9 => k_changes hx hb hml hts hown hKN hTZ hNC hA hl9 hX hbl hbA hiL hL hN9 hcl hsl wr j y0 hq hm hR hP hD hS hl K9)
    by_cases k_19 : xs i &&& 31 = 19
    · refine lv_tableIn (tgt := 1444) (off := 1405) hx hb dL_law_39 (by rw [k_19]; decide) (by rw [k_19]; decide) (by rw [k_19]; rfl) (by decide) ?_
      exact disp1 (xs (i + 1)) z0 z1 z2 h0 h1 h2 hP hD KB (fun wr j y0 _ hm hR hP hD K9 => k_audit hx hb hml hts hown hKN hTZ hNC hA hl9 hX hbl hbA hiL hL hN9 hcl hsl wr j y0 hq hm hR hP hD hS hl K9)
    refine lv_tableOut (tgt := 1507) hx hb dL_law_39 (tab20 ?_) (by decide) ?_
    · intro k hk
      rcases (show k = 0 ∨ k = 1 ∨ k = 2 ∨ k = 3 ∨ k = 4 ∨ k = 5 ∨ k = 6 ∨ k = 7 ∨ k = 8 ∨ k = 9 ∨ k = 10 ∨ k = 11 ∨ k = 12 ∨ k = 13 ∨ k = 14 ∨ k = 15 ∨ k = 16 ∨ k = 17 ∨ k = 18 ∨ k = 19 by omega) with rfl | rfl | rfl | rfl | rfl | rfl | rfl | rfl | rfl | rfl | rfl | rfl | rfl | rfl | rfl | rfl | rfl | rfl | rfl | rfl
      · exact k_0
      · exact k_1
      · exact k_2
      · exact k_3
      · exact k_4
      · exact k_5
      · exact k_6
      · exact k_7
      · exact k_8
      · exact k_9
      · exact k_10
      · exact k_11
      · exact k_12
      · exact k_13
      · exact k_14
      · exact k_15
      · exact k_16
      · exact k_17
      · exact k_18
      · exact k_19
    · exact W.widen (k := cells + 3) (n := slots + 18) (by omega) (by omega) (KB H locs ls z0 z1 z2 q ov hq (rel_mono h0 (by omega)) (rel_mono h1 (by omega)) (rel_mono h2 (by omega)) hP hD hS hl)
theorem pst {α : Type} {x k o q m0 m1 m2 : List α} : ((((((x ++ k) ++ m0) ++ m1) ++ m2) ++ q) ++ o).Perm (((m1 ++ m2) ++ q) ++ (((x ++ k) ++ m0) ++ o)) := by
  classical exact List.perm_iff_count.mpr (fun y => by simp only [List.count_append]; omega)
theorem xPcO.blind {D : va_G} {tys : List (ClassId × FieldType)} {av : List Value} {w : va_W} {sz : Nat} : FrameBlind (xPcO D tys av w sz) := fun a U g mk q => by
  obtain ⟨q0, q1, qP, qK, qD, qT, qN⟩ := q
  exact ⟨q0, q1, qP, ⟨va_K.moved (u := U) (U := U.calling g mk a) (Vm.Alike.refl U.vm) qK.1, NW.same (u := U) (U := U.calling g mk a) rfl qK.2⟩, qD, va_AO.moved (u := U) (U := U.calling g mk a) (Vm.Alike.refl U.vm) qT, va_AO.moved (u := U) (U := U.calling g mk a) (Vm.Alike.refl U.vm) qN⟩
theorem xPreO {s : State} {H : Heap} {A0 : Nat → Prop} {D : va_G} {tys : List (ClassId × FieldType)} {ws w0 : va_W} {As : List Value} (hK : xK D tys s) (h1 : va_AO "TreeFamily$Kind" s) (h2 : va_AO "TreeFamily$OneMap" s) (hP : va_P D vwCl ws H) (hD : va_D A0 ws) (isC : List Nat) (hn : va_nd isC = true) (hC : isC.map (fun i => ws[i]?) = w0.map some) : PreS s H (xPcO D tys As w0 H.size) As :=
  ⟨xPcO.blind, fun U hU hW => ⟨rfl, by rw [hU], by rw [hU]; exact va_P_pick hP isC hC, hK.warm hW, (hD.sub isC hn hC).weaken (fun _ _ _ _ => trivial), va_AO.moved hW.alike h1, va_AO.moved hW.alike h2⟩⟩
set_option maxHeartbeats 4000000 in
set_option maxRecDepth 100000 in
theorem law_start {p : Program} {l : Launch} {e : Env} {s : State} {m : MethodId} {args : Array Value} {below : List Frame} {meth : Method} {c : Code} {Q : State → Prop} {D : va_G} {ca : Nat → ClassId} {A : Nat → Prop} {b L : Nat} {xs : Nat → Int32} (hx : p.tables.exec = Jvm.exec) (hb : c.code = cL_law) (hml : c.maxLocals = 8) (hts : ∀ w ∈ wsL_law, w.before args s = true) (hown : s.vm.findClass RL = some m.cls) (hKN : xK D (TY ca) s) (hTZ : TZ A s s.heap) (hNC : NC s) (hA : ∀ q : Nat, s.heap.size ≤ q → A q) (hl9 : l.stackTraces = false) (hX : va_X b L xs s s.heap) (hbl : b < s.heap.size) (hbA : ¬ A b) (hL : L ≤ 2560) (hEnd : ∀ (H : Heap) (locs : List Loc) (ls : Array Slot) (cells slots : Nat), cells ≤ 9000 → slots ≤ 60000 → va_S A s.heap H locs → W p l e room_1 s m args below meth c H locs cells slots Q (F0 m 1513 ls [])) (hO1 : va_AO "TreeFamily$Kind" s) (hO2 : va_AO "TreeFamily$OneMap" s) : W p l e room_1 s m args below meth c s.heap [] 0 0 Q (entryFrame m ([Value.ref b] : List Value).toArray 8) := by
  have hl := lv_entry ([.ref b]) (n := 8) (Nat.le_of_ble_eq_true rfl)
  rw [lg_entry_eq]
  generalize (lg_sl ([.ref b]) ++ List.replicate (8 - (lg_sl ([.ref b])).length) Slot.unset).toArray = ls at hl ⊢
  have hl : lv_has ls 8 [(0, .ref b)] := hl
  have hS : va_S A s.heap s.heap [] := va_S.rf
  have hP : va_P D vwCl [] s.heap := fun k q h => by simp at h
  have hD : va_D A [] := ⟨fun i j p q h => by simp at h, fun k q h => by simp at h⟩
  refine va_new (ci := 8) (fs := [.null, .null]) (C := RX10) (T := TX10) (N := 2) hx hb hts inlX10 tyX10 tyX10_ok hown (hts (.classLink RL 8 RX10) (by decide +kernel)) (hts (.instantiable RX10 2) (by decide +kernel)) (hts (.initialized RX10) (by decide +kernel)) hKN.1 hP hD hS hA rfl (xfs rfl) (Nat.le_of_ble_eq_true rfl) (Nat.le_of_ble_eq_true rfl) dL_law_0 (fun q0 H hP hD hS => ?_)
  have hP : va_P D vwCl ([(q0, .inr (8, [.null, .null]))]) H := hP
  have hD : va_D A ([(q0, .inr (8, [.null, .null]))]) := hD
  refine lv_dup hx hb dL_law_3 rfl ?_
  refine xc_v (wr := []) (va_runI (As := []) (rest := [.ref q0]) ⟨hx, hb, hml, hown, hts⟩ (c_X10_init l D ca _ q0) (cwI 0 hts gL_law_X10_init rfl rfl rfl (hts (.initialized yX10_init.cls) (by decide +kernel)) (hts (.methodLink RL 87 yX10_init) (by decide +kernel)) (hts (.instanceMethod yX10_init) (by decide +kernel)) rfl (by decide +kernel) ⟨(Nat.le_of_ble_eq_true rfl), (Nat.le_of_ble_eq_true rfl)⟩) (xPreO hKN hO1 hO2 hP hD [0] (by decide) rfl) rfl rfl hl.1 rfl (lv_room (Nat.le_of_ble_eq_true rfl)) dL_law_4 ⟨(Nat.le_of_ble_eq_true rfl), (Nat.le_of_ble_eq_true rfl)⟩) hP hD hS hA [0] [] rfl rfl (by decide) (by decide) (fun u4 H locs hu4 hPn hDn hSn => ?_)
  have hu4 : u4.1 0 = q0 := hu4
  subst hu4
  have hP := hPn
  have hD := hDn
  have hS := hSn
  have hP : va_P D vwCl ((wX ca u4.1 u4.2.1 u4.2.2) ++ (wKd u4.2.1) ++ (wMp ca u4.2.1 (u4.2.2 0) m0) ++ (wMp ca u4.2.1 (u4.2.2 1) m0) ++ (wMp ca u4.2.1 (u4.2.2 2) m0)) H := hP
  have hD : va_D A ((wX ca u4.1 u4.2.1 u4.2.2) ++ (wKd u4.2.1) ++ (wMp ca u4.2.1 (u4.2.2 0) m0) ++ (wMp ca u4.2.1 (u4.2.2 1) m0) ++ (wMp ca u4.2.1 (u4.2.2 2) m0)) := hD
  refine lv_astore_n (lv' := [(1, .ref (u4.1 0)), (0, .ref b)]) hx hb dL_law_7 rfl hl (by decide) rfl (fun ls hl => ?_)
  refine va_new (ci := 9) (fs := [.int 0, .null, .null, .null, .null, .null, .null, .null, .null, .null, .null, .null, .null, .null, .null, .null, .null]) (C := RX11) (T := TX11) (N := 17) hx hb hts inlX11 tyX11 tyX11_ok hown (hts (.classLink RL 88 RX11) (by decide +kernel)) (hts (.instantiable RX11 17) (by decide +kernel)) (hts (.initialized RX11) (by decide +kernel)) hKN.1 hP hD hS hA rfl (xfs rfl) (Nat.le_of_ble_eq_true rfl) (Nat.le_of_ble_eq_true rfl) dL_law_8 (fun q8 H hP hD hS => ?_)
  have hP : va_P D vwCl ((wX ca u4.1 u4.2.1 u4.2.2) ++ (wKd u4.2.1) ++ (wMp ca u4.2.1 (u4.2.2 0) m0) ++ (wMp ca u4.2.1 (u4.2.2 1) m0) ++ (wMp ca u4.2.1 (u4.2.2 2) m0) ++ [(q8, .inr (9, [.int 0, .null, .null, .null, .null, .null, .null, .null, .null, .null, .null, .null, .null, .null, .null, .null, .null]))]) H := hP
  have hD : va_D A ((wX ca u4.1 u4.2.1 u4.2.2) ++ (wKd u4.2.1) ++ (wMp ca u4.2.1 (u4.2.2 0) m0) ++ (wMp ca u4.2.1 (u4.2.2 1) m0) ++ (wMp ca u4.2.1 (u4.2.2 2) m0) ++ [(q8, .inr (9, [.int 0, .null, .null, .null, .null, .null, .null, .null, .null, .null, .null, .null, .null, .null, .null, .null, .null]))]) := hD
  refine lv_dup hx hb dL_law_11 rfl ?_
  refine xc_v (wr := (wX ca u4.1 u4.2.1 u4.2.2) ++ (wKd u4.2.1) ++ (wMp ca u4.2.1 (u4.2.2 0) m0) ++ (wMp ca u4.2.1 (u4.2.2 1) m0) ++ (wMp ca u4.2.1 (u4.2.2 2) m0)) (va_runI (As := []) (rest := [.ref q8]) ⟨hx, hb, hml, hown, hts⟩ (c_X11_init l D ca _ q8) (cwI 0 hts gL_law_X11_init rfl rfl rfl (hts (.initialized yX11_init.cls) (by decide +kernel)) (hts (.methodLink RL 90 yX11_init) (by decide +kernel)) (hts (.instanceMethod yX11_init) (by decide +kernel)) rfl (by decide +kernel) ⟨(Nat.le_of_ble_eq_true rfl), (Nat.le_of_ble_eq_true rfl)⟩) (xPreS hKN hP hD [49] (by decide) rfl) rfl rfl hl.1 rfl (lv_room (Nat.le_of_ble_eq_true rfl)) dL_law_12 ⟨(Nat.le_of_ble_eq_true rfl), (Nat.le_of_ble_eq_true rfl)⟩) hP hD hS hA [49] [0, 1, 2, 3, 4, 5, 6, 7, 8, 9, 10, 11, 12, 13, 14, 15, 16, 17, 18, 19, 20, 21, 22, 23, 24, 25, 26, 27, 28, 29, 30, 31, 32, 33, 34, 35, 36, 37, 38, 39, 40, 41, 42, 43, 44, 45, 46, 47, 48] rfl rfl (by decide) (by decide) (fun u12 H locs hu12 hPn hDn hSn => ?_)
  have hu12 : u12 0 = q8 := hu12
  subst hu12
  have hP := hPn
  have hD := hDn
  have hS := hSn
  have hP : va_P D vwCl ((wX ca u4.1 u4.2.1 u4.2.2) ++ (wKd u4.2.1) ++ (wMp ca u4.2.1 (u4.2.2 0) m0) ++ (wMp ca u4.2.1 (u4.2.2 1) m0) ++ (wMp ca u4.2.1 (u4.2.2 2) m0) ++ (wQ ca u12 zQ)) H := hP
  have hD : va_D A ((wX ca u4.1 u4.2.1 u4.2.2) ++ (wKd u4.2.1) ++ (wMp ca u4.2.1 (u4.2.2 0) m0) ++ (wMp ca u4.2.1 (u4.2.2 1) m0) ++ (wMp ca u4.2.1 (u4.2.2 2) m0) ++ (wQ ca u12 zQ)) := hD
  refine lv_astore_n (lv' := [(2, .ref (u12 0)), (1, .ref (u4.1 0)), (0, .ref b)]) hx hb dL_law_15 rfl hl (by decide) rfl (fun ls hl => ?_)
  refine lv_iconst (v := 1) hx hb dL_law_16 (by decide) ?_
  refine xr_newa (atype := .long) hx hb (hts (.arrayClass .long) (by decide +kernel)) 1 rfl hKN.1 hP hD hS hA (n := 1) (N' := 1) (a0 := (1, .inr (.inl (fun _ => 0)))) (xha_l _) (by decide +kernel) (by decide +kernel) (by decide +kernel) (Nat.le_of_ble_eq_true rfl) (Nat.le_of_ble_eq_true rfl) dL_law_17 (fun q17 H hP hD hS => ?_)
  have hP : va_P D vwCl ((wX ca u4.1 u4.2.1 u4.2.2) ++ (wKd u4.2.1) ++ (wMp ca u4.2.1 (u4.2.2 0) m0) ++ (wMp ca u4.2.1 (u4.2.2 1) m0) ++ (wMp ca u4.2.1 (u4.2.2 2) m0) ++ (wQ ca u12 zQ) ++ [(q17, .inl (ca 1, 1, .inr (.inl (fun _ => 0))))]) H := hP
  have hD : va_D A ((wX ca u4.1 u4.2.1 u4.2.2) ++ (wKd u4.2.1) ++ (wMp ca u4.2.1 (u4.2.2 0) m0) ++ (wMp ca u4.2.1 (u4.2.2 1) m0) ++ (wMp ca u4.2.1 (u4.2.2 2) m0) ++ (wQ ca u12 zQ) ++ [(q17, .inl (ca 1, 1, .inr (.inl (fun _ => 0))))]) := hD
  refine lv_astore_n (lv' := [(3, .ref q17), (2, .ref (u12 0)), (1, .ref (u4.1 0)), (0, .ref b)]) hx hb dL_law_19 rfl hl (by decide) rfl (fun ls hl => ?_)
  refine lv_iconst (v := 0) hx hb dL_law_20 (by decide) ?_
  refine lv_istore (lv' := [(4, .int 0), (3, .ref q17), (2, .ref (u12 0)), (1, .ref (u4.1 0)), (0, .ref b)]) hx hb dL_law_21 hl (by decide) rfl (fun ls hl => ?_)
  obtain ⟨f, kq, ad⟩ := u4
  exact law_loop hx hb hml hts hown hKN hTZ hNC hA hl9 hX hbl hbA hL hEnd (L + 1) 0 0 _ _ (Nat.zero_le _) (by omega) (Nat.zero_le _) (Nat.le_of_ble_eq_true rfl) (Nat.le_of_ble_eq_true rfl) m0 m0 m0 zQ (fun _ => 0) H locs ls wq_0 (rel_0 0) (rel_0 1) (rel_0 2) (va_P.perm hP pst) (va_D.perm hD pst) hS hl
