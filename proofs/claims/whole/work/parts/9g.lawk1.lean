/-! blocks in another order -/
theorem pm_sw {α : Type} {a b c : List α} : ((a ++ b) ++ c).Perm ((a ++ c) ++ b) := by
  classical exact List.perm_iff_count.mpr (fun x => by simp only [List.count_append]; omega)
theorem pm_out {α : Type} {a h o q : List α} : ((a ++ (h ++ o)) ++ q).Perm (o ++ ((a ++ h) ++ q)) := by
  classical exact List.perm_iff_count.mpr (fun x => by simp only [List.count_append]; omega)
theorem pm_v {α : Type} {a q x o : List α} : ((a ++ q) ++ (x ++ o)).Perm (((a ++ o) ++ q) ++ x) := by
  classical exact List.perm_iff_count.mpr (fun y => by simp only [List.count_append]; omega)
theorem pm_w {α : Type} {a q x o : List α} : (((a ++ o) ++ q) ++ x).Perm ((a ++ (x ++ o)) ++ q) := by
  classical exact List.perm_iff_count.mpr (fun y => by simp only [List.count_append]; omega)
/-! THE LAW: what its cases need -/
theorem drop_asks1 {N j : Nat} {y : MS} {q : QS} {mm : Int32} (hq : WQ q) (hR : Rel1 N y (ab q j)) (hN : N ≤ 1000000) (hm : isB mm 3 = true → mm = nI j ∧ j < 3) : ∀ j, j < 3 → mm = nI j → q.wk j = true → q.kw j = q.cg j → q.ho j = true → 1 ≤ q.gv j ∧ plQ q j (q.cp (64 * j + q.gv j - 1)) < q.zz j := by
  intro k hk e h1 h2 h3
  obtain ⟨e2, hj⟩ := hm (by rw [e]; exact isB3_ok hk)
  have ek : j = k := nI_inj (by omega) (by omega) (e2.symm.trans e)
  subst ek
  obtain ⟨⟨a1, a2⟩, _⟩ := sim_drop hR hN h1 h2 h3
  have a1 : 1 ≤ q.gv j := a1
  have hg := hq.2.2.2.1 j
  refine ⟨a1, ?_⟩
  rw [ab_len] at a2
  have e : (ab q j).cp.getD ((ab q j).gv - 1) 0 = q.cp (64 * j + q.gv j - 1) := (col_getD (f := q.cp) (z := q.mn j) (i := q.gv j - 1) j (by omega)).trans (congrArg q.cp (by omega))
  rw [e] at a2
  exact a2
theorem po2_a {op x : Int32} {q u : QS} {j : Nat} (hj : j < 3) (h : PO2 (F_join op) (nI j) (nI j) q x u) : WQ u ∧ x = (F_join op (ab q j) (ab q j)).1 ∧ u.co = (F_join op (ab q j) (ab q j)).2.1 ∧ ab u = va_up (ab q) j (F_join op (ab q j) (ab q j)).2.2 := ⟨h.1, h.2.2 j j hj hj rfl rfl⟩
theorem po3_a {key x k : Int32} {q u : QS} {j N : Nat} {w : MO} (hj : j < 3) (h : PO3 key (nI j) (nI j) q x u) (hw : k = 1 ∧ Rel1 (N + 61) w.1 (ab q j)) : WQ u ∧ u.co = k ∧ (∀ i, ¬ i = j → ab u i = ab q i) ∧ Rel1 (N + 61) w.1 (ab u j) := by
  obtain ⟨h1, h2, h3⟩ := h
  obtain ⟨a1, a2, a3⟩ := h2 (Or.inr (Or.inr rfl))
  exact ⟨h1, a2.trans hw.1.symm, fun i _ => by rw [a3], by rw [a3]; exact hw.2⟩
theorem po3_d {key mm nn x k : Int32} {q u : QS} {j j1 N : Nat} {w : MO2} (hne : ¬ j = j1) (hm : isB mm 3 = true → mm = nI j ∧ j < 3) (hn : isB nn 3 = true → nn = nI j1 ∧ j1 < 3) (h : PO3 key mm nn q x u) (hw : (k = 0 ∧ isB mm 3 = true ∧ isB nn 3 = true ∧ w.2 0 = (nI ((ab q j).en.length - plE (ab q j).od key (ab q j).en)).toInt64 ∧ Rel1 (N + 61) w.1.1 (spR key (ab q j)) ∧ Rel1 (N + 61) w.1.2 (spT key (ab q j) (ab q j1) ((ab q j).en.length - plE (ab q j).od key (ab q j).en))) ∨ (k = 1 ∧ (isB mm 3 = false ∨ isB nn 3 = false) ∧ Rel1 (N + 61) w.1.1 (ab q j) ∧ Rel1 (N + 61) w.1.2 (ab q j1))) : WQ u ∧ u.co = k ∧ (k = 0 → w.2 0 = x.toInt64) ∧ (∀ i, ¬ i = j → ¬ i = j1 → ab u i = ab q i) ∧ Rel1 (N + 61) w.1.1 (ab u j) ∧ Rel1 (N + 61) w.1.2 (ab u j1) := by
  obtain ⟨h1, h2, h3⟩ := h
  rcases hw with ⟨a1, a2, a3, a4, a5, a6⟩ | ⟨a1, a2, a3, a4⟩
  · obtain ⟨b1, b2⟩ := hm a2
    obtain ⟨c1, c2⟩ := hn a3
    obtain ⟨d1, d2, d3⟩ := h3 j j1 b2 c2 b1 c1 hne
    refine ⟨h1, d2.trans a1.symm, fun _ => by rw [a4, d1], fun i e1 e2 => ?_, ?_, ?_⟩
    · rw [d3, vup_ne e1, vup_ne e2]
    · rw [d3, vup_eq]; exact a5
    · rw [d3, vup_ne (fun h => hne h.symm), vup_eq]; exact a6
  · obtain ⟨d1, d2, d3⟩ := h2 (a2.elim Or.inl (fun h => Or.inr (Or.inl h)))
    exact ⟨h1, d2.trans a1.symm, fun h => absurd (h.symm.trans a1) (by decide), fun i _ _ => by rw [d3], by rw [d3]; exact a3, by rw [d3]; exact a4⟩
set_option maxHeartbeats 4000000 in
set_option maxRecDepth 100000 in
theorem k_make {p : Program} {l : Launch} {e : Env} {s : State} {m : MethodId} {args : Array Value} {below : List Frame} {meth : Method} {c : Code} {H : Heap} {locs : List Loc} {Q : State → Prop} {ls : Array Slot} {D : va_G} {ca : Nat → ClassId} {A : Nat → Prop} {f kq bb : Nat → Nat} {ad : Nat → Nat → Nat} {g b L i N cells slots : Nat} {xs : Nat → Int32} {q : QS} {ov : Nat → Int64} (hx : p.tables.exec = Jvm.exec) (hb : c.code = cL_law) (hml : c.maxLocals = 8) (hts : ∀ w ∈ wsL_law, w.before args s = true) (hown : s.vm.findClass RL = some m.cls) (hKN : xK D (TY ca) s) (hTZ : TZ A s s.heap) (hNC : NC s) (hA : ∀ q : Nat, s.heap.size ≤ q → A q) (hl9 : l.stackTraces = false) (hX : va_X b L xs s s.heap) (hbl : b < s.heap.size) (hbA : ¬ A b) (hiL : i + 5 ≤ L) (hL : L ≤ 2560) (hN : N ≤ 1000000) (hcl : cells + 3 ≤ 601024) (hsl : slots + 18 ≤ 7293033) (wr : va_W) (j : Nat) (y0 : MS) (hq : WQ q) (hm : isB (xs (i + 1)) 3 = true → xs (i + 1) = nI j ∧ j < 3) (hR : Rel1 N y0 (ab q j)) (hP : va_P D vwCl ((wr ++ (wQ ca bb q)) ++ ((wX ca f kq ad) ++ (wKd kq) ++ (wMp ca kq (ad j) y0) ++ [(g, .inl (ca 1, 1, .inr (.inl ov)))])) H) (hD : va_D A ((wr ++ (wQ ca bb q)) ++ ((wX ca f kq ad) ++ (wKd kq) ++ (wMp ca kq (ad j) y0) ++ [(g, .inl (ca 1, 1, .inr (.inl ov)))]))) (hS : va_S A s.heap H locs) (hl : lv_has ls 8 [(4, .int (nI i)), (3, .ref g), (2, .ref (bb 0)), (1, .ref (f 0)), (0, .ref b)]) (K9 : ∀ (H : Heap) (locs : List Loc) (ls : Array Slot) (u : MO) (q9 : QS), WQ q9 → (∀ i, ¬ i = j → ab q9 i = ab q i) → Rel1 (N + 61) u.1 (ab q9 j) → va_P D vwCl ((wr ++ (wH ca f kq ad j g u)) ++ (wQ ca bb q9)) H → va_D A ((wr ++ (wH ca f kq ad j g u)) ++ (wQ ca bb q9)) → va_S A s.heap H locs → lv_has ls 8 [(4, .int (nI i)), (3, .ref g), (2, .ref (bb 0)), (1, .ref (f 0)), (0, .ref b)] → W p l e room_1 s m args below meth c H locs (cells + 3) (slots + 18) Q (F0 m 1507 ls [])) : W p l e room_1 s m args below meth c H locs cells slots Q (F0 m 132 ls []) := by
  refine lv_aload_n hx hb dL_law_132 rfl (lv_at hl 3 rfl) ?_
  refine lv_aload_n hx hb dL_law_133 rfl (lv_at hl 4 rfl) ?_
  refine lv_iload hx hb dL_law_134 (lv_at hl 0 rfl) ?_
  refine lv_iconst (v := 1) hx hb dL_law_136 (by decide) ?_
  refine lv_iadd hx hb dL_law_137 ?_
  refine xr_top (y := nI (i + 1)) (nI_add i 1) ?_
  refine va_sld hx hb hX hbl hbA hS (vp_in_nI (n := i + 1) (by omega) (by omega)) dL_law_138 ?_
  refine xr_top (y := xs (i + 1)) (congrArg xs (nI_clamp (by omega))) ?_
  refine lv_aload_n hx hb dL_law_139 rfl (lv_at hl 4 rfl) ?_
  refine lv_iload hx hb dL_law_140 (lv_at hl 0 rfl) ?_
  refine lv_iconst (v := 2) hx hb dL_law_142 (by decide) ?_
  refine lv_iadd hx hb dL_law_143 ?_
  refine xr_top (y := nI (i + 2)) (nI_add i 2) ?_
  refine va_sld hx hb hX hbl hbA hS (vp_in_nI (n := i + 2) (by omega) (by omega)) dL_law_144 ?_
  refine xr_top (y := xs (i + 2)) (congrArg xs (nI_clamp (by omega))) ?_
  refine lv_aload_n hx hb dL_law_145 rfl (lv_at hl 4 rfl) ?_
  refine lv_iload hx hb dL_law_146 (lv_at hl 0 rfl) ?_
  refine lv_iconst (v := 3) hx hb dL_law_148 (by decide) ?_
  refine lv_iadd hx hb dL_law_149 ?_
  refine xr_top (y := nI (i + 3)) (nI_add i 3) ?_
  refine va_sld hx hb hX hbl hbA hS (vp_in_nI (n := i + 3) (by omega) (by omega)) dL_law_150 ?_
  refine xr_top (y := xs (i + 3)) (congrArg xs (nI_clamp (by omega))) ?_
  have hP : va_P D vwCl (((wr ++ [(g, .inl (ca 1, 1, .inr (.inl ov)))]) ++ (wQ ca bb q)) ++ ((wX ca f kq ad) ++ (wKd kq) ++ (wMp ca kq (ad j) y0))) H := hP.perm (pm_v (a := wr) (x := (wX ca f kq ad) ++ (wKd kq) ++ (wMp ca kq (ad j) y0)) (o := [(g, .inl (ca 1, 1, .inr (.inl ov)))]) (q := (wQ ca bb q)))
  have hD : va_D A (((wr ++ [(g, .inl (ca 1, 1, .inr (.inl ov)))]) ++ (wQ ca bb q)) ++ ((wX ca f kq ad) ++ (wKd kq) ++ (wMp ca kq (ad j) y0))) := hD.perm (pm_v (a := wr) (x := (wX ca f kq ad) ++ (wKd kq) ++ (wMp ca kq (ad j) y0)) (o := [(g, .inl (ca 1, 1, .inr (.inl ov)))]) (q := (wQ ca bb q)))
  refine xcb_i (mc := 2) (ms := 12) (wr := ((wr ++ [(g, .inl (ca 1, 1, .inr (.inl ov)))]) ++ (wQ ca bb q))) (w0 := (wX ca f kq ad) ++ (wKd kq) ++ (wMp ca kq (ad j) y0)) (vx_runSX (As := [.ref (f 0), .int (xs (i + 1)), .int (xs (i + 2)), .int (xs (i + 3))]) (rest := []) ⟨hx, hb, hml, hown, hts⟩ (c_L_make l D ca f kq ad _ hl9 j y0 (ab q j) N (xs (i + 1)) (xs (i + 2)) (xs (i + 3)) hR hN hm) (vx_cwSW 4 hts gL_law_L_make rfl rfl rfl (by decide +kernel) ⟨(Nat.le_of_ble_eq_true rfl), (Nat.le_of_ble_eq_true rfl)⟩) (xPbS (wr := ((wr ++ [(g, .inl (ca 1, 1, .inr (.inl ov)))]) ++ (wQ ca bb q))) hKN hTZ hNC hP hD hS hA) rfl rfl hl.1 rfl (lv_room (Nat.le_of_ble_eq_true rfl)) dL_law_151 ⟨Nat.le_trans (m := 601024) (by omega) (Nat.le_of_ble_eq_true rfl), Nat.le_trans (m := 7293033) (by omega) (Nat.le_of_ble_eq_true rfl)⟩) (fun _ _ h => h) hP hD hS hA (fun r151 u151 H locs hu151 hP hD hS => ?_)
  have hP : va_P D vwCl ((wr ++ (wH ca f kq ad j g (u151, ov))) ++ (wQ ca bb q)) H := hP.perm (pm_w (a := wr) (x := wF1 ca f kq ad j u151) (o := [(g, .inl (ca 1, 1, .inr (.inl ov)))]) (q := (wQ ca bb q)))
  have hD : va_D A ((wr ++ (wH ca f kq ad j g (u151, ov))) ++ (wQ ca bb q)) := hD.perm (pm_w (a := wr) (x := wF1 ca f kq ad j u151) (o := [(g, .inl (ca 1, 1, .inr (.inl ov)))]) (q := (wQ ca bb q)))
  refine lv_istore (lv' := [(5, .int r151), (4, .int (nI i)), (3, .ref g), (2, .ref (bb 0)), (1, .ref (f 0)), (0, .ref b)]) hx hb dL_law_154 hl (by decide) rfl (fun ls hl => ?_)
  refine lv_aload_n hx hb dL_law_156 rfl (lv_at hl 3 rfl) ?_
  refine lv_aload_n hx hb dL_law_157 rfl (lv_at hl 5 rfl) ?_
  refine lv_iload hx hb dL_law_158 (lv_at hl 1 rfl) ?_
  refine lv_iconst (v := 1) hx hb dL_law_160 (by decide) ?_
  refine lv_iadd hx hb dL_law_161 ?_
  refine xr_top (y := nI (i + 1)) (nI_add i 1) ?_
  refine va_sld hx hb hX hbl hbA hS (vp_in_nI (n := i + 1) (by omega) (by omega)) dL_law_162 ?_
  refine xr_top (y := xs (i + 1)) (congrArg xs (nI_clamp (by omega))) ?_
  refine lv_aload_n hx hb dL_law_163 rfl (lv_at hl 5 rfl) ?_
  refine lv_iload hx hb dL_law_164 (lv_at hl 1 rfl) ?_
  refine lv_iconst (v := 2) hx hb dL_law_166 (by decide) ?_
  refine lv_iadd hx hb dL_law_167 ?_
  refine xr_top (y := nI (i + 2)) (nI_add i 2) ?_
  refine va_sld hx hb hX hbl hbA hS (vp_in_nI (n := i + 2) (by omega) (by omega)) dL_law_168 ?_
  refine xr_top (y := xs (i + 2)) (congrArg xs (nI_clamp (by omega))) ?_
  refine lv_aload_n hx hb dL_law_169 rfl (lv_at hl 5 rfl) ?_
  refine lv_iload hx hb dL_law_170 (lv_at hl 1 rfl) ?_
  refine lv_iconst (v := 3) hx hb dL_law_172 (by decide) ?_
  refine lv_iadd hx hb dL_law_173 ?_
  refine xr_top (y := nI (i + 3)) (nI_add i 3) ?_
  refine va_sld hx hb hX hbl hbA hS (vp_in_nI (n := i + 3) (by omega) (by omega)) dL_law_174 ?_
  refine xr_top (y := xs (i + 3)) (congrArg xs (nI_clamp (by omega))) ?_
  refine xb_v (mc := 0) (ms := 0) (wr := (wr ++ (wH ca f kq ad j g (u151, ov)))) (w0 := (wQ ca bb q)) (va_runV (As := [.int (xs (i + 1)), .int (xs (i + 2)), .int (xs (i + 3))]) (rest := []) ⟨hx, hb, hml, hown, hts⟩ (c_X11_make l D ca bb _ q (xs (i + 2)) (xs (i + 3)) (xs (i + 1)) hq) (cwV 3 hts gL_law_X11_make rfl rfl rfl (by decide +kernel) ⟨(Nat.le_of_ble_eq_true rfl), (Nat.le_of_ble_eq_true rfl)⟩) (xPbV (wr := (wr ++ (wH ca f kq ad j g (u151, ov)))) hKN hP hD rfl rfl rfl) rfl rfl hl.1 rfl (lv_room (Nat.le_of_ble_eq_true rfl)) dL_law_175 ⟨Nat.le_trans (m := 601024) (by omega) (Nat.le_of_ble_eq_true rfl), Nat.le_trans (m := 7293033) (by omega) (Nat.le_of_ble_eq_true rfl)⟩) hP hD hS hA (fun u175 H locs hu175 hP hD hS => ?_)
  have hP : va_P D vwCl ((wr ++ (wH ca f kq ad j g (u151, ov))) ++ (wQ ca bb u175)) H := hP
  have hD : va_D A ((wr ++ (wH ca f kq ad j g (u151, ov))) ++ (wQ ca bb u175)) := hD
  obtain ⟨ex9, hR9⟩ := hu151
  obtain ⟨hW9, er9, ec9, ab9⟩ := po_gg hu175 hm
  have hco : u175.co = r151 := ec9.trans ex9.symm
  have hab : ∀ i, ¬ i = j → ab u175 i = ab q i := fun i hi => by rw [ab9]; exact vup_ne hi
  have hRj : Rel1 (N + 61) u151 (ab u175 j) := by rw [ab9, vup_eq]; exact hR9
  refine lv_aload_n hx hb dL_law_178 rfl (lv_at hl 3 rfl) ?_
  refine xb_i (mc := 0) (ms := 0) (wr := (wr ++ (wH ca f kq ad j g (u151, ov)))) (w0 := (wQ ca bb u175)) (va_runV (As := []) (rest := []) ⟨hx, hb, hml, hown, hts⟩ (c_X11_thrown l D ca bb _ u175) (cwV 0 hts gL_law_X11_thrown rfl rfl rfl (by decide +kernel) ⟨(Nat.le_of_ble_eq_true rfl), (Nat.le_of_ble_eq_true rfl)⟩) (xPbV (wr := (wr ++ (wH ca f kq ad j g (u151, ov)))) hKN hP hD rfl rfl rfl) rfl rfl hl.1 rfl (lv_room (Nat.le_of_ble_eq_true rfl)) dL_law_179 ⟨Nat.le_trans (m := 601024) (by omega) (Nat.le_of_ble_eq_true rfl), Nat.le_trans (m := 7293033) (by omega) (Nat.le_of_ble_eq_true rfl)⟩) hP hD hS hA (fun r179 u179 H locs hu179 hP hD hS => ?_)
  obtain ⟨et179, eu179⟩ := hu179
  have eu179 := eu179.symm
  subst eu179
  refine lv_iload hx hb dL_law_182 (lv_at hl 0 rfl) ?_
  refine lv_icmp_eq (tgt := 189) hx hb dL_law_184 (by decide) (fun c184 => ?_) (fun c184 => ?_)
  · skip
    refine lv_goto (tgt := 1507) hx hb dL_law_189 (by decide) ?_
    exact W.widen (k := cells + 3) (n := slots + 18) (by omega) (by omega) (K9 H locs ls (u151, ov) u175 hW9 hab hRj hP hD hS (lv_sub hl [1, 2, 3, 4, 5] rfl))
  · skip
    exact absurd (et179.trans hco) c184
set_option maxHeartbeats 4000000 in
set_option maxRecDepth 100000 in
theorem k_put {p : Program} {l : Launch} {e : Env} {s : State} {m : MethodId} {args : Array Value} {below : List Frame} {meth : Method} {c : Code} {H : Heap} {locs : List Loc} {Q : State → Prop} {ls : Array Slot} {D : va_G} {ca : Nat → ClassId} {A : Nat → Prop} {f kq bb : Nat → Nat} {ad : Nat → Nat → Nat} {g b L i N cells slots : Nat} {xs : Nat → Int32} {q : QS} {ov : Nat → Int64} (hx : p.tables.exec = Jvm.exec) (hb : c.code = cL_law) (hml : c.maxLocals = 8) (hts : ∀ w ∈ wsL_law, w.before args s = true) (hown : s.vm.findClass RL = some m.cls) (hKN : xK D (TY ca) s) (hTZ : TZ A s s.heap) (hNC : NC s) (hA : ∀ q : Nat, s.heap.size ≤ q → A q) (hl9 : l.stackTraces = false) (hX : va_X b L xs s s.heap) (hbl : b < s.heap.size) (hbA : ¬ A b) (hiL : i + 5 ≤ L) (hL : L ≤ 2560) (hN : N ≤ 1000000) (hcl : cells + 3 ≤ 601024) (hsl : slots + 18 ≤ 7293033) (wr : va_W) (j : Nat) (y0 : MS) (hq : WQ q) (hm : isB (xs (i + 1)) 3 = true → xs (i + 1) = nI j ∧ j < 3) (hR : Rel1 N y0 (ab q j)) (hP : va_P D vwCl ((wr ++ (wQ ca bb q)) ++ ((wX ca f kq ad) ++ (wKd kq) ++ (wMp ca kq (ad j) y0) ++ [(g, .inl (ca 1, 1, .inr (.inl ov)))])) H) (hD : va_D A ((wr ++ (wQ ca bb q)) ++ ((wX ca f kq ad) ++ (wKd kq) ++ (wMp ca kq (ad j) y0) ++ [(g, .inl (ca 1, 1, .inr (.inl ov)))]))) (hS : va_S A s.heap H locs) (hl : lv_has ls 8 [(4, .int (nI i)), (3, .ref g), (2, .ref (bb 0)), (1, .ref (f 0)), (0, .ref b)]) (K9 : ∀ (H : Heap) (locs : List Loc) (ls : Array Slot) (u : MO) (q9 : QS), WQ q9 → (∀ i, ¬ i = j → ab q9 i = ab q i) → Rel1 (N + 61) u.1 (ab q9 j) → va_P D vwCl ((wr ++ (wH ca f kq ad j g u)) ++ (wQ ca bb q9)) H → va_D A ((wr ++ (wH ca f kq ad j g u)) ++ (wQ ca bb q9)) → va_S A s.heap H locs → lv_has ls 8 [(4, .int (nI i)), (3, .ref g), (2, .ref (bb 0)), (1, .ref (f 0)), (0, .ref b)] → W p l e room_1 s m args below meth c H locs (cells + 3) (slots + 18) Q (F0 m 1507 ls [])) : W p l e room_1 s m args below meth c H locs cells slots Q (F0 m 192 ls []) := by
  refine lv_aload_n hx hb dL_law_192 rfl (lv_at hl 3 rfl) ?_
  refine lv_aload_n hx hb dL_law_193 rfl (lv_at hl 4 rfl) ?_
  refine lv_iload hx hb dL_law_194 (lv_at hl 0 rfl) ?_
  refine lv_iconst (v := 1) hx hb dL_law_196 (by decide) ?_
  refine lv_iadd hx hb dL_law_197 ?_
  refine xr_top (y := nI (i + 1)) (nI_add i 1) ?_
  refine va_sld hx hb hX hbl hbA hS (vp_in_nI (n := i + 1) (by omega) (by omega)) dL_law_198 ?_
  refine xr_top (y := xs (i + 1)) (congrArg xs (nI_clamp (by omega))) ?_
  refine lv_aload_n hx hb dL_law_199 rfl (lv_at hl 4 rfl) ?_
  refine lv_iload hx hb dL_law_200 (lv_at hl 0 rfl) ?_
  refine lv_iconst (v := 2) hx hb dL_law_202 (by decide) ?_
  refine lv_iadd hx hb dL_law_203 ?_
  refine xr_top (y := nI (i + 2)) (nI_add i 2) ?_
  refine va_sld hx hb hX hbl hbA hS (vp_in_nI (n := i + 2) (by omega) (by omega)) dL_law_204 ?_
  refine xr_top (y := xs (i + 2)) (congrArg xs (nI_clamp (by omega))) ?_
  refine lv_aload_n hx hb dL_law_205 rfl (lv_at hl 4 rfl) ?_
  refine lv_iload hx hb dL_law_206 (lv_at hl 0 rfl) ?_
  refine lv_iconst (v := 3) hx hb dL_law_208 (by decide) ?_
  refine lv_iadd hx hb dL_law_209 ?_
  refine xr_top (y := nI (i + 3)) (nI_add i 3) ?_
  refine va_sld hx hb hX hbl hbA hS (vp_in_nI (n := i + 3) (by omega) (by omega)) dL_law_210 ?_
  refine xr_top (y := xs (i + 3)) (congrArg xs (nI_clamp (by omega))) ?_
  refine lv_aload_n hx hb dL_law_211 rfl (lv_at hl 1 rfl) ?_
  refine xcb_i (mc := 2) (ms := 12) (wr := (wr ++ (wQ ca bb q))) (w0 := (wX ca f kq ad) ++ (wKd kq) ++ (wMp ca kq (ad j) y0) ++ [(g, .inl (ca 1, 1, .inr (.inl ov)))]) (vx_runSX (As := [.ref (f 0), .int (xs (i + 1)), .int (xs (i + 2)), .int (xs (i + 3)), .ref g]) (rest := []) ⟨hx, hb, hml, hown, hts⟩ (c_L_put l D ca f kq ad _ hl9 j g y0 ov (ab q j) N (xs (i + 1)) (xs (i + 2)) (xs (i + 3)) hR hN hm) (vx_cwSW 5 hts gL_law_L_put rfl rfl rfl (by decide +kernel) ⟨(Nat.le_of_ble_eq_true rfl), (Nat.le_of_ble_eq_true rfl)⟩) (xPbS (wr := (wr ++ (wQ ca bb q))) hKN hTZ hNC hP hD hS hA) rfl rfl hl.1 rfl (lv_room (Nat.le_of_ble_eq_true rfl)) dL_law_212 ⟨Nat.le_trans (m := 601024) (by omega) (Nat.le_of_ble_eq_true rfl), Nat.le_trans (m := 7293033) (by omega) (Nat.le_of_ble_eq_true rfl)⟩) (fun _ _ h => h) hP hD hS hA (fun r212 u212 H locs hu212 hP hD hS => ?_)
  have hP : va_P D vwCl ((wr ++ (wH ca f kq ad j g u212)) ++ (wQ ca bb q)) H := hP.perm (pm_sw (a := wr) (b := (wQ ca bb q)) (c := wH ca f kq ad j g u212))
  have hD : va_D A ((wr ++ (wH ca f kq ad j g u212)) ++ (wQ ca bb q)) := hD.perm (pm_sw (a := wr) (b := (wQ ca bb q)) (c := wH ca f kq ad j g u212))
  refine lv_istore (lv' := [(5, .int r212), (4, .int (nI i)), (3, .ref g), (2, .ref (bb 0)), (1, .ref (f 0)), (0, .ref b)]) hx hb dL_law_215 hl (by decide) rfl (fun ls hl => ?_)
  refine lv_aload_n hx hb dL_law_217 rfl (lv_at hl 3 rfl) ?_
  refine lv_aload_n hx hb dL_law_218 rfl (lv_at hl 5 rfl) ?_
  refine lv_iload hx hb dL_law_219 (lv_at hl 1 rfl) ?_
  refine lv_iconst (v := 1) hx hb dL_law_221 (by decide) ?_
  refine lv_iadd hx hb dL_law_222 ?_
  refine xr_top (y := nI (i + 1)) (nI_add i 1) ?_
  refine va_sld hx hb hX hbl hbA hS (vp_in_nI (n := i + 1) (by omega) (by omega)) dL_law_223 ?_
  refine xr_top (y := xs (i + 1)) (congrArg xs (nI_clamp (by omega))) ?_
  refine lv_aload_n hx hb dL_law_224 rfl (lv_at hl 5 rfl) ?_
  refine lv_iload hx hb dL_law_225 (lv_at hl 1 rfl) ?_
  refine lv_iconst (v := 2) hx hb dL_law_227 (by decide) ?_
  refine lv_iadd hx hb dL_law_228 ?_
  refine xr_top (y := nI (i + 2)) (nI_add i 2) ?_
  refine va_sld hx hb hX hbl hbA hS (vp_in_nI (n := i + 2) (by omega) (by omega)) dL_law_229 ?_
  refine xr_top (y := xs (i + 2)) (congrArg xs (nI_clamp (by omega))) ?_
  refine lv_aload_n hx hb dL_law_230 rfl (lv_at hl 5 rfl) ?_
  refine lv_iload hx hb dL_law_231 (lv_at hl 1 rfl) ?_
  refine lv_iconst (v := 3) hx hb dL_law_233 (by decide) ?_
  refine lv_iadd hx hb dL_law_234 ?_
  refine xr_top (y := nI (i + 3)) (nI_add i 3) ?_
  refine va_sld hx hb hX hbl hbA hS (vp_in_nI (n := i + 3) (by omega) (by omega)) dL_law_235 ?_
  refine xr_top (y := xs (i + 3)) (congrArg xs (nI_clamp (by omega))) ?_
  refine xb_i (mc := 0) (ms := 0) (wr := (wr ++ (wH ca f kq ad j g u212))) (w0 := (wQ ca bb q)) (va_runV (As := [.int (xs (i + 1)), .int (xs (i + 2)), .int (xs (i + 3))]) (rest := []) ⟨hx, hb, hml, hown, hts⟩ (c_X11_put l D ca bb _ q (xs (i + 2)) (xs (i + 3)) (xs (i + 1)) hq) (cwV 3 hts gL_law_X11_put rfl rfl rfl (by decide +kernel) ⟨(Nat.le_of_ble_eq_true rfl), (Nat.le_of_ble_eq_true rfl)⟩) (xPbV (wr := (wr ++ (wH ca f kq ad j g u212))) hKN hP hD rfl rfl rfl) rfl rfl hl.1 rfl (lv_room (Nat.le_of_ble_eq_true rfl)) dL_law_236 ⟨Nat.le_trans (m := 601024) (by omega) (Nat.le_of_ble_eq_true rfl), Nat.le_trans (m := 7293033) (by omega) (Nat.le_of_ble_eq_true rfl)⟩) hP hD hS hA (fun r236 u236 H locs hu236 hP hD hS => ?_)
  have hP : va_P D vwCl ((wr ++ (wH ca f kq ad j g u212)) ++ (wQ ca bb u236)) H := hP
  have hD : va_D A ((wr ++ (wH ca f kq ad j g u212)) ++ (wQ ca bb u236)) := hD
  obtain ⟨ex9, hR9, ho9⟩ := hu212
  obtain ⟨hW9, er9, ec9, ab9⟩ := po_gg hu236 hm
  have hco : u236.co = r212 := ec9.trans ex9.symm
  have hab : ∀ i, ¬ i = j → ab u236 i = ab q i := fun i hi => by rw [ab9]; exact vup_ne hi
  have hRj : Rel1 (N + 61) u212.1 (ab u236 j) := by rw [ab9, vup_eq]; exact hR9
  refine lv_istore (lv' := [(6, .int r236), (5, .int r212), (4, .int (nI i)), (3, .ref g), (2, .ref (bb 0)), (1, .ref (f 0)), (0, .ref b)]) hx hb dL_law_239 hl (by decide) rfl (fun ls hl => ?_)
  refine lv_aload_n hx hb dL_law_241 rfl (lv_at hl 4 rfl) ?_
  refine xb_i (mc := 0) (ms := 0) (wr := (wr ++ (wH ca f kq ad j g u212))) (w0 := (wQ ca bb u236)) (va_runV (As := []) (rest := []) ⟨hx, hb, hml, hown, hts⟩ (c_X11_thrown l D ca bb _ u236) (cwV 0 hts gL_law_X11_thrown rfl rfl rfl (by decide +kernel) ⟨(Nat.le_of_ble_eq_true rfl), (Nat.le_of_ble_eq_true rfl)⟩) (xPbV (wr := (wr ++ (wH ca f kq ad j g u212))) hKN hP hD rfl rfl rfl) rfl rfl hl.1 rfl (lv_room (Nat.le_of_ble_eq_true rfl)) dL_law_242 ⟨Nat.le_trans (m := 601024) (by omega) (Nat.le_of_ble_eq_true rfl), Nat.le_trans (m := 7293033) (by omega) (Nat.le_of_ble_eq_true rfl)⟩) hP hD hS hA (fun r242 u242 H locs hu242 hP hD hS => ?_)
  obtain ⟨et242, eu242⟩ := hu242
  have eu242 := eu242.symm
  subst eu242
  refine lv_iload hx hb dL_law_245 (lv_at hl 1 rfl) ?_
  refine lv_icmp_eq (tgt := 252) hx hb dL_law_247 (by decide) (fun c247 => ?_) (fun c247 => ?_)
  · skip
    refine lv_iload hx hb dL_law_252 (lv_at hl 1 rfl) ?_
    refine lv_if_ne (tgt := 276) hx hb dL_law_254 (by decide) (fun c254 => ?_) (fun c254 => ?_)
    · skip
      refine lv_goto (tgt := 1507) hx hb dL_law_276 (by decide) ?_
      exact W.widen (k := cells + 3) (n := slots + 18) (by omega) (by omega) (K9 H locs ls u212 u236 hW9 hab hRj hP hD hS (lv_sub hl [2, 3, 4, 5, 6] rfl))
    · skip
      refine lv_aload_n hx hb dL_law_257 rfl (lv_at hl 3 rfl) ?_
      refine lv_iconst (v := 0) hx hb dL_law_258 (by decide) ?_
      have hPo : va_P D vwCl ([(g, .inl (ca 1, 1, .inr (.inl ((u212).2))))] ++ ((wr ++ ((wX ca f kq ad) ++ (wKd kq) ++ (wMp ca kq (ad j) (u212).1))) ++ (wQ ca bb u236))) H := va_P.perm hP (pm_out (a := wr) (h := (wX ca f kq ad) ++ (wKd kq) ++ (wMp ca kq (ad j) (u212).1)) (o := [(g, .inl (ca 1, 1, .inr (.inl ((u212).2))))]) (q := (wQ ca bb u236)))
      refine xr_lld hx hb hKN.1 hPo 0 1 rfl rfl (j := 0) (by decide) (by decide) dL_law_259 ?_
      refine lv_iload hx hb dL_law_260 (lv_at hl 0 rfl) ?_
      refine lv_if_eq (tgt := 269) hx hb dL_law_262 (by decide) (fun c262 => ?_) (fun c262 => ?_)
      · skip
        refine lv_lconst (v := 0) hx hb dL_law_269 (by decide) ?_
        refine W.lcmp hx hb dL_law_270 ?_
        refine lv_if_eq (tgt := 276) hx hb dL_law_271 (by decide) (fun c271 => ?_) (fun c271 => ?_)
        · skip
          refine lv_goto (tgt := 1507) hx hb dL_law_276 (by decide) ?_
          exact W.widen (k := cells + 3) (n := slots + 18) (by omega) (by omega) (K9 H locs ls u212 u236 hW9 hab hRj hP hD hS (lv_sub hl [2, 3, 4, 5, 6] rfl))
        · skip
          exact absurd (lgc_0.mpr ((ho9 c254).trans (if_pos (er9.symm.trans c262)))) c271
      · skip
        refine lv_lconst (v := 1) hx hb dL_law_265 (by decide) ?_
        refine lv_goto (tgt := 270) hx hb dL_law_266 (by decide) ?_
        refine W.lcmp hx hb dL_law_270 ?_
        refine lv_if_eq (tgt := 276) hx hb dL_law_271 (by decide) (fun c271 => ?_) (fun c271 => ?_)
        · skip
          refine lv_goto (tgt := 1507) hx hb dL_law_276 (by decide) ?_
          exact W.widen (k := cells + 3) (n := slots + 18) (by omega) (by omega) (K9 H locs ls u212 u236 hW9 hab hRj hP hD hS (lv_sub hl [2, 3, 4, 5, 6] rfl))
        · skip
          exact absurd (lgc_0.mpr ((ho9 c254).trans (if_neg (fun h => c262 (er9.trans h))))) c271
  · skip
    exact absurd (et242.trans hco) c247
set_option maxHeartbeats 4000000 in
set_option maxRecDepth 100000 in
theorem k_remove {p : Program} {l : Launch} {e : Env} {s : State} {m : MethodId} {args : Array Value} {below : List Frame} {meth : Method} {c : Code} {H : Heap} {locs : List Loc} {Q : State → Prop} {ls : Array Slot} {D : va_G} {ca : Nat → ClassId} {A : Nat → Prop} {f kq bb : Nat → Nat} {ad : Nat → Nat → Nat} {g b L i N cells slots : Nat} {xs : Nat → Int32} {q : QS} {ov : Nat → Int64} (hx : p.tables.exec = Jvm.exec) (hb : c.code = cL_law) (hml : c.maxLocals = 8) (hts : ∀ w ∈ wsL_law, w.before args s = true) (hown : s.vm.findClass RL = some m.cls) (hKN : xK D (TY ca) s) (hTZ : TZ A s s.heap) (hNC : NC s) (hA : ∀ q : Nat, s.heap.size ≤ q → A q) (hl9 : l.stackTraces = false) (hX : va_X b L xs s s.heap) (hbl : b < s.heap.size) (hbA : ¬ A b) (hiL : i + 5 ≤ L) (hL : L ≤ 2560) (hN : N ≤ 1000000) (hcl : cells + 3 ≤ 601024) (hsl : slots + 18 ≤ 7293033) (wr : va_W) (j : Nat) (y0 : MS) (hq : WQ q) (hm : isB (xs (i + 1)) 3 = true → xs (i + 1) = nI j ∧ j < 3) (hR : Rel1 N y0 (ab q j)) (hP : va_P D vwCl ((wr ++ (wQ ca bb q)) ++ ((wX ca f kq ad) ++ (wKd kq) ++ (wMp ca kq (ad j) y0) ++ [(g, .inl (ca 1, 1, .inr (.inl ov)))])) H) (hD : va_D A ((wr ++ (wQ ca bb q)) ++ ((wX ca f kq ad) ++ (wKd kq) ++ (wMp ca kq (ad j) y0) ++ [(g, .inl (ca 1, 1, .inr (.inl ov)))]))) (hS : va_S A s.heap H locs) (hl : lv_has ls 8 [(4, .int (nI i)), (3, .ref g), (2, .ref (bb 0)), (1, .ref (f 0)), (0, .ref b)]) (K9 : ∀ (H : Heap) (locs : List Loc) (ls : Array Slot) (u : MO) (q9 : QS), WQ q9 → (∀ i, ¬ i = j → ab q9 i = ab q i) → Rel1 (N + 61) u.1 (ab q9 j) → va_P D vwCl ((wr ++ (wH ca f kq ad j g u)) ++ (wQ ca bb q9)) H → va_D A ((wr ++ (wH ca f kq ad j g u)) ++ (wQ ca bb q9)) → va_S A s.heap H locs → lv_has ls 8 [(4, .int (nI i)), (3, .ref g), (2, .ref (bb 0)), (1, .ref (f 0)), (0, .ref b)] → W p l e room_1 s m args below meth c H locs (cells + 3) (slots + 18) Q (F0 m 1507 ls [])) : W p l e room_1 s m args below meth c H locs cells slots Q (F0 m 279 ls []) := by
  refine lv_aload_n hx hb dL_law_279 rfl (lv_at hl 3 rfl) ?_
  refine lv_aload_n hx hb dL_law_280 rfl (lv_at hl 4 rfl) ?_
  refine lv_iload hx hb dL_law_281 (lv_at hl 0 rfl) ?_
  refine lv_iconst (v := 1) hx hb dL_law_283 (by decide) ?_
  refine lv_iadd hx hb dL_law_284 ?_
  refine xr_top (y := nI (i + 1)) (nI_add i 1) ?_
  refine va_sld hx hb hX hbl hbA hS (vp_in_nI (n := i + 1) (by omega) (by omega)) dL_law_285 ?_
  refine xr_top (y := xs (i + 1)) (congrArg xs (nI_clamp (by omega))) ?_
  refine lv_aload_n hx hb dL_law_286 rfl (lv_at hl 4 rfl) ?_
  refine lv_iload hx hb dL_law_287 (lv_at hl 0 rfl) ?_
  refine lv_iconst (v := 2) hx hb dL_law_289 (by decide) ?_
  refine lv_iadd hx hb dL_law_290 ?_
  refine xr_top (y := nI (i + 2)) (nI_add i 2) ?_
  refine va_sld hx hb hX hbl hbA hS (vp_in_nI (n := i + 2) (by omega) (by omega)) dL_law_291 ?_
  refine xr_top (y := xs (i + 2)) (congrArg xs (nI_clamp (by omega))) ?_
  refine lv_aload_n hx hb dL_law_292 rfl (lv_at hl 1 rfl) ?_
  refine xcb_i (mc := 2) (ms := 12) (wr := (wr ++ (wQ ca bb q))) (w0 := (wX ca f kq ad) ++ (wKd kq) ++ (wMp ca kq (ad j) y0) ++ [(g, .inl (ca 1, 1, .inr (.inl ov)))]) (vx_runSX (As := [.ref (f 0), .int (xs (i + 1)), .int (xs (i + 2)), .ref g]) (rest := []) ⟨hx, hb, hml, hown, hts⟩ (c_L_remove l D ca f kq ad _ hl9 j g y0 ov (ab q j) N (xs (i + 1)) (xs (i + 2)) hR hN hm) (vx_cwSW 4 hts gL_law_L_remove rfl rfl rfl (by decide +kernel) ⟨(Nat.le_of_ble_eq_true rfl), (Nat.le_of_ble_eq_true rfl)⟩) (xPbS (wr := (wr ++ (wQ ca bb q))) hKN hTZ hNC hP hD hS hA) rfl rfl hl.1 rfl (lv_room (Nat.le_of_ble_eq_true rfl)) dL_law_293 ⟨Nat.le_trans (m := 601024) (by omega) (Nat.le_of_ble_eq_true rfl), Nat.le_trans (m := 7293033) (by omega) (Nat.le_of_ble_eq_true rfl)⟩) (fun _ _ h => h) hP hD hS hA (fun r293 u293 H locs hu293 hP hD hS => ?_)
  have hP : va_P D vwCl ((wr ++ (wH ca f kq ad j g u293)) ++ (wQ ca bb q)) H := hP.perm (pm_sw (a := wr) (b := (wQ ca bb q)) (c := wH ca f kq ad j g u293))
  have hD : va_D A ((wr ++ (wH ca f kq ad j g u293)) ++ (wQ ca bb q)) := hD.perm (pm_sw (a := wr) (b := (wQ ca bb q)) (c := wH ca f kq ad j g u293))
  refine lv_istore (lv' := [(5, .int r293), (4, .int (nI i)), (3, .ref g), (2, .ref (bb 0)), (1, .ref (f 0)), (0, .ref b)]) hx hb dL_law_296 hl (by decide) rfl (fun ls hl => ?_)
  refine lv_aload_n hx hb dL_law_298 rfl (lv_at hl 3 rfl) ?_
  refine lv_aload_n hx hb dL_law_299 rfl (lv_at hl 5 rfl) ?_
  refine lv_iload hx hb dL_law_300 (lv_at hl 1 rfl) ?_
  refine lv_iconst (v := 1) hx hb dL_law_302 (by decide) ?_
  refine lv_iadd hx hb dL_law_303 ?_
  refine xr_top (y := nI (i + 1)) (nI_add i 1) ?_
  refine va_sld hx hb hX hbl hbA hS (vp_in_nI (n := i + 1) (by omega) (by omega)) dL_law_304 ?_
  refine xr_top (y := xs (i + 1)) (congrArg xs (nI_clamp (by omega))) ?_
  refine lv_aload_n hx hb dL_law_305 rfl (lv_at hl 5 rfl) ?_
  refine lv_iload hx hb dL_law_306 (lv_at hl 1 rfl) ?_
  refine lv_iconst (v := 2) hx hb dL_law_308 (by decide) ?_
  refine lv_iadd hx hb dL_law_309 ?_
  refine xr_top (y := nI (i + 2)) (nI_add i 2) ?_
  refine va_sld hx hb hX hbl hbA hS (vp_in_nI (n := i + 2) (by omega) (by omega)) dL_law_310 ?_
  refine xr_top (y := xs (i + 2)) (congrArg xs (nI_clamp (by omega))) ?_
  refine xb_i (mc := 0) (ms := 0) (wr := (wr ++ (wH ca f kq ad j g u293))) (w0 := (wQ ca bb q)) (va_runV (As := [.int (xs (i + 1)), .int (xs (i + 2))]) (rest := []) ⟨hx, hb, hml, hown, hts⟩ (c_X11_remove l D ca bb _ q (xs (i + 2)) (xs (i + 1)) hq) (cwV 2 hts gL_law_X11_remove rfl rfl rfl (by decide +kernel) ⟨(Nat.le_of_ble_eq_true rfl), (Nat.le_of_ble_eq_true rfl)⟩) (xPbV (wr := (wr ++ (wH ca f kq ad j g u293))) hKN hP hD rfl rfl rfl) rfl rfl hl.1 rfl (lv_room (Nat.le_of_ble_eq_true rfl)) dL_law_311 ⟨Nat.le_trans (m := 601024) (by omega) (Nat.le_of_ble_eq_true rfl), Nat.le_trans (m := 7293033) (by omega) (Nat.le_of_ble_eq_true rfl)⟩) hP hD hS hA (fun r311 u311 H locs hu311 hP hD hS => ?_)
  have hP : va_P D vwCl ((wr ++ (wH ca f kq ad j g u293)) ++ (wQ ca bb u311)) H := hP
  have hD : va_D A ((wr ++ (wH ca f kq ad j g u293)) ++ (wQ ca bb u311)) := hD
  obtain ⟨ex9, hR9, ho9⟩ := hu293
  obtain ⟨hW9, er9, ec9, ab9⟩ := po_gg hu311 hm
  have hco : u311.co = r293 := ec9.trans ex9.symm
  have hab : ∀ i, ¬ i = j → ab u311 i = ab q i := fun i hi => by rw [ab9]; exact vup_ne hi
  have hRj : Rel1 (N + 61) u293.1 (ab u311 j) := by rw [ab9, vup_eq]; exact hR9
  refine lv_istore (lv' := [(6, .int r311), (5, .int r293), (4, .int (nI i)), (3, .ref g), (2, .ref (bb 0)), (1, .ref (f 0)), (0, .ref b)]) hx hb dL_law_314 hl (by decide) rfl (fun ls hl => ?_)
  refine lv_aload_n hx hb dL_law_316 rfl (lv_at hl 4 rfl) ?_
  refine xb_i (mc := 0) (ms := 0) (wr := (wr ++ (wH ca f kq ad j g u293))) (w0 := (wQ ca bb u311)) (va_runV (As := []) (rest := []) ⟨hx, hb, hml, hown, hts⟩ (c_X11_thrown l D ca bb _ u311) (cwV 0 hts gL_law_X11_thrown rfl rfl rfl (by decide +kernel) ⟨(Nat.le_of_ble_eq_true rfl), (Nat.le_of_ble_eq_true rfl)⟩) (xPbV (wr := (wr ++ (wH ca f kq ad j g u293))) hKN hP hD rfl rfl rfl) rfl rfl hl.1 rfl (lv_room (Nat.le_of_ble_eq_true rfl)) dL_law_317 ⟨Nat.le_trans (m := 601024) (by omega) (Nat.le_of_ble_eq_true rfl), Nat.le_trans (m := 7293033) (by omega) (Nat.le_of_ble_eq_true rfl)⟩) hP hD hS hA (fun r317 u317 H locs hu317 hP hD hS => ?_)
  obtain ⟨et317, eu317⟩ := hu317
  have eu317 := eu317.symm
  subst eu317
  refine lv_iload hx hb dL_law_320 (lv_at hl 1 rfl) ?_
  refine lv_icmp_eq (tgt := 327) hx hb dL_law_322 (by decide) (fun c322 => ?_) (fun c322 => ?_)
  · skip
    refine lv_iload hx hb dL_law_327 (lv_at hl 1 rfl) ?_
    refine lv_if_ne (tgt := 351) hx hb dL_law_329 (by decide) (fun c329 => ?_) (fun c329 => ?_)
    · skip
      refine lv_goto (tgt := 1507) hx hb dL_law_351 (by decide) ?_
      exact W.widen (k := cells + 3) (n := slots + 18) (by omega) (by omega) (K9 H locs ls u293 u311 hW9 hab hRj hP hD hS (lv_sub hl [2, 3, 4, 5, 6] rfl))
    · skip
      refine lv_aload_n hx hb dL_law_332 rfl (lv_at hl 3 rfl) ?_
      refine lv_iconst (v := 0) hx hb dL_law_333 (by decide) ?_
      have hPo : va_P D vwCl ([(g, .inl (ca 1, 1, .inr (.inl ((u293).2))))] ++ ((wr ++ ((wX ca f kq ad) ++ (wKd kq) ++ (wMp ca kq (ad j) (u293).1))) ++ (wQ ca bb u311))) H := va_P.perm hP (pm_out (a := wr) (h := (wX ca f kq ad) ++ (wKd kq) ++ (wMp ca kq (ad j) (u293).1)) (o := [(g, .inl (ca 1, 1, .inr (.inl ((u293).2))))]) (q := (wQ ca bb u311)))
      refine xr_lld hx hb hKN.1 hPo 0 1 rfl rfl (j := 0) (by decide) (by decide) dL_law_334 ?_
      refine lv_iload hx hb dL_law_335 (lv_at hl 0 rfl) ?_
      refine lv_if_eq (tgt := 344) hx hb dL_law_337 (by decide) (fun c337 => ?_) (fun c337 => ?_)
      · skip
        refine lv_lconst (v := 0) hx hb dL_law_344 (by decide) ?_
        refine W.lcmp hx hb dL_law_345 ?_
        refine lv_if_eq (tgt := 351) hx hb dL_law_346 (by decide) (fun c346 => ?_) (fun c346 => ?_)
        · skip
          refine lv_goto (tgt := 1507) hx hb dL_law_351 (by decide) ?_
          exact W.widen (k := cells + 3) (n := slots + 18) (by omega) (by omega) (K9 H locs ls u293 u311 hW9 hab hRj hP hD hS (lv_sub hl [2, 3, 4, 5, 6] rfl))
        · skip
          exact absurd (lgc_0.mpr ((ho9 c329).trans (if_pos (er9.symm.trans c337)))) c346
      · skip
        refine lv_lconst (v := 1) hx hb dL_law_340 (by decide) ?_
        refine lv_goto (tgt := 345) hx hb dL_law_341 (by decide) ?_
        refine W.lcmp hx hb dL_law_345 ?_
        refine lv_if_eq (tgt := 351) hx hb dL_law_346 (by decide) (fun c346 => ?_) (fun c346 => ?_)
        · skip
          refine lv_goto (tgt := 1507) hx hb dL_law_351 (by decide) ?_
          exact W.widen (k := cells + 3) (n := slots + 18) (by omega) (by omega) (K9 H locs ls u293 u311 hW9 hab hRj hP hD hS (lv_sub hl [2, 3, 4, 5, 6] rfl))
        · skip
          exact absurd (lgc_0.mpr ((ho9 c329).trans (if_neg (fun h => c337 (er9.trans h))))) c346
  · skip
    exact absurd (et317.trans hco) c322
set_option maxHeartbeats 4000000 in
set_option maxRecDepth 100000 in
theorem k_get {p : Program} {l : Launch} {e : Env} {s : State} {m : MethodId} {args : Array Value} {below : List Frame} {meth : Method} {c : Code} {H : Heap} {locs : List Loc} {Q : State → Prop} {ls : Array Slot} {D : va_G} {ca : Nat → ClassId} {A : Nat → Prop} {f kq bb : Nat → Nat} {ad : Nat → Nat → Nat} {g b L i N cells slots : Nat} {xs : Nat → Int32} {q : QS} {ov : Nat → Int64} (hx : p.tables.exec = Jvm.exec) (hb : c.code = cL_law) (hml : c.maxLocals = 8) (hts : ∀ w ∈ wsL_law, w.before args s = true) (hown : s.vm.findClass RL = some m.cls) (hKN : xK D (TY ca) s) (hTZ : TZ A s s.heap) (hNC : NC s) (hA : ∀ q : Nat, s.heap.size ≤ q → A q) (hl9 : l.stackTraces = false) (hX : va_X b L xs s s.heap) (hbl : b < s.heap.size) (hbA : ¬ A b) (hiL : i + 5 ≤ L) (hL : L ≤ 2560) (hN : N ≤ 1000000) (hcl : cells + 3 ≤ 601024) (hsl : slots + 18 ≤ 7293033) (wr : va_W) (j : Nat) (y0 : MS) (hq : WQ q) (hm : isB (xs (i + 1)) 3 = true → xs (i + 1) = nI j ∧ j < 3) (hR : Rel1 N y0 (ab q j)) (hP : va_P D vwCl ((wr ++ (wQ ca bb q)) ++ ((wX ca f kq ad) ++ (wKd kq) ++ (wMp ca kq (ad j) y0) ++ [(g, .inl (ca 1, 1, .inr (.inl ov)))])) H) (hD : va_D A ((wr ++ (wQ ca bb q)) ++ ((wX ca f kq ad) ++ (wKd kq) ++ (wMp ca kq (ad j) y0) ++ [(g, .inl (ca 1, 1, .inr (.inl ov)))]))) (hS : va_S A s.heap H locs) (hl : lv_has ls 8 [(4, .int (nI i)), (3, .ref g), (2, .ref (bb 0)), (1, .ref (f 0)), (0, .ref b)]) (K9 : ∀ (H : Heap) (locs : List Loc) (ls : Array Slot) (u : MO) (q9 : QS), WQ q9 → (∀ i, ¬ i = j → ab q9 i = ab q i) → Rel1 (N + 61) u.1 (ab q9 j) → va_P D vwCl ((wr ++ (wH ca f kq ad j g u)) ++ (wQ ca bb q9)) H → va_D A ((wr ++ (wH ca f kq ad j g u)) ++ (wQ ca bb q9)) → va_S A s.heap H locs → lv_has ls 8 [(4, .int (nI i)), (3, .ref g), (2, .ref (bb 0)), (1, .ref (f 0)), (0, .ref b)] → W p l e room_1 s m args below meth c H locs (cells + 3) (slots + 18) Q (F0 m 1507 ls [])) : W p l e room_1 s m args below meth c H locs cells slots Q (F0 m 354 ls []) := by
  refine lv_aload_n hx hb dL_law_354 rfl (lv_at hl 3 rfl) ?_
  refine lv_aload_n hx hb dL_law_355 rfl (lv_at hl 4 rfl) ?_
  refine lv_iload hx hb dL_law_356 (lv_at hl 0 rfl) ?_
  refine lv_iconst (v := 1) hx hb dL_law_358 (by decide) ?_
  refine lv_iadd hx hb dL_law_359 ?_
  refine xr_top (y := nI (i + 1)) (nI_add i 1) ?_
  refine va_sld hx hb hX hbl hbA hS (vp_in_nI (n := i + 1) (by omega) (by omega)) dL_law_360 ?_
  refine xr_top (y := xs (i + 1)) (congrArg xs (nI_clamp (by omega))) ?_
  refine lv_aload_n hx hb dL_law_361 rfl (lv_at hl 4 rfl) ?_
  refine lv_iload hx hb dL_law_362 (lv_at hl 0 rfl) ?_
  refine lv_iconst (v := 2) hx hb dL_law_364 (by decide) ?_
  refine lv_iadd hx hb dL_law_365 ?_
  refine xr_top (y := nI (i + 2)) (nI_add i 2) ?_
  refine va_sld hx hb hX hbl hbA hS (vp_in_nI (n := i + 2) (by omega) (by omega)) dL_law_366 ?_
  refine xr_top (y := xs (i + 2)) (congrArg xs (nI_clamp (by omega))) ?_
  refine lv_aload_n hx hb dL_law_367 rfl (lv_at hl 1 rfl) ?_
  refine xcb_i (mc := 2) (ms := 12) (wr := (wr ++ (wQ ca bb q))) (w0 := (wX ca f kq ad) ++ (wKd kq) ++ (wMp ca kq (ad j) y0) ++ [(g, .inl (ca 1, 1, .inr (.inl ov)))]) (vx_runSX (As := [.ref (f 0), .int (xs (i + 1)), .int (xs (i + 2)), .ref g]) (rest := []) ⟨hx, hb, hml, hown, hts⟩ (c_L_get l D ca f kq ad _ hl9 j g y0 ov (ab q j) N (xs (i + 1)) (xs (i + 2)) hR hN hm) (vx_cwSW 4 hts gL_law_L_get rfl rfl rfl (by decide +kernel) ⟨(Nat.le_of_ble_eq_true rfl), (Nat.le_of_ble_eq_true rfl)⟩) (xPbS (wr := (wr ++ (wQ ca bb q))) hKN hTZ hNC hP hD hS hA) rfl rfl hl.1 rfl (lv_room (Nat.le_of_ble_eq_true rfl)) dL_law_368 ⟨Nat.le_trans (m := 601024) (by omega) (Nat.le_of_ble_eq_true rfl), Nat.le_trans (m := 7293033) (by omega) (Nat.le_of_ble_eq_true rfl)⟩) (fun _ _ h => h) hP hD hS hA (fun r368 u368 H locs hu368 hP hD hS => ?_)
  have hP : va_P D vwCl ((wr ++ (wH ca f kq ad j g u368)) ++ (wQ ca bb q)) H := hP.perm (pm_sw (a := wr) (b := (wQ ca bb q)) (c := wH ca f kq ad j g u368))
  have hD : va_D A ((wr ++ (wH ca f kq ad j g u368)) ++ (wQ ca bb q)) := hD.perm (pm_sw (a := wr) (b := (wQ ca bb q)) (c := wH ca f kq ad j g u368))
  refine lv_istore (lv' := [(5, .int r368), (4, .int (nI i)), (3, .ref g), (2, .ref (bb 0)), (1, .ref (f 0)), (0, .ref b)]) hx hb dL_law_371 hl (by decide) rfl (fun ls hl => ?_)
  refine lv_aload_n hx hb dL_law_373 rfl (lv_at hl 3 rfl) ?_
  refine lv_aload_n hx hb dL_law_374 rfl (lv_at hl 5 rfl) ?_
  refine lv_iload hx hb dL_law_375 (lv_at hl 1 rfl) ?_
  refine lv_iconst (v := 1) hx hb dL_law_377 (by decide) ?_
  refine lv_iadd hx hb dL_law_378 ?_
  refine xr_top (y := nI (i + 1)) (nI_add i 1) ?_
  refine va_sld hx hb hX hbl hbA hS (vp_in_nI (n := i + 1) (by omega) (by omega)) dL_law_379 ?_
  refine xr_top (y := xs (i + 1)) (congrArg xs (nI_clamp (by omega))) ?_
  refine lv_aload_n hx hb dL_law_380 rfl (lv_at hl 5 rfl) ?_
  refine lv_iload hx hb dL_law_381 (lv_at hl 1 rfl) ?_
  refine lv_iconst (v := 2) hx hb dL_law_383 (by decide) ?_
  refine lv_iadd hx hb dL_law_384 ?_
  refine xr_top (y := nI (i + 2)) (nI_add i 2) ?_
  refine va_sld hx hb hX hbl hbA hS (vp_in_nI (n := i + 2) (by omega) (by omega)) dL_law_385 ?_
  refine xr_top (y := xs (i + 2)) (congrArg xs (nI_clamp (by omega))) ?_
  refine xb_i (mc := 0) (ms := 0) (wr := (wr ++ (wH ca f kq ad j g u368))) (w0 := (wQ ca bb q)) (va_runV (As := [.int (xs (i + 1)), .int (xs (i + 2))]) (rest := []) ⟨hx, hb, hml, hown, hts⟩ (c_X11_get l D ca bb _ q (xs (i + 2)) (xs (i + 1)) hq) (cwV 2 hts gL_law_X11_get rfl rfl rfl (by decide +kernel) ⟨(Nat.le_of_ble_eq_true rfl), (Nat.le_of_ble_eq_true rfl)⟩) (xPbV (wr := (wr ++ (wH ca f kq ad j g u368))) hKN hP hD rfl rfl rfl) rfl rfl hl.1 rfl (lv_room (Nat.le_of_ble_eq_true rfl)) dL_law_386 ⟨Nat.le_trans (m := 601024) (by omega) (Nat.le_of_ble_eq_true rfl), Nat.le_trans (m := 7293033) (by omega) (Nat.le_of_ble_eq_true rfl)⟩) hP hD hS hA (fun r386 u386 H locs hu386 hP hD hS => ?_)
  have hP : va_P D vwCl ((wr ++ (wH ca f kq ad j g u368)) ++ (wQ ca bb u386)) H := hP
  have hD : va_D A ((wr ++ (wH ca f kq ad j g u368)) ++ (wQ ca bb u386)) := hD
  obtain ⟨ex9, hR9, ho9⟩ := hu368
  obtain ⟨hW9, er9, ec9, ab9⟩ := po_gg hu386 hm
  have hco : u386.co = r368 := ec9.trans ex9.symm
  have hab : ∀ i, ¬ i = j → ab u386 i = ab q i := fun i hi => by rw [ab9]; exact vup_ne hi
  have hRj : Rel1 (N + 61) u368.1 (ab u386 j) := by rw [ab9, vup_eq]; exact hR9
  refine lv_istore (lv' := [(6, .int r386), (5, .int r368), (4, .int (nI i)), (3, .ref g), (2, .ref (bb 0)), (1, .ref (f 0)), (0, .ref b)]) hx hb dL_law_389 hl (by decide) rfl (fun ls hl => ?_)
  refine lv_aload_n hx hb dL_law_391 rfl (lv_at hl 4 rfl) ?_
  refine xb_i (mc := 0) (ms := 0) (wr := (wr ++ (wH ca f kq ad j g u368))) (w0 := (wQ ca bb u386)) (va_runV (As := []) (rest := []) ⟨hx, hb, hml, hown, hts⟩ (c_X11_thrown l D ca bb _ u386) (cwV 0 hts gL_law_X11_thrown rfl rfl rfl (by decide +kernel) ⟨(Nat.le_of_ble_eq_true rfl), (Nat.le_of_ble_eq_true rfl)⟩) (xPbV (wr := (wr ++ (wH ca f kq ad j g u368))) hKN hP hD rfl rfl rfl) rfl rfl hl.1 rfl (lv_room (Nat.le_of_ble_eq_true rfl)) dL_law_392 ⟨Nat.le_trans (m := 601024) (by omega) (Nat.le_of_ble_eq_true rfl), Nat.le_trans (m := 7293033) (by omega) (Nat.le_of_ble_eq_true rfl)⟩) hP hD hS hA (fun r392 u392 H locs hu392 hP hD hS => ?_)
  obtain ⟨et392, eu392⟩ := hu392
  have eu392 := eu392.symm
  subst eu392
  refine lv_iload hx hb dL_law_395 (lv_at hl 1 rfl) ?_
  refine lv_icmp_eq (tgt := 402) hx hb dL_law_397 (by decide) (fun c397 => ?_) (fun c397 => ?_)
  · skip
    refine lv_iload hx hb dL_law_402 (lv_at hl 1 rfl) ?_
    refine lv_if_ne (tgt := 419) hx hb dL_law_404 (by decide) (fun c404 => ?_) (fun c404 => ?_)
    · skip
      refine lv_goto (tgt := 1507) hx hb dL_law_419 (by decide) ?_
      exact W.widen (k := cells + 3) (n := slots + 18) (by omega) (by omega) (K9 H locs ls u368 u386 hW9 hab hRj hP hD hS (lv_sub hl [2, 3, 4, 5, 6] rfl))
    · skip
      refine lv_aload_n hx hb dL_law_407 rfl (lv_at hl 3 rfl) ?_
      refine lv_iconst (v := 0) hx hb dL_law_408 (by decide) ?_
      have hPo : va_P D vwCl ([(g, .inl (ca 1, 1, .inr (.inl ((u368).2))))] ++ ((wr ++ ((wX ca f kq ad) ++ (wKd kq) ++ (wMp ca kq (ad j) (u368).1))) ++ (wQ ca bb u386))) H := va_P.perm hP (pm_out (a := wr) (h := (wX ca f kq ad) ++ (wKd kq) ++ (wMp ca kq (ad j) (u368).1)) (o := [(g, .inl (ca 1, 1, .inr (.inl ((u368).2))))]) (q := (wQ ca bb u386)))
      refine xr_lld hx hb hKN.1 hPo 0 1 rfl rfl (j := 0) (by decide) (by decide) dL_law_409 ?_
      refine lv_iload hx hb dL_law_410 (lv_at hl 0 rfl) ?_
      refine lv_i2l hx hb dL_law_412 rfl ?_
      refine W.lcmp hx hb dL_law_413 ?_
      refine lv_if_eq (tgt := 419) hx hb dL_law_414 (by decide) (fun c414 => ?_) (fun c414 => ?_)
      · skip
        refine lv_goto (tgt := 1507) hx hb dL_law_419 (by decide) ?_
        exact W.widen (k := cells + 3) (n := slots + 18) (by omega) (by omega) (K9 H locs ls u368 u386 hW9 hab hRj hP hD hS (lv_sub hl [2, 3, 4, 5, 6] rfl))
      · skip
        exact absurd (lgc_0.mpr ((ho9 c404).trans (congrArg Int32.toInt64 er9.symm))) c414
  · skip
    exact absurd (et392.trans hco) c397
set_option maxHeartbeats 4000000 in
set_option maxRecDepth 100000 in
theorem k_near {p : Program} {l : Launch} {e : Env} {s : State} {m : MethodId} {args : Array Value} {below : List Frame} {meth : Method} {c : Code} {H : Heap} {locs : List Loc} {Q : State → Prop} {ls : Array Slot} {D : va_G} {ca : Nat → ClassId} {A : Nat → Prop} {f kq bb : Nat → Nat} {ad : Nat → Nat → Nat} {g b L i N cells slots : Nat} {xs : Nat → Int32} {q : QS} {ov : Nat → Int64} (hx : p.tables.exec = Jvm.exec) (hb : c.code = cL_law) (hml : c.maxLocals = 8) (hts : ∀ w ∈ wsL_law, w.before args s = true) (hown : s.vm.findClass RL = some m.cls) (hKN : xK D (TY ca) s) (hTZ : TZ A s s.heap) (hNC : NC s) (hA : ∀ q : Nat, s.heap.size ≤ q → A q) (hl9 : l.stackTraces = false) (hX : va_X b L xs s s.heap) (hbl : b < s.heap.size) (hbA : ¬ A b) (hiL : i + 5 ≤ L) (hL : L ≤ 2560) (hN : N ≤ 1000000) (hcl : cells + 3 ≤ 601024) (hsl : slots + 18 ≤ 7293033) (wr : va_W) (j : Nat) (y0 : MS) (hq : WQ q) (hm : isB (xs (i + 1)) 3 = true → xs (i + 1) = nI j ∧ j < 3) (hR : Rel1 N y0 (ab q j)) (hP : va_P D vwCl ((wr ++ (wQ ca bb q)) ++ ((wX ca f kq ad) ++ (wKd kq) ++ (wMp ca kq (ad j) y0) ++ [(g, .inl (ca 1, 1, .inr (.inl ov)))])) H) (hD : va_D A ((wr ++ (wQ ca bb q)) ++ ((wX ca f kq ad) ++ (wKd kq) ++ (wMp ca kq (ad j) y0) ++ [(g, .inl (ca 1, 1, .inr (.inl ov)))]))) (hS : va_S A s.heap H locs) (hl : lv_has ls 8 [(4, .int (nI i)), (3, .ref g), (2, .ref (bb 0)), (1, .ref (f 0)), (0, .ref b)]) (K9 : ∀ (H : Heap) (locs : List Loc) (ls : Array Slot) (u : MO) (q9 : QS), WQ q9 → (∀ i, ¬ i = j → ab q9 i = ab q i) → Rel1 (N + 61) u.1 (ab q9 j) → va_P D vwCl ((wr ++ (wH ca f kq ad j g u)) ++ (wQ ca bb q9)) H → va_D A ((wr ++ (wH ca f kq ad j g u)) ++ (wQ ca bb q9)) → va_S A s.heap H locs → lv_has ls 8 [(4, .int (nI i)), (3, .ref g), (2, .ref (bb 0)), (1, .ref (f 0)), (0, .ref b)] → W p l e room_1 s m args below meth c H locs (cells + 3) (slots + 18) Q (F0 m 1507 ls [])) : W p l e room_1 s m args below meth c H locs cells slots Q (F0 m 422 ls []) := by
  refine lv_aload_n hx hb dL_law_422 rfl (lv_at hl 3 rfl) ?_
  refine lv_aload_n hx hb dL_law_423 rfl (lv_at hl 4 rfl) ?_
  refine lv_iload hx hb dL_law_424 (lv_at hl 0 rfl) ?_
  refine lv_iconst (v := 1) hx hb dL_law_426 (by decide) ?_
  refine lv_iadd hx hb dL_law_427 ?_
  refine xr_top (y := nI (i + 1)) (nI_add i 1) ?_
  refine va_sld hx hb hX hbl hbA hS (vp_in_nI (n := i + 1) (by omega) (by omega)) dL_law_428 ?_
  refine xr_top (y := xs (i + 1)) (congrArg xs (nI_clamp (by omega))) ?_
  refine lv_aload_n hx hb dL_law_429 rfl (lv_at hl 4 rfl) ?_
  refine lv_iload hx hb dL_law_430 (lv_at hl 0 rfl) ?_
  refine lv_iconst (v := 2) hx hb dL_law_432 (by decide) ?_
  refine lv_iadd hx hb dL_law_433 ?_
  refine xr_top (y := nI (i + 2)) (nI_add i 2) ?_
  refine va_sld hx hb hX hbl hbA hS (vp_in_nI (n := i + 2) (by omega) (by omega)) dL_law_434 ?_
  refine xr_top (y := xs (i + 2)) (congrArg xs (nI_clamp (by omega))) ?_
  refine lv_aload_n hx hb dL_law_435 rfl (lv_at hl 4 rfl) ?_
  refine lv_iload hx hb dL_law_436 (lv_at hl 0 rfl) ?_
  refine lv_iconst (v := 3) hx hb dL_law_438 (by decide) ?_
  refine lv_iadd hx hb dL_law_439 ?_
  refine xr_top (y := nI (i + 3)) (nI_add i 3) ?_
  refine va_sld hx hb hX hbl hbA hS (vp_in_nI (n := i + 3) (by omega) (by omega)) dL_law_440 ?_
  refine xr_top (y := xs (i + 3)) (congrArg xs (nI_clamp (by omega))) ?_
  refine lv_aload_n hx hb dL_law_441 rfl (lv_at hl 1 rfl) ?_
  refine xcb_i (mc := 2) (ms := 12) (wr := (wr ++ (wQ ca bb q))) (w0 := (wX ca f kq ad) ++ (wKd kq) ++ (wMp ca kq (ad j) y0) ++ [(g, .inl (ca 1, 1, .inr (.inl ov)))]) (vx_runSX (As := [.ref (f 0), .int (xs (i + 1)), .int (xs (i + 2)), .int (xs (i + 3)), .ref g]) (rest := []) ⟨hx, hb, hml, hown, hts⟩ (c_L_near l D ca f kq ad _ hl9 j g y0 ov (ab q j) N (xs (i + 1)) (xs (i + 2)) (xs (i + 3)) hR hN hm) (vx_cwSW 5 hts gL_law_L_near rfl rfl rfl (by decide +kernel) ⟨(Nat.le_of_ble_eq_true rfl), (Nat.le_of_ble_eq_true rfl)⟩) (xPbS (wr := (wr ++ (wQ ca bb q))) hKN hTZ hNC hP hD hS hA) rfl rfl hl.1 rfl (lv_room (Nat.le_of_ble_eq_true rfl)) dL_law_442 ⟨Nat.le_trans (m := 601024) (by omega) (Nat.le_of_ble_eq_true rfl), Nat.le_trans (m := 7293033) (by omega) (Nat.le_of_ble_eq_true rfl)⟩) (fun _ _ h => h) hP hD hS hA (fun r442 u442 H locs hu442 hP hD hS => ?_)
  have hP : va_P D vwCl ((wr ++ (wH ca f kq ad j g u442)) ++ (wQ ca bb q)) H := hP.perm (pm_sw (a := wr) (b := (wQ ca bb q)) (c := wH ca f kq ad j g u442))
  have hD : va_D A ((wr ++ (wH ca f kq ad j g u442)) ++ (wQ ca bb q)) := hD.perm (pm_sw (a := wr) (b := (wQ ca bb q)) (c := wH ca f kq ad j g u442))
  refine lv_istore (lv' := [(5, .int r442), (4, .int (nI i)), (3, .ref g), (2, .ref (bb 0)), (1, .ref (f 0)), (0, .ref b)]) hx hb dL_law_445 hl (by decide) rfl (fun ls hl => ?_)
  refine lv_aload_n hx hb dL_law_447 rfl (lv_at hl 3 rfl) ?_
  refine lv_aload_n hx hb dL_law_448 rfl (lv_at hl 5 rfl) ?_
  refine lv_iload hx hb dL_law_449 (lv_at hl 1 rfl) ?_
  refine lv_iconst (v := 1) hx hb dL_law_451 (by decide) ?_
  refine lv_iadd hx hb dL_law_452 ?_
  refine xr_top (y := nI (i + 1)) (nI_add i 1) ?_
  refine va_sld hx hb hX hbl hbA hS (vp_in_nI (n := i + 1) (by omega) (by omega)) dL_law_453 ?_
  refine xr_top (y := xs (i + 1)) (congrArg xs (nI_clamp (by omega))) ?_
  refine lv_aload_n hx hb dL_law_454 rfl (lv_at hl 5 rfl) ?_
  refine lv_iload hx hb dL_law_455 (lv_at hl 1 rfl) ?_
  refine lv_iconst (v := 2) hx hb dL_law_457 (by decide) ?_
  refine lv_iadd hx hb dL_law_458 ?_
  refine xr_top (y := nI (i + 2)) (nI_add i 2) ?_
  refine va_sld hx hb hX hbl hbA hS (vp_in_nI (n := i + 2) (by omega) (by omega)) dL_law_459 ?_
  refine xr_top (y := xs (i + 2)) (congrArg xs (nI_clamp (by omega))) ?_
  refine lv_aload_n hx hb dL_law_460 rfl (lv_at hl 5 rfl) ?_
  refine lv_iload hx hb dL_law_461 (lv_at hl 1 rfl) ?_
  refine lv_iconst (v := 3) hx hb dL_law_463 (by decide) ?_
  refine lv_iadd hx hb dL_law_464 ?_
  refine xr_top (y := nI (i + 3)) (nI_add i 3) ?_
  refine va_sld hx hb hX hbl hbA hS (vp_in_nI (n := i + 3) (by omega) (by omega)) dL_law_465 ?_
  refine xr_top (y := xs (i + 3)) (congrArg xs (nI_clamp (by omega))) ?_
  refine xb_i (mc := 0) (ms := 0) (wr := (wr ++ (wH ca f kq ad j g u442))) (w0 := (wQ ca bb q)) (va_runV (As := [.int (xs (i + 1)), .int (xs (i + 2)), .int (xs (i + 3))]) (rest := []) ⟨hx, hb, hml, hown, hts⟩ (c_X11_near l D ca bb _ q (xs (i + 2)) (xs (i + 3)) (xs (i + 1)) hq) (cwV 3 hts gL_law_X11_near rfl rfl rfl (by decide +kernel) ⟨(Nat.le_of_ble_eq_true rfl), (Nat.le_of_ble_eq_true rfl)⟩) (xPbV (wr := (wr ++ (wH ca f kq ad j g u442))) hKN hP hD rfl rfl rfl) rfl rfl hl.1 rfl (lv_room (Nat.le_of_ble_eq_true rfl)) dL_law_466 ⟨Nat.le_trans (m := 601024) (by omega) (Nat.le_of_ble_eq_true rfl), Nat.le_trans (m := 7293033) (by omega) (Nat.le_of_ble_eq_true rfl)⟩) hP hD hS hA (fun r466 u466 H locs hu466 hP hD hS => ?_)
  have hP : va_P D vwCl ((wr ++ (wH ca f kq ad j g u442)) ++ (wQ ca bb u466)) H := hP
  have hD : va_D A ((wr ++ (wH ca f kq ad j g u442)) ++ (wQ ca bb u466)) := hD
  obtain ⟨ex9, hR9, ho9⟩ := hu442
  obtain ⟨hW9, er9, ec9, ab9⟩ := po_gg hu466 hm
  have hco : u466.co = r442 := ec9.trans ex9.symm
  have hab : ∀ i, ¬ i = j → ab u466 i = ab q i := fun i hi => by rw [ab9]; exact vup_ne hi
  have hRj : Rel1 (N + 61) u442.1 (ab u466 j) := by rw [ab9, vup_eq]; exact hR9
  refine lv_istore (lv' := [(6, .int r466), (5, .int r442), (4, .int (nI i)), (3, .ref g), (2, .ref (bb 0)), (1, .ref (f 0)), (0, .ref b)]) hx hb dL_law_469 hl (by decide) rfl (fun ls hl => ?_)
  refine lv_aload_n hx hb dL_law_471 rfl (lv_at hl 4 rfl) ?_
  refine xb_i (mc := 0) (ms := 0) (wr := (wr ++ (wH ca f kq ad j g u442))) (w0 := (wQ ca bb u466)) (va_runV (As := []) (rest := []) ⟨hx, hb, hml, hown, hts⟩ (c_X11_thrown l D ca bb _ u466) (cwV 0 hts gL_law_X11_thrown rfl rfl rfl (by decide +kernel) ⟨(Nat.le_of_ble_eq_true rfl), (Nat.le_of_ble_eq_true rfl)⟩) (xPbV (wr := (wr ++ (wH ca f kq ad j g u442))) hKN hP hD rfl rfl rfl) rfl rfl hl.1 rfl (lv_room (Nat.le_of_ble_eq_true rfl)) dL_law_472 ⟨Nat.le_trans (m := 601024) (by omega) (Nat.le_of_ble_eq_true rfl), Nat.le_trans (m := 7293033) (by omega) (Nat.le_of_ble_eq_true rfl)⟩) hP hD hS hA (fun r472 u472 H locs hu472 hP hD hS => ?_)
  obtain ⟨et472, eu472⟩ := hu472
  have eu472 := eu472.symm
  subst eu472
  refine lv_iload hx hb dL_law_475 (lv_at hl 1 rfl) ?_
  refine lv_icmp_eq (tgt := 482) hx hb dL_law_477 (by decide) (fun c477 => ?_) (fun c477 => ?_)
  · skip
    refine lv_iload hx hb dL_law_482 (lv_at hl 1 rfl) ?_
    refine lv_if_ne (tgt := 499) hx hb dL_law_484 (by decide) (fun c484 => ?_) (fun c484 => ?_)
    · skip
      refine lv_goto (tgt := 1507) hx hb dL_law_499 (by decide) ?_
      exact W.widen (k := cells + 3) (n := slots + 18) (by omega) (by omega) (K9 H locs ls u442 u466 hW9 hab hRj hP hD hS (lv_sub hl [2, 3, 4, 5, 6] rfl))
    · skip
      refine lv_aload_n hx hb dL_law_487 rfl (lv_at hl 3 rfl) ?_
      refine lv_iconst (v := 0) hx hb dL_law_488 (by decide) ?_
      have hPo : va_P D vwCl ([(g, .inl (ca 1, 1, .inr (.inl ((u442).2))))] ++ ((wr ++ ((wX ca f kq ad) ++ (wKd kq) ++ (wMp ca kq (ad j) (u442).1))) ++ (wQ ca bb u466))) H := va_P.perm hP (pm_out (a := wr) (h := (wX ca f kq ad) ++ (wKd kq) ++ (wMp ca kq (ad j) (u442).1)) (o := [(g, .inl (ca 1, 1, .inr (.inl ((u442).2))))]) (q := (wQ ca bb u466)))
      refine xr_lld hx hb hKN.1 hPo 0 1 rfl rfl (j := 0) (by decide) (by decide) dL_law_489 ?_
      refine lv_iload hx hb dL_law_490 (lv_at hl 0 rfl) ?_
      refine lv_i2l hx hb dL_law_492 rfl ?_
      refine W.lcmp hx hb dL_law_493 ?_
      refine lv_if_eq (tgt := 499) hx hb dL_law_494 (by decide) (fun c494 => ?_) (fun c494 => ?_)
      · skip
        refine lv_goto (tgt := 1507) hx hb dL_law_499 (by decide) ?_
        exact W.widen (k := cells + 3) (n := slots + 18) (by omega) (by omega) (K9 H locs ls u442 u466 hW9 hab hRj hP hD hS (lv_sub hl [2, 3, 4, 5, 6] rfl))
      · skip
        exact absurd (lgc_0.mpr ((ho9 c484).trans (congrArg Int32.toInt64 er9.symm))) c494
  · skip
    exact absurd (et472.trans hco) c477
set_option maxHeartbeats 4000000 in
set_option maxRecDepth 100000 in
theorem k_size {p : Program} {l : Launch} {e : Env} {s : State} {m : MethodId} {args : Array Value} {below : List Frame} {meth : Method} {c : Code} {H : Heap} {locs : List Loc} {Q : State → Prop} {ls : Array Slot} {D : va_G} {ca : Nat → ClassId} {A : Nat → Prop} {f kq bb : Nat → Nat} {ad : Nat → Nat → Nat} {g b L i N cells slots : Nat} {xs : Nat → Int32} {q : QS} {ov : Nat → Int64} (hx : p.tables.exec = Jvm.exec) (hb : c.code = cL_law) (hml : c.maxLocals = 8) (hts : ∀ w ∈ wsL_law, w.before args s = true) (hown : s.vm.findClass RL = some m.cls) (hKN : xK D (TY ca) s) (hTZ : TZ A s s.heap) (hNC : NC s) (hA : ∀ q : Nat, s.heap.size ≤ q → A q) (hl9 : l.stackTraces = false) (hX : va_X b L xs s s.heap) (hbl : b < s.heap.size) (hbA : ¬ A b) (hiL : i + 5 ≤ L) (hL : L ≤ 2560) (hN : N ≤ 1000000) (hcl : cells + 3 ≤ 601024) (hsl : slots + 18 ≤ 7293033) (wr : va_W) (j : Nat) (y0 : MS) (hq : WQ q) (hm : isB (xs (i + 1)) 3 = true → xs (i + 1) = nI j ∧ j < 3) (hR : Rel1 N y0 (ab q j)) (hP : va_P D vwCl ((wr ++ (wQ ca bb q)) ++ ((wX ca f kq ad) ++ (wKd kq) ++ (wMp ca kq (ad j) y0) ++ [(g, .inl (ca 1, 1, .inr (.inl ov)))])) H) (hD : va_D A ((wr ++ (wQ ca bb q)) ++ ((wX ca f kq ad) ++ (wKd kq) ++ (wMp ca kq (ad j) y0) ++ [(g, .inl (ca 1, 1, .inr (.inl ov)))]))) (hS : va_S A s.heap H locs) (hl : lv_has ls 8 [(4, .int (nI i)), (3, .ref g), (2, .ref (bb 0)), (1, .ref (f 0)), (0, .ref b)]) (K9 : ∀ (H : Heap) (locs : List Loc) (ls : Array Slot) (u : MO) (q9 : QS), WQ q9 → (∀ i, ¬ i = j → ab q9 i = ab q i) → Rel1 (N + 61) u.1 (ab q9 j) → va_P D vwCl ((wr ++ (wH ca f kq ad j g u)) ++ (wQ ca bb q9)) H → va_D A ((wr ++ (wH ca f kq ad j g u)) ++ (wQ ca bb q9)) → va_S A s.heap H locs → lv_has ls 8 [(4, .int (nI i)), (3, .ref g), (2, .ref (bb 0)), (1, .ref (f 0)), (0, .ref b)] → W p l e room_1 s m args below meth c H locs (cells + 3) (slots + 18) Q (F0 m 1507 ls [])) : W p l e room_1 s m args below meth c H locs cells slots Q (F0 m 502 ls []) := by
  refine lv_aload_n hx hb dL_law_502 rfl (lv_at hl 3 rfl) ?_
  refine lv_aload_n hx hb dL_law_503 rfl (lv_at hl 4 rfl) ?_
  refine lv_iload hx hb dL_law_504 (lv_at hl 0 rfl) ?_
  refine lv_iconst (v := 1) hx hb dL_law_506 (by decide) ?_
  refine lv_iadd hx hb dL_law_507 ?_
  refine xr_top (y := nI (i + 1)) (nI_add i 1) ?_
  refine va_sld hx hb hX hbl hbA hS (vp_in_nI (n := i + 1) (by omega) (by omega)) dL_law_508 ?_
  refine xr_top (y := xs (i + 1)) (congrArg xs (nI_clamp (by omega))) ?_
  refine lv_aload_n hx hb dL_law_509 rfl (lv_at hl 1 rfl) ?_
  refine xcb_i (mc := 2) (ms := 12) (wr := (wr ++ (wQ ca bb q))) (w0 := (wX ca f kq ad) ++ (wKd kq) ++ (wMp ca kq (ad j) y0) ++ [(g, .inl (ca 1, 1, .inr (.inl ov)))]) (vx_runSX (As := [.ref (f 0), .int (xs (i + 1)), .ref g]) (rest := []) ⟨hx, hb, hml, hown, hts⟩ (c_L_size l D ca f kq ad _ hl9 j g y0 ov (ab q j) N (xs (i + 1)) hR hN hm) (vx_cwSW 3 hts gL_law_L_size rfl rfl rfl (by decide +kernel) ⟨(Nat.le_of_ble_eq_true rfl), (Nat.le_of_ble_eq_true rfl)⟩) (xPbS (wr := (wr ++ (wQ ca bb q))) hKN hTZ hNC hP hD hS hA) rfl rfl hl.1 rfl (lv_room (Nat.le_of_ble_eq_true rfl)) dL_law_510 ⟨Nat.le_trans (m := 601024) (by omega) (Nat.le_of_ble_eq_true rfl), Nat.le_trans (m := 7293033) (by omega) (Nat.le_of_ble_eq_true rfl)⟩) (fun _ _ h => h) hP hD hS hA (fun r510 u510 H locs hu510 hP hD hS => ?_)
  have hP : va_P D vwCl ((wr ++ (wH ca f kq ad j g u510)) ++ (wQ ca bb q)) H := hP.perm (pm_sw (a := wr) (b := (wQ ca bb q)) (c := wH ca f kq ad j g u510))
  have hD : va_D A ((wr ++ (wH ca f kq ad j g u510)) ++ (wQ ca bb q)) := hD.perm (pm_sw (a := wr) (b := (wQ ca bb q)) (c := wH ca f kq ad j g u510))
  refine lv_istore (lv' := [(5, .int r510), (4, .int (nI i)), (3, .ref g), (2, .ref (bb 0)), (1, .ref (f 0)), (0, .ref b)]) hx hb dL_law_513 hl (by decide) rfl (fun ls hl => ?_)
  refine lv_aload_n hx hb dL_law_515 rfl (lv_at hl 3 rfl) ?_
  refine lv_aload_n hx hb dL_law_516 rfl (lv_at hl 5 rfl) ?_
  refine lv_iload hx hb dL_law_517 (lv_at hl 1 rfl) ?_
  refine lv_iconst (v := 1) hx hb dL_law_519 (by decide) ?_
  refine lv_iadd hx hb dL_law_520 ?_
  refine xr_top (y := nI (i + 1)) (nI_add i 1) ?_
  refine va_sld hx hb hX hbl hbA hS (vp_in_nI (n := i + 1) (by omega) (by omega)) dL_law_521 ?_
  refine xr_top (y := xs (i + 1)) (congrArg xs (nI_clamp (by omega))) ?_
  refine xb_i (mc := 0) (ms := 0) (wr := (wr ++ (wH ca f kq ad j g u510))) (w0 := (wQ ca bb q)) (va_runV (As := [.int (xs (i + 1))]) (rest := []) ⟨hx, hb, hml, hown, hts⟩ (c_X11_size l D ca bb _ q (xs (i + 1)) hq) (cwV 1 hts gL_law_X11_size rfl rfl rfl (by decide +kernel) ⟨(Nat.le_of_ble_eq_true rfl), (Nat.le_of_ble_eq_true rfl)⟩) (xPbV (wr := (wr ++ (wH ca f kq ad j g u510))) hKN hP hD rfl rfl rfl) rfl rfl hl.1 rfl (lv_room (Nat.le_of_ble_eq_true rfl)) dL_law_522 ⟨Nat.le_trans (m := 601024) (by omega) (Nat.le_of_ble_eq_true rfl), Nat.le_trans (m := 7293033) (by omega) (Nat.le_of_ble_eq_true rfl)⟩) hP hD hS hA (fun r522 u522 H locs hu522 hP hD hS => ?_)
  have hP : va_P D vwCl ((wr ++ (wH ca f kq ad j g u510)) ++ (wQ ca bb u522)) H := hP
  have hD : va_D A ((wr ++ (wH ca f kq ad j g u510)) ++ (wQ ca bb u522)) := hD
  obtain ⟨ex9, hR9, ho9⟩ := hu510
  obtain ⟨hW9, er9, ec9, ab9⟩ := po_gg hu522 hm
  have hco : u522.co = r510 := ec9.trans ex9.symm
  have hab : ∀ i, ¬ i = j → ab u522 i = ab q i := fun i hi => by rw [ab9]; exact vup_ne hi
  have hRj : Rel1 (N + 61) u510.1 (ab u522 j) := by rw [ab9, vup_eq]; exact hR9
  refine lv_istore (lv' := [(6, .int r522), (5, .int r510), (4, .int (nI i)), (3, .ref g), (2, .ref (bb 0)), (1, .ref (f 0)), (0, .ref b)]) hx hb dL_law_525 hl (by decide) rfl (fun ls hl => ?_)
  refine lv_aload_n hx hb dL_law_527 rfl (lv_at hl 4 rfl) ?_
  refine xb_i (mc := 0) (ms := 0) (wr := (wr ++ (wH ca f kq ad j g u510))) (w0 := (wQ ca bb u522)) (va_runV (As := []) (rest := []) ⟨hx, hb, hml, hown, hts⟩ (c_X11_thrown l D ca bb _ u522) (cwV 0 hts gL_law_X11_thrown rfl rfl rfl (by decide +kernel) ⟨(Nat.le_of_ble_eq_true rfl), (Nat.le_of_ble_eq_true rfl)⟩) (xPbV (wr := (wr ++ (wH ca f kq ad j g u510))) hKN hP hD rfl rfl rfl) rfl rfl hl.1 rfl (lv_room (Nat.le_of_ble_eq_true rfl)) dL_law_528 ⟨Nat.le_trans (m := 601024) (by omega) (Nat.le_of_ble_eq_true rfl), Nat.le_trans (m := 7293033) (by omega) (Nat.le_of_ble_eq_true rfl)⟩) hP hD hS hA (fun r528 u528 H locs hu528 hP hD hS => ?_)
  obtain ⟨et528, eu528⟩ := hu528
  have eu528 := eu528.symm
  subst eu528
  refine lv_iload hx hb dL_law_531 (lv_at hl 1 rfl) ?_
  refine lv_icmp_eq (tgt := 538) hx hb dL_law_533 (by decide) (fun c533 => ?_) (fun c533 => ?_)
  · skip
    refine lv_iload hx hb dL_law_538 (lv_at hl 1 rfl) ?_
    refine lv_if_ne (tgt := 555) hx hb dL_law_540 (by decide) (fun c540 => ?_) (fun c540 => ?_)
    · skip
      refine lv_goto (tgt := 1507) hx hb dL_law_555 (by decide) ?_
      exact W.widen (k := cells + 3) (n := slots + 18) (by omega) (by omega) (K9 H locs ls u510 u522 hW9 hab hRj hP hD hS (lv_sub hl [2, 3, 4, 5, 6] rfl))
    · skip
      refine lv_aload_n hx hb dL_law_543 rfl (lv_at hl 3 rfl) ?_
      refine lv_iconst (v := 0) hx hb dL_law_544 (by decide) ?_
      have hPo : va_P D vwCl ([(g, .inl (ca 1, 1, .inr (.inl ((u510).2))))] ++ ((wr ++ ((wX ca f kq ad) ++ (wKd kq) ++ (wMp ca kq (ad j) (u510).1))) ++ (wQ ca bb u522))) H := va_P.perm hP (pm_out (a := wr) (h := (wX ca f kq ad) ++ (wKd kq) ++ (wMp ca kq (ad j) (u510).1)) (o := [(g, .inl (ca 1, 1, .inr (.inl ((u510).2))))]) (q := (wQ ca bb u522)))
      refine xr_lld hx hb hKN.1 hPo 0 1 rfl rfl (j := 0) (by decide) (by decide) dL_law_545 ?_
      refine lv_iload hx hb dL_law_546 (lv_at hl 0 rfl) ?_
      refine lv_i2l hx hb dL_law_548 rfl ?_
      refine W.lcmp hx hb dL_law_549 ?_
      refine lv_if_eq (tgt := 555) hx hb dL_law_550 (by decide) (fun c550 => ?_) (fun c550 => ?_)
      · skip
        refine lv_goto (tgt := 1507) hx hb dL_law_555 (by decide) ?_
        exact W.widen (k := cells + 3) (n := slots + 18) (by omega) (by omega) (K9 H locs ls u510 u522 hW9 hab hRj hP hD hS (lv_sub hl [2, 3, 4, 5, 6] rfl))
      · skip
        exact absurd (lgc_0.mpr ((ho9 c540).trans (congrArg Int32.toInt64 er9.symm))) c550
  · skip
    exact absurd (et528.trans hco) c533
set_option maxHeartbeats 4000000 in
set_option maxRecDepth 100000 in
theorem k_rank {p : Program} {l : Launch} {e : Env} {s : State} {m : MethodId} {args : Array Value} {below : List Frame} {meth : Method} {c : Code} {H : Heap} {locs : List Loc} {Q : State → Prop} {ls : Array Slot} {D : va_G} {ca : Nat → ClassId} {A : Nat → Prop} {f kq bb : Nat → Nat} {ad : Nat → Nat → Nat} {g b L i N cells slots : Nat} {xs : Nat → Int32} {q : QS} {ov : Nat → Int64} (hx : p.tables.exec = Jvm.exec) (hb : c.code = cL_law) (hml : c.maxLocals = 8) (hts : ∀ w ∈ wsL_law, w.before args s = true) (hown : s.vm.findClass RL = some m.cls) (hKN : xK D (TY ca) s) (hTZ : TZ A s s.heap) (hNC : NC s) (hA : ∀ q : Nat, s.heap.size ≤ q → A q) (hl9 : l.stackTraces = false) (hX : va_X b L xs s s.heap) (hbl : b < s.heap.size) (hbA : ¬ A b) (hiL : i + 5 ≤ L) (hL : L ≤ 2560) (hN : N ≤ 1000000) (hcl : cells + 3 ≤ 601024) (hsl : slots + 18 ≤ 7293033) (wr : va_W) (j : Nat) (y0 : MS) (hq : WQ q) (hm : isB (xs (i + 1)) 3 = true → xs (i + 1) = nI j ∧ j < 3) (hR : Rel1 N y0 (ab q j)) (hP : va_P D vwCl ((wr ++ (wQ ca bb q)) ++ ((wX ca f kq ad) ++ (wKd kq) ++ (wMp ca kq (ad j) y0) ++ [(g, .inl (ca 1, 1, .inr (.inl ov)))])) H) (hD : va_D A ((wr ++ (wQ ca bb q)) ++ ((wX ca f kq ad) ++ (wKd kq) ++ (wMp ca kq (ad j) y0) ++ [(g, .inl (ca 1, 1, .inr (.inl ov)))]))) (hS : va_S A s.heap H locs) (hl : lv_has ls 8 [(4, .int (nI i)), (3, .ref g), (2, .ref (bb 0)), (1, .ref (f 0)), (0, .ref b)]) (K9 : ∀ (H : Heap) (locs : List Loc) (ls : Array Slot) (u : MO) (q9 : QS), WQ q9 → (∀ i, ¬ i = j → ab q9 i = ab q i) → Rel1 (N + 61) u.1 (ab q9 j) → va_P D vwCl ((wr ++ (wH ca f kq ad j g u)) ++ (wQ ca bb q9)) H → va_D A ((wr ++ (wH ca f kq ad j g u)) ++ (wQ ca bb q9)) → va_S A s.heap H locs → lv_has ls 8 [(4, .int (nI i)), (3, .ref g), (2, .ref (bb 0)), (1, .ref (f 0)), (0, .ref b)] → W p l e room_1 s m args below meth c H locs (cells + 3) (slots + 18) Q (F0 m 1507 ls [])) : W p l e room_1 s m args below meth c H locs cells slots Q (F0 m 558 ls []) := by
  refine lv_aload_n hx hb dL_law_558 rfl (lv_at hl 3 rfl) ?_
  refine lv_aload_n hx hb dL_law_559 rfl (lv_at hl 4 rfl) ?_
  refine lv_iload hx hb dL_law_560 (lv_at hl 0 rfl) ?_
  refine lv_iconst (v := 1) hx hb dL_law_562 (by decide) ?_
  refine lv_iadd hx hb dL_law_563 ?_
  refine xr_top (y := nI (i + 1)) (nI_add i 1) ?_
  refine va_sld hx hb hX hbl hbA hS (vp_in_nI (n := i + 1) (by omega) (by omega)) dL_law_564 ?_
  refine xr_top (y := xs (i + 1)) (congrArg xs (nI_clamp (by omega))) ?_
  refine lv_aload_n hx hb dL_law_565 rfl (lv_at hl 4 rfl) ?_
  refine lv_iload hx hb dL_law_566 (lv_at hl 0 rfl) ?_
  refine lv_iconst (v := 2) hx hb dL_law_568 (by decide) ?_
  refine lv_iadd hx hb dL_law_569 ?_
  refine xr_top (y := nI (i + 2)) (nI_add i 2) ?_
  refine va_sld hx hb hX hbl hbA hS (vp_in_nI (n := i + 2) (by omega) (by omega)) dL_law_570 ?_
  refine xr_top (y := xs (i + 2)) (congrArg xs (nI_clamp (by omega))) ?_
  refine lv_aload_n hx hb dL_law_571 rfl (lv_at hl 1 rfl) ?_
  refine xcb_i (mc := 2) (ms := 12) (wr := (wr ++ (wQ ca bb q))) (w0 := (wX ca f kq ad) ++ (wKd kq) ++ (wMp ca kq (ad j) y0) ++ [(g, .inl (ca 1, 1, .inr (.inl ov)))]) (vx_runSX (As := [.ref (f 0), .int (xs (i + 1)), .int (xs (i + 2)), .ref g]) (rest := []) ⟨hx, hb, hml, hown, hts⟩ (c_L_rank l D ca f kq ad _ hl9 j g y0 ov (ab q j) N (xs (i + 1)) (xs (i + 2)) hR hN hm) (vx_cwSW 4 hts gL_law_L_rank rfl rfl rfl (by decide +kernel) ⟨(Nat.le_of_ble_eq_true rfl), (Nat.le_of_ble_eq_true rfl)⟩) (xPbS (wr := (wr ++ (wQ ca bb q))) hKN hTZ hNC hP hD hS hA) rfl rfl hl.1 rfl (lv_room (Nat.le_of_ble_eq_true rfl)) dL_law_572 ⟨Nat.le_trans (m := 601024) (by omega) (Nat.le_of_ble_eq_true rfl), Nat.le_trans (m := 7293033) (by omega) (Nat.le_of_ble_eq_true rfl)⟩) (fun _ _ h => h) hP hD hS hA (fun r572 u572 H locs hu572 hP hD hS => ?_)
  have hP : va_P D vwCl ((wr ++ (wH ca f kq ad j g u572)) ++ (wQ ca bb q)) H := hP.perm (pm_sw (a := wr) (b := (wQ ca bb q)) (c := wH ca f kq ad j g u572))
  have hD : va_D A ((wr ++ (wH ca f kq ad j g u572)) ++ (wQ ca bb q)) := hD.perm (pm_sw (a := wr) (b := (wQ ca bb q)) (c := wH ca f kq ad j g u572))
  refine lv_istore (lv' := [(5, .int r572), (4, .int (nI i)), (3, .ref g), (2, .ref (bb 0)), (1, .ref (f 0)), (0, .ref b)]) hx hb dL_law_575 hl (by decide) rfl (fun ls hl => ?_)
  refine lv_aload_n hx hb dL_law_577 rfl (lv_at hl 3 rfl) ?_
  refine lv_aload_n hx hb dL_law_578 rfl (lv_at hl 5 rfl) ?_
  refine lv_iload hx hb dL_law_579 (lv_at hl 1 rfl) ?_
  refine lv_iconst (v := 1) hx hb dL_law_581 (by decide) ?_
  refine lv_iadd hx hb dL_law_582 ?_
  refine xr_top (y := nI (i + 1)) (nI_add i 1) ?_
  refine va_sld hx hb hX hbl hbA hS (vp_in_nI (n := i + 1) (by omega) (by omega)) dL_law_583 ?_
  refine xr_top (y := xs (i + 1)) (congrArg xs (nI_clamp (by omega))) ?_
  refine lv_aload_n hx hb dL_law_584 rfl (lv_at hl 5 rfl) ?_
  refine lv_iload hx hb dL_law_585 (lv_at hl 1 rfl) ?_
  refine lv_iconst (v := 2) hx hb dL_law_587 (by decide) ?_
  refine lv_iadd hx hb dL_law_588 ?_
  refine xr_top (y := nI (i + 2)) (nI_add i 2) ?_
  refine va_sld hx hb hX hbl hbA hS (vp_in_nI (n := i + 2) (by omega) (by omega)) dL_law_589 ?_
  refine xr_top (y := xs (i + 2)) (congrArg xs (nI_clamp (by omega))) ?_
  refine xb_i (mc := 0) (ms := 0) (wr := (wr ++ (wH ca f kq ad j g u572))) (w0 := (wQ ca bb q)) (va_runV (As := [.int (xs (i + 1)), .int (xs (i + 2))]) (rest := []) ⟨hx, hb, hml, hown, hts⟩ (c_X11_rank l D ca bb _ q (xs (i + 2)) (xs (i + 1)) hq) (cwV 2 hts gL_law_X11_rank rfl rfl rfl (by decide +kernel) ⟨(Nat.le_of_ble_eq_true rfl), (Nat.le_of_ble_eq_true rfl)⟩) (xPbV (wr := (wr ++ (wH ca f kq ad j g u572))) hKN hP hD rfl rfl rfl) rfl rfl hl.1 rfl (lv_room (Nat.le_of_ble_eq_true rfl)) dL_law_590 ⟨Nat.le_trans (m := 601024) (by omega) (Nat.le_of_ble_eq_true rfl), Nat.le_trans (m := 7293033) (by omega) (Nat.le_of_ble_eq_true rfl)⟩) hP hD hS hA (fun r590 u590 H locs hu590 hP hD hS => ?_)
  have hP : va_P D vwCl ((wr ++ (wH ca f kq ad j g u572)) ++ (wQ ca bb u590)) H := hP
  have hD : va_D A ((wr ++ (wH ca f kq ad j g u572)) ++ (wQ ca bb u590)) := hD
  obtain ⟨ex9, hR9, ho9⟩ := hu572
  obtain ⟨hW9, er9, ec9, ab9⟩ := po_gg hu590 hm
  have hco : u590.co = r572 := ec9.trans ex9.symm
  have hab : ∀ i, ¬ i = j → ab u590 i = ab q i := fun i hi => by rw [ab9]; exact vup_ne hi
  have hRj : Rel1 (N + 61) u572.1 (ab u590 j) := by rw [ab9, vup_eq]; exact hR9
  refine lv_istore (lv' := [(6, .int r590), (5, .int r572), (4, .int (nI i)), (3, .ref g), (2, .ref (bb 0)), (1, .ref (f 0)), (0, .ref b)]) hx hb dL_law_593 hl (by decide) rfl (fun ls hl => ?_)
  refine lv_aload_n hx hb dL_law_595 rfl (lv_at hl 4 rfl) ?_
  refine xb_i (mc := 0) (ms := 0) (wr := (wr ++ (wH ca f kq ad j g u572))) (w0 := (wQ ca bb u590)) (va_runV (As := []) (rest := []) ⟨hx, hb, hml, hown, hts⟩ (c_X11_thrown l D ca bb _ u590) (cwV 0 hts gL_law_X11_thrown rfl rfl rfl (by decide +kernel) ⟨(Nat.le_of_ble_eq_true rfl), (Nat.le_of_ble_eq_true rfl)⟩) (xPbV (wr := (wr ++ (wH ca f kq ad j g u572))) hKN hP hD rfl rfl rfl) rfl rfl hl.1 rfl (lv_room (Nat.le_of_ble_eq_true rfl)) dL_law_596 ⟨Nat.le_trans (m := 601024) (by omega) (Nat.le_of_ble_eq_true rfl), Nat.le_trans (m := 7293033) (by omega) (Nat.le_of_ble_eq_true rfl)⟩) hP hD hS hA (fun r596 u596 H locs hu596 hP hD hS => ?_)
  obtain ⟨et596, eu596⟩ := hu596
  have eu596 := eu596.symm
  subst eu596
  refine lv_iload hx hb dL_law_599 (lv_at hl 1 rfl) ?_
  refine lv_icmp_eq (tgt := 606) hx hb dL_law_601 (by decide) (fun c601 => ?_) (fun c601 => ?_)
  · skip
    refine lv_iload hx hb dL_law_606 (lv_at hl 1 rfl) ?_
    refine lv_if_ne (tgt := 623) hx hb dL_law_608 (by decide) (fun c608 => ?_) (fun c608 => ?_)
    · skip
      refine lv_goto (tgt := 1507) hx hb dL_law_623 (by decide) ?_
      exact W.widen (k := cells + 3) (n := slots + 18) (by omega) (by omega) (K9 H locs ls u572 u590 hW9 hab hRj hP hD hS (lv_sub hl [2, 3, 4, 5, 6] rfl))
    · skip
      refine lv_aload_n hx hb dL_law_611 rfl (lv_at hl 3 rfl) ?_
      refine lv_iconst (v := 0) hx hb dL_law_612 (by decide) ?_
      have hPo : va_P D vwCl ([(g, .inl (ca 1, 1, .inr (.inl ((u572).2))))] ++ ((wr ++ ((wX ca f kq ad) ++ (wKd kq) ++ (wMp ca kq (ad j) (u572).1))) ++ (wQ ca bb u590))) H := va_P.perm hP (pm_out (a := wr) (h := (wX ca f kq ad) ++ (wKd kq) ++ (wMp ca kq (ad j) (u572).1)) (o := [(g, .inl (ca 1, 1, .inr (.inl ((u572).2))))]) (q := (wQ ca bb u590)))
      refine xr_lld hx hb hKN.1 hPo 0 1 rfl rfl (j := 0) (by decide) (by decide) dL_law_613 ?_
      refine lv_iload hx hb dL_law_614 (lv_at hl 0 rfl) ?_
      refine lv_i2l hx hb dL_law_616 rfl ?_
      refine W.lcmp hx hb dL_law_617 ?_
      refine lv_if_eq (tgt := 623) hx hb dL_law_618 (by decide) (fun c618 => ?_) (fun c618 => ?_)
      · skip
        refine lv_goto (tgt := 1507) hx hb dL_law_623 (by decide) ?_
        exact W.widen (k := cells + 3) (n := slots + 18) (by omega) (by omega) (K9 H locs ls u572 u590 hW9 hab hRj hP hD hS (lv_sub hl [2, 3, 4, 5, 6] rfl))
      · skip
        exact absurd (lgc_0.mpr ((ho9 c608).trans (congrArg Int32.toInt64 er9.symm))) c618
  · skip
    exact absurd (et596.trans hco) c601
set_option maxHeartbeats 4000000 in
set_option maxRecDepth 100000 in
theorem k_select {p : Program} {l : Launch} {e : Env} {s : State} {m : MethodId} {args : Array Value} {below : List Frame} {meth : Method} {c : Code} {H : Heap} {locs : List Loc} {Q : State → Prop} {ls : Array Slot} {D : va_G} {ca : Nat → ClassId} {A : Nat → Prop} {f kq bb : Nat → Nat} {ad : Nat → Nat → Nat} {g b L i N cells slots : Nat} {xs : Nat → Int32} {q : QS} {ov : Nat → Int64} (hx : p.tables.exec = Jvm.exec) (hb : c.code = cL_law) (hml : c.maxLocals = 8) (hts : ∀ w ∈ wsL_law, w.before args s = true) (hown : s.vm.findClass RL = some m.cls) (hKN : xK D (TY ca) s) (hTZ : TZ A s s.heap) (hNC : NC s) (hA : ∀ q : Nat, s.heap.size ≤ q → A q) (hl9 : l.stackTraces = false) (hX : va_X b L xs s s.heap) (hbl : b < s.heap.size) (hbA : ¬ A b) (hiL : i + 5 ≤ L) (hL : L ≤ 2560) (hN : N ≤ 1000000) (hcl : cells + 3 ≤ 601024) (hsl : slots + 18 ≤ 7293033) (wr : va_W) (j : Nat) (y0 : MS) (hq : WQ q) (hm : isB (xs (i + 1)) 3 = true → xs (i + 1) = nI j ∧ j < 3) (hR : Rel1 N y0 (ab q j)) (hP : va_P D vwCl ((wr ++ (wQ ca bb q)) ++ ((wX ca f kq ad) ++ (wKd kq) ++ (wMp ca kq (ad j) y0) ++ [(g, .inl (ca 1, 1, .inr (.inl ov)))])) H) (hD : va_D A ((wr ++ (wQ ca bb q)) ++ ((wX ca f kq ad) ++ (wKd kq) ++ (wMp ca kq (ad j) y0) ++ [(g, .inl (ca 1, 1, .inr (.inl ov)))]))) (hS : va_S A s.heap H locs) (hl : lv_has ls 8 [(4, .int (nI i)), (3, .ref g), (2, .ref (bb 0)), (1, .ref (f 0)), (0, .ref b)]) (K9 : ∀ (H : Heap) (locs : List Loc) (ls : Array Slot) (u : MO) (q9 : QS), WQ q9 → (∀ i, ¬ i = j → ab q9 i = ab q i) → Rel1 (N + 61) u.1 (ab q9 j) → va_P D vwCl ((wr ++ (wH ca f kq ad j g u)) ++ (wQ ca bb q9)) H → va_D A ((wr ++ (wH ca f kq ad j g u)) ++ (wQ ca bb q9)) → va_S A s.heap H locs → lv_has ls 8 [(4, .int (nI i)), (3, .ref g), (2, .ref (bb 0)), (1, .ref (f 0)), (0, .ref b)] → W p l e room_1 s m args below meth c H locs (cells + 3) (slots + 18) Q (F0 m 1507 ls [])) : W p l e room_1 s m args below meth c H locs cells slots Q (F0 m 626 ls []) := by
  refine lv_aload_n hx hb dL_law_626 rfl (lv_at hl 3 rfl) ?_
  refine lv_aload_n hx hb dL_law_627 rfl (lv_at hl 4 rfl) ?_
  refine lv_iload hx hb dL_law_628 (lv_at hl 0 rfl) ?_
  refine lv_iconst (v := 1) hx hb dL_law_630 (by decide) ?_
  refine lv_iadd hx hb dL_law_631 ?_
  refine xr_top (y := nI (i + 1)) (nI_add i 1) ?_
  refine va_sld hx hb hX hbl hbA hS (vp_in_nI (n := i + 1) (by omega) (by omega)) dL_law_632 ?_
  refine xr_top (y := xs (i + 1)) (congrArg xs (nI_clamp (by omega))) ?_
  refine lv_aload_n hx hb dL_law_633 rfl (lv_at hl 4 rfl) ?_
  refine lv_iload hx hb dL_law_634 (lv_at hl 0 rfl) ?_
  refine lv_iconst (v := 2) hx hb dL_law_636 (by decide) ?_
  refine lv_iadd hx hb dL_law_637 ?_
  refine xr_top (y := nI (i + 2)) (nI_add i 2) ?_
  refine va_sld hx hb hX hbl hbA hS (vp_in_nI (n := i + 2) (by omega) (by omega)) dL_law_638 ?_
  refine xr_top (y := xs (i + 2)) (congrArg xs (nI_clamp (by omega))) ?_
  refine lv_aload_n hx hb dL_law_639 rfl (lv_at hl 1 rfl) ?_
  refine xcb_i (mc := 2) (ms := 12) (wr := (wr ++ (wQ ca bb q))) (w0 := (wX ca f kq ad) ++ (wKd kq) ++ (wMp ca kq (ad j) y0) ++ [(g, .inl (ca 1, 1, .inr (.inl ov)))]) (vx_runSX (As := [.ref (f 0), .int (xs (i + 1)), .int (xs (i + 2)), .ref g]) (rest := []) ⟨hx, hb, hml, hown, hts⟩ (c_L_select l D ca f kq ad _ hl9 j g y0 ov (ab q j) N (xs (i + 1)) (xs (i + 2)) hR hN hm) (vx_cwSW 4 hts gL_law_L_select rfl rfl rfl (by decide +kernel) ⟨(Nat.le_of_ble_eq_true rfl), (Nat.le_of_ble_eq_true rfl)⟩) (xPbS (wr := (wr ++ (wQ ca bb q))) hKN hTZ hNC hP hD hS hA) rfl rfl hl.1 rfl (lv_room (Nat.le_of_ble_eq_true rfl)) dL_law_640 ⟨Nat.le_trans (m := 601024) (by omega) (Nat.le_of_ble_eq_true rfl), Nat.le_trans (m := 7293033) (by omega) (Nat.le_of_ble_eq_true rfl)⟩) (fun _ _ h => h) hP hD hS hA (fun r640 u640 H locs hu640 hP hD hS => ?_)
  have hP : va_P D vwCl ((wr ++ (wH ca f kq ad j g u640)) ++ (wQ ca bb q)) H := hP.perm (pm_sw (a := wr) (b := (wQ ca bb q)) (c := wH ca f kq ad j g u640))
  have hD : va_D A ((wr ++ (wH ca f kq ad j g u640)) ++ (wQ ca bb q)) := hD.perm (pm_sw (a := wr) (b := (wQ ca bb q)) (c := wH ca f kq ad j g u640))
  refine lv_istore (lv' := [(5, .int r640), (4, .int (nI i)), (3, .ref g), (2, .ref (bb 0)), (1, .ref (f 0)), (0, .ref b)]) hx hb dL_law_643 hl (by decide) rfl (fun ls hl => ?_)
  refine lv_aload_n hx hb dL_law_645 rfl (lv_at hl 3 rfl) ?_
  refine lv_aload_n hx hb dL_law_646 rfl (lv_at hl 5 rfl) ?_
  refine lv_iload hx hb dL_law_647 (lv_at hl 1 rfl) ?_
  refine lv_iconst (v := 1) hx hb dL_law_649 (by decide) ?_
  refine lv_iadd hx hb dL_law_650 ?_
  refine xr_top (y := nI (i + 1)) (nI_add i 1) ?_
  refine va_sld hx hb hX hbl hbA hS (vp_in_nI (n := i + 1) (by omega) (by omega)) dL_law_651 ?_
  refine xr_top (y := xs (i + 1)) (congrArg xs (nI_clamp (by omega))) ?_
  refine lv_aload_n hx hb dL_law_652 rfl (lv_at hl 5 rfl) ?_
  refine lv_iload hx hb dL_law_653 (lv_at hl 1 rfl) ?_
  refine lv_iconst (v := 2) hx hb dL_law_655 (by decide) ?_
  refine lv_iadd hx hb dL_law_656 ?_
  refine xr_top (y := nI (i + 2)) (nI_add i 2) ?_
  refine va_sld hx hb hX hbl hbA hS (vp_in_nI (n := i + 2) (by omega) (by omega)) dL_law_657 ?_
  refine xr_top (y := xs (i + 2)) (congrArg xs (nI_clamp (by omega))) ?_
  refine xb_i (mc := 0) (ms := 0) (wr := (wr ++ (wH ca f kq ad j g u640))) (w0 := (wQ ca bb q)) (va_runV (As := [.int (xs (i + 1)), .int (xs (i + 2))]) (rest := []) ⟨hx, hb, hml, hown, hts⟩ (c_X11_select l D ca bb _ q (xs (i + 2)) (xs (i + 1)) hq) (cwV 2 hts gL_law_X11_select rfl rfl rfl (by decide +kernel) ⟨(Nat.le_of_ble_eq_true rfl), (Nat.le_of_ble_eq_true rfl)⟩) (xPbV (wr := (wr ++ (wH ca f kq ad j g u640))) hKN hP hD rfl rfl rfl) rfl rfl hl.1 rfl (lv_room (Nat.le_of_ble_eq_true rfl)) dL_law_658 ⟨Nat.le_trans (m := 601024) (by omega) (Nat.le_of_ble_eq_true rfl), Nat.le_trans (m := 7293033) (by omega) (Nat.le_of_ble_eq_true rfl)⟩) hP hD hS hA (fun r658 u658 H locs hu658 hP hD hS => ?_)
  have hP : va_P D vwCl ((wr ++ (wH ca f kq ad j g u640)) ++ (wQ ca bb u658)) H := hP
  have hD : va_D A ((wr ++ (wH ca f kq ad j g u640)) ++ (wQ ca bb u658)) := hD
  obtain ⟨ex9, hR9, ho9⟩ := hu640
  obtain ⟨hW9, er9, ec9, ab9⟩ := po_gg hu658 hm
  have hco : u658.co = r640 := ec9.trans ex9.symm
  have hab : ∀ i, ¬ i = j → ab u658 i = ab q i := fun i hi => by rw [ab9]; exact vup_ne hi
  have hRj : Rel1 (N + 61) u640.1 (ab u658 j) := by rw [ab9, vup_eq]; exact hR9
  refine lv_istore (lv' := [(6, .int r658), (5, .int r640), (4, .int (nI i)), (3, .ref g), (2, .ref (bb 0)), (1, .ref (f 0)), (0, .ref b)]) hx hb dL_law_661 hl (by decide) rfl (fun ls hl => ?_)
  refine lv_aload_n hx hb dL_law_663 rfl (lv_at hl 4 rfl) ?_
  refine xb_i (mc := 0) (ms := 0) (wr := (wr ++ (wH ca f kq ad j g u640))) (w0 := (wQ ca bb u658)) (va_runV (As := []) (rest := []) ⟨hx, hb, hml, hown, hts⟩ (c_X11_thrown l D ca bb _ u658) (cwV 0 hts gL_law_X11_thrown rfl rfl rfl (by decide +kernel) ⟨(Nat.le_of_ble_eq_true rfl), (Nat.le_of_ble_eq_true rfl)⟩) (xPbV (wr := (wr ++ (wH ca f kq ad j g u640))) hKN hP hD rfl rfl rfl) rfl rfl hl.1 rfl (lv_room (Nat.le_of_ble_eq_true rfl)) dL_law_664 ⟨Nat.le_trans (m := 601024) (by omega) (Nat.le_of_ble_eq_true rfl), Nat.le_trans (m := 7293033) (by omega) (Nat.le_of_ble_eq_true rfl)⟩) hP hD hS hA (fun r664 u664 H locs hu664 hP hD hS => ?_)
  obtain ⟨et664, eu664⟩ := hu664
  have eu664 := eu664.symm
  subst eu664
  refine lv_iload hx hb dL_law_667 (lv_at hl 1 rfl) ?_
  refine lv_icmp_eq (tgt := 674) hx hb dL_law_669 (by decide) (fun c669 => ?_) (fun c669 => ?_)
  · skip
    refine lv_iload hx hb dL_law_674 (lv_at hl 1 rfl) ?_
    refine lv_if_ne (tgt := 691) hx hb dL_law_676 (by decide) (fun c676 => ?_) (fun c676 => ?_)
    · skip
      refine lv_goto (tgt := 1507) hx hb dL_law_691 (by decide) ?_
      exact W.widen (k := cells + 3) (n := slots + 18) (by omega) (by omega) (K9 H locs ls u640 u658 hW9 hab hRj hP hD hS (lv_sub hl [2, 3, 4, 5, 6] rfl))
    · skip
      refine lv_aload_n hx hb dL_law_679 rfl (lv_at hl 3 rfl) ?_
      refine lv_iconst (v := 0) hx hb dL_law_680 (by decide) ?_
      have hPo : va_P D vwCl ([(g, .inl (ca 1, 1, .inr (.inl ((u640).2))))] ++ ((wr ++ ((wX ca f kq ad) ++ (wKd kq) ++ (wMp ca kq (ad j) (u640).1))) ++ (wQ ca bb u658))) H := va_P.perm hP (pm_out (a := wr) (h := (wX ca f kq ad) ++ (wKd kq) ++ (wMp ca kq (ad j) (u640).1)) (o := [(g, .inl (ca 1, 1, .inr (.inl ((u640).2))))]) (q := (wQ ca bb u658)))
      refine xr_lld hx hb hKN.1 hPo 0 1 rfl rfl (j := 0) (by decide) (by decide) dL_law_681 ?_
      refine lv_iload hx hb dL_law_682 (lv_at hl 0 rfl) ?_
      refine lv_i2l hx hb dL_law_684 rfl ?_
      refine W.lcmp hx hb dL_law_685 ?_
      refine lv_if_eq (tgt := 691) hx hb dL_law_686 (by decide) (fun c686 => ?_) (fun c686 => ?_)
      · skip
        refine lv_goto (tgt := 1507) hx hb dL_law_691 (by decide) ?_
        exact W.widen (k := cells + 3) (n := slots + 18) (by omega) (by omega) (K9 H locs ls u640 u658 hW9 hab hRj hP hD hS (lv_sub hl [2, 3, 4, 5, 6] rfl))
      · skip
        exact absurd (lgc_0.mpr ((ho9 c676).trans (congrArg Int32.toInt64 er9.symm))) c686
  · skip
    exact absurd (et664.trans hco) c669
set_option maxHeartbeats 4000000 in
set_option maxRecDepth 100000 in
theorem k_sum {p : Program} {l : Launch} {e : Env} {s : State} {m : MethodId} {args : Array Value} {below : List Frame} {meth : Method} {c : Code} {H : Heap} {locs : List Loc} {Q : State → Prop} {ls : Array Slot} {D : va_G} {ca : Nat → ClassId} {A : Nat → Prop} {f kq bb : Nat → Nat} {ad : Nat → Nat → Nat} {g b L i N cells slots : Nat} {xs : Nat → Int32} {q : QS} {ov : Nat → Int64} (hx : p.tables.exec = Jvm.exec) (hb : c.code = cL_law) (hml : c.maxLocals = 8) (hts : ∀ w ∈ wsL_law, w.before args s = true) (hown : s.vm.findClass RL = some m.cls) (hKN : xK D (TY ca) s) (hTZ : TZ A s s.heap) (hNC : NC s) (hA : ∀ q : Nat, s.heap.size ≤ q → A q) (hl9 : l.stackTraces = false) (hX : va_X b L xs s s.heap) (hbl : b < s.heap.size) (hbA : ¬ A b) (hiL : i + 5 ≤ L) (hL : L ≤ 2560) (hN : N ≤ 1000000) (hcl : cells + 3 ≤ 601024) (hsl : slots + 18 ≤ 7293033) (wr : va_W) (j : Nat) (y0 : MS) (hq : WQ q) (hm : isB (xs (i + 1)) 3 = true → xs (i + 1) = nI j ∧ j < 3) (hR : Rel1 N y0 (ab q j)) (hP : va_P D vwCl ((wr ++ (wQ ca bb q)) ++ ((wX ca f kq ad) ++ (wKd kq) ++ (wMp ca kq (ad j) y0) ++ [(g, .inl (ca 1, 1, .inr (.inl ov)))])) H) (hD : va_D A ((wr ++ (wQ ca bb q)) ++ ((wX ca f kq ad) ++ (wKd kq) ++ (wMp ca kq (ad j) y0) ++ [(g, .inl (ca 1, 1, .inr (.inl ov)))]))) (hS : va_S A s.heap H locs) (hl : lv_has ls 8 [(4, .int (nI i)), (3, .ref g), (2, .ref (bb 0)), (1, .ref (f 0)), (0, .ref b)]) (K9 : ∀ (H : Heap) (locs : List Loc) (ls : Array Slot) (u : MO) (q9 : QS), WQ q9 → (∀ i, ¬ i = j → ab q9 i = ab q i) → Rel1 (N + 61) u.1 (ab q9 j) → va_P D vwCl ((wr ++ (wH ca f kq ad j g u)) ++ (wQ ca bb q9)) H → va_D A ((wr ++ (wH ca f kq ad j g u)) ++ (wQ ca bb q9)) → va_S A s.heap H locs → lv_has ls 8 [(4, .int (nI i)), (3, .ref g), (2, .ref (bb 0)), (1, .ref (f 0)), (0, .ref b)] → W p l e room_1 s m args below meth c H locs (cells + 3) (slots + 18) Q (F0 m 1507 ls [])) : W p l e room_1 s m args below meth c H locs cells slots Q (F0 m 694 ls []) := by
  refine lv_aload_n hx hb dL_law_694 rfl (lv_at hl 3 rfl) ?_
  refine lv_aload_n hx hb dL_law_695 rfl (lv_at hl 4 rfl) ?_
  refine lv_iload hx hb dL_law_696 (lv_at hl 0 rfl) ?_
  refine lv_iconst (v := 1) hx hb dL_law_698 (by decide) ?_
  refine lv_iadd hx hb dL_law_699 ?_
  refine xr_top (y := nI (i + 1)) (nI_add i 1) ?_
  refine va_sld hx hb hX hbl hbA hS (vp_in_nI (n := i + 1) (by omega) (by omega)) dL_law_700 ?_
  refine xr_top (y := xs (i + 1)) (congrArg xs (nI_clamp (by omega))) ?_
  refine lv_aload_n hx hb dL_law_701 rfl (lv_at hl 4 rfl) ?_
  refine lv_iload hx hb dL_law_702 (lv_at hl 0 rfl) ?_
  refine lv_iconst (v := 2) hx hb dL_law_704 (by decide) ?_
  refine lv_iadd hx hb dL_law_705 ?_
  refine xr_top (y := nI (i + 2)) (nI_add i 2) ?_
  refine va_sld hx hb hX hbl hbA hS (vp_in_nI (n := i + 2) (by omega) (by omega)) dL_law_706 ?_
  refine xr_top (y := xs (i + 2)) (congrArg xs (nI_clamp (by omega))) ?_
  refine lv_aload_n hx hb dL_law_707 rfl (lv_at hl 1 rfl) ?_
  refine xcb_i (mc := 2) (ms := 12) (wr := (wr ++ (wQ ca bb q))) (w0 := (wX ca f kq ad) ++ (wKd kq) ++ (wMp ca kq (ad j) y0) ++ [(g, .inl (ca 1, 1, .inr (.inl ov)))]) (vx_runSX (As := [.ref (f 0), .int (xs (i + 1)), .int (xs (i + 2)), .ref g]) (rest := []) ⟨hx, hb, hml, hown, hts⟩ (c_L_sum l D ca f kq ad _ hl9 j g y0 ov (ab q j) N (xs (i + 1)) (xs (i + 2)) hR hN hm) (vx_cwSW 4 hts gL_law_L_sum rfl rfl rfl (by decide +kernel) ⟨(Nat.le_of_ble_eq_true rfl), (Nat.le_of_ble_eq_true rfl)⟩) (xPbS (wr := (wr ++ (wQ ca bb q))) hKN hTZ hNC hP hD hS hA) rfl rfl hl.1 rfl (lv_room (Nat.le_of_ble_eq_true rfl)) dL_law_708 ⟨Nat.le_trans (m := 601024) (by omega) (Nat.le_of_ble_eq_true rfl), Nat.le_trans (m := 7293033) (by omega) (Nat.le_of_ble_eq_true rfl)⟩) (fun _ _ h => h) hP hD hS hA (fun r708 u708 H locs hu708 hP hD hS => ?_)
  have hP : va_P D vwCl ((wr ++ (wH ca f kq ad j g u708)) ++ (wQ ca bb q)) H := hP.perm (pm_sw (a := wr) (b := (wQ ca bb q)) (c := wH ca f kq ad j g u708))
  have hD : va_D A ((wr ++ (wH ca f kq ad j g u708)) ++ (wQ ca bb q)) := hD.perm (pm_sw (a := wr) (b := (wQ ca bb q)) (c := wH ca f kq ad j g u708))
  refine lv_istore (lv' := [(5, .int r708), (4, .int (nI i)), (3, .ref g), (2, .ref (bb 0)), (1, .ref (f 0)), (0, .ref b)]) hx hb dL_law_711 hl (by decide) rfl (fun ls hl => ?_)
  refine lv_aload_n hx hb dL_law_713 rfl (lv_at hl 3 rfl) ?_
  refine lv_aload_n hx hb dL_law_714 rfl (lv_at hl 5 rfl) ?_
  refine lv_iload hx hb dL_law_715 (lv_at hl 1 rfl) ?_
  refine lv_iconst (v := 1) hx hb dL_law_717 (by decide) ?_
  refine lv_iadd hx hb dL_law_718 ?_
  refine xr_top (y := nI (i + 1)) (nI_add i 1) ?_
  refine va_sld hx hb hX hbl hbA hS (vp_in_nI (n := i + 1) (by omega) (by omega)) dL_law_719 ?_
  refine xr_top (y := xs (i + 1)) (congrArg xs (nI_clamp (by omega))) ?_
  refine lv_aload_n hx hb dL_law_720 rfl (lv_at hl 5 rfl) ?_
  refine lv_iload hx hb dL_law_721 (lv_at hl 1 rfl) ?_
  refine lv_iconst (v := 2) hx hb dL_law_723 (by decide) ?_
  refine lv_iadd hx hb dL_law_724 ?_
  refine xr_top (y := nI (i + 2)) (nI_add i 2) ?_
  refine va_sld hx hb hX hbl hbA hS (vp_in_nI (n := i + 2) (by omega) (by omega)) dL_law_725 ?_
  refine xr_top (y := xs (i + 2)) (congrArg xs (nI_clamp (by omega))) ?_
  refine xb_l (mc := 0) (ms := 0) (wr := (wr ++ (wH ca f kq ad j g u708))) (w0 := (wQ ca bb q)) (va_runV (As := [.int (xs (i + 1)), .int (xs (i + 2))]) (rest := []) ⟨hx, hb, hml, hown, hts⟩ (c_X11_sum l D ca bb _ q (xs (i + 2)) (xs (i + 1)) hq) (cwV 2 hts gL_law_X11_sum rfl rfl rfl (by decide +kernel) ⟨(Nat.le_of_ble_eq_true rfl), (Nat.le_of_ble_eq_true rfl)⟩) (xPbV (wr := (wr ++ (wH ca f kq ad j g u708))) hKN hP hD rfl rfl rfl) rfl rfl hl.1 rfl (lv_room (Nat.le_of_ble_eq_true rfl)) dL_law_726 ⟨Nat.le_trans (m := 601024) (by omega) (Nat.le_of_ble_eq_true rfl), Nat.le_trans (m := 7293033) (by omega) (Nat.le_of_ble_eq_true rfl)⟩) hP hD hS hA (fun r726 u726 H locs hu726 hP hD hS => ?_)
  have hP : va_P D vwCl ((wr ++ (wH ca f kq ad j g u708)) ++ (wQ ca bb u726)) H := hP
  have hD : va_D A ((wr ++ (wH ca f kq ad j g u708)) ++ (wQ ca bb u726)) := hD
  obtain ⟨ex9, hR9, ho9⟩ := hu708
  obtain ⟨hW9, er9, ec9, ab9⟩ := po_gg hu726 hm
  have hco : u726.co = r708 := ec9.trans ex9.symm
  have hab : ∀ i, ¬ i = j → ab u726 i = ab q i := fun i hi => by rw [ab9]; exact vup_ne hi
  have hRj : Rel1 (N + 61) u708.1 (ab u726 j) := by rw [ab9, vup_eq]; exact hR9
  refine lv_lstore (lv' := [(6, .long r726), (5, .int r708), (4, .int (nI i)), (3, .ref g), (2, .ref (bb 0)), (1, .ref (f 0)), (0, .ref b)]) hx hb dL_law_729 hl (by decide) rfl (fun ls hl => ?_)
  refine lv_aload_n hx hb dL_law_731 rfl (lv_at hl 4 rfl) ?_
  refine xb_i (mc := 0) (ms := 0) (wr := (wr ++ (wH ca f kq ad j g u708))) (w0 := (wQ ca bb u726)) (va_runV (As := []) (rest := []) ⟨hx, hb, hml, hown, hts⟩ (c_X11_thrown l D ca bb _ u726) (cwV 0 hts gL_law_X11_thrown rfl rfl rfl (by decide +kernel) ⟨(Nat.le_of_ble_eq_true rfl), (Nat.le_of_ble_eq_true rfl)⟩) (xPbV (wr := (wr ++ (wH ca f kq ad j g u708))) hKN hP hD rfl rfl rfl) rfl rfl hl.1 rfl (lv_room (Nat.le_of_ble_eq_true rfl)) dL_law_732 ⟨Nat.le_trans (m := 601024) (by omega) (Nat.le_of_ble_eq_true rfl), Nat.le_trans (m := 7293033) (by omega) (Nat.le_of_ble_eq_true rfl)⟩) hP hD hS hA (fun r732 u732 H locs hu732 hP hD hS => ?_)
  obtain ⟨et732, eu732⟩ := hu732
  have eu732 := eu732.symm
  subst eu732
  refine lv_iload hx hb dL_law_735 (lv_at hl 1 rfl) ?_
  refine lv_icmp_eq (tgt := 742) hx hb dL_law_737 (by decide) (fun c737 => ?_) (fun c737 => ?_)
  · skip
    refine lv_iload hx hb dL_law_742 (lv_at hl 1 rfl) ?_
    refine lv_if_ne (tgt := 758) hx hb dL_law_744 (by decide) (fun c744 => ?_) (fun c744 => ?_)
    · skip
      refine lv_goto (tgt := 1507) hx hb dL_law_758 (by decide) ?_
      exact W.widen (k := cells + 3) (n := slots + 18) (by omega) (by omega) (K9 H locs ls u708 u726 hW9 hab hRj hP hD hS (lv_sub hl [2, 3, 4, 5, 6] rfl))
    · skip
      refine lv_aload_n hx hb dL_law_747 rfl (lv_at hl 3 rfl) ?_
      refine lv_iconst (v := 0) hx hb dL_law_748 (by decide) ?_
      have hPo : va_P D vwCl ([(g, .inl (ca 1, 1, .inr (.inl ((u708).2))))] ++ ((wr ++ ((wX ca f kq ad) ++ (wKd kq) ++ (wMp ca kq (ad j) (u708).1))) ++ (wQ ca bb u726))) H := va_P.perm hP (pm_out (a := wr) (h := (wX ca f kq ad) ++ (wKd kq) ++ (wMp ca kq (ad j) (u708).1)) (o := [(g, .inl (ca 1, 1, .inr (.inl ((u708).2))))]) (q := (wQ ca bb u726)))
      refine xr_lld hx hb hKN.1 hPo 0 1 rfl rfl (j := 0) (by decide) (by decide) dL_law_749 ?_
      refine lv_lload hx hb dL_law_750 (lv_at hl 0 rfl) ?_
      refine W.lcmp hx hb dL_law_752 ?_
      refine lv_if_eq (tgt := 758) hx hb dL_law_753 (by decide) (fun c753 => ?_) (fun c753 => ?_)
      · skip
        refine lv_goto (tgt := 1507) hx hb dL_law_758 (by decide) ?_
        exact W.widen (k := cells + 3) (n := slots + 18) (by omega) (by omega) (K9 H locs ls u708 u726 hW9 hab hRj hP hD hS (lv_sub hl [2, 3, 4, 5, 6] rfl))
      · skip
        exact absurd (lgc_0.mpr ((ho9 c744).trans er9.symm)) c753
  · skip
    exact absurd (et732.trans hco) c737
set_option maxHeartbeats 4000000 in
set_option maxRecDepth 100000 in
theorem k_range {p : Program} {l : Launch} {e : Env} {s : State} {m : MethodId} {args : Array Value} {below : List Frame} {meth : Method} {c : Code} {H : Heap} {locs : List Loc} {Q : State → Prop} {ls : Array Slot} {D : va_G} {ca : Nat → ClassId} {A : Nat → Prop} {f kq bb : Nat → Nat} {ad : Nat → Nat → Nat} {g b L i N cells slots : Nat} {xs : Nat → Int32} {q : QS} {ov : Nat → Int64} (hx : p.tables.exec = Jvm.exec) (hb : c.code = cL_law) (hml : c.maxLocals = 8) (hts : ∀ w ∈ wsL_law, w.before args s = true) (hown : s.vm.findClass RL = some m.cls) (hKN : xK D (TY ca) s) (hTZ : TZ A s s.heap) (hNC : NC s) (hA : ∀ q : Nat, s.heap.size ≤ q → A q) (hl9 : l.stackTraces = false) (hX : va_X b L xs s s.heap) (hbl : b < s.heap.size) (hbA : ¬ A b) (hiL : i + 5 ≤ L) (hL : L ≤ 2560) (hN : N ≤ 1000000) (hcl : cells + 3 ≤ 601024) (hsl : slots + 18 ≤ 7293033) (wr : va_W) (j : Nat) (y0 : MS) (hq : WQ q) (hm : isB (xs (i + 1)) 3 = true → xs (i + 1) = nI j ∧ j < 3) (hR : Rel1 N y0 (ab q j)) (hP : va_P D vwCl ((wr ++ (wQ ca bb q)) ++ ((wX ca f kq ad) ++ (wKd kq) ++ (wMp ca kq (ad j) y0) ++ [(g, .inl (ca 1, 1, .inr (.inl ov)))])) H) (hD : va_D A ((wr ++ (wQ ca bb q)) ++ ((wX ca f kq ad) ++ (wKd kq) ++ (wMp ca kq (ad j) y0) ++ [(g, .inl (ca 1, 1, .inr (.inl ov)))]))) (hS : va_S A s.heap H locs) (hl : lv_has ls 8 [(4, .int (nI i)), (3, .ref g), (2, .ref (bb 0)), (1, .ref (f 0)), (0, .ref b)]) (K9 : ∀ (H : Heap) (locs : List Loc) (ls : Array Slot) (u : MO) (q9 : QS), WQ q9 → (∀ i, ¬ i = j → ab q9 i = ab q i) → Rel1 (N + 61) u.1 (ab q9 j) → va_P D vwCl ((wr ++ (wH ca f kq ad j g u)) ++ (wQ ca bb q9)) H → va_D A ((wr ++ (wH ca f kq ad j g u)) ++ (wQ ca bb q9)) → va_S A s.heap H locs → lv_has ls 8 [(4, .int (nI i)), (3, .ref g), (2, .ref (bb 0)), (1, .ref (f 0)), (0, .ref b)] → W p l e room_1 s m args below meth c H locs (cells + 3) (slots + 18) Q (F0 m 1507 ls [])) : W p l e room_1 s m args below meth c H locs cells slots Q (F0 m 761 ls []) := by
  refine lv_aload_n hx hb dL_law_761 rfl (lv_at hl 3 rfl) ?_
  refine lv_aload_n hx hb dL_law_762 rfl (lv_at hl 4 rfl) ?_
  refine lv_iload hx hb dL_law_763 (lv_at hl 0 rfl) ?_
  refine lv_iconst (v := 1) hx hb dL_law_765 (by decide) ?_
  refine lv_iadd hx hb dL_law_766 ?_
  refine xr_top (y := nI (i + 1)) (nI_add i 1) ?_
  refine va_sld hx hb hX hbl hbA hS (vp_in_nI (n := i + 1) (by omega) (by omega)) dL_law_767 ?_
  refine xr_top (y := xs (i + 1)) (congrArg xs (nI_clamp (by omega))) ?_
  refine lv_aload_n hx hb dL_law_768 rfl (lv_at hl 4 rfl) ?_
  refine lv_iload hx hb dL_law_769 (lv_at hl 0 rfl) ?_
  refine lv_iconst (v := 2) hx hb dL_law_771 (by decide) ?_
  refine lv_iadd hx hb dL_law_772 ?_
  refine xr_top (y := nI (i + 2)) (nI_add i 2) ?_
  refine va_sld hx hb hX hbl hbA hS (vp_in_nI (n := i + 2) (by omega) (by omega)) dL_law_773 ?_
  refine xr_top (y := xs (i + 2)) (congrArg xs (nI_clamp (by omega))) ?_
  refine lv_aload_n hx hb dL_law_774 rfl (lv_at hl 4 rfl) ?_
  refine lv_iload hx hb dL_law_775 (lv_at hl 0 rfl) ?_
  refine lv_iconst (v := 3) hx hb dL_law_777 (by decide) ?_
  refine lv_iadd hx hb dL_law_778 ?_
  refine xr_top (y := nI (i + 3)) (nI_add i 3) ?_
  refine va_sld hx hb hX hbl hbA hS (vp_in_nI (n := i + 3) (by omega) (by omega)) dL_law_779 ?_
  refine xr_top (y := xs (i + 3)) (congrArg xs (nI_clamp (by omega))) ?_
  refine lv_aload_n hx hb dL_law_780 rfl (lv_at hl 4 rfl) ?_
  refine lv_iload hx hb dL_law_781 (lv_at hl 0 rfl) ?_
  refine lv_iconst (v := 4) hx hb dL_law_783 (by decide) ?_
  refine lv_iadd hx hb dL_law_784 ?_
  refine xr_top (y := nI (i + 4)) (nI_add i 4) ?_
  refine va_sld hx hb hX hbl hbA hS (vp_in_nI (n := i + 4) (by omega) (by omega)) dL_law_785 ?_
  refine xr_top (y := xs (i + 4)) (congrArg xs (nI_clamp (by omega))) ?_
  have hP : va_P D vwCl (((wr ++ [(g, .inl (ca 1, 1, .inr (.inl ov)))]) ++ (wQ ca bb q)) ++ ((wX ca f kq ad) ++ (wKd kq) ++ (wMp ca kq (ad j) y0))) H := hP.perm (pm_v (a := wr) (x := (wX ca f kq ad) ++ (wKd kq) ++ (wMp ca kq (ad j) y0)) (o := [(g, .inl (ca 1, 1, .inr (.inl ov)))]) (q := (wQ ca bb q)))
  have hD : va_D A (((wr ++ [(g, .inl (ca 1, 1, .inr (.inl ov)))]) ++ (wQ ca bb q)) ++ ((wX ca f kq ad) ++ (wKd kq) ++ (wMp ca kq (ad j) y0))) := hD.perm (pm_v (a := wr) (x := (wX ca f kq ad) ++ (wKd kq) ++ (wMp ca kq (ad j) y0)) (o := [(g, .inl (ca 1, 1, .inr (.inl ov)))]) (q := (wQ ca bb q)))
  refine xcb_i (mc := 2) (ms := 12) (wr := ((wr ++ [(g, .inl (ca 1, 1, .inr (.inl ov)))]) ++ (wQ ca bb q))) (w0 := (wX ca f kq ad) ++ (wKd kq) ++ (wMp ca kq (ad j) y0)) (vx_runSX (As := [.ref (f 0), .int (xs (i + 1)), .int (xs (i + 2)), .int (xs (i + 3)), .int (xs (i + 4))]) (rest := []) ⟨hx, hb, hml, hown, hts⟩ (c_L_range l D ca f kq ad _ hl9 j y0 (ab q j) N (xs (i + 1)) (xs (i + 2)) (xs (i + 3)) (xs (i + 4)) hR hN hm) (vx_cwSW 5 hts gL_law_L_range rfl rfl rfl (by decide +kernel) ⟨(Nat.le_of_ble_eq_true rfl), (Nat.le_of_ble_eq_true rfl)⟩) (xPbS (wr := ((wr ++ [(g, .inl (ca 1, 1, .inr (.inl ov)))]) ++ (wQ ca bb q))) hKN hTZ hNC hP hD hS hA) rfl rfl hl.1 rfl (lv_room (Nat.le_of_ble_eq_true rfl)) dL_law_786 ⟨Nat.le_trans (m := 601024) (by omega) (Nat.le_of_ble_eq_true rfl), Nat.le_trans (m := 7293033) (by omega) (Nat.le_of_ble_eq_true rfl)⟩) (fun _ _ h => h) hP hD hS hA (fun r786 u786 H locs hu786 hP hD hS => ?_)
  have hP : va_P D vwCl ((wr ++ (wH ca f kq ad j g (u786, ov))) ++ (wQ ca bb q)) H := hP.perm (pm_w (a := wr) (x := wF1 ca f kq ad j u786) (o := [(g, .inl (ca 1, 1, .inr (.inl ov)))]) (q := (wQ ca bb q)))
  have hD : va_D A ((wr ++ (wH ca f kq ad j g (u786, ov))) ++ (wQ ca bb q)) := hD.perm (pm_w (a := wr) (x := wF1 ca f kq ad j u786) (o := [(g, .inl (ca 1, 1, .inr (.inl ov)))]) (q := (wQ ca bb q)))
  refine lv_istore (lv' := [(5, .int r786), (4, .int (nI i)), (3, .ref g), (2, .ref (bb 0)), (1, .ref (f 0)), (0, .ref b)]) hx hb dL_law_789 hl (by decide) rfl (fun ls hl => ?_)
  refine lv_aload_n hx hb dL_law_791 rfl (lv_at hl 3 rfl) ?_
  refine lv_aload_n hx hb dL_law_792 rfl (lv_at hl 5 rfl) ?_
  refine lv_iload hx hb dL_law_793 (lv_at hl 1 rfl) ?_
  refine lv_iconst (v := 1) hx hb dL_law_795 (by decide) ?_
  refine lv_iadd hx hb dL_law_796 ?_
  refine xr_top (y := nI (i + 1)) (nI_add i 1) ?_
  refine va_sld hx hb hX hbl hbA hS (vp_in_nI (n := i + 1) (by omega) (by omega)) dL_law_797 ?_
  refine xr_top (y := xs (i + 1)) (congrArg xs (nI_clamp (by omega))) ?_
  refine lv_aload_n hx hb dL_law_798 rfl (lv_at hl 5 rfl) ?_
  refine lv_iload hx hb dL_law_799 (lv_at hl 1 rfl) ?_
  refine lv_iconst (v := 2) hx hb dL_law_801 (by decide) ?_
  refine lv_iadd hx hb dL_law_802 ?_
  refine xr_top (y := nI (i + 2)) (nI_add i 2) ?_
  refine va_sld hx hb hX hbl hbA hS (vp_in_nI (n := i + 2) (by omega) (by omega)) dL_law_803 ?_
  refine xr_top (y := xs (i + 2)) (congrArg xs (nI_clamp (by omega))) ?_
  refine lv_aload_n hx hb dL_law_804 rfl (lv_at hl 5 rfl) ?_
  refine lv_iload hx hb dL_law_805 (lv_at hl 1 rfl) ?_
  refine lv_iconst (v := 3) hx hb dL_law_807 (by decide) ?_
  refine lv_iadd hx hb dL_law_808 ?_
  refine xr_top (y := nI (i + 3)) (nI_add i 3) ?_
  refine va_sld hx hb hX hbl hbA hS (vp_in_nI (n := i + 3) (by omega) (by omega)) dL_law_809 ?_
  refine xr_top (y := xs (i + 3)) (congrArg xs (nI_clamp (by omega))) ?_
  refine lv_aload_n hx hb dL_law_810 rfl (lv_at hl 5 rfl) ?_
  refine lv_iload hx hb dL_law_811 (lv_at hl 1 rfl) ?_
  refine lv_iconst (v := 4) hx hb dL_law_813 (by decide) ?_
  refine lv_iadd hx hb dL_law_814 ?_
  refine xr_top (y := nI (i + 4)) (nI_add i 4) ?_
  refine va_sld hx hb hX hbl hbA hS (vp_in_nI (n := i + 4) (by omega) (by omega)) dL_law_815 ?_
  refine xr_top (y := xs (i + 4)) (congrArg xs (nI_clamp (by omega))) ?_
  refine xb_v (mc := 0) (ms := 0) (wr := (wr ++ (wH ca f kq ad j g (u786, ov)))) (w0 := (wQ ca bb q)) (va_runV (As := [.int (xs (i + 1)), .int (xs (i + 2)), .int (xs (i + 3)), .int (xs (i + 4))]) (rest := []) ⟨hx, hb, hml, hown, hts⟩ (c_X11_range l D ca bb _ q (xs (i + 2)) (xs (i + 3)) (xs (i + 4)) (xs (i + 1)) hq) (cwV 4 hts gL_law_X11_range rfl rfl rfl (by decide +kernel) ⟨(Nat.le_of_ble_eq_true rfl), (Nat.le_of_ble_eq_true rfl)⟩) (xPbV (wr := (wr ++ (wH ca f kq ad j g (u786, ov)))) hKN hP hD rfl rfl rfl) rfl rfl hl.1 rfl (lv_room (Nat.le_of_ble_eq_true rfl)) dL_law_816 ⟨Nat.le_trans (m := 601024) (by omega) (Nat.le_of_ble_eq_true rfl), Nat.le_trans (m := 7293033) (by omega) (Nat.le_of_ble_eq_true rfl)⟩) hP hD hS hA (fun u816 H locs hu816 hP hD hS => ?_)
  have hP : va_P D vwCl ((wr ++ (wH ca f kq ad j g (u786, ov))) ++ (wQ ca bb u816)) H := hP
  have hD : va_D A ((wr ++ (wH ca f kq ad j g (u786, ov))) ++ (wQ ca bb u816)) := hD
  obtain ⟨ex9, hR9⟩ := hu786
  obtain ⟨hW9, er9, ec9, ab9⟩ := po_gg hu816 hm
  have hco : u816.co = r786 := ec9.trans ex9.symm
  have hab : ∀ i, ¬ i = j → ab u816 i = ab q i := fun i hi => by rw [ab9]; exact vup_ne hi
  have hRj : Rel1 (N + 61) u786 (ab u816 j) := by rw [ab9, vup_eq]; exact hR9
  refine lv_aload_n hx hb dL_law_819 rfl (lv_at hl 3 rfl) ?_
  refine xb_i (mc := 0) (ms := 0) (wr := (wr ++ (wH ca f kq ad j g (u786, ov)))) (w0 := (wQ ca bb u816)) (va_runV (As := []) (rest := []) ⟨hx, hb, hml, hown, hts⟩ (c_X11_thrown l D ca bb _ u816) (cwV 0 hts gL_law_X11_thrown rfl rfl rfl (by decide +kernel) ⟨(Nat.le_of_ble_eq_true rfl), (Nat.le_of_ble_eq_true rfl)⟩) (xPbV (wr := (wr ++ (wH ca f kq ad j g (u786, ov)))) hKN hP hD rfl rfl rfl) rfl rfl hl.1 rfl (lv_room (Nat.le_of_ble_eq_true rfl)) dL_law_820 ⟨Nat.le_trans (m := 601024) (by omega) (Nat.le_of_ble_eq_true rfl), Nat.le_trans (m := 7293033) (by omega) (Nat.le_of_ble_eq_true rfl)⟩) hP hD hS hA (fun r820 u820 H locs hu820 hP hD hS => ?_)
  obtain ⟨et820, eu820⟩ := hu820
  have eu820 := eu820.symm
  subst eu820
  refine lv_iload hx hb dL_law_823 (lv_at hl 0 rfl) ?_
  refine lv_icmp_eq (tgt := 830) hx hb dL_law_825 (by decide) (fun c825 => ?_) (fun c825 => ?_)
  · skip
    refine lv_goto (tgt := 1507) hx hb dL_law_830 (by decide) ?_
    exact W.widen (k := cells + 3) (n := slots + 18) (by omega) (by omega) (K9 H locs ls (u786, ov) u816 hW9 hab hRj hP hD hS (lv_sub hl [1, 2, 3, 4, 5] rfl))
  · skip
    exact absurd (et820.trans hco) c825
set_option maxHeartbeats 4000000 in
set_option maxRecDepth 100000 in
theorem k_within {p : Program} {l : Launch} {e : Env} {s : State} {m : MethodId} {args : Array Value} {below : List Frame} {meth : Method} {c : Code} {H : Heap} {locs : List Loc} {Q : State → Prop} {ls : Array Slot} {D : va_G} {ca : Nat → ClassId} {A : Nat → Prop} {f kq bb : Nat → Nat} {ad : Nat → Nat → Nat} {g b L i N cells slots : Nat} {xs : Nat → Int32} {q : QS} {ov : Nat → Int64} (hx : p.tables.exec = Jvm.exec) (hb : c.code = cL_law) (hml : c.maxLocals = 8) (hts : ∀ w ∈ wsL_law, w.before args s = true) (hown : s.vm.findClass RL = some m.cls) (hKN : xK D (TY ca) s) (hTZ : TZ A s s.heap) (hNC : NC s) (hA : ∀ q : Nat, s.heap.size ≤ q → A q) (hl9 : l.stackTraces = false) (hX : va_X b L xs s s.heap) (hbl : b < s.heap.size) (hbA : ¬ A b) (hiL : i + 5 ≤ L) (hL : L ≤ 2560) (hN : N ≤ 1000000) (hcl : cells + 3 ≤ 601024) (hsl : slots + 18 ≤ 7293033) (wr : va_W) (j : Nat) (y0 : MS) (hq : WQ q) (hm : isB (xs (i + 1)) 3 = true → xs (i + 1) = nI j ∧ j < 3) (hR : Rel1 N y0 (ab q j)) (hP : va_P D vwCl ((wr ++ (wQ ca bb q)) ++ ((wX ca f kq ad) ++ (wKd kq) ++ (wMp ca kq (ad j) y0) ++ [(g, .inl (ca 1, 1, .inr (.inl ov)))])) H) (hD : va_D A ((wr ++ (wQ ca bb q)) ++ ((wX ca f kq ad) ++ (wKd kq) ++ (wMp ca kq (ad j) y0) ++ [(g, .inl (ca 1, 1, .inr (.inl ov)))]))) (hS : va_S A s.heap H locs) (hl : lv_has ls 8 [(4, .int (nI i)), (3, .ref g), (2, .ref (bb 0)), (1, .ref (f 0)), (0, .ref b)]) (K9 : ∀ (H : Heap) (locs : List Loc) (ls : Array Slot) (u : MO) (q9 : QS), WQ q9 → (∀ i, ¬ i = j → ab q9 i = ab q i) → Rel1 (N + 61) u.1 (ab q9 j) → va_P D vwCl ((wr ++ (wH ca f kq ad j g u)) ++ (wQ ca bb q9)) H → va_D A ((wr ++ (wH ca f kq ad j g u)) ++ (wQ ca bb q9)) → va_S A s.heap H locs → lv_has ls 8 [(4, .int (nI i)), (3, .ref g), (2, .ref (bb 0)), (1, .ref (f 0)), (0, .ref b)] → W p l e room_1 s m args below meth c H locs (cells + 3) (slots + 18) Q (F0 m 1507 ls [])) : W p l e room_1 s m args below meth c H locs cells slots Q (F0 m 833 ls []) := by
  refine lv_aload_n hx hb dL_law_833 rfl (lv_at hl 3 rfl) ?_
  refine lv_aload_n hx hb dL_law_834 rfl (lv_at hl 4 rfl) ?_
  refine lv_iload hx hb dL_law_835 (lv_at hl 0 rfl) ?_
  refine lv_iconst (v := 1) hx hb dL_law_837 (by decide) ?_
  refine lv_iadd hx hb dL_law_838 ?_
  refine xr_top (y := nI (i + 1)) (nI_add i 1) ?_
  refine va_sld hx hb hX hbl hbA hS (vp_in_nI (n := i + 1) (by omega) (by omega)) dL_law_839 ?_
  refine xr_top (y := xs (i + 1)) (congrArg xs (nI_clamp (by omega))) ?_
  refine lv_aload_n hx hb dL_law_840 rfl (lv_at hl 4 rfl) ?_
  refine lv_iload hx hb dL_law_841 (lv_at hl 0 rfl) ?_
  refine lv_iconst (v := 2) hx hb dL_law_843 (by decide) ?_
  refine lv_iadd hx hb dL_law_844 ?_
  refine xr_top (y := nI (i + 2)) (nI_add i 2) ?_
  refine va_sld hx hb hX hbl hbA hS (vp_in_nI (n := i + 2) (by omega) (by omega)) dL_law_845 ?_
  refine xr_top (y := xs (i + 2)) (congrArg xs (nI_clamp (by omega))) ?_
  refine lv_aload_n hx hb dL_law_846 rfl (lv_at hl 1 rfl) ?_
  refine xcb_i (mc := 2) (ms := 12) (wr := (wr ++ (wQ ca bb q))) (w0 := (wX ca f kq ad) ++ (wKd kq) ++ (wMp ca kq (ad j) y0) ++ [(g, .inl (ca 1, 1, .inr (.inl ov)))]) (vx_runSX (As := [.ref (f 0), .int (xs (i + 1)), .int (xs (i + 2)), .ref g]) (rest := []) ⟨hx, hb, hml, hown, hts⟩ (c_L_within l D ca f kq ad _ hl9 j g y0 ov (ab q j) N (xs (i + 1)) (xs (i + 2)) hR hN hm) (vx_cwSW 4 hts gL_law_L_within rfl rfl rfl (by decide +kernel) ⟨(Nat.le_of_ble_eq_true rfl), (Nat.le_of_ble_eq_true rfl)⟩) (xPbS (wr := (wr ++ (wQ ca bb q))) hKN hTZ hNC hP hD hS hA) rfl rfl hl.1 rfl (lv_room (Nat.le_of_ble_eq_true rfl)) dL_law_847 ⟨Nat.le_trans (m := 601024) (by omega) (Nat.le_of_ble_eq_true rfl), Nat.le_trans (m := 7293033) (by omega) (Nat.le_of_ble_eq_true rfl)⟩) (fun _ _ h => h) hP hD hS hA (fun r847 u847 H locs hu847 hP hD hS => ?_)
  have hP : va_P D vwCl ((wr ++ (wH ca f kq ad j g u847)) ++ (wQ ca bb q)) H := hP.perm (pm_sw (a := wr) (b := (wQ ca bb q)) (c := wH ca f kq ad j g u847))
  have hD : va_D A ((wr ++ (wH ca f kq ad j g u847)) ++ (wQ ca bb q)) := hD.perm (pm_sw (a := wr) (b := (wQ ca bb q)) (c := wH ca f kq ad j g u847))
  refine lv_istore (lv' := [(5, .int r847), (4, .int (nI i)), (3, .ref g), (2, .ref (bb 0)), (1, .ref (f 0)), (0, .ref b)]) hx hb dL_law_850 hl (by decide) rfl (fun ls hl => ?_)
  refine lv_aload_n hx hb dL_law_852 rfl (lv_at hl 3 rfl) ?_
  refine lv_aload_n hx hb dL_law_853 rfl (lv_at hl 5 rfl) ?_
  refine lv_iload hx hb dL_law_854 (lv_at hl 1 rfl) ?_
  refine lv_iconst (v := 1) hx hb dL_law_856 (by decide) ?_
  refine lv_iadd hx hb dL_law_857 ?_
  refine xr_top (y := nI (i + 1)) (nI_add i 1) ?_
  refine va_sld hx hb hX hbl hbA hS (vp_in_nI (n := i + 1) (by omega) (by omega)) dL_law_858 ?_
  refine xr_top (y := xs (i + 1)) (congrArg xs (nI_clamp (by omega))) ?_
  refine lv_aload_n hx hb dL_law_859 rfl (lv_at hl 5 rfl) ?_
  refine lv_iload hx hb dL_law_860 (lv_at hl 1 rfl) ?_
  refine lv_iconst (v := 2) hx hb dL_law_862 (by decide) ?_
  refine lv_iadd hx hb dL_law_863 ?_
  refine xr_top (y := nI (i + 2)) (nI_add i 2) ?_
  refine va_sld hx hb hX hbl hbA hS (vp_in_nI (n := i + 2) (by omega) (by omega)) dL_law_864 ?_
  refine xr_top (y := xs (i + 2)) (congrArg xs (nI_clamp (by omega))) ?_
  refine xb_i (mc := 0) (ms := 0) (wr := (wr ++ (wH ca f kq ad j g u847))) (w0 := (wQ ca bb q)) (va_runV (As := [.int (xs (i + 1)), .int (xs (i + 2))]) (rest := []) ⟨hx, hb, hml, hown, hts⟩ (c_X11_within l D ca bb _ q (xs (i + 2)) (xs (i + 1)) hq) (cwV 2 hts gL_law_X11_within rfl rfl rfl (by decide +kernel) ⟨(Nat.le_of_ble_eq_true rfl), (Nat.le_of_ble_eq_true rfl)⟩) (xPbV (wr := (wr ++ (wH ca f kq ad j g u847))) hKN hP hD rfl rfl rfl) rfl rfl hl.1 rfl (lv_room (Nat.le_of_ble_eq_true rfl)) dL_law_865 ⟨Nat.le_trans (m := 601024) (by omega) (Nat.le_of_ble_eq_true rfl), Nat.le_trans (m := 7293033) (by omega) (Nat.le_of_ble_eq_true rfl)⟩) hP hD hS hA (fun r865 u865 H locs hu865 hP hD hS => ?_)
  have hP : va_P D vwCl ((wr ++ (wH ca f kq ad j g u847)) ++ (wQ ca bb u865)) H := hP
  have hD : va_D A ((wr ++ (wH ca f kq ad j g u847)) ++ (wQ ca bb u865)) := hD
  obtain ⟨ex9, hR9, ho9⟩ := hu847
  obtain ⟨hW9, er9, ec9, ab9⟩ := po_gg hu865 hm
  have hco : u865.co = r847 := ec9.trans ex9.symm
  have hab : ∀ i, ¬ i = j → ab u865 i = ab q i := fun i hi => by rw [ab9]; exact vup_ne hi
  have hRj : Rel1 (N + 61) u847.1 (ab u865 j) := by rw [ab9, vup_eq]; exact hR9
  refine lv_istore (lv' := [(6, .int r865), (5, .int r847), (4, .int (nI i)), (3, .ref g), (2, .ref (bb 0)), (1, .ref (f 0)), (0, .ref b)]) hx hb dL_law_868 hl (by decide) rfl (fun ls hl => ?_)
  refine lv_aload_n hx hb dL_law_870 rfl (lv_at hl 4 rfl) ?_
  refine xb_i (mc := 0) (ms := 0) (wr := (wr ++ (wH ca f kq ad j g u847))) (w0 := (wQ ca bb u865)) (va_runV (As := []) (rest := []) ⟨hx, hb, hml, hown, hts⟩ (c_X11_thrown l D ca bb _ u865) (cwV 0 hts gL_law_X11_thrown rfl rfl rfl (by decide +kernel) ⟨(Nat.le_of_ble_eq_true rfl), (Nat.le_of_ble_eq_true rfl)⟩) (xPbV (wr := (wr ++ (wH ca f kq ad j g u847))) hKN hP hD rfl rfl rfl) rfl rfl hl.1 rfl (lv_room (Nat.le_of_ble_eq_true rfl)) dL_law_871 ⟨Nat.le_trans (m := 601024) (by omega) (Nat.le_of_ble_eq_true rfl), Nat.le_trans (m := 7293033) (by omega) (Nat.le_of_ble_eq_true rfl)⟩) hP hD hS hA (fun r871 u871 H locs hu871 hP hD hS => ?_)
  obtain ⟨et871, eu871⟩ := hu871
  have eu871 := eu871.symm
  subst eu871
  refine lv_iload hx hb dL_law_874 (lv_at hl 1 rfl) ?_
  refine lv_icmp_eq (tgt := 881) hx hb dL_law_876 (by decide) (fun c876 => ?_) (fun c876 => ?_)
  · skip
    refine lv_iload hx hb dL_law_881 (lv_at hl 1 rfl) ?_
    refine lv_if_ne (tgt := 898) hx hb dL_law_883 (by decide) (fun c883 => ?_) (fun c883 => ?_)
    · skip
      refine lv_goto (tgt := 1507) hx hb dL_law_898 (by decide) ?_
      exact W.widen (k := cells + 3) (n := slots + 18) (by omega) (by omega) (K9 H locs ls u847 u865 hW9 hab hRj hP hD hS (lv_sub hl [2, 3, 4, 5, 6] rfl))
    · skip
      refine lv_aload_n hx hb dL_law_886 rfl (lv_at hl 3 rfl) ?_
      refine lv_iconst (v := 0) hx hb dL_law_887 (by decide) ?_
      have hPo : va_P D vwCl ([(g, .inl (ca 1, 1, .inr (.inl ((u847).2))))] ++ ((wr ++ ((wX ca f kq ad) ++ (wKd kq) ++ (wMp ca kq (ad j) (u847).1))) ++ (wQ ca bb u865))) H := va_P.perm hP (pm_out (a := wr) (h := (wX ca f kq ad) ++ (wKd kq) ++ (wMp ca kq (ad j) (u847).1)) (o := [(g, .inl (ca 1, 1, .inr (.inl ((u847).2))))]) (q := (wQ ca bb u865)))
      refine xr_lld hx hb hKN.1 hPo 0 1 rfl rfl (j := 0) (by decide) (by decide) dL_law_888 ?_
      refine lv_iload hx hb dL_law_889 (lv_at hl 0 rfl) ?_
      refine lv_i2l hx hb dL_law_891 rfl ?_
      refine W.lcmp hx hb dL_law_892 ?_
      refine lv_if_eq (tgt := 898) hx hb dL_law_893 (by decide) (fun c893 => ?_) (fun c893 => ?_)
      · skip
        refine lv_goto (tgt := 1507) hx hb dL_law_898 (by decide) ?_
        exact W.widen (k := cells + 3) (n := slots + 18) (by omega) (by omega) (K9 H locs ls u847 u865 hW9 hab hRj hP hD hS (lv_sub hl [2, 3, 4, 5, 6] rfl))
      · skip
        exact absurd (lgc_0.mpr ((ho9 c883).trans (congrArg Int32.toInt64 er9.symm))) c893
  · skip
    exact absurd (et871.trans hco) c876
