/-! split -/
def spT (key : Int32) (r s : RW) (i : Nat) : RW := rEn (rNew s r.od) ((r.en.drop (plE r.od key r.en)).take i) (s.cg + 1 + nI i)
def spR (key : Int32) (r : RW) : RW := rEn r (r.en.take (plE r.od key r.en)) (r.cg + nI (r.en.length - plE r.od key r.en))
def PO3 (key m n : Int32) (q : QS) (r : Int32) (u : QS) : Prop := WQ u ∧ (isB m 3 = false ∨ isB n 3 = false ∨ m = n → r = 0 ∧ u.co = 1 ∧ ab u = ab q) ∧ ∀ j k, j < 3 → k < 3 → m = nI j → n = nI k → ¬ j = k → r = nI ((ab q j).en.length - plE (ab q j).od key (ab q j).en) ∧ u.co = 0 ∧ ab u = va_up (va_up (ab q) k (spT key (ab q j) (ab q k) ((ab q j).en.length - plE (ab q j).od key (ab q j).en))) j (spR key (ab q j))
theorem PO3_bad {key m n : Int32} {q u : QS} {r : Int32} (hm : isB m 3 = false ∨ isB n 3 = false ∨ m = n) (hw : WQ u) (h1 : r = 0) (h2 : u.co = 1) (h3 : ab u = ab q) : PO3 key m n q r u :=
  ⟨hw, fun _ => ⟨h1, h2, h3⟩, fun j k hj hk e e2 hjk => (by
    rw [e, e2, isB3_ok hj, isB3_ok hk] at hm
    rcases hm with h | h | h
    · cases h
    · cases h
    · exact absurd (nI3 hj hk h) hjk)⟩
theorem PO3_ok {key : Int32} {j k : Nat} {q u : QS} {r : Int32} (hj : j < 3) (hk : k < 3) (hjk : ¬ j = k) (hw : WQ u) (h1 : r = nI (q.zz j - plQ q j key)) (h2 : u.co = 0) (h3 : ab u = va_up (va_up (ab q) k (spT key (ab q j) (ab q k) (q.zz j - plQ q j key))) j (spR key (ab q j))) : PO3 key (nI j) (nI k) q r u :=
  ⟨hw, fun h => (by
    rw [isB3_ok hj, isB3_ok hk] at h
    rcases h with h | h | h
    · cases h
    · cases h
    · exact absurd (nI3 hj hk h) hjk), fun i i2 hi hi2 e e2 _ => (by
    obtain rfl := nI3 hj hi e
    obtain rfl := nI3 hk hi2 e2
    rw [ab_len]
    exact ⟨h1, h2, h3⟩)⟩
theorem spT_0 (key : Int32) (r s : RW) : spT key r s 0 = rNew s r.od := by
  unfold spT
  rw [List.take_zero, show (nI 0 : Int32) = 0 from rfl, Int32.add_zero]
  rfl
theorem SP_f {key : Int32} {q u : QS} {j k i : Nat} (hjk : ¬ j = k) (hA : ab u = va_up (ab q) k (spT key (ab q j) (ab q k) i)) (hi : i ≤ q.zz j - plQ q j key) : u.zz k = i ∧ ab u j = ab q j ∧ u.zz j = q.zz j ∧ plQ u j key = plQ q j key := by
  have h1 : ab u j = ab q j := by rw [hA]; exact vup_ne hjk
  have h2 : (ab u k).en.length = i := by
    rw [hA, vup_eq]
    show (((ab q j).en.drop (plQ q j key)).take i).length = i
    rw [List.length_take, List.length_drop, ab_len]
    omega
  refine ⟨by rw [← h2, ab_len], h1, by rw [← ab_len u j, h1, ab_len], ?_⟩
  have := congrArg (fun r : RW => plE r.od key r.en) h1
  exact this
theorem ins_end {E : List (Int32 × Int32)} {i : Nat} {e : Int32 × Int32} (h : E.length = i) : insE i e E = E ++ [e] := by
  unfold insE
  rw [List.take_of_length_le (by omega), List.drop_eq_nil_of_le (by omega)]
theorem SP_s {key : Int32} {q u1 u : QS} {j k i : Nat} (hjk : ¬ j = k) (hA : ab u1 = va_up (ab q) k (spT key (ab q j) (ab q k) i)) (hi : i < q.zz j - plQ q j key) (hu : ab u = va_up (ab u1) k (rEn (ab u1 k) (insE i (u1.ks (64 * j + plQ q j key + i), u1.vs (64 * j + plQ q j key + i)) (enQ u1 k)) (u1.cg k + 1))) : ab u = va_up (ab q) k (spT key (ab q j) (ab q k) (i + 1)) := by
  obtain ⟨f1, f2, f3, f4⟩ := SP_f hjk hA (Nat.le_of_lt hi)
  have hk : ab u1 k = spT key (ab q j) (ab q k) i := by rw [hA, vup_eq]
  have e1 : enQ u1 k = ((ab q j).en.drop (plQ q j key)).take i := congrArg RW.en hk
  have e2 : u1.cg k = (ab q k).cg + 1 + nI i := congrArg RW.cg hk
  have e3 : ((ab q j).en.drop (plQ q j key))[i]? = some (u1.ks (64 * j + plQ q j key + i), u1.vs (64 * j + plQ q j key + i)) := by
    rw [← f2, List.getElem?_drop]
    refine (rowL_at j (by omega)).trans ?_
    rw [Nat.add_assoc]
  have e4 : insE i (u1.ks (64 * j + plQ q j key + i), u1.vs (64 * j + plQ q j key + i)) (enQ u1 k) = ((ab q j).en.drop (plQ q j key)).take (i + 1) := by
    rw [ins_end (by rw [rowL_len, f1]), e1, List.take_add_one, e3]
    rfl
  rw [hu, hA, vup_up, e4, e2, vup_eq, Int32.add_assoc ((ab q k).cg + 1), show nI i + 1 = nI (i + 1) from (Int32.ofNat_add i 1).symm]
  rfl
theorem rowL_take {f g : Nat → Int32} {z z' : Nat} (j : Nat) (h : z ≤ z') : rowL f g z j = (rowL f g z' j).take z := by
  refine rowL_of (by rw [List.length_take, rowL_len]; omega) fun i hi => ?_
  rw [List.getElem?_take, if_pos hi, rowL_at j (by omega)]
theorem SP_e {key : Int32} {q u1 u : QS} {j k : Nat} (hW : WQ u1) (hjk : ¬ j = k) (hA : ab u1 = va_up (ab q) k (spT key (ab q j) (ab q k) (q.zz j - plQ q j key))) (hu : u = (u1.co, u1.oo, va_up u1.zz j (plQ q j key), u1.ks, u1.vs, upd u1.cg j (u1.cg j + nI (q.zz j - plQ q j key)), u1.hw, u1.lo, u1.hg, u1.wk, u1.kw, u1.mn, u1.gv, u1.cp, u1.ho, u1.nk, u1.nv)) : WQ u ∧ u.co = u1.co ∧ ab u = va_up (va_up (ab q) k (spT key (ab q j) (ab q k) (q.zz j - plQ q j key))) j (spR key (ab q j)) := by
  obtain ⟨f1, f2, f3, f4⟩ := SP_f hjk hA (Nat.le_refl _)
  have hp := plz q j key
  have hz := hW.1 j
  subst hu
  refine ⟨wq_ent hW _ _ (by omega) _ _ _ _ _ _, rfl, ?_⟩
  have e1 : rowL u1.ks u1.vs (plQ q j key) j = (ab q j).en.take (plQ q j key) := by
    rw [rowL_take j (show plQ q j key ≤ u1.zz j by omega)]
    exact congrArg (fun r : RW => r.en.take (plQ q j key)) f2
  have e2 : u1.cg j = (ab q j).cg := congrArg RW.cg f2
  rw [ab_ent hW e1 (fun _ _ => rfl) (fun _ _ => rfl), hA]
  congr 1
  rw [vup_ne hjk, e2]
  unfold spR
  rw [ab_len]
  rfl

-- TreeFamilyModel.split
set_option maxHeartbeats 4000000 in
set_option maxRecDepth 100000 in
theorem c_X11_split (l : Launch) (D : va_G) (ca : Nat → ClassId) (b : Nat → Nat) (sz : Nat) (q : QS) (mm key nn : Int32) (hq : WQ q) : Met l yX11_split wsX11_split ({ frames := 2, cells := 0, slots := 0, locals := 46 } : Room) (xPc D (TY ca) [.ref (b 0), .int mm, .int key, .int nn] (wQ ca b q) sz) (va_Qi (fun (r : Int32) (u : QS) => PO3 key mm nn q r u) (xB D (wQ ca b) (va_A (wQ ca b q) sz)) (va_A (wQ ca b q) sz)) 0 0 (va_A (wQ ca b q) sz) := by
  refine Met.ofW (cc := cX11_split) (maxL := 7) (ret := (some .int)) (by decide) rfl ?_
  intro p e s m args below meth c s₁ B hml hv
  obtain ⟨rfl, hsz, hP, hKN, hD0⟩ := hv
  have hx := B.exec
  have hb := B.bytes
  have hr := B.returns
  have hts := atoms_spec (ws := wsX11_split) B.pre
  have hown : s.vm.findClass RX11 = some m.cls := findClass_of_methodNamed B.named
  have hlocks := B.notSynchronized
  have inX11 : ∀ w ∈ wsX110, w ∈ wsX11_split := by decide +kernel
  subst hsz
  have hD := hD0.self (sz := s.heap.size)
  generalize hAe : va_A (wQ ca b q) s.heap.size = A at hD ⊢
  have hA : ∀ q : Nat, s.heap.size ≤ q → A q := fun q h => by rw [← hAe]; exact Or.inr h
  have hS : va_S A s.heap s.heap [] := va_S.rf
  have hl := lv_entry ([.ref (b 0), .int mm, .int key, .int nn]) (n := 7) (Nat.le_of_ble_eq_true rfl)
  rw [lg_entry_eq]
  generalize (lg_sl ([.ref (b 0), .int mm, .int key, .int nn]) ++ List.replicate (7 - (lg_sl ([.ref (b 0), .int mm, .int key, .int nn])).length) Slot.unset).toArray = ls at hl ⊢
  have hl : lv_has ls 7 [(0, .ref (b 0)), (1, .int mm), (2, .int key), (3, .int nn)] := hl
  rcases isB3 mm with hmm | ⟨j, hj, hmj⟩
  · skip
    refine lv_aload_n hx hb dX11_split_0 rfl (lv_at hl 0 rfl) ?_
    refine lv_iconst (v := 0) hx hb dX11_split_1 (by decide) ?_
    refine va_put (D := D) (ci := 9) (v := .int 0) (ty := .int) (C := RX11) (T := TX11) (N := 17) hx hb hts inX11 tyX11 tyX11_ok nmX11 hown hKN.1 hP hD hS 0 rfl rfl 0 (by decide) (hts (.fieldLink RX11 59 "TreeFamilyModel" "code" "I") (by decide +kernel)) (fun _ h9 => h9) rfl (by decide +kernel) rfl rfl (Nat.le_of_ble_eq_true rfl) dX11_split_2 (fun H locs hP hD hS => ?_)
    have hP : va_P D vwCl (wQx ca b 0 q.oo q.zz q.ks q.vs q.cg q.hw q.lo q.hg q.wk q.kw q.mn q.gv q.cp q.ho q.nk q.nv) H := hP
    have hD : va_D A (wQx ca b 0 q.oo q.zz q.ks q.vs q.cg q.hw q.lo q.hg q.wk q.kw q.mn q.gv q.cp q.ho q.nk q.nv) := hD
    refine lv_iload_n hx hb dX11_split_5 rfl (lv_at hl 1 rfl) ?_
    refine xs_i (va_runS (As := [.int mm]) (rest := []) ⟨hx, hb, hml, hown, hts⟩ (c_X11_isMap l _) (va_cwS 1 hts gX11_split_X11_isMap rfl rfl rfl (by decide +kernel) ⟨(Nat.le_of_ble_eq_true rfl), (Nat.le_of_ble_eq_true rfl)⟩) xPreT rfl rfl hl.1 rfl (lv_room (Nat.le_of_ble_eq_true rfl)) dX11_split_6 ⟨(Nat.le_of_ble_eq_true rfl), (Nat.le_of_ble_eq_true rfl)⟩) (fun r6 er6 => ?_)
    subst er6
    refine xr_top (y := 0) (by rw [hmm]; rfl) ?_
    refine lv_if_eq (tgt := 24) hx hb dX11_split_9 (by decide) (fun c9 => ?_) (fun c9 => ?_)
    · skip
      refine lv_aload_n hx hb dX11_split_24 rfl (lv_at hl 0 rfl) ?_
      refine lv_iconst (v := 1) hx hb dX11_split_25 (by decide) ?_
      refine xc_i (wr := []) (va_runV (As := [.int 1]) (rest := []) ⟨hx, hb, hml, hown, hts⟩ (c_X11_refuse l D ca b _ (0, q.oo, q.zz, q.ks, q.vs, q.cg, q.hw, q.lo, q.hg, q.wk, q.kw, q.mn, q.gv, q.cp, q.ho, q.nk, q.nv) 1) (cwV 1 hts gX11_split_X11_refuse rfl rfl rfl (by decide +kernel) ⟨(Nat.le_of_ble_eq_true rfl), (Nat.le_of_ble_eq_true rfl)⟩) (xPreV hKN hP hD [0, 1, 2, 3, 4, 5, 6, 7, 8, 9, 10, 11, 12, 13, 14, 15, 16] (by decide) rfl (q0 := 0) rfl rfl rfl) rfl rfl hl.1 rfl (lv_room (Nat.le_of_ble_eq_true rfl)) dX11_split_26 ⟨(Nat.le_of_ble_eq_true rfl), (Nat.le_of_ble_eq_true rfl)⟩) hP hD hS hA [0, 1, 2, 3, 4, 5, 6, 7, 8, 9, 10, 11, 12, 13, 14, 15, 16] [] rfl rfl (by decide) (by decide) (fun r26 u26 H locs hu26 hP hD hS => ?_)
      obtain ⟨er26, eu26⟩ := hu26
      have eu26 := eu26.symm
      subst eu26
      subst er26
      have hP : va_P D vwCl (wQx ca b 1 q.oo q.zz q.ks q.vs q.cg q.hw q.lo q.hg q.wk q.kw q.mn q.gv q.cp q.ho q.nk q.nv) H := hP
      have hD : va_D A (wQx ca b 1 q.oo q.zz q.ks q.vs q.cg q.hw q.lo q.hg q.wk q.kw q.mn q.gv q.cp q.ho q.nk q.nv) := hD
      exact W.iret (v := 0) hx hb hr (fun t9 e9 w9 => ⟨⟨_, (1, q.oo, q.zz, q.ks, q.vs, q.cg, q.hw, q.lo, q.hg, q.wk, q.kw, q.mn, q.gv, q.cp, q.ho, q.nk, q.nv), rfl, PO3_bad (Or.inl hmm) hq rfl rfl rfl, by rw [e9]; exact hP, hD⟩, hS.F e9⟩) hS.2.2 dX11_split_29
    · skip
      exact absurd c9 (by decide)
  · subst hmj
    have hz6 := hq.1 j
    rcases isB3 nn with hnn | ⟨k, hk, hnk⟩
    · skip
      refine lv_aload_n hx hb dX11_split_0 rfl (lv_at hl 0 rfl) ?_
      refine lv_iconst (v := 0) hx hb dX11_split_1 (by decide) ?_
      refine va_put (D := D) (ci := 9) (v := .int 0) (ty := .int) (C := RX11) (T := TX11) (N := 17) hx hb hts inX11 tyX11 tyX11_ok nmX11 hown hKN.1 hP hD hS 0 rfl rfl 0 (by decide) (hts (.fieldLink RX11 59 "TreeFamilyModel" "code" "I") (by decide +kernel)) (fun _ h9 => h9) rfl (by decide +kernel) rfl rfl (Nat.le_of_ble_eq_true rfl) dX11_split_2 (fun H locs hP hD hS => ?_)
      have hP : va_P D vwCl (wQx ca b 0 q.oo q.zz q.ks q.vs q.cg q.hw q.lo q.hg q.wk q.kw q.mn q.gv q.cp q.ho q.nk q.nv) H := hP
      have hD : va_D A (wQx ca b 0 q.oo q.zz q.ks q.vs q.cg q.hw q.lo q.hg q.wk q.kw q.mn q.gv q.cp q.ho q.nk q.nv) := hD
      refine lv_iload_n hx hb dX11_split_5 rfl (lv_at hl 1 rfl) ?_
      refine xs_i (va_runS (As := [.int (nI j)]) (rest := []) ⟨hx, hb, hml, hown, hts⟩ (c_X11_isMap l _) (va_cwS 1 hts gX11_split_X11_isMap rfl rfl rfl (by decide +kernel) ⟨(Nat.le_of_ble_eq_true rfl), (Nat.le_of_ble_eq_true rfl)⟩) xPreT rfl rfl hl.1 rfl (lv_room (Nat.le_of_ble_eq_true rfl)) dX11_split_6 ⟨(Nat.le_of_ble_eq_true rfl), (Nat.le_of_ble_eq_true rfl)⟩) (fun r6 er6 => ?_)
      subst er6
      refine xr_top (y := 1) (by rw [isB3_ok hj]; rfl) ?_
      refine lv_if_eq (tgt := 24) hx hb dX11_split_9 (by decide) (fun c9 => ?_) (fun c9 => ?_)
      · skip
        exact absurd c9 (by decide)
      · skip
        refine lv_iload_n hx hb dX11_split_12 rfl (lv_at hl 3 rfl) ?_
        refine xs_i (va_runS (As := [.int nn]) (rest := []) ⟨hx, hb, hml, hown, hts⟩ (c_X11_isMap l _) (va_cwS 1 hts gX11_split_X11_isMap rfl rfl rfl (by decide +kernel) ⟨(Nat.le_of_ble_eq_true rfl), (Nat.le_of_ble_eq_true rfl)⟩) xPreT rfl rfl hl.1 rfl (lv_room (Nat.le_of_ble_eq_true rfl)) dX11_split_13 ⟨(Nat.le_of_ble_eq_true rfl), (Nat.le_of_ble_eq_true rfl)⟩) (fun r13 er13 => ?_)
        subst er13
        refine xr_top (y := 0) (by rw [hnn]; rfl) ?_
        refine lv_if_eq (tgt := 24) hx hb dX11_split_16 (by decide) (fun c16 => ?_) (fun c16 => ?_)
        · skip
          refine lv_aload_n hx hb dX11_split_24 rfl (lv_at hl 0 rfl) ?_
          refine lv_iconst (v := 1) hx hb dX11_split_25 (by decide) ?_
          refine xc_i (wr := []) (va_runV (As := [.int 1]) (rest := []) ⟨hx, hb, hml, hown, hts⟩ (c_X11_refuse l D ca b _ (0, q.oo, q.zz, q.ks, q.vs, q.cg, q.hw, q.lo, q.hg, q.wk, q.kw, q.mn, q.gv, q.cp, q.ho, q.nk, q.nv) 1) (cwV 1 hts gX11_split_X11_refuse rfl rfl rfl (by decide +kernel) ⟨(Nat.le_of_ble_eq_true rfl), (Nat.le_of_ble_eq_true rfl)⟩) (xPreV hKN hP hD [0, 1, 2, 3, 4, 5, 6, 7, 8, 9, 10, 11, 12, 13, 14, 15, 16] (by decide) rfl (q0 := 0) rfl rfl rfl) rfl rfl hl.1 rfl (lv_room (Nat.le_of_ble_eq_true rfl)) dX11_split_26 ⟨(Nat.le_of_ble_eq_true rfl), (Nat.le_of_ble_eq_true rfl)⟩) hP hD hS hA [0, 1, 2, 3, 4, 5, 6, 7, 8, 9, 10, 11, 12, 13, 14, 15, 16] [] rfl rfl (by decide) (by decide) (fun r26 u26 H locs hu26 hP hD hS => ?_)
          obtain ⟨er26, eu26⟩ := hu26
          have eu26 := eu26.symm
          subst eu26
          subst er26
          have hP : va_P D vwCl (wQx ca b 1 q.oo q.zz q.ks q.vs q.cg q.hw q.lo q.hg q.wk q.kw q.mn q.gv q.cp q.ho q.nk q.nv) H := hP
          have hD : va_D A (wQx ca b 1 q.oo q.zz q.ks q.vs q.cg q.hw q.lo q.hg q.wk q.kw q.mn q.gv q.cp q.ho q.nk q.nv) := hD
          exact W.iret (v := 0) hx hb hr (fun t9 e9 w9 => ⟨⟨_, (1, q.oo, q.zz, q.ks, q.vs, q.cg, q.hw, q.lo, q.hg, q.wk, q.kw, q.mn, q.gv, q.cp, q.ho, q.nk, q.nv), rfl, PO3_bad (Or.inr (Or.inl hnn)) hq rfl rfl rfl, by rw [e9]; exact hP, hD⟩, hS.F e9⟩) hS.2.2 dX11_split_29
        · skip
          exact absurd c16 (by decide)
    · subst hnk
      have hz7 := hq.1 k
      refine lv_aload_n hx hb dX11_split_0 rfl (lv_at hl 0 rfl) ?_
      refine lv_iconst (v := 0) hx hb dX11_split_1 (by decide) ?_
      refine va_put (D := D) (ci := 9) (v := .int 0) (ty := .int) (C := RX11) (T := TX11) (N := 17) hx hb hts inX11 tyX11 tyX11_ok nmX11 hown hKN.1 hP hD hS 0 rfl rfl 0 (by decide) (hts (.fieldLink RX11 59 "TreeFamilyModel" "code" "I") (by decide +kernel)) (fun _ h9 => h9) rfl (by decide +kernel) rfl rfl (Nat.le_of_ble_eq_true rfl) dX11_split_2 (fun H locs hP hD hS => ?_)
      have hP : va_P D vwCl (wQx ca b 0 q.oo q.zz q.ks q.vs q.cg q.hw q.lo q.hg q.wk q.kw q.mn q.gv q.cp q.ho q.nk q.nv) H := hP
      have hD : va_D A (wQx ca b 0 q.oo q.zz q.ks q.vs q.cg q.hw q.lo q.hg q.wk q.kw q.mn q.gv q.cp q.ho q.nk q.nv) := hD
      refine lv_iload_n hx hb dX11_split_5 rfl (lv_at hl 1 rfl) ?_
      refine xs_i (va_runS (As := [.int (nI j)]) (rest := []) ⟨hx, hb, hml, hown, hts⟩ (c_X11_isMap l _) (va_cwS 1 hts gX11_split_X11_isMap rfl rfl rfl (by decide +kernel) ⟨(Nat.le_of_ble_eq_true rfl), (Nat.le_of_ble_eq_true rfl)⟩) xPreT rfl rfl hl.1 rfl (lv_room (Nat.le_of_ble_eq_true rfl)) dX11_split_6 ⟨(Nat.le_of_ble_eq_true rfl), (Nat.le_of_ble_eq_true rfl)⟩) (fun r6 er6 => ?_)
      subst er6
      refine xr_top (y := 1) (by rw [isB3_ok hj]; rfl) ?_
      refine lv_if_eq (tgt := 24) hx hb dX11_split_9 (by decide) (fun c9 => ?_) (fun c9 => ?_)
      · skip
        exact absurd c9 (by decide)
      · skip
        refine lv_iload_n hx hb dX11_split_12 rfl (lv_at hl 3 rfl) ?_
        refine xs_i (va_runS (As := [.int (nI k)]) (rest := []) ⟨hx, hb, hml, hown, hts⟩ (c_X11_isMap l _) (va_cwS 1 hts gX11_split_X11_isMap rfl rfl rfl (by decide +kernel) ⟨(Nat.le_of_ble_eq_true rfl), (Nat.le_of_ble_eq_true rfl)⟩) xPreT rfl rfl hl.1 rfl (lv_room (Nat.le_of_ble_eq_true rfl)) dX11_split_13 ⟨(Nat.le_of_ble_eq_true rfl), (Nat.le_of_ble_eq_true rfl)⟩) (fun r13 er13 => ?_)
        subst er13
        refine xr_top (y := 1) (by rw [isB3_ok hk]; rfl) ?_
        refine lv_if_eq (tgt := 24) hx hb dX11_split_16 (by decide) (fun c16 => ?_) (fun c16 => ?_)
        · skip
          exact absurd c16 (by decide)
        · skip
          refine lv_iload_n hx hb dX11_split_19 rfl (lv_at hl 1 rfl) ?_
          refine lv_iload_n hx hb dX11_split_20 rfl (lv_at hl 3 rfl) ?_
          refine lv_icmp_ne (tgt := 30) hx hb dX11_split_21 (by decide) (fun c21 => ?_) (fun c21 => ?_)
          · skip
            have c21 : ¬ j = k := fun h9 => c21 ((xn_eq (a := j) (b := k) (Nat.lt_of_le_of_lt (show j ≤ 60 by omega) (by decide)) (Nat.lt_of_le_of_lt (show k ≤ 60 by omega) (by decide))).mpr h9)
            refine lv_aload_n hx hb dX11_split_30 rfl (lv_at hl 0 rfl) ?_
            refine lv_iload_n hx hb dX11_split_31 rfl (lv_at hl 3 rfl) ?_
            refine lv_aload_n hx hb dX11_split_32 rfl (lv_at hl 0 rfl) ?_
            refine va_get (D := D) (ci := 9) (v := .ref (b 1)) (C := RX11) (T := TX11) (N := 17) hx hb hts inX11 hown hKN.1 hP 0 rfl rfl 1 (by decide) (hts (.fieldLink RX11 7 "TreeFamilyModel" "order" "[I") (by decide +kernel)) (fun _ h9 => h9) rfl dX11_split_33 ?_
            refine lv_iload_n hx hb dX11_split_36 rfl (lv_at hl 1 rfl) ?_
            refine xr_ild hx hb hKN.1 hP 1 0 rfl rfl (j := j) (by omega) (by decide) dX11_split_37 ?_
            refine xc_v (wr := []) (va_runV (As := [.int (nI k), .int (q.oo j)]) (rest := []) ⟨hx, hb, hml, hown, hts⟩ (c_X11_renew l D ca b _ (0, q.oo, q.zz, q.ks, q.vs, q.cg, q.hw, q.lo, q.hg, q.wk, q.kw, q.mn, q.gv, q.cp, q.ho, q.nk, q.nv) k (q.oo j) hk) (cwV 2 hts gX11_split_X11_renew rfl rfl rfl (by decide +kernel) ⟨(Nat.le_of_ble_eq_true rfl), (Nat.le_of_ble_eq_true rfl)⟩) (xPreV hKN hP hD [0, 1, 2, 3, 4, 5, 6, 7, 8, 9, 10, 11, 12, 13, 14, 15, 16] (by decide) rfl (q0 := 0) rfl rfl rfl) rfl rfl hl.1 rfl (lv_room (Nat.le_of_ble_eq_true rfl)) dX11_split_38 ⟨(Nat.le_of_ble_eq_true rfl), (Nat.le_of_ble_eq_true rfl)⟩) hP hD hS hA [0, 1, 2, 3, 4, 5, 6, 7, 8, 9, 10, 11, 12, 13, 14, 15, 16] [] rfl rfl (by decide) (by decide) (fun u38 H locs hu38 hP hD hS => ?_)
            obtain ⟨hw38, hc38, ha38⟩ := renew_of (q := (0, q.oo, q.zz, q.ks, q.vs, q.cg, q.hw, q.lo, q.hg, q.wk, q.kw, q.mn, q.gv, q.cp, q.ho, q.nk, q.nv)) hq hu38
            have hP : va_P D vwCl (wQ ca b u38) H := hP
            have hD : va_D A (wQ ca b u38) := hD
            have hA0 : ab u38 = va_up (ab q) k (spT key (ab q j) (ab q k) 0) := by rw [spT_0]; exact ha38
            obtain ⟨f1, f2, f3, f4⟩ := SP_f c21 hA0 (Nat.zero_le _)
            have hpz := plz q j key
            refine lv_aload_n hx hb dX11_split_41 rfl (lv_at hl 0 rfl) ?_
            refine lv_iload_n hx hb dX11_split_42 rfl (lv_at hl 1 rfl) ?_
            refine lv_iload_n hx hb dX11_split_43 rfl (lv_at hl 2 rfl) ?_
            refine xc_i (wr := []) (va_runV (As := [.int (nI j), .int key]) (rest := []) ⟨hx, hb, hml, hown, hts⟩ (c_X11_place l D ca b _ u38 j key hw38 hj) (cwV 2 hts gX11_split_X11_place rfl rfl rfl (by decide +kernel) ⟨(Nat.le_of_ble_eq_true rfl), (Nat.le_of_ble_eq_true rfl)⟩) (xPreV hKN hP hD [0, 1, 2, 3, 4, 5, 6, 7, 8, 9, 10, 11, 12, 13, 14, 15, 16] (by decide) rfl (q0 := 0) rfl rfl rfl) rfl rfl hl.1 rfl (lv_room (Nat.le_of_ble_eq_true rfl)) dX11_split_44 ⟨(Nat.le_of_ble_eq_true rfl), (Nat.le_of_ble_eq_true rfl)⟩) hP hD hS hA [0, 1, 2, 3, 4, 5, 6, 7, 8, 9, 10, 11, 12, 13, 14, 15, 16] [] rfl rfl (by decide) (by decide) (fun r44 u44 H locs hu44 hP hD hS => ?_)
            obtain ⟨er44, eu44⟩ := hu44
            have eu44 := eu44.symm
            subst eu44
            have hP : va_P D vwCl (wQ ca b u38) H := hP
            have hD : va_D A (wQ ca b u38) := hD
            have er44 : r44 = nI (plQ u38 j key) := er44
            subst er44
            refine lv_istore (lv' := [(4, .int (nI (plQ u38 j key))), (0, .ref (b 0)), (1, .int (nI j)), (2, .int key), (3, .int (nI k))]) hx hb dX11_split_47 hl (by decide) rfl (fun ls hl => ?_)
            rw [f4] at hl
            refine lv_aload_n hx hb dX11_split_49 rfl (lv_at hl 1 rfl) ?_
            refine va_get (D := D) (ci := 9) (v := .ref (b 2)) (C := RX11) (T := TX11) (N := 17) hx hb hts inX11 hown hKN.1 hP 0 rfl rfl 2 (by decide) (hts (.fieldLink RX11 13 "TreeFamilyModel" "size" "[I") (by decide +kernel)) (fun _ h9 => h9) rfl dX11_split_50 ?_
            refine lv_iload_n hx hb dX11_split_53 rfl (lv_at hl 2 rfl) ?_
            refine xr_ild hx hb hKN.1 hP 2 0 rfl rfl (j := j) (by omega) (by decide) dX11_split_54 ?_
            refine xr_top (y := nI (q.zz j)) (congrArg nI f3) ?_
            refine lv_iload hx hb dX11_split_55 (lv_at hl 0 rfl) ?_
            refine lv_isub hx hb dX11_split_57 ?_
            refine xr_top (y := nI ((q.zz j) - (plQ q j key))) (pk_sub (a := q.zz j) (b := plQ q j key) (by omega)) ?_
            refine lv_istore (lv' := [(5, .int (nI ((q.zz j) - (plQ q j key)))), (4, .int (nI (plQ q j key))), (0, .ref (b 0)), (1, .int (nI j)), (2, .int key), (3, .int (nI k))]) hx hb dX11_split_58 hl (by decide) rfl (fun ls hl => ?_)
            refine lv_iconst (v := 0) hx hb dX11_split_60 (by decide) ?_
            refine lv_istore (lv' := [(6, .int 0), (5, .int (nI ((q.zz j) - (plQ q j key)))), (4, .int (nI (plQ q j key))), (0, .ref (b 0)), (1, .int (nI j)), (2, .int key), (3, .int (nI k))]) hx hb dX11_split_61 hl (by decide) rfl (fun ls hl => ?_)
            refine xl 63 (σ := Nat × QS) (fun n u H locs ls => match u with | (i, u1) => i + n = q.zz j - plQ q j key ∧ WQ u1 ∧ u1.co = 0 ∧ ab u1 = va_up (ab q) k (spT key (ab q j) (ab q k) i) ∧ va_P D vwCl (wQ ca b u1) H ∧ va_D A (wQ ca b u1) ∧ va_S A s.heap H locs ∧ lv_has ls 7 [(0, .ref (b 0)), (1, .int (nI j)), (2, .int key), (3, .int (nI k)), (4, .int (nI (plQ q j key))), (5, .int (nI ((q.zz j) - (plQ q j key)))), (6, .int (nI i))]) ?_ (q.zz j - plQ q j key) (0, u38) _ _ _ ⟨(by omega), hw38, hc38, hA0, hP, hD, hS, lv_sub hl [3, 4, 5, 6, 2, 1, 0] rfl⟩
            clear hP hD hS hl
            intro n ih u H locs ls hI
            obtain ⟨i, u1⟩ := u
            obtain ⟨hn, hW, hC, hAq, hP, hD, hS, hl⟩ := hI
            obtain ⟨f5, f6, f7, f8⟩ := SP_f c21 hAq (by omega)
            have hz8 := hq.1 j
            refine lv_iload hx hb dX11_split_63 (lv_at hl 6 rfl) ?_
            refine lv_iload hx hb dX11_split_65 (lv_at hl 5 rfl) ?_
            refine lv_icmp_ge (tgt := 113) hx hb dX11_split_67 (by decide) (fun c67 => ?_) (fun c67 => ?_)
            · skip
              have c67 : ((q.zz j) - (plQ q j key)) ≤ i := (xn_le (a := ((q.zz j) - (plQ q j key))) (b := i) (by omega) (by omega)).mp c67
              refine lv_aload_n hx hb dX11_split_113 rfl (lv_at hl 0 rfl) ?_
              refine va_get (D := D) (ci := 9) (v := .ref (b 2)) (C := RX11) (T := TX11) (N := 17) hx hb hts inX11 hown hKN.1 hP 0 rfl rfl 2 (by decide) (hts (.fieldLink RX11 13 "TreeFamilyModel" "size" "[I") (by decide +kernel)) (fun _ h9 => h9) rfl dX11_split_114 ?_
              refine lv_iload_n hx hb dX11_split_117 rfl (lv_at hl 1 rfl) ?_
              refine lv_iload hx hb dX11_split_118 (lv_at hl 4 rfl) ?_
              refine xr_nst hx hb hKN.1 hP hD hS 2 0 (g := u1.zz) rfl rfl (j := j) (v := plQ q j key) (by omega) (by decide) dX11_split_120 (fun H locs hP hD hS => ?_)
              have hP : va_P D vwCl (wQx ca b u1.co u1.oo (va_up u1.zz j (plQ q j key)) u1.ks u1.vs u1.cg u1.hw u1.lo u1.hg u1.wk u1.kw u1.mn u1.gv u1.cp u1.ho u1.nk u1.nv) H := hP
              have hD : va_D A (wQx ca b u1.co u1.oo (va_up u1.zz j (plQ q j key)) u1.ks u1.vs u1.cg u1.hw u1.lo u1.hg u1.wk u1.kw u1.mn u1.gv u1.cp u1.ho u1.nk u1.nv) := hD
              refine lv_aload_n hx hb dX11_split_121 rfl (lv_at hl 0 rfl) ?_
              refine va_get (D := D) (ci := 9) (v := .ref (b 5)) (C := RX11) (T := TX11) (N := 17) hx hb hts inX11 hown hKN.1 hP 0 rfl rfl 5 (by decide) (hts (.fieldLink RX11 22 "TreeFamilyModel" "changes" "[I") (by decide +kernel)) (fun _ h9 => h9) rfl dX11_split_122 ?_
              refine lv_iload_n hx hb dX11_split_125 rfl (lv_at hl 1 rfl) ?_
              refine lv_dup2_11 hx hb dX11_split_126 rfl rfl ?_
              refine xr_ild hx hb hKN.1 hP 5 0 rfl rfl (j := j) (by omega) (by decide) dX11_split_127 ?_
              refine lv_iload hx hb dX11_split_128 (lv_at hl 5 rfl) ?_
              refine lv_iadd hx hb dX11_split_130 ?_
              refine xr_ist hx hb hKN.1 hP hD hS 5 0 rfl rfl (j := j) (by omega) (by decide) dX11_split_131 (fun H locs hP hD hS => ?_)
              have hP : va_P D vwCl (wQx ca b u1.co u1.oo (va_up u1.zz j (plQ q j key)) u1.ks u1.vs (upd u1.cg j ((u1.cg j) + (nI ((q.zz j) - (plQ q j key))))) u1.hw u1.lo u1.hg u1.wk u1.kw u1.mn u1.gv u1.cp u1.ho u1.nk u1.nv) H := hP
              have hD : va_D A (wQx ca b u1.co u1.oo (va_up u1.zz j (plQ q j key)) u1.ks u1.vs (upd u1.cg j ((u1.cg j) + (nI ((q.zz j) - (plQ q j key))))) u1.hw u1.lo u1.hg u1.wk u1.kw u1.mn u1.gv u1.cp u1.ho u1.nk u1.nv) := hD
              refine lv_iload hx hb dX11_split_132 (lv_at hl 5 rfl) ?_
              exact W.iret (v := (nI ((q.zz j) - (plQ q j key)))) hx hb hr (fun t9 e9 w9 => ⟨⟨_, (u1.co, u1.oo, (va_up u1.zz j (plQ q j key)), u1.ks, u1.vs, (upd u1.cg j ((u1.cg j) + (nI ((q.zz j) - (plQ q j key))))), u1.hw, u1.lo, u1.hg, u1.wk, u1.kw, u1.mn, u1.gv, u1.cp, u1.ho, u1.nk, u1.nv), rfl, (by obtain rfl : i = q.zz j - plQ q j key := (by omega); obtain ⟨g1, g2, g3⟩ := SP_e hW c21 hAq rfl; exact PO3_ok hj hk c21 g1 rfl (g2.trans hC) g3), by rw [e9]; exact hP, hD⟩, hS.F e9⟩) hS.2.2 dX11_split_134
            · skip
              have c67 : ¬ ((q.zz j) - (plQ q j key)) ≤ i := fun h9 => c67 ((xn_le (a := ((q.zz j) - (plQ q j key))) (b := i) (by omega) (by omega)).mpr h9)
              refine lv_aload_n hx hb dX11_split_70 rfl (lv_at hl 0 rfl) ?_
              refine lv_iload_n hx hb dX11_split_71 rfl (lv_at hl 3 rfl) ?_
              refine lv_iload hx hb dX11_split_72 (lv_at hl 6 rfl) ?_
              refine lv_aload_n hx hb dX11_split_74 rfl (lv_at hl 0 rfl) ?_
              refine va_get (D := D) (ci := 9) (v := .ref (b 3)) (C := RX11) (T := TX11) (N := 17) hx hb hts inX11 hown hKN.1 hP 0 rfl rfl 3 (by decide) (hts (.fieldLink RX11 16 "TreeFamilyModel" "keys" "[I") (by decide +kernel)) (fun _ h9 => h9) rfl dX11_split_75 ?_
              refine lv_bipush (v := 64) hx hb dX11_split_78 (by decide) ?_
              refine lv_iload_n hx hb dX11_split_80 rfl (lv_at hl 1 rfl) ?_
              refine lv_imul hx hb dX11_split_81 ?_
              refine xr_top (y := nI (64 * j)) (pk_mul 64 j) ?_
              refine lv_iload hx hb dX11_split_82 (lv_at hl 4 rfl) ?_
              refine lv_iadd hx hb dX11_split_84 ?_
              refine xr_top (y := nI ((64 * j) + (plQ q j key))) (nI_add (64 * j) (plQ q j key)) ?_
              refine lv_iload hx hb dX11_split_85 (lv_at hl 6 rfl) ?_
              refine lv_iadd hx hb dX11_split_87 ?_
              refine xr_top (y := nI (((64 * j) + (plQ q j key)) + i)) (nI_add ((64 * j) + (plQ q j key)) i) ?_
              refine xr_ild hx hb hKN.1 hP 3 0 rfl rfl (j := ((64 * j) + (plQ q j key)) + i) (by omega) (by decide) dX11_split_88 ?_
              refine lv_aload_n hx hb dX11_split_89 rfl (lv_at hl 0 rfl) ?_
              refine va_get (D := D) (ci := 9) (v := .ref (b 4)) (C := RX11) (T := TX11) (N := 17) hx hb hts inX11 hown hKN.1 hP 0 rfl rfl 4 (by decide) (hts (.fieldLink RX11 19 "TreeFamilyModel" "values" "[I") (by decide +kernel)) (fun _ h9 => h9) rfl dX11_split_90 ?_
              refine lv_bipush (v := 64) hx hb dX11_split_93 (by decide) ?_
              refine lv_iload_n hx hb dX11_split_95 rfl (lv_at hl 1 rfl) ?_
              refine lv_imul hx hb dX11_split_96 ?_
              refine xr_top (y := nI (64 * j)) (pk_mul 64 j) ?_
              refine lv_iload hx hb dX11_split_97 (lv_at hl 4 rfl) ?_
              refine lv_iadd hx hb dX11_split_99 ?_
              refine xr_top (y := nI ((64 * j) + (plQ q j key))) (nI_add (64 * j) (plQ q j key)) ?_
              refine lv_iload hx hb dX11_split_100 (lv_at hl 6 rfl) ?_
              refine lv_iadd hx hb dX11_split_102 ?_
              refine xr_top (y := nI (((64 * j) + (plQ q j key)) + i)) (nI_add ((64 * j) + (plQ q j key)) i) ?_
              refine xr_ild hx hb hKN.1 hP 4 0 rfl rfl (j := ((64 * j) + (plQ q j key)) + i) (by omega) (by decide) dX11_split_103 ?_
              refine xc_v (wr := []) (va_runV (As := [.int (nI k), .int (nI i), .int (u1.ks (((64 * j) + (plQ q j key)) + i)), .int (u1.vs (((64 * j) + (plQ q j key)) + i))]) (rest := []) ⟨hx, hb, hml, hown, hts⟩ (c_X11_open l D ca b _ u1 k i (u1.ks (((64 * j) + (plQ q j key)) + i)) (u1.vs (((64 * j) + (plQ q j key)) + i)) hW hk (by omega) (by omega)) (cwV 4 hts gX11_split_X11_open rfl rfl rfl (by decide +kernel) ⟨(Nat.le_of_ble_eq_true rfl), (Nat.le_of_ble_eq_true rfl)⟩) (xPreV hKN hP hD [0, 1, 2, 3, 4, 5, 6, 7, 8, 9, 10, 11, 12, 13, 14, 15, 16] (by decide) rfl (q0 := 0) rfl rfl rfl) rfl rfl hl.1 rfl (lv_room (Nat.le_of_ble_eq_true rfl)) dX11_split_104 ⟨(Nat.le_of_ble_eq_true rfl), (Nat.le_of_ble_eq_true rfl)⟩) hP hD hS hA [0, 1, 2, 3, 4, 5, 6, 7, 8, 9, 10, 11, 12, 13, 14, 15, 16] [] rfl rfl (by decide) (by decide) (fun u104 H locs hu104 hP hD hS => ?_)
              obtain ⟨hw104, hc104, ha104⟩ := hu104
              have hP : va_P D vwCl (wQ ca b u104) H := hP
              have hD : va_D A (wQ ca b u104) := hD
              refine lv_iinc (v := (nI (i + 1))) (lv' := [(6, .int (nI (i + 1))), (0, .ref (b 0)), (1, .int (nI j)), (2, .int key), (3, .int (nI k)), (4, .int (nI (plQ q j key))), (5, .int (nI ((q.zz j) - (plQ q j key))))]) hx hb dX11_split_107 hl (k := 6) rfl (nI_1 _) (by decide) rfl (fun ls hl => ?_)
              refine lv_goto (tgt := 63) hx hb dX11_split_110 (by decide) ?_
              exact ih (n - 1) (by omega) (i + 1, u104) _ _ _ ⟨(by omega), hw104, (hc104.trans hC), (SP_s c21 hAq (by omega) ha104), hP, hD, hS, lv_sub hl [1, 2, 3, 4, 5, 6, 0] rfl⟩
          · skip
            have c21 : j = k := (xn_eq (a := j) (b := k) (Nat.lt_of_le_of_lt (show j ≤ 60 by omega) (by decide)) (Nat.lt_of_le_of_lt (show k ≤ 60 by omega) (by decide))).mp c21
            refine lv_aload_n hx hb dX11_split_24 rfl (lv_at hl 0 rfl) ?_
            refine lv_iconst (v := 1) hx hb dX11_split_25 (by decide) ?_
            refine xc_i (wr := []) (va_runV (As := [.int 1]) (rest := []) ⟨hx, hb, hml, hown, hts⟩ (c_X11_refuse l D ca b _ (0, q.oo, q.zz, q.ks, q.vs, q.cg, q.hw, q.lo, q.hg, q.wk, q.kw, q.mn, q.gv, q.cp, q.ho, q.nk, q.nv) 1) (cwV 1 hts gX11_split_X11_refuse rfl rfl rfl (by decide +kernel) ⟨(Nat.le_of_ble_eq_true rfl), (Nat.le_of_ble_eq_true rfl)⟩) (xPreV hKN hP hD [0, 1, 2, 3, 4, 5, 6, 7, 8, 9, 10, 11, 12, 13, 14, 15, 16] (by decide) rfl (q0 := 0) rfl rfl rfl) rfl rfl hl.1 rfl (lv_room (Nat.le_of_ble_eq_true rfl)) dX11_split_26 ⟨(Nat.le_of_ble_eq_true rfl), (Nat.le_of_ble_eq_true rfl)⟩) hP hD hS hA [0, 1, 2, 3, 4, 5, 6, 7, 8, 9, 10, 11, 12, 13, 14, 15, 16] [] rfl rfl (by decide) (by decide) (fun r26 u26 H locs hu26 hP hD hS => ?_)
            obtain ⟨er26, eu26⟩ := hu26
            have eu26 := eu26.symm
            subst eu26
            subst er26
            have hP : va_P D vwCl (wQx ca b 1 q.oo q.zz q.ks q.vs q.cg q.hw q.lo q.hg q.wk q.kw q.mn q.gv q.cp q.ho q.nk q.nv) H := hP
            have hD : va_D A (wQx ca b 1 q.oo q.zz q.ks q.vs q.cg q.hw q.lo q.hg q.wk q.kw q.mn q.gv q.cp q.ho q.nk q.nv) := hD
            exact W.iret (v := 0) hx hb hr (fun t9 e9 w9 => ⟨⟨_, (1, q.oo, q.zz, q.ks, q.vs, q.cg, q.hw, q.lo, q.hg, q.wk, q.kw, q.mn, q.gv, q.cp, q.ho, q.nk, q.nv), rfl, PO3_bad (Or.inr (Or.inr (congrArg nI c21))) hq rfl rfl rfl, by rw [e9]; exact hP, hD⟩, hS.F e9⟩) hS.2.2 dX11_split_29
