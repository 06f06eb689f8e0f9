-- Range.holds
set_option maxHeartbeats 4000000 in
set_option maxRecDepth 100000 in
theorem c_X7_holds (l : Launch) (D : va_G) (ca : Nat → ClassId) (kq a : Nat → Nat) (sz : Nat) (h1 h2 : Bool) (f1 f2 : Int32) (od key : Int32) : Met l yX7_holds wsX7_holds ({ frames := 2, cells := 0, slots := 0, locals := 44 } : Room) (xPc D (TY ca) [.ref (a 12), .int od, .int key] (wRg a (h1, h2, f1, f2)) sz) (va_Qi (fun (r : Int32) (u : RS) => r = bI (f_holds (h1, h2, f1, f2) od key) ∧ u = (h1, h2, f1, f2)) (xB D (wRg a) (va_A (wRg a (h1, h2, f1, f2)) sz)) (va_A (wRg a (h1, h2, f1, f2)) sz)) 0 0 (va_A (wRg a (h1, h2, f1, f2)) sz) := by
  refine Met.ofW (cc := cX7_holds) (maxL := 5) (ret := (some .boolean)) (by decide) rfl ?_
  intro p e s m args below meth c s₁ B hml hv
  obtain ⟨rfl, hsz, hP, hKN, hD0⟩ := hv
  have hx := B.exec
  have hb := B.bytes
  have hr := B.returns
  have hts := atoms_spec (ws := wsX7_holds) B.pre
  have hown : s.vm.findClass RX7 = some m.cls := findClass_of_methodNamed B.named
  have hlocks := B.notSynchronized
  have inX7 : ∀ w ∈ wsX70, w ∈ wsX7_holds := by decide +kernel
  subst hsz
  have hD := hD0.self (sz := s.heap.size)
  generalize hAe : va_A (wRg a (h1, h2, f1, f2)) s.heap.size = A at hD ⊢
  have hA : ∀ q : Nat, s.heap.size ≤ q → A q := fun q h => by rw [← hAe]; exact Or.inr h
  have hS : va_S A s.heap s.heap [] := va_S.rf
  have hl := lv_entry ([.ref (a 12), .int od, .int key]) (n := 5) (Nat.le_of_ble_eq_true rfl)
  rw [lg_entry_eq]
  generalize (lg_sl ([.ref (a 12), .int od, .int key]) ++ List.replicate (5 - (lg_sl ([.ref (a 12), .int od, .int key])).length) Slot.unset).toArray = ls at hl ⊢
  have hl : lv_has ls 5 [(0, .ref (a 12)), (1, .int od), (2, .int key)] := hl
  refine lv_aload_n hx hb dX7_holds_0 rfl (lv_at hl 0 rfl) ?_
  refine va_get (D := D) (ci := 5) (v := .int (bI h1)) (C := RX7) (T := TX7) (N := 4) hx hb hts inX7 hown hKN.1 hP 0 rfl rfl 0 (by decide) (hts (.fieldLink RX7 7 "TreeFamily$Range" "hasFirst" "Z") (by decide +kernel)) (fun _ h9 => h9) rfl dX7_holds_1 ?_
  refine lv_if_eq (tgt := 23) hx hb dX7_holds_4 (by decide) (fun c4 => ?_) (fun c4 => ?_)
  · skip
    have c4 := bI_0.mp c4
    refine lv_iconst (v := 0) hx hb dX7_holds_23 (by decide) ?_
    refine lv_istore_n (lv' := [(3, .int 0), (0, .ref (a 12)), (1, .int od), (2, .int key)]) hx hb dX7_holds_24 rfl hl (by decide) rfl (fun ls hl => ?_)
    refine lv_aload_n hx hb dX7_holds_25 rfl (lv_at hl 1 rfl) ?_
    refine va_get (D := D) (ci := 5) (v := .int (bI h2)) (C := RX7) (T := TX7) (N := 4) hx hb hts inX7 hown hKN.1 hP 0 rfl rfl 1 (by decide) (hts (.fieldLink RX7 23 "TreeFamily$Range" "hasSecond" "Z") (by decide +kernel)) (fun _ h9 => h9) rfl dX7_holds_26 ?_
    refine lv_if_eq (tgt := 48) hx hb dX7_holds_29 (by decide) (fun c29 => ?_) (fun c29 => ?_)
    · skip
      have c29 := bI_0.mp c29
      refine lv_iconst (v := 0) hx hb dX7_holds_48 (by decide) ?_
      refine lv_istore (lv' := [(4, .int 0), (3, .int 0), (0, .ref (a 12)), (1, .int od), (2, .int key)]) hx hb dX7_holds_49 hl (by decide) rfl (fun ls hl => ?_)
      refine lv_iload_n hx hb dX7_holds_51 rfl (lv_at hl 1 rfl) ?_
      refine lv_if_ne (tgt := 64) hx hb dX7_holds_52 (by decide) (fun c52 => ?_) (fun c52 => ?_)
      · skip
        exact absurd c52 (by decide)
      · skip
        refine lv_iload hx hb dX7_holds_55 (lv_at hl 0 rfl) ?_
        refine lv_if_ne (tgt := 64) hx hb dX7_holds_57 (by decide) (fun c57 => ?_) (fun c57 => ?_)
        · skip
          exact absurd c57 (by decide)
        · skip
          refine lv_iconst (v := 1) hx hb dX7_holds_60 (by decide) ?_
          refine lv_goto (tgt := 65) hx hb dX7_holds_61 (by decide) ?_
          exact W.zret (v := 1) hx hb hr (by decide) (fun t9 e9 w9 => ⟨⟨_, (h1, h2, f1, f2), rfl, ⟨by simp [f_holds, *] <;> rfl, rfl⟩, by rw [e9]; exact hP, hD⟩, hS.F e9⟩) hS.2.2 dX7_holds_65
    · skip
      have c29 := bI_ne.mp c29
      refine lv_iload_n hx hb dX7_holds_32 rfl (lv_at hl 2 rfl) ?_
      refine lv_iload_n hx hb dX7_holds_33 rfl (lv_at hl 3 rfl) ?_
      refine lv_aload_n hx hb dX7_holds_34 rfl (lv_at hl 1 rfl) ?_
      refine va_get (D := D) (ci := 5) (v := .int f2) (C := RX7) (T := TX7) (N := 4) hx hb hts inX7 hown hKN.1 hP 0 rfl rfl 3 (by decide) (hts (.fieldLink RX7 26 "TreeFamily$Range" "second" "I") (by decide +kernel)) (fun _ h9 => h9) rfl dX7_holds_35 ?_
      refine xs_i (va_runSN (As := [.int od, .int key, .int f2]) (rest := []) ⟨hx, hb, hml, hown, hts⟩ (c_X10_goesBefore l _ _ _) ⟨va_cnB 3 hts gX7_holds_X10_goesBefore_n17 rfl rfl rfl (NW.m hKN.2 (a := RX7) (i := 17) (x := yX10_goesBefore) (g := "TreeFamily") (by decide +kernel)) (hts _ (List.mem_of_elem_eq_true (by decide +kernel) : Cond.initialized yX10_goesBefore.cls ∈ wsX7_holds)) (by decide +kernel) ⟨(Nat.le_of_ble_eq_true rfl), (Nat.le_of_ble_eq_true rfl)⟩, hts (.static yX10_goesBefore) (by decide +kernel), trivial⟩ xPreT rfl rfl hl.1 rfl (lv_room (Nat.le_of_ble_eq_true rfl)) dX7_holds_38 ⟨(Nat.le_of_ble_eq_true rfl), (Nat.le_of_ble_eq_true rfl)⟩) (fun r38 er38 => ?_)
      subst er38
      refine lv_if_ne (tgt := 48) hx hb dX7_holds_41 (by decide) (fun c41 => ?_) (fun c41 => ?_)
      · skip
        have c41 := bI_ne.mp c41
        refine lv_iconst (v := 0) hx hb dX7_holds_48 (by decide) ?_
        refine lv_istore (lv' := [(4, .int 0), (3, .int 0), (0, .ref (a 12)), (1, .int od), (2, .int key)]) hx hb dX7_holds_49 hl (by decide) rfl (fun ls hl => ?_)
        refine lv_iload_n hx hb dX7_holds_51 rfl (lv_at hl 1 rfl) ?_
        refine lv_if_ne (tgt := 64) hx hb dX7_holds_52 (by decide) (fun c52 => ?_) (fun c52 => ?_)
        · skip
          exact absurd c52 (by decide)
        · skip
          refine lv_iload hx hb dX7_holds_55 (lv_at hl 0 rfl) ?_
          refine lv_if_ne (tgt := 64) hx hb dX7_holds_57 (by decide) (fun c57 => ?_) (fun c57 => ?_)
          · skip
            exact absurd c57 (by decide)
          · skip
            refine lv_iconst (v := 1) hx hb dX7_holds_60 (by decide) ?_
            refine lv_goto (tgt := 65) hx hb dX7_holds_61 (by decide) ?_
            exact W.zret (v := 1) hx hb hr (by decide) (fun t9 e9 w9 => ⟨⟨_, (h1, h2, f1, f2), rfl, ⟨by simp [f_holds, *] <;> rfl, rfl⟩, by rw [e9]; exact hP, hD⟩, hS.F e9⟩) hS.2.2 dX7_holds_65
      · skip
        have c41 := bI_0.mp c41
        refine lv_iconst (v := 1) hx hb dX7_holds_44 (by decide) ?_
        refine lv_goto (tgt := 49) hx hb dX7_holds_45 (by decide) ?_
        refine lv_istore (lv' := [(4, .int 1), (3, .int 0), (0, .ref (a 12)), (1, .int od), (2, .int key)]) hx hb dX7_holds_49 hl (by decide) rfl (fun ls hl => ?_)
        refine lv_iload_n hx hb dX7_holds_51 rfl (lv_at hl 1 rfl) ?_
        refine lv_if_ne (tgt := 64) hx hb dX7_holds_52 (by decide) (fun c52 => ?_) (fun c52 => ?_)
        · skip
          exact absurd c52 (by decide)
        · skip
          refine lv_iload hx hb dX7_holds_55 (lv_at hl 0 rfl) ?_
          refine lv_if_ne (tgt := 64) hx hb dX7_holds_57 (by decide) (fun c57 => ?_) (fun c57 => ?_)
          · skip
            refine lv_iconst (v := 0) hx hb dX7_holds_64 (by decide) ?_
            exact W.zret (v := 0) hx hb hr (by decide) (fun t9 e9 w9 => ⟨⟨_, (h1, h2, f1, f2), rfl, ⟨by simp [f_holds, *] <;> rfl, rfl⟩, by rw [e9]; exact hP, hD⟩, hS.F e9⟩) hS.2.2 dX7_holds_65
          · skip
            exact absurd c57 (by decide)
  · skip
    have c4 := bI_ne.mp c4
    refine lv_iload_n hx hb dX7_holds_7 rfl (lv_at hl 1 rfl) ?_
    refine lv_iload_n hx hb dX7_holds_8 rfl (lv_at hl 2 rfl) ?_
    refine lv_aload_n hx hb dX7_holds_9 rfl (lv_at hl 0 rfl) ?_
    refine va_get (D := D) (ci := 5) (v := .int f1) (C := RX7) (T := TX7) (N := 4) hx hb hts inX7 hown hKN.1 hP 0 rfl rfl 2 (by decide) (hts (.fieldLink RX7 13 "TreeFamily$Range" "first" "I") (by decide +kernel)) (fun _ h9 => h9) rfl dX7_holds_10 ?_
    refine xs_i (va_runSN (As := [.int od, .int key, .int f1]) (rest := []) ⟨hx, hb, hml, hown, hts⟩ (c_X10_goesBefore l _ _ _) ⟨va_cnB 3 hts gX7_holds_X10_goesBefore_n17 rfl rfl rfl (NW.m hKN.2 (a := RX7) (i := 17) (x := yX10_goesBefore) (g := "TreeFamily") (by decide +kernel)) (hts _ (List.mem_of_elem_eq_true (by decide +kernel) : Cond.initialized yX10_goesBefore.cls ∈ wsX7_holds)) (by decide +kernel) ⟨(Nat.le_of_ble_eq_true rfl), (Nat.le_of_ble_eq_true rfl)⟩, hts (.static yX10_goesBefore) (by decide +kernel), trivial⟩ xPreT rfl rfl hl.1 rfl (lv_room (Nat.le_of_ble_eq_true rfl)) dX7_holds_13 ⟨(Nat.le_of_ble_eq_true rfl), (Nat.le_of_ble_eq_true rfl)⟩) (fun r13 er13 => ?_)
    subst er13
    refine lv_if_eq (tgt := 23) hx hb dX7_holds_16 (by decide) (fun c16 => ?_) (fun c16 => ?_)
    · skip
      have c16 := bI_0.mp c16
      refine lv_iconst (v := 0) hx hb dX7_holds_23 (by decide) ?_
      refine lv_istore_n (lv' := [(3, .int 0), (0, .ref (a 12)), (1, .int od), (2, .int key)]) hx hb dX7_holds_24 rfl hl (by decide) rfl (fun ls hl => ?_)
      refine lv_aload_n hx hb dX7_holds_25 rfl (lv_at hl 1 rfl) ?_
      refine va_get (D := D) (ci := 5) (v := .int (bI h2)) (C := RX7) (T := TX7) (N := 4) hx hb hts inX7 hown hKN.1 hP 0 rfl rfl 1 (by decide) (hts (.fieldLink RX7 23 "TreeFamily$Range" "hasSecond" "Z") (by decide +kernel)) (fun _ h9 => h9) rfl dX7_holds_26 ?_
      refine lv_if_eq (tgt := 48) hx hb dX7_holds_29 (by decide) (fun c29 => ?_) (fun c29 => ?_)
      · skip
        have c29 := bI_0.mp c29
        refine lv_iconst (v := 0) hx hb dX7_holds_48 (by decide) ?_
        refine lv_istore (lv' := [(4, .int 0), (3, .int 0), (0, .ref (a 12)), (1, .int od), (2, .int key)]) hx hb dX7_holds_49 hl (by decide) rfl (fun ls hl => ?_)
        refine lv_iload_n hx hb dX7_holds_51 rfl (lv_at hl 1 rfl) ?_
        refine lv_if_ne (tgt := 64) hx hb dX7_holds_52 (by decide) (fun c52 => ?_) (fun c52 => ?_)
        · skip
          exact absurd c52 (by decide)
        · skip
          refine lv_iload hx hb dX7_holds_55 (lv_at hl 0 rfl) ?_
          refine lv_if_ne (tgt := 64) hx hb dX7_holds_57 (by decide) (fun c57 => ?_) (fun c57 => ?_)
          · skip
            exact absurd c57 (by decide)
          · skip
            refine lv_iconst (v := 1) hx hb dX7_holds_60 (by decide) ?_
            refine lv_goto (tgt := 65) hx hb dX7_holds_61 (by decide) ?_
            exact W.zret (v := 1) hx hb hr (by decide) (fun t9 e9 w9 => ⟨⟨_, (h1, h2, f1, f2), rfl, ⟨by simp [f_holds, *] <;> rfl, rfl⟩, by rw [e9]; exact hP, hD⟩, hS.F e9⟩) hS.2.2 dX7_holds_65
      · skip
        have c29 := bI_ne.mp c29
        refine lv_iload_n hx hb dX7_holds_32 rfl (lv_at hl 2 rfl) ?_
        refine lv_iload_n hx hb dX7_holds_33 rfl (lv_at hl 3 rfl) ?_
        refine lv_aload_n hx hb dX7_holds_34 rfl (lv_at hl 1 rfl) ?_
        refine va_get (D := D) (ci := 5) (v := .int f2) (C := RX7) (T := TX7) (N := 4) hx hb hts inX7 hown hKN.1 hP 0 rfl rfl 3 (by decide) (hts (.fieldLink RX7 26 "TreeFamily$Range" "second" "I") (by decide +kernel)) (fun _ h9 => h9) rfl dX7_holds_35 ?_
        refine xs_i (va_runSN (As := [.int od, .int key, .int f2]) (rest := []) ⟨hx, hb, hml, hown, hts⟩ (c_X10_goesBefore l _ _ _) ⟨va_cnB 3 hts gX7_holds_X10_goesBefore_n17 rfl rfl rfl (NW.m hKN.2 (a := RX7) (i := 17) (x := yX10_goesBefore) (g := "TreeFamily") (by decide +kernel)) (hts _ (List.mem_of_elem_eq_true (by decide +kernel) : Cond.initialized yX10_goesBefore.cls ∈ wsX7_holds)) (by decide +kernel) ⟨(Nat.le_of_ble_eq_true rfl), (Nat.le_of_ble_eq_true rfl)⟩, hts (.static yX10_goesBefore) (by decide +kernel), trivial⟩ xPreT rfl rfl hl.1 rfl (lv_room (Nat.le_of_ble_eq_true rfl)) dX7_holds_38 ⟨(Nat.le_of_ble_eq_true rfl), (Nat.le_of_ble_eq_true rfl)⟩) (fun r38 er38 => ?_)
        subst er38
        refine lv_if_ne (tgt := 48) hx hb dX7_holds_41 (by decide) (fun c41 => ?_) (fun c41 => ?_)
        · skip
          have c41 := bI_ne.mp c41
          refine lv_iconst (v := 0) hx hb dX7_holds_48 (by decide) ?_
          refine lv_istore (lv' := [(4, .int 0), (3, .int 0), (0, .ref (a 12)), (1, .int od), (2, .int key)]) hx hb dX7_holds_49 hl (by decide) rfl (fun ls hl => ?_)
          refine lv_iload_n hx hb dX7_holds_51 rfl (lv_at hl 1 rfl) ?_
          refine lv_if_ne (tgt := 64) hx hb dX7_holds_52 (by decide) (fun c52 => ?_) (fun c52 => ?_)
          · skip
            exact absurd c52 (by decide)
          · skip
            refine lv_iload hx hb dX7_holds_55 (lv_at hl 0 rfl) ?_
            refine lv_if_ne (tgt := 64) hx hb dX7_holds_57 (by decide) (fun c57 => ?_) (fun c57 => ?_)
            · skip
              exact absurd c57 (by decide)
            · skip
              refine lv_iconst (v := 1) hx hb dX7_holds_60 (by decide) ?_
              refine lv_goto (tgt := 65) hx hb dX7_holds_61 (by decide) ?_
              exact W.zret (v := 1) hx hb hr (by decide) (fun t9 e9 w9 => ⟨⟨_, (h1, h2, f1, f2), rfl, ⟨by simp [f_holds, *] <;> rfl, rfl⟩, by rw [e9]; exact hP, hD⟩, hS.F e9⟩) hS.2.2 dX7_holds_65
        · skip
          have c41 := bI_0.mp c41
          refine lv_iconst (v := 1) hx hb dX7_holds_44 (by decide) ?_
          refine lv_goto (tgt := 49) hx hb dX7_holds_45 (by decide) ?_
          refine lv_istore (lv' := [(4, .int 1), (3, .int 0), (0, .ref (a 12)), (1, .int od), (2, .int key)]) hx hb dX7_holds_49 hl (by decide) rfl (fun ls hl => ?_)
          refine lv_iload_n hx hb dX7_holds_51 rfl (lv_at hl 1 rfl) ?_
          refine lv_if_ne (tgt := 64) hx hb dX7_holds_52 (by decide) (fun c52 => ?_) (fun c52 => ?_)
          · skip
            exact absurd c52 (by decide)
          · skip
            refine lv_iload hx hb dX7_holds_55 (lv_at hl 0 rfl) ?_
            refine lv_if_ne (tgt := 64) hx hb dX7_holds_57 (by decide) (fun c57 => ?_) (fun c57 => ?_)
            · skip
              refine lv_iconst (v := 0) hx hb dX7_holds_64 (by decide) ?_
              exact W.zret (v := 0) hx hb hr (by decide) (fun t9 e9 w9 => ⟨⟨_, (h1, h2, f1, f2), rfl, ⟨by simp [f_holds, *] <;> rfl, rfl⟩, by rw [e9]; exact hP, hD⟩, hS.F e9⟩) hS.2.2 dX7_holds_65
            · skip
              exact absurd c57 (by decide)
    · skip
      have c16 := bI_ne.mp c16
      refine lv_iconst (v := 1) hx hb dX7_holds_19 (by decide) ?_
      refine lv_goto (tgt := 24) hx hb dX7_holds_20 (by decide) ?_
      refine lv_istore_n (lv' := [(3, .int 1), (0, .ref (a 12)), (1, .int od), (2, .int key)]) hx hb dX7_holds_24 rfl hl (by decide) rfl (fun ls hl => ?_)
      refine lv_aload_n hx hb dX7_holds_25 rfl (lv_at hl 1 rfl) ?_
      refine va_get (D := D) (ci := 5) (v := .int (bI h2)) (C := RX7) (T := TX7) (N := 4) hx hb hts inX7 hown hKN.1 hP 0 rfl rfl 1 (by decide) (hts (.fieldLink RX7 23 "TreeFamily$Range" "hasSecond" "Z") (by decide +kernel)) (fun _ h9 => h9) rfl dX7_holds_26 ?_
      refine lv_if_eq (tgt := 48) hx hb dX7_holds_29 (by decide) (fun c29 => ?_) (fun c29 => ?_)
      · skip
        have c29 := bI_0.mp c29
        refine lv_iconst (v := 0) hx hb dX7_holds_48 (by decide) ?_
        refine lv_istore (lv' := [(4, .int 0), (3, .int 1), (0, .ref (a 12)), (1, .int od), (2, .int key)]) hx hb dX7_holds_49 hl (by decide) rfl (fun ls hl => ?_)
        refine lv_iload_n hx hb dX7_holds_51 rfl (lv_at hl 1 rfl) ?_
        refine lv_if_ne (tgt := 64) hx hb dX7_holds_52 (by decide) (fun c52 => ?_) (fun c52 => ?_)
        · skip
          refine lv_iconst (v := 0) hx hb dX7_holds_64 (by decide) ?_
          exact W.zret (v := 0) hx hb hr (by decide) (fun t9 e9 w9 => ⟨⟨_, (h1, h2, f1, f2), rfl, ⟨by simp [f_holds, *] <;> rfl, rfl⟩, by rw [e9]; exact hP, hD⟩, hS.F e9⟩) hS.2.2 dX7_holds_65
        · skip
          exact absurd c52 (by decide)
      · skip
        have c29 := bI_ne.mp c29
        refine lv_iload_n hx hb dX7_holds_32 rfl (lv_at hl 2 rfl) ?_
        refine lv_iload_n hx hb dX7_holds_33 rfl (lv_at hl 3 rfl) ?_
        refine lv_aload_n hx hb dX7_holds_34 rfl (lv_at hl 1 rfl) ?_
        refine va_get (D := D) (ci := 5) (v := .int f2) (C := RX7) (T := TX7) (N := 4) hx hb hts inX7 hown hKN.1 hP 0 rfl rfl 3 (by decide) (hts (.fieldLink RX7 26 "TreeFamily$Range" "second" "I") (by decide +kernel)) (fun _ h9 => h9) rfl dX7_holds_35 ?_
        refine xs_i (va_runSN (As := [.int od, .int key, .int f2]) (rest := []) ⟨hx, hb, hml, hown, hts⟩ (c_X10_goesBefore l _ _ _) ⟨va_cnB 3 hts gX7_holds_X10_goesBefore_n17 rfl rfl rfl (NW.m hKN.2 (a := RX7) (i := 17) (x := yX10_goesBefore) (g := "TreeFamily") (by decide +kernel)) (hts _ (List.mem_of_elem_eq_true (by decide +kernel) : Cond.initialized yX10_goesBefore.cls ∈ wsX7_holds)) (by decide +kernel) ⟨(Nat.le_of_ble_eq_true rfl), (Nat.le_of_ble_eq_true rfl)⟩, hts (.static yX10_goesBefore) (by decide +kernel), trivial⟩ xPreT rfl rfl hl.1 rfl (lv_room (Nat.le_of_ble_eq_true rfl)) dX7_holds_38 ⟨(Nat.le_of_ble_eq_true rfl), (Nat.le_of_ble_eq_true rfl)⟩) (fun r38 er38 => ?_)
        subst er38
        refine lv_if_ne (tgt := 48) hx hb dX7_holds_41 (by decide) (fun c41 => ?_) (fun c41 => ?_)
        · skip
          have c41 := bI_ne.mp c41
          refine lv_iconst (v := 0) hx hb dX7_holds_48 (by decide) ?_
          refine lv_istore (lv' := [(4, .int 0), (3, .int 1), (0, .ref (a 12)), (1, .int od), (2, .int key)]) hx hb dX7_holds_49 hl (by decide) rfl (fun ls hl => ?_)
          refine lv_iload_n hx hb dX7_holds_51 rfl (lv_at hl 1 rfl) ?_
          refine lv_if_ne (tgt := 64) hx hb dX7_holds_52 (by decide) (fun c52 => ?_) (fun c52 => ?_)
          · skip
            refine lv_iconst (v := 0) hx hb dX7_holds_64 (by decide) ?_
            exact W.zret (v := 0) hx hb hr (by decide) (fun t9 e9 w9 => ⟨⟨_, (h1, h2, f1, f2), rfl, ⟨by simp [f_holds, *] <;> rfl, rfl⟩, by rw [e9]; exact hP, hD⟩, hS.F e9⟩) hS.2.2 dX7_holds_65
          · skip
            exact absurd c52 (by decide)
        · skip
          have c41 := bI_0.mp c41
          refine lv_iconst (v := 1) hx hb dX7_holds_44 (by decide) ?_
          refine lv_goto (tgt := 49) hx hb dX7_holds_45 (by decide) ?_
          refine lv_istore (lv' := [(4, .int 1), (3, .int 1), (0, .ref (a 12)), (1, .int od), (2, .int key)]) hx hb dX7_holds_49 hl (by decide) rfl (fun ls hl => ?_)
          refine lv_iload_n hx hb dX7_holds_51 rfl (lv_at hl 1 rfl) ?_
          refine lv_if_ne (tgt := 64) hx hb dX7_holds_52 (by decide) (fun c52 => ?_) (fun c52 => ?_)
          · skip
            refine lv_iconst (v := 0) hx hb dX7_holds_64 (by decide) ?_
            exact W.zret (v := 0) hx hb hr (by decide) (fun t9 e9 w9 => ⟨⟨_, (h1, h2, f1, f2), rfl, ⟨by simp [f_holds, *] <;> rfl, rfl⟩, by rw [e9]; exact hP, hD⟩, hS.F e9⟩) hS.2.2 dX7_holds_65
          · skip
            exact absurd c52 (by decide)

-- Range.start
set_option maxHeartbeats 4000000 in
set_option maxRecDepth 100000 in
theorem c_X7_start (l : Launch) (D : va_G) (ca : Nat → ClassId) (kq a : Nat → Nat) (sz : Nat) (h1 h2 : Bool) (f1 f2 : Int32) (ky vl : Nat → Int32) (lf rt : Nat → Nat) (ct ht : Nat → Int32) (tt : Nat → Int64) (sp pa ro : Nat → Nat) (ss dp rn : Nat) (od : Int32) (kd : Nat) (hlf : ∀ k, lf k ≤ 60) (hrt : ∀ k, rt k ≤ 60) (hsp : ∀ k, sp k ≤ 60) (hpa : ∀ k, pa k ≤ 60) (hro : ∀ k, ro k ≤ 60) (hrn : rn ≤ 60): Met l yX7_start wsX7_start ({ frames := 3, cells := 0, slots := 0, locals := 68 } : Room) (xPc D (TY ca) [.ref (a 12), .ref (a 0)] ((wRg a (h1, h2, f1, f2)) ++ (wT ca kq a (ky, vl, lf, rt, ct, ht, tt, sp, pa, ro, ss, dp, rn, od, kd))) sz) (va_Qi (fun (r : Int32) (u : RS × TS) => r = f_start (h1, h2, f1, f2) (ky, vl, lf, rt, ct, ht, tt, sp, pa, ro, ss, dp, rn, od, kd) ∧ u = ((h1, h2, f1, f2), (ky, vl, lf, rt, ct, ht, tt, sp, pa, ro, ss, dp, rn, od, kd))) (xB D (fun u : RS × TS => (wRg a u.1) ++ (wT ca kq a u.2)) (va_A ((wRg a (h1, h2, f1, f2)) ++ (wT ca kq a (ky, vl, lf, rt, ct, ht, tt, sp, pa, ro, ss, dp, rn, od, kd))) sz)) (va_A ((wRg a (h1, h2, f1, f2)) ++ (wT ca kq a (ky, vl, lf, rt, ct, ht, tt, sp, pa, ro, ss, dp, rn, od, kd))) sz)) 0 0 (va_A ((wRg a (h1, h2, f1, f2)) ++ (wT ca kq a (ky, vl, lf, rt, ct, ht, tt, sp, pa, ro, ss, dp, rn, od, kd))) sz) := by
  refine Met.ofW (cc := cX7_start) (maxL := 2) (ret := (some .int)) (by decide) rfl ?_
  intro p e s m args below meth c s₁ B hml hv
  obtain ⟨rfl, hsz, hP, hKN, hD0⟩ := hv
  have hx := B.exec
  have hb := B.bytes
  have hr := B.returns
  have hts := atoms_spec (ws := wsX7_start) B.pre
  have hown : s.vm.findClass RX7 = some m.cls := findClass_of_methodNamed B.named
  have hlocks := B.notSynchronized
  have inX7 : ∀ w ∈ wsX70, w ∈ wsX7_start := by decide +kernel
  subst hsz
  have hD := hD0.self (sz := s.heap.size)
  generalize hAe : va_A ((wRg a (h1, h2, f1, f2)) ++ (wT ca kq a (ky, vl, lf, rt, ct, ht, tt, sp, pa, ro, ss, dp, rn, od, kd))) s.heap.size = A at hD ⊢
  have hA : ∀ q : Nat, s.heap.size ≤ q → A q := fun q h => by rw [← hAe]; exact Or.inr h
  have hS : va_S A s.heap s.heap [] := va_S.rf
  have hl := lv_entry ([.ref (a 12), .ref (a 0)]) (n := 2) (Nat.le_of_ble_eq_true rfl)
  rw [lg_entry_eq]
  generalize (lg_sl ([.ref (a 12), .ref (a 0)]) ++ List.replicate (2 - (lg_sl ([.ref (a 12), .ref (a 0)])).length) Slot.unset).toArray = ls at hl ⊢
  have hl : lv_has ls 2 [(0, .ref (a 12)), (1, .ref (a 0))] := hl
  refine lv_aload_n hx hb dX7_start_0 rfl (lv_at hl 0 rfl) ?_
  refine va_get (D := D) (ci := 5) (v := .int (bI h1)) (C := RX7) (T := TX7) (N := 4) hx hb hts inX7 hown hKN.1 hP 0 rfl rfl 0 (by decide) (hts (.fieldLink RX7 7 "TreeFamily$Range" "hasFirst" "Z") (by decide +kernel)) (fun _ h9 => h9) rfl dX7_start_1 ?_
  refine lv_if_eq (tgt := 18) hx hb dX7_start_4 (by decide) (fun c4 => ?_) (fun c4 => ?_)
  · skip
    have c4 := bI_0.mp c4
    refine lv_iconst (v := 0) hx hb dX7_start_18 (by decide) ?_
    exact W.iret (v := 0) hx hb hr (fun t9 e9 w9 => ⟨⟨_, ((h1, h2, f1, f2), (ky, vl, lf, rt, ct, ht, tt, sp, pa, ro, ss, dp, rn, od, kd)), rfl, ⟨by first | exact (start_1 (r := (h1, h2, f1, f2)) c4).symm | exact (start_0 (r := (h1, h2, f1, f2)) (t := (ky, vl, lf, rt, ct, ht, tt, sp, pa, ro, ss, dp, rn, od, kd)) c4).symm, rfl⟩, by rw [e9]; exact hP, hD⟩, hS.F e9⟩) hS.2.2 dX7_start_19
  · skip
    have c4 := bI_ne.mp c4
    refine lv_aload_n hx hb dX7_start_7 rfl (lv_at hl 1 rfl) ?_
    refine lv_aload_n hx hb dX7_start_8 rfl (lv_at hl 0 rfl) ?_
    refine va_get (D := D) (ci := 5) (v := .int f1) (C := RX7) (T := TX7) (N := 4) hx hb hts inX7 hown hKN.1 hP 0 rfl rfl 2 (by decide) (hts (.fieldLink RX7 13 "TreeFamily$Range" "first" "I") (by decide +kernel)) (fun _ h9 => h9) rfl dX7_start_9 ?_
    refine xc_i (wr := wRg a (h1, h2, f1, f2)) (va_runV (As := [.int f1]) (rest := []) ⟨hx, hb, hml, hown, hts⟩ (c_X8_countBefore l D ca kq a _ ky vl lf rt ct ht tt sp pa ro ss dp rn od kd f1 hlf hrt hsp hpa hro hrn) (cwV 1 hts gX7_start_X8_countBefore rfl rfl rfl (by decide +kernel) ⟨(Nat.le_of_ble_eq_true rfl), (Nat.le_of_ble_eq_true rfl)⟩) (xPreV hKN hP hD [1, 2, 3, 4, 5, 6, 7, 8, 9, 10, 11] (by decide) rfl (q0 := 1) rfl rfl rfl) rfl rfl hl.1 rfl (lv_room (Nat.le_of_ble_eq_true rfl)) dX7_start_12 ⟨(Nat.le_of_ble_eq_true rfl), (Nat.le_of_ble_eq_true rfl)⟩) hP hD hS hA [1, 2, 3, 4, 5, 6, 7, 8, 9, 10, 11] [0] rfl rfl (by decide) (by decide) (fun r12 u12 H locs hu12 hP hD hS => ?_)
    obtain ⟨er12, eu12⟩ := hu12
    subst er12
    subst eu12
    have hP : va_P D vwCl ((wRg a (h1, h2, f1, f2)) ++ (wT ca kq a (ky, vl, lf, rt, ct, ht, tt, sp, pa, ro, ss, dp, rn, od, kd))) H := hP
    have hD : va_D A ((wRg a (h1, h2, f1, f2)) ++ (wT ca kq a (ky, vl, lf, rt, ct, ht, tt, sp, pa, ro, ss, dp, rn, od, kd))) := hD
    refine lv_goto (tgt := 19) hx hb dX7_start_15 (by decide) ?_
    exact W.iret (v := (f_countBefore (ky, vl, lf, rt, ct, ht, tt, sp, pa, ro, ss, dp, rn, od, kd) f1)) hx hb hr (fun t9 e9 w9 => ⟨⟨_, ((h1, h2, f1, f2), (ky, vl, lf, rt, ct, ht, tt, sp, pa, ro, ss, dp, rn, od, kd)), rfl, ⟨by first | exact (start_1 (r := (h1, h2, f1, f2)) c4).symm | exact (start_0 (r := (h1, h2, f1, f2)) (t := (ky, vl, lf, rt, ct, ht, tt, sp, pa, ro, ss, dp, rn, od, kd)) c4).symm, rfl⟩, by rw [e9]; exact hP, hD⟩, hS.F e9⟩) hS.2.2 dX7_start_19

-- Range.end
set_option maxHeartbeats 4000000 in
set_option maxRecDepth 100000 in
theorem c_X7_end (l : Launch) (D : va_G) (ca : Nat → ClassId) (kq a : Nat → Nat) (sz : Nat) (h1 h2 : Bool) (f1 f2 : Int32) (ky vl : Nat → Int32) (lf rt : Nat → Nat) (ct ht : Nat → Int32) (tt : Nat → Int64) (sp pa ro : Nat → Nat) (ss dp rn : Nat) (od : Int32) (kd : Nat) (hlf : ∀ k, lf k ≤ 60) (hrt : ∀ k, rt k ≤ 60) (hsp : ∀ k, sp k ≤ 60) (hpa : ∀ k, pa k ≤ 60) (hro : ∀ k, ro k ≤ 60) (hrn : rn ≤ 60): Met l yX7_end wsX7_end ({ frames := 3, cells := 0, slots := 0, locals := 68 } : Room) (xPc D (TY ca) [.ref (a 12), .ref (a 0)] ((wRg a (h1, h2, f1, f2)) ++ (wT ca kq a (ky, vl, lf, rt, ct, ht, tt, sp, pa, ro, ss, dp, rn, od, kd))) sz) (va_Qi (fun (r : Int32) (u : RS × TS) => r = f_end (h1, h2, f1, f2) (ky, vl, lf, rt, ct, ht, tt, sp, pa, ro, ss, dp, rn, od, kd) ∧ u = ((h1, h2, f1, f2), (ky, vl, lf, rt, ct, ht, tt, sp, pa, ro, ss, dp, rn, od, kd))) (xB D (fun u : RS × TS => (wRg a u.1) ++ (wT ca kq a u.2)) (va_A ((wRg a (h1, h2, f1, f2)) ++ (wT ca kq a (ky, vl, lf, rt, ct, ht, tt, sp, pa, ro, ss, dp, rn, od, kd))) sz)) (va_A ((wRg a (h1, h2, f1, f2)) ++ (wT ca kq a (ky, vl, lf, rt, ct, ht, tt, sp, pa, ro, ss, dp, rn, od, kd))) sz)) 0 0 (va_A ((wRg a (h1, h2, f1, f2)) ++ (wT ca kq a (ky, vl, lf, rt, ct, ht, tt, sp, pa, ro, ss, dp, rn, od, kd))) sz) := by
  refine Met.ofW (cc := cX7_end) (maxL := 2) (ret := (some .int)) (by decide) rfl ?_
  intro p e s m args below meth c s₁ B hml hv
  obtain ⟨rfl, hsz, hP, hKN, hD0⟩ := hv
  have hx := B.exec
  have hb := B.bytes
  have hr := B.returns
  have hts := atoms_spec (ws := wsX7_end) B.pre
  have hown : s.vm.findClass RX7 = some m.cls := findClass_of_methodNamed B.named
  have hlocks := B.notSynchronized
  have inX7 : ∀ w ∈ wsX70, w ∈ wsX7_end := by decide +kernel
  have inX8 : ∀ w ∈ wsX80, w ∈ wsX7_end := by decide +kernel
  subst hsz
  have hD := hD0.self (sz := s.heap.size)
  generalize hAe : va_A ((wRg a (h1, h2, f1, f2)) ++ (wT ca kq a (ky, vl, lf, rt, ct, ht, tt, sp, pa, ro, ss, dp, rn, od, kd))) s.heap.size = A at hD ⊢
  have hA : ∀ q : Nat, s.heap.size ≤ q → A q := fun q h => by rw [← hAe]; exact Or.inr h
  have hS : va_S A s.heap s.heap [] := va_S.rf
  have hl := lv_entry ([.ref (a 12), .ref (a 0)]) (n := 2) (Nat.le_of_ble_eq_true rfl)
  rw [lg_entry_eq]
  generalize (lg_sl ([.ref (a 12), .ref (a 0)]) ++ List.replicate (2 - (lg_sl ([.ref (a 12), .ref (a 0)])).length) Slot.unset).toArray = ls at hl ⊢
  have hl : lv_has ls 2 [(0, .ref (a 12)), (1, .ref (a 0))] := hl
  refine lv_aload_n hx hb dX7_end_0 rfl (lv_at hl 0 rfl) ?_
  refine va_get (D := D) (ci := 5) (v := .int (bI h2)) (C := RX7) (T := TX7) (N := 4) hx hb hts inX7 hown hKN.1 hP 0 rfl rfl 1 (by decide) (hts (.fieldLink RX7 23 "TreeFamily$Range" "hasSecond" "Z") (by decide +kernel)) (fun _ h9 => h9) rfl dX7_end_1 ?_
  refine lv_if_eq (tgt := 18) hx hb dX7_end_4 (by decide) (fun c4 => ?_) (fun c4 => ?_)
  · skip
    have c4 := bI_0.mp c4
    refine lv_aload_n hx hb dX7_end_18 rfl (lv_at hl 1 rfl) ?_
    refine va_getN (D := D) (ci := 6) (v := .ref (a 5)) (C := RX8) (T := TX8) (N := 15) hx hb hts inX8 hown hKN.1 hP 1 rfl rfl 4 (by decide) (va_Nw.use rfl (NW.f hKN.2 (a := RX7) (i := 35) (b := "TreeFamily$Tree") (n := "counts") (d := "[I") (g := "TreeFamily") (by decide +kernel))) (fun _ h9 => h9) rfl dX7_end_19 ?_
    refine lv_aload_n hx hb dX7_end_22 rfl (lv_at hl 1 rfl) ?_
    refine va_getN (D := D) (ci := 6) (v := .int (nI rn)) (C := RX8) (T := TX8) (N := 15) hx hb hts inX8 hown hKN.1 hP 1 rfl rfl 12 (by decide) (va_Nw.use rfl (NW.f hKN.2 (a := RX7) (i := 39) (b := "TreeFamily$Tree") (n := "root") (d := "I") (g := "TreeFamily") (by decide +kernel))) (fun _ h9 => h9) rfl dX7_end_23 ?_
    refine xr_ild hx hb hKN.1 hP 6 0 rfl rfl (j := rn) (Nat.lt_of_le_of_lt hrn (by decide)) (by decide) dX7_end_26 ?_
    exact W.iret (v := (ct rn)) hx hb hr (fun t9 e9 w9 => ⟨⟨_, ((h1, h2, f1, f2), (ky, vl, lf, rt, ct, ht, tt, sp, pa, ro, ss, dp, rn, od, kd)), rfl, ⟨by first | exact (end_1 (r := (h1, h2, f1, f2)) c4).symm | exact (end_0 (r := (h1, h2, f1, f2)) (t := (ky, vl, lf, rt, ct, ht, tt, sp, pa, ro, ss, dp, rn, od, kd)) c4).symm, rfl⟩, by rw [e9]; exact hP, hD⟩, hS.F e9⟩) hS.2.2 dX7_end_27
  · skip
    have c4 := bI_ne.mp c4
    refine lv_aload_n hx hb dX7_end_7 rfl (lv_at hl 1 rfl) ?_
    refine lv_aload_n hx hb dX7_end_8 rfl (lv_at hl 0 rfl) ?_
    refine va_get (D := D) (ci := 5) (v := .int f2) (C := RX7) (T := TX7) (N := 4) hx hb hts inX7 hown hKN.1 hP 0 rfl rfl 3 (by decide) (hts (.fieldLink RX7 26 "TreeFamily$Range" "second" "I") (by decide +kernel)) (fun _ h9 => h9) rfl dX7_end_9 ?_
    refine xc_i (wr := wRg a (h1, h2, f1, f2)) (va_runV (As := [.int f2]) (rest := []) ⟨hx, hb, hml, hown, hts⟩ (c_X8_countBefore l D ca kq a _ ky vl lf rt ct ht tt sp pa ro ss dp rn od kd f2 hlf hrt hsp hpa hro hrn) (cwV 1 hts gX7_end_X8_countBefore rfl rfl rfl (by decide +kernel) ⟨(Nat.le_of_ble_eq_true rfl), (Nat.le_of_ble_eq_true rfl)⟩) (xPreV hKN hP hD [1, 2, 3, 4, 5, 6, 7, 8, 9, 10, 11] (by decide) rfl (q0 := 1) rfl rfl rfl) rfl rfl hl.1 rfl (lv_room (Nat.le_of_ble_eq_true rfl)) dX7_end_12 ⟨(Nat.le_of_ble_eq_true rfl), (Nat.le_of_ble_eq_true rfl)⟩) hP hD hS hA [1, 2, 3, 4, 5, 6, 7, 8, 9, 10, 11] [0] rfl rfl (by decide) (by decide) (fun r12 u12 H locs hu12 hP hD hS => ?_)
    obtain ⟨er12, eu12⟩ := hu12
    subst er12
    subst eu12
    have hP : va_P D vwCl ((wRg a (h1, h2, f1, f2)) ++ (wT ca kq a (ky, vl, lf, rt, ct, ht, tt, sp, pa, ro, ss, dp, rn, od, kd))) H := hP
    have hD : va_D A ((wRg a (h1, h2, f1, f2)) ++ (wT ca kq a (ky, vl, lf, rt, ct, ht, tt, sp, pa, ro, ss, dp, rn, od, kd))) := hD
    refine lv_goto (tgt := 27) hx hb dX7_end_15 (by decide) ?_
    exact W.iret (v := (f_countBefore (ky, vl, lf, rt, ct, ht, tt, sp, pa, ro, ss, dp, rn, od, kd) f2)) hx hb hr (fun t9 e9 w9 => ⟨⟨_, ((h1, h2, f1, f2), (ky, vl, lf, rt, ct, ht, tt, sp, pa, ro, ss, dp, rn, od, kd)), rfl, ⟨by first | exact (end_1 (r := (h1, h2, f1, f2)) c4).symm | exact (end_0 (r := (h1, h2, f1, f2)) (t := (ky, vl, lf, rt, ct, ht, tt, sp, pa, ro, ss, dp, rn, od, kd)) c4).symm, rfl⟩, by rw [e9]; exact hP, hD⟩, hS.F e9⟩) hS.2.2 dX7_end_27

-- Walk.begin
set_option maxHeartbeats 4000000 in
set_option maxRecDepth 100000 in
theorem c_X9_begin (l : Launch) (D : va_G) (ca : Nat → ClassId) (kq a : Nat → Nat) (sz : Nat) (on bk gv : Bool) (kn ws9 we9 wp9 : Int32) (s1 s2 : Int32) (b : Bool) : Met l yX9_begin wsX9_begin ({ frames := 0, cells := 0, slots := 0, locals := 0 } : Room) (xPc D (TY ca) [.ref (a 13), .int s1, .int s2, .int (bI b)] (wWk a (on, bk, gv, kn, ws9, we9, wp9)) sz) (va_Qv (fun u : KS => u = f_begin (on, bk, gv, kn, ws9, we9, wp9) s1 s2 b) (xB D (wWk a) (va_A (wWk a (on, bk, gv, kn, ws9, we9, wp9)) sz)) (va_A (wWk a (on, bk, gv, kn, ws9, we9, wp9)) sz)) 0 0 (va_A (wWk a (on, bk, gv, kn, ws9, we9, wp9)) sz) := by
  refine Met.ofW (cc := cX9_begin) (maxL := 4) (ret := none) (by decide) rfl ?_
  intro p e s m args below meth c s₁ B hml hv
  obtain ⟨rfl, hsz, hP, hKN, hD0⟩ := hv
  have hx := B.exec
  have hb := B.bytes
  have hr := B.returns
  have hts := atoms_spec (ws := wsX9_begin) B.pre
  have hown : s.vm.findClass RX9 = some m.cls := findClass_of_methodNamed B.named
  have hlocks := B.notSynchronized
  have inX9 : ∀ w ∈ wsX90, w ∈ wsX9_begin := by decide +kernel
  subst hsz
  have hD := hD0.self (sz := s.heap.size)
  generalize hAe : va_A (wWk a (on, bk, gv, kn, ws9, we9, wp9)) s.heap.size = A at hD ⊢
  have hA : ∀ q : Nat, s.heap.size ≤ q → A q := fun q h => by rw [← hAe]; exact Or.inr h
  have hS : va_S A s.heap s.heap [] := va_S.rf
  have hl := lv_entry ([.ref (a 13), .int s1, .int s2, .int (bI b)]) (n := 4) (Nat.le_of_ble_eq_true rfl)
  rw [lg_entry_eq]
  generalize (lg_sl ([.ref (a 13), .int s1, .int s2, .int (bI b)]) ++ List.replicate (4 - (lg_sl ([.ref (a 13), .int s1, .int s2, .int (bI b)])).length) Slot.unset).toArray = ls at hl ⊢
  have hl : lv_has ls 4 [(0, .ref (a 13)), (1, .int s1), (2, .int s2), (3, .int (bI b))] := hl
  refine lv_aload_n hx hb dX9_begin_0 rfl (lv_at hl 0 rfl) ?_
  refine lv_iconst (v := 1) hx hb dX9_begin_1 (by decide) ?_
  refine va_put (D := D) (ci := 7) (v := .int 1) (ty := .boolean) (C := RX9) (T := TX9) (N := 7) hx hb hts inX9 tyX9 tyX9_ok nmX9 hown hKN.1 hP hD hS 0 rfl rfl 0 (by decide) (hts (.fieldLink RX9 7 "TreeFamily$Walk" "isOn" "Z") (by decide +kernel)) (fun _ h9 => h9) rfl (by decide +kernel) rfl rfl (Nat.le_of_ble_eq_true rfl) dX9_begin_2 (fun H locs hP hD hS => ?_)
  have hP : va_P D vwCl (wWk a (true, bk, gv, kn, ws9, we9, wp9)) H := hP
  have hD : va_D A (wWk a (true, bk, gv, kn, ws9, we9, wp9)) := hD
  refine lv_aload_n hx hb dX9_begin_5 rfl (lv_at hl 0 rfl) ?_
  refine lv_iload_n hx hb dX9_begin_6 rfl (lv_at hl 3 rfl) ?_
  refine va_put (D := D) (ci := 7) (v := .int (bI b)) (ty := .boolean) (C := RX9) (T := TX9) (N := 7) hx hb hts inX9 tyX9 tyX9_ok nmX9 hown hKN.1 hP hD hS 0 rfl rfl 1 (by decide) (hts (.fieldLink RX9 13 "TreeFamily$Walk" "isBack" "Z") (by decide +kernel)) (fun _ h9 => h9) rfl (by decide +kernel) (bI_nar _) (bI_fit _) (Nat.le_of_ble_eq_true rfl) dX9_begin_7 (fun H locs hP hD hS => ?_)
  have hP : va_P D vwCl (wWk a (true, b, gv, kn, ws9, we9, wp9)) H := hP
  have hD : va_D A (wWk a (true, b, gv, kn, ws9, we9, wp9)) := hD
  refine lv_aload_n hx hb dX9_begin_10 rfl (lv_at hl 0 rfl) ?_
  refine lv_iconst (v := 0) hx hb dX9_begin_11 (by decide) ?_
  refine va_put (D := D) (ci := 7) (v := .int 0) (ty := .boolean) (C := RX9) (T := TX9) (N := 7) hx hb hts inX9 tyX9 tyX9_ok nmX9 hown hKN.1 hP hD hS 0 rfl rfl 2 (by decide) (hts (.fieldLink RX9 16 "TreeFamily$Walk" "hasGiven" "Z") (by decide +kernel)) (fun _ h9 => h9) rfl (by decide +kernel) rfl rfl (Nat.le_of_ble_eq_true rfl) dX9_begin_12 (fun H locs hP hD hS => ?_)
  have hP : va_P D vwCl (wWk a (true, b, false, kn, ws9, we9, wp9)) H := hP
  have hD : va_D A (wWk a (true, b, false, kn, ws9, we9, wp9)) := hD
  refine lv_aload_n hx hb dX9_begin_15 rfl (lv_at hl 0 rfl) ?_
  refine lv_iload_n hx hb dX9_begin_16 rfl (lv_at hl 1 rfl) ?_
  refine va_put (D := D) (ci := 7) (v := .int s1) (ty := .int) (C := RX9) (T := TX9) (N := 7) hx hb hts inX9 tyX9 tyX9_ok nmX9 hown hKN.1 hP hD hS 0 rfl rfl 4 (by decide) (hts (.fieldLink RX9 19 "TreeFamily$Walk" "start" "I") (by decide +kernel)) (fun _ h9 => h9) rfl (by decide +kernel) rfl rfl (Nat.le_of_ble_eq_true rfl) dX9_begin_17 (fun H locs hP hD hS => ?_)
  have hP : va_P D vwCl (wWk a (true, b, false, kn, s1, we9, wp9)) H := hP
  have hD : va_D A (wWk a (true, b, false, kn, s1, we9, wp9)) := hD
  refine lv_aload_n hx hb dX9_begin_20 rfl (lv_at hl 0 rfl) ?_
  refine lv_iload_n hx hb dX9_begin_21 rfl (lv_at hl 2 rfl) ?_
  refine va_put (D := D) (ci := 7) (v := .int s2) (ty := .int) (C := RX9) (T := TX9) (N := 7) hx hb hts inX9 tyX9 tyX9_ok nmX9 hown hKN.1 hP hD hS 0 rfl rfl 5 (by decide) (hts (.fieldLink RX9 23 "TreeFamily$Walk" "end" "I") (by decide +kernel)) (fun _ h9 => h9) rfl (by decide +kernel) rfl rfl (Nat.le_of_ble_eq_true rfl) dX9_begin_22 (fun H locs hP hD hS => ?_)
  have hP : va_P D vwCl (wWk a (true, b, false, kn, s1, s2, wp9)) H := hP
  have hD : va_D A (wWk a (true, b, false, kn, s1, s2, wp9)) := hD
  refine lv_aload_n hx hb dX9_begin_25 rfl (lv_at hl 0 rfl) ?_
  refine lv_iload_n hx hb dX9_begin_26 rfl (lv_at hl 3 rfl) ?_
  refine lv_if_eq (tgt := 34) hx hb dX9_begin_27 (by decide) (fun c27 => ?_) (fun c27 => ?_)
  · skip
    have c27 := bI_0.mp c27
    refine lv_iload_n hx hb dX9_begin_34 rfl (lv_at hl 1 rfl) ?_
    refine va_put (D := D) (ci := 7) (v := .int s1) (ty := .int) (C := RX9) (T := TX9) (N := 7) hx hb hts inX9 tyX9 tyX9_ok nmX9 hown hKN.1 hP hD hS 0 rfl rfl 6 (by decide) (hts (.fieldLink RX9 26 "TreeFamily$Walk" "place" "I") (by decide +kernel)) (fun _ h9 => h9) rfl (by decide +kernel) rfl rfl (Nat.le_of_ble_eq_true rfl) dX9_begin_35 (fun H locs hP hD hS => ?_)
    have hP : va_P D vwCl (wWk a (true, b, false, kn, s1, s2, s1)) H := hP
    have hD : va_D A (wWk a (true, b, false, kn, s1, s2, s1)) := hD
    exact W.vret hx hb hr (fun t9 e9 w9 => ⟨⟨(true, b, false, kn, s1, s2, s1), rfl, by first | (subst c27; rfl), by rw [e9]; exact hP, hD⟩, hS.F e9⟩) hS.2.2 dX9_begin_38
  · skip
    have c27 := bI_ne.mp c27
    refine lv_iload_n hx hb dX9_begin_30 rfl (lv_at hl 2 rfl) ?_
    refine lv_goto (tgt := 35) hx hb dX9_begin_31 (by decide) ?_
    refine va_put (D := D) (ci := 7) (v := .int s2) (ty := .int) (C := RX9) (T := TX9) (N := 7) hx hb hts inX9 tyX9 tyX9_ok nmX9 hown hKN.1 hP hD hS 0 rfl rfl 6 (by decide) (hts (.fieldLink RX9 26 "TreeFamily$Walk" "place" "I") (by decide +kernel)) (fun _ h9 => h9) rfl (by decide +kernel) rfl rfl (Nat.le_of_ble_eq_true rfl) dX9_begin_35 (fun H locs hP hD hS => ?_)
    have hP : va_P D vwCl (wWk a (true, b, false, kn, s1, s2, s2)) H := hP
    have hD : va_D A (wWk a (true, b, false, kn, s1, s2, s2)) := hD
    exact W.vret hx hb hr (fun t9 e9 w9 => ⟨⟨(true, b, false, kn, s1, s2, s2), rfl, by first | (subst c27; rfl), by rw [e9]; exact hP, hD⟩, hS.F e9⟩) hS.2.2 dX9_begin_38

-- Walk.ahead
set_option maxHeartbeats 4000000 in
set_option maxRecDepth 100000 in
theorem c_X9_ahead (l : Launch) (D : va_G) (ca : Nat → ClassId) (kq a : Nat → Nat) (sz : Nat) (on bk gv : Bool) (kn ws9 we9 wp9 : Int32) : Met l yX9_ahead wsX9_ahead ({ frames := 0, cells := 0, slots := 0, locals := 0 } : Room) (xPc D (TY ca) [.ref (a 13)] (wWk a (on, bk, gv, kn, ws9, we9, wp9)) sz) (va_Qi (fun (r : Int32) (u : KS) => r = f_ahead (on, bk, gv, kn, ws9, we9, wp9) ∧ u = (on, bk, gv, kn, ws9, we9, wp9)) (xB D (wWk a) (va_A (wWk a (on, bk, gv, kn, ws9, we9, wp9)) sz)) (va_A (wWk a (on, bk, gv, kn, ws9, we9, wp9)) sz)) 0 0 (va_A (wWk a (on, bk, gv, kn, ws9, we9, wp9)) sz) := by
  refine Met.ofW (cc := cX9_ahead) (maxL := 1) (ret := (some .int)) (by decide) rfl ?_
  intro p e s m args below meth c s₁ B hml hv
  obtain ⟨rfl, hsz, hP, hKN, hD0⟩ := hv
  have hx := B.exec
  have hb := B.bytes
  have hr := B.returns
  have hts := atoms_spec (ws := wsX9_ahead) B.pre
  have hown : s.vm.findClass RX9 = some m.cls := findClass_of_methodNamed B.named
  have hlocks := B.notSynchronized
  have inX9 : ∀ w ∈ wsX90, w ∈ wsX9_ahead := by decide +kernel
  subst hsz
  have hD := hD0.self (sz := s.heap.size)
  generalize hAe : va_A (wWk a (on, bk, gv, kn, ws9, we9, wp9)) s.heap.size = A at hD ⊢
  have hA : ∀ q : Nat, s.heap.size ≤ q → A q := fun q h => by rw [← hAe]; exact Or.inr h
  have hS : va_S A s.heap s.heap [] := va_S.rf
  have hl := lv_entry ([.ref (a 13)]) (n := 1) (Nat.le_of_ble_eq_true rfl)
  rw [lg_entry_eq]
  generalize (lg_sl ([.ref (a 13)]) ++ List.replicate (1 - (lg_sl ([.ref (a 13)])).length) Slot.unset).toArray = ls at hl ⊢
  have hl : lv_has ls 1 [(0, .ref (a 13))] := hl
  refine lv_aload_n hx hb dX9_ahead_0 rfl (lv_at hl 0 rfl) ?_
  refine va_get (D := D) (ci := 7) (v := .int (bI bk)) (C := RX9) (T := TX9) (N := 7) hx hb hts inX9 hown hKN.1 hP 0 rfl rfl 1 (by decide) (hts (.fieldLink RX9 13 "TreeFamily$Walk" "isBack" "Z") (by decide +kernel)) (fun _ h9 => h9) rfl dX9_ahead_1 ?_
  refine lv_if_eq (tgt := 29) hx hb dX9_ahead_4 (by decide) (fun c4 => ?_) (fun c4 => ?_)
  · skip
    have c4 := bI_0.mp c4
    refine lv_aload_n hx hb dX9_ahead_29 rfl (lv_at hl 0 rfl) ?_
    refine va_get (D := D) (ci := 7) (v := .int wp9) (C := RX9) (T := TX9) (N := 7) hx hb hts inX9 hown hKN.1 hP 0 rfl rfl 6 (by decide) (hts (.fieldLink RX9 26 "TreeFamily$Walk" "place" "I") (by decide +kernel)) (fun _ h9 => h9) rfl dX9_ahead_30 ?_
    refine lv_aload_n hx hb dX9_ahead_33 rfl (lv_at hl 0 rfl) ?_
    refine va_get (D := D) (ci := 7) (v := .int we9) (C := RX9) (T := TX9) (N := 7) hx hb hts inX9 hown hKN.1 hP 0 rfl rfl 5 (by decide) (hts (.fieldLink RX9 23 "TreeFamily$Walk" "end" "I") (by decide +kernel)) (fun _ h9 => h9) rfl dX9_ahead_34 ?_
    refine lv_icmp_ge (tgt := 47) hx hb dX9_ahead_37 (by decide) (fun c37 => ?_) (fun c37 => ?_)
    · skip
      refine lv_iconst (v := (-1)) hx hb dX9_ahead_47 (by decide) ?_
      exact W.iret (v := (-1)) hx hb hr (fun t9 e9 w9 => ⟨⟨_, (on, bk, gv, kn, ws9, we9, wp9), rfl, ⟨by subst c4; first | exact (if_pos c15).symm | exact (if_neg c15).symm | exact (if_pos c37).symm | exact (if_neg c37).symm, rfl⟩, by rw [e9]; exact hP, hD⟩, hS.F e9⟩) hS.2.2 dX9_ahead_48
    · skip
      refine lv_aload_n hx hb dX9_ahead_40 rfl (lv_at hl 0 rfl) ?_
      refine va_get (D := D) (ci := 7) (v := .int wp9) (C := RX9) (T := TX9) (N := 7) hx hb hts inX9 hown hKN.1 hP 0 rfl rfl 6 (by decide) (hts (.fieldLink RX9 26 "TreeFamily$Walk" "place" "I") (by decide +kernel)) (fun _ h9 => h9) rfl dX9_ahead_41 ?_
      refine lv_goto (tgt := 48) hx hb dX9_ahead_44 (by decide) ?_
      exact W.iret (v := wp9) hx hb hr (fun t9 e9 w9 => ⟨⟨_, (on, bk, gv, kn, ws9, we9, wp9), rfl, ⟨by subst c4; first | exact (if_pos c15).symm | exact (if_neg c15).symm | exact (if_pos c37).symm | exact (if_neg c37).symm, rfl⟩, by rw [e9]; exact hP, hD⟩, hS.F e9⟩) hS.2.2 dX9_ahead_48
  · skip
    have c4 := bI_ne.mp c4
    refine lv_aload_n hx hb dX9_ahead_7 rfl (lv_at hl 0 rfl) ?_
    refine va_get (D := D) (ci := 7) (v := .int wp9) (C := RX9) (T := TX9) (N := 7) hx hb hts inX9 hown hKN.1 hP 0 rfl rfl 6 (by decide) (hts (.fieldLink RX9 26 "TreeFamily$Walk" "place" "I") (by decide +kernel)) (fun _ h9 => h9) rfl dX9_ahead_8 ?_
    refine lv_aload_n hx hb dX9_ahead_11 rfl (lv_at hl 0 rfl) ?_
    refine va_get (D := D) (ci := 7) (v := .int ws9) (C := RX9) (T := TX9) (N := 7) hx hb hts inX9 hown hKN.1 hP 0 rfl rfl 4 (by decide) (hts (.fieldLink RX9 19 "TreeFamily$Walk" "start" "I") (by decide +kernel)) (fun _ h9 => h9) rfl dX9_ahead_12 ?_
    refine lv_icmp_le (tgt := 27) hx hb dX9_ahead_15 (by decide) (fun c15 => ?_) (fun c15 => ?_)
    · skip
      refine lv_iconst (v := (-1)) hx hb dX9_ahead_27 (by decide) ?_
      exact W.iret (v := (-1)) hx hb hr (fun t9 e9 w9 => ⟨⟨_, (on, bk, gv, kn, ws9, we9, wp9), rfl, ⟨by subst c4; first | exact (if_pos c15).symm | exact (if_neg c15).symm | exact (if_pos c37).symm | exact (if_neg c37).symm, rfl⟩, by rw [e9]; exact hP, hD⟩, hS.F e9⟩) hS.2.2 dX9_ahead_28
    · skip
      refine lv_aload_n hx hb dX9_ahead_18 rfl (lv_at hl 0 rfl) ?_
      refine va_get (D := D) (ci := 7) (v := .int wp9) (C := RX9) (T := TX9) (N := 7) hx hb hts inX9 hown hKN.1 hP 0 rfl rfl 6 (by decide) (hts (.fieldLink RX9 26 "TreeFamily$Walk" "place" "I") (by decide +kernel)) (fun _ h9 => h9) rfl dX9_ahead_19 ?_
      refine lv_iconst (v := 1) hx hb dX9_ahead_22 (by decide) ?_
      refine lv_isub hx hb dX9_ahead_23 ?_
      refine lv_goto (tgt := 28) hx hb dX9_ahead_24 (by decide) ?_
      exact W.iret (v := (wp9 - 1)) hx hb hr (fun t9 e9 w9 => ⟨⟨_, (on, bk, gv, kn, ws9, we9, wp9), rfl, ⟨by subst c4; first | exact (if_pos c15).symm | exact (if_neg c15).symm | exact (if_pos c37).symm | exact (if_neg c37).symm, rfl⟩, by rw [e9]; exact hP, hD⟩, hS.F e9⟩) hS.2.2 dX9_ahead_28

-- Walk.step
set_option maxHeartbeats 4000000 in
set_option maxRecDepth 100000 in
theorem c_X9_step (l : Launch) (D : va_G) (ca : Nat → ClassId) (kq a : Nat → Nat) (sz : Nat) (on bk gv : Bool) (kn ws9 we9 wp9 : Int32) : Met l yX9_step wsX9_step ({ frames := 0, cells := 0, slots := 0, locals := 0 } : Room) (xPc D (TY ca) [.ref (a 13)] (wWk a (on, bk, gv, kn, ws9, we9, wp9)) sz) (va_Qv (fun u : KS => u = f_step (on, bk, gv, kn, ws9, we9, wp9)) (xB D (wWk a) (va_A (wWk a (on, bk, gv, kn, ws9, we9, wp9)) sz)) (va_A (wWk a (on, bk, gv, kn, ws9, we9, wp9)) sz)) 0 0 (va_A (wWk a (on, bk, gv, kn, ws9, we9, wp9)) sz) := by
  refine Met.ofW (cc := cX9_step) (maxL := 1) (ret := none) (by decide) rfl ?_
  intro p e s m args below meth c s₁ B hml hv
  obtain ⟨rfl, hsz, hP, hKN, hD0⟩ := hv
  have hx := B.exec
  have hb := B.bytes
  have hr := B.returns
  have hts := atoms_spec (ws := wsX9_step) B.pre
  have hown : s.vm.findClass RX9 = some m.cls := findClass_of_methodNamed B.named
  have hlocks := B.notSynchronized
  have inX9 : ∀ w ∈ wsX90, w ∈ wsX9_step := by decide +kernel
  subst hsz
  have hD := hD0.self (sz := s.heap.size)
  generalize hAe : va_A (wWk a (on, bk, gv, kn, ws9, we9, wp9)) s.heap.size = A at hD ⊢
  have hA : ∀ q : Nat, s.heap.size ≤ q → A q := fun q h => by rw [← hAe]; exact Or.inr h
  have hS : va_S A s.heap s.heap [] := va_S.rf
  have hl := lv_entry ([.ref (a 13)]) (n := 1) (Nat.le_of_ble_eq_true rfl)
  rw [lg_entry_eq]
  generalize (lg_sl ([.ref (a 13)]) ++ List.replicate (1 - (lg_sl ([.ref (a 13)])).length) Slot.unset).toArray = ls at hl ⊢
  have hl : lv_has ls 1 [(0, .ref (a 13))] := hl
  refine lv_aload_n hx hb dX9_step_0 rfl (lv_at hl 0 rfl) ?_
  refine lv_dup hx hb dX9_step_1 rfl ?_
  refine va_get (D := D) (ci := 7) (v := .int wp9) (C := RX9) (T := TX9) (N := 7) hx hb hts inX9 hown hKN.1 hP 0 rfl rfl 6 (by decide) (hts (.fieldLink RX9 26 "TreeFamily$Walk" "place" "I") (by decide +kernel)) (fun _ h9 => h9) rfl dX9_step_2 ?_
  refine lv_aload_n hx hb dX9_step_5 rfl (lv_at hl 0 rfl) ?_
  refine va_get (D := D) (ci := 7) (v := .int (bI bk)) (C := RX9) (T := TX9) (N := 7) hx hb hts inX9 hown hKN.1 hP 0 rfl rfl 1 (by decide) (hts (.fieldLink RX9 13 "TreeFamily$Walk" "isBack" "Z") (by decide +kernel)) (fun _ h9 => h9) rfl dX9_step_6 ?_
  refine lv_if_eq (tgt := 16) hx hb dX9_step_9 (by decide) (fun c9 => ?_) (fun c9 => ?_)
  · skip
    have c9 := bI_0.mp c9
    refine lv_iconst (v := 1) hx hb dX9_step_16 (by decide) ?_
    refine xr_top (y := (if bk = true then -1 else 1)) (by first | exact (if_pos c9).symm | exact (if_neg (by rw [c9]; decide)).symm) ?_
    refine lv_iadd hx hb dX9_step_17 ?_
    refine va_put (D := D) (ci := 7) (v := .int (wp9 + (if bk = true then -1 else 1))) (ty := .int) (C := RX9) (T := TX9) (N := 7) hx hb hts inX9 tyX9 tyX9_ok nmX9 hown hKN.1 hP hD hS 0 rfl rfl 6 (by decide) (hts (.fieldLink RX9 26 "TreeFamily$Walk" "place" "I") (by decide +kernel)) (fun _ h9 => h9) rfl (by decide +kernel) rfl rfl (Nat.le_of_ble_eq_true rfl) dX9_step_18 (fun H locs hP hD hS => ?_)
    have hP : va_P D vwCl (wWk a (on, bk, gv, kn, ws9, we9, (wp9 + (if bk = true then -1 else 1)))) H := hP
    have hD : va_D A (wWk a (on, bk, gv, kn, ws9, we9, (wp9 + (if bk = true then -1 else 1)))) := hD
    refine lv_aload_n hx hb dX9_step_21 rfl (lv_at hl 0 rfl) ?_
    refine lv_iconst (v := 1) hx hb dX9_step_22 (by decide) ?_
    refine va_put (D := D) (ci := 7) (v := .int 1) (ty := .boolean) (C := RX9) (T := TX9) (N := 7) hx hb hts inX9 tyX9 tyX9_ok nmX9 hown hKN.1 hP hD hS 0 rfl rfl 2 (by decide) (hts (.fieldLink RX9 16 "TreeFamily$Walk" "hasGiven" "Z") (by decide +kernel)) (fun _ h9 => h9) rfl (by decide +kernel) rfl rfl (Nat.le_of_ble_eq_true rfl) dX9_step_23 (fun H locs hP hD hS => ?_)
    have hP : va_P D vwCl (wWk a (on, bk, true, kn, ws9, we9, (wp9 + (if bk = true then -1 else 1)))) H := hP
    have hD : va_D A (wWk a (on, bk, true, kn, ws9, we9, (wp9 + (if bk = true then -1 else 1)))) := hD
    exact W.vret hx hb hr (fun t9 e9 w9 => ⟨⟨(on, bk, true, kn, ws9, we9, (wp9 + (if bk = true then -1 else 1))), rfl, rfl, by rw [e9]; exact hP, hD⟩, hS.F e9⟩) hS.2.2 dX9_step_26
  · skip
    have c9 := bI_ne.mp c9
    refine lv_iconst (v := (-1)) hx hb dX9_step_12 (by decide) ?_
    refine lv_goto (tgt := 17) hx hb dX9_step_13 (by decide) ?_
    refine xr_top (y := (if bk = true then -1 else 1)) (by first | exact (if_pos c9).symm | exact (if_neg (by rw [c9]; decide)).symm) ?_
    refine lv_iadd hx hb dX9_step_17 ?_
    refine va_put (D := D) (ci := 7) (v := .int (wp9 + (if bk = true then -1 else 1))) (ty := .int) (C := RX9) (T := TX9) (N := 7) hx hb hts inX9 tyX9 tyX9_ok nmX9 hown hKN.1 hP hD hS 0 rfl rfl 6 (by decide) (hts (.fieldLink RX9 26 "TreeFamily$Walk" "place" "I") (by decide +kernel)) (fun _ h9 => h9) rfl (by decide +kernel) rfl rfl (Nat.le_of_ble_eq_true rfl) dX9_step_18 (fun H locs hP hD hS => ?_)
    have hP : va_P D vwCl (wWk a (on, bk, gv, kn, ws9, we9, (wp9 + (if bk = true then -1 else 1)))) H := hP
    have hD : va_D A (wWk a (on, bk, gv, kn, ws9, we9, (wp9 + (if bk = true then -1 else 1)))) := hD
    refine lv_aload_n hx hb dX9_step_21 rfl (lv_at hl 0 rfl) ?_
    refine lv_iconst (v := 1) hx hb dX9_step_22 (by decide) ?_
    refine va_put (D := D) (ci := 7) (v := .int 1) (ty := .boolean) (C := RX9) (T := TX9) (N := 7) hx hb hts inX9 tyX9 tyX9_ok nmX9 hown hKN.1 hP hD hS 0 rfl rfl 2 (by decide) (hts (.fieldLink RX9 16 "TreeFamily$Walk" "hasGiven" "Z") (by decide +kernel)) (fun _ h9 => h9) rfl (by decide +kernel) rfl rfl (Nat.le_of_ble_eq_true rfl) dX9_step_23 (fun H locs hP hD hS => ?_)
    have hP : va_P D vwCl (wWk a (on, bk, true, kn, ws9, we9, (wp9 + (if bk = true then -1 else 1)))) H := hP
    have hD : va_D A (wWk a (on, bk, true, kn, ws9, we9, (wp9 + (if bk = true then -1 else 1)))) := hD
    exact W.vret hx hb hr (fun t9 e9 w9 => ⟨⟨(on, bk, true, kn, ws9, we9, (wp9 + (if bk = true then -1 else 1))), rfl, rfl, by rw [e9]; exact hP, hD⟩, hS.F e9⟩) hS.2.2 dX9_step_26

-- Walk.latest
set_option maxHeartbeats 4000000 in
set_option maxRecDepth 100000 in
theorem c_X9_latest (l : Launch) (D : va_G) (ca : Nat → ClassId) (kq a : Nat → Nat) (sz : Nat) (on bk gv : Bool) (kn ws9 we9 wp9 : Int32) : Met l yX9_latest wsX9_latest ({ frames := 0, cells := 0, slots := 0, locals := 0 } : Room) (xPc D (TY ca) [.ref (a 13)] (wWk a (on, bk, gv, kn, ws9, we9, wp9)) sz) (va_Qi (fun (r : Int32) (u : KS) => r = f_latest (on, bk, gv, kn, ws9, we9, wp9) ∧ u = (on, bk, gv, kn, ws9, we9, wp9)) (xB D (wWk a) (va_A (wWk a (on, bk, gv, kn, ws9, we9, wp9)) sz)) (va_A (wWk a (on, bk, gv, kn, ws9, we9, wp9)) sz)) 0 0 (va_A (wWk a (on, bk, gv, kn, ws9, we9, wp9)) sz) := by
  refine Met.ofW (cc := cX9_latest) (maxL := 1) (ret := (some .int)) (by decide) rfl ?_
  intro p e s m args below meth c s₁ B hml hv
  obtain ⟨rfl, hsz, hP, hKN, hD0⟩ := hv
  have hx := B.exec
  have hb := B.bytes
  have hr := B.returns
  have hts := atoms_spec (ws := wsX9_latest) B.pre
  have hown : s.vm.findClass RX9 = some m.cls := findClass_of_methodNamed B.named
  have hlocks := B.notSynchronized
  have inX9 : ∀ w ∈ wsX90, w ∈ wsX9_latest := by decide +kernel
  subst hsz
  have hD := hD0.self (sz := s.heap.size)
  generalize hAe : va_A (wWk a (on, bk, gv, kn, ws9, we9, wp9)) s.heap.size = A at hD ⊢
  have hA : ∀ q : Nat, s.heap.size ≤ q → A q := fun q h => by rw [← hAe]; exact Or.inr h
  have hS : va_S A s.heap s.heap [] := va_S.rf
  have hl := lv_entry ([.ref (a 13)]) (n := 1) (Nat.le_of_ble_eq_true rfl)
  rw [lg_entry_eq]
  generalize (lg_sl ([.ref (a 13)]) ++ List.replicate (1 - (lg_sl ([.ref (a 13)])).length) Slot.unset).toArray = ls at hl ⊢
  have hl : lv_has ls 1 [(0, .ref (a 13))] := hl
  refine lv_aload_n hx hb dX9_latest_0 rfl (lv_at hl 0 rfl) ?_
  refine va_get (D := D) (ci := 7) (v := .int (bI bk)) (C := RX9) (T := TX9) (N := 7) hx hb hts inX9 hown hKN.1 hP 0 rfl rfl 1 (by decide) (hts (.fieldLink RX9 13 "TreeFamily$Walk" "isBack" "Z") (by decide +kernel)) (fun _ h9 => h9) rfl dX9_latest_1 ?_
  refine lv_if_eq (tgt := 14) hx hb dX9_latest_4 (by decide) (fun c4 => ?_) (fun c4 => ?_)
  · skip
    have c4 := bI_0.mp c4
    refine lv_aload_n hx hb dX9_latest_14 rfl (lv_at hl 0 rfl) ?_
    refine va_get (D := D) (ci := 7) (v := .int wp9) (C := RX9) (T := TX9) (N := 7) hx hb hts inX9 hown hKN.1 hP 0 rfl rfl 6 (by decide) (hts (.fieldLink RX9 26 "TreeFamily$Walk" "place" "I") (by decide +kernel)) (fun _ h9 => h9) rfl dX9_latest_15 ?_
    refine lv_iconst (v := 1) hx hb dX9_latest_18 (by decide) ?_
    refine lv_isub hx hb dX9_latest_19 ?_
    exact W.iret (v := (wp9 - 1)) hx hb hr (fun t9 e9 w9 => ⟨⟨_, (on, bk, gv, kn, ws9, we9, wp9), rfl, ⟨by subst c4; rfl, rfl⟩, by rw [e9]; exact hP, hD⟩, hS.F e9⟩) hS.2.2 dX9_latest_20
  · skip
    have c4 := bI_ne.mp c4
    refine lv_aload_n hx hb dX9_latest_7 rfl (lv_at hl 0 rfl) ?_
    refine va_get (D := D) (ci := 7) (v := .int wp9) (C := RX9) (T := TX9) (N := 7) hx hb hts inX9 hown hKN.1 hP 0 rfl rfl 6 (by decide) (hts (.fieldLink RX9 26 "TreeFamily$Walk" "place" "I") (by decide +kernel)) (fun _ h9 => h9) rfl dX9_latest_8 ?_
    refine lv_goto (tgt := 20) hx hb dX9_latest_11 (by decide) ?_
    exact W.iret (v := wp9) hx hb hr (fun t9 e9 w9 => ⟨⟨_, (on, bk, gv, kn, ws9, we9, wp9), rfl, ⟨by subst c4; rfl, rfl⟩, by rw [e9]; exact hP, hD⟩, hS.F e9⟩) hS.2.2 dX9_latest_20

-- Walk.forgetLatest
set_option maxHeartbeats 4000000 in
set_option maxRecDepth 100000 in
theorem c_X9_forgetLatest (l : Launch) (D : va_G) (ca : Nat → ClassId) (kq a : Nat → Nat) (sz : Nat) (on bk gv : Bool) (kn ws9 we9 wp9 : Int32) : Met l yX9_forgetLatest wsX9_forgetLatest ({ frames := 0, cells := 0, slots := 0, locals := 0 } : Room) (xPc D (TY ca) [.ref (a 13)] (wWk a (on, bk, gv, kn, ws9, we9, wp9)) sz) (va_Qv (fun u : KS => u = f_forget (on, bk, gv, kn, ws9, we9, wp9)) (xB D (wWk a) (va_A (wWk a (on, bk, gv, kn, ws9, we9, wp9)) sz)) (va_A (wWk a (on, bk, gv, kn, ws9, we9, wp9)) sz)) 0 0 (va_A (wWk a (on, bk, gv, kn, ws9, we9, wp9)) sz) := by
  refine Met.ofW (cc := cX9_forgetLatest) (maxL := 1) (ret := none) (by decide) rfl ?_
  intro p e s m args below meth c s₁ B hml hv
  obtain ⟨rfl, hsz, hP, hKN, hD0⟩ := hv
  have hx := B.exec
  have hb := B.bytes
  have hr := B.returns
  have hts := atoms_spec (ws := wsX9_forgetLatest) B.pre
  have hown : s.vm.findClass RX9 = some m.cls := findClass_of_methodNamed B.named
  have hlocks := B.notSynchronized
  have inX9 : ∀ w ∈ wsX90, w ∈ wsX9_forgetLatest := by decide +kernel
  subst hsz
  have hD := hD0.self (sz := s.heap.size)
  generalize hAe : va_A (wWk a (on, bk, gv, kn, ws9, we9, wp9)) s.heap.size = A at hD ⊢
  have hA : ∀ q : Nat, s.heap.size ≤ q → A q := fun q h => by rw [← hAe]; exact Or.inr h
  have hS : va_S A s.heap s.heap [] := va_S.rf
  have hl := lv_entry ([.ref (a 13)]) (n := 1) (Nat.le_of_ble_eq_true rfl)
  rw [lg_entry_eq]
  generalize (lg_sl ([.ref (a 13)]) ++ List.replicate (1 - (lg_sl ([.ref (a 13)])).length) Slot.unset).toArray = ls at hl ⊢
  have hl : lv_has ls 1 [(0, .ref (a 13))] := hl
  refine lv_aload_n hx hb dX9_forgetLatest_0 rfl (lv_at hl 0 rfl) ?_
  refine va_get (D := D) (ci := 7) (v := .int (bI bk)) (C := RX9) (T := TX9) (N := 7) hx hb hts inX9 hown hKN.1 hP 0 rfl rfl 1 (by decide) (hts (.fieldLink RX9 13 "TreeFamily$Walk" "isBack" "Z") (by decide +kernel)) (fun _ h9 => h9) rfl dX9_forgetLatest_1 ?_
  refine lv_if_ne (tgt := 27) hx hb dX9_forgetLatest_4 (by decide) (fun c4 => ?_) (fun c4 => ?_)
  · skip
    have c4 := bI_ne.mp c4
    refine lv_aload_n hx hb dX9_forgetLatest_27 rfl (lv_at hl 0 rfl) ?_
    refine lv_iconst (v := 0) hx hb dX9_forgetLatest_28 (by decide) ?_
    refine va_put (D := D) (ci := 7) (v := .int 0) (ty := .boolean) (C := RX9) (T := TX9) (N := 7) hx hb hts inX9 tyX9 tyX9_ok nmX9 hown hKN.1 hP hD hS 0 rfl rfl 2 (by decide) (hts (.fieldLink RX9 16 "TreeFamily$Walk" "hasGiven" "Z") (by decide +kernel)) (fun _ h9 => h9) rfl (by decide +kernel) rfl rfl (Nat.le_of_ble_eq_true rfl) dX9_forgetLatest_29 (fun H locs hP hD hS => ?_)
    have hP : va_P D vwCl (wWk a (on, bk, false, kn, ws9, we9, wp9)) H := hP
    have hD : va_D A (wWk a (on, bk, false, kn, ws9, we9, wp9)) := hD
    exact W.vret hx hb hr (fun t9 e9 w9 => ⟨⟨(on, bk, false, kn, ws9, we9, wp9), rfl, by subst c4; rfl, by rw [e9]; exact hP, hD⟩, hS.F e9⟩) hS.2.2 dX9_forgetLatest_32
  · skip
    have c4 := bI_0.mp c4
    refine lv_aload_n hx hb dX9_forgetLatest_7 rfl (lv_at hl 0 rfl) ?_
    refine lv_dup hx hb dX9_forgetLatest_8 rfl ?_
    refine va_get (D := D) (ci := 7) (v := .int wp9) (C := RX9) (T := TX9) (N := 7) hx hb hts inX9 hown hKN.1 hP 0 rfl rfl 6 (by decide) (hts (.fieldLink RX9 26 "TreeFamily$Walk" "place" "I") (by decide +kernel)) (fun _ h9 => h9) rfl dX9_forgetLatest_9 ?_
    refine lv_iconst (v := 1) hx hb dX9_forgetLatest_12 (by decide) ?_
    refine lv_isub hx hb dX9_forgetLatest_13 ?_
    refine va_put (D := D) (ci := 7) (v := .int (wp9 - 1)) (ty := .int) (C := RX9) (T := TX9) (N := 7) hx hb hts inX9 tyX9 tyX9_ok nmX9 hown hKN.1 hP hD hS 0 rfl rfl 6 (by decide) (hts (.fieldLink RX9 26 "TreeFamily$Walk" "place" "I") (by decide +kernel)) (fun _ h9 => h9) rfl (by decide +kernel) rfl rfl (Nat.le_of_ble_eq_true rfl) dX9_forgetLatest_14 (fun H locs hP hD hS => ?_)
    have hP : va_P D vwCl (wWk a (on, bk, gv, kn, ws9, we9, (wp9 - 1))) H := hP
    have hD : va_D A (wWk a (on, bk, gv, kn, ws9, we9, (wp9 - 1))) := hD
    refine lv_aload_n hx hb dX9_forgetLatest_17 rfl (lv_at hl 0 rfl) ?_
    refine lv_dup hx hb dX9_forgetLatest_18 rfl ?_
    refine va_get (D := D) (ci := 7) (v := .int we9) (C := RX9) (T := TX9) (N := 7) hx hb hts inX9 hown hKN.1 hP 0 rfl rfl 5 (by decide) (hts (.fieldLink RX9 23 "TreeFamily$Walk" "end" "I") (by decide +kernel)) (fun _ h9 => h9) rfl dX9_forgetLatest_19 ?_
    refine lv_iconst (v := 1) hx hb dX9_forgetLatest_22 (by decide) ?_
    refine lv_isub hx hb dX9_forgetLatest_23 ?_
    refine va_put (D := D) (ci := 7) (v := .int (we9 - 1)) (ty := .int) (C := RX9) (T := TX9) (N := 7) hx hb hts inX9 tyX9 tyX9_ok nmX9 hown hKN.1 hP hD hS 0 rfl rfl 5 (by decide) (hts (.fieldLink RX9 23 "TreeFamily$Walk" "end" "I") (by decide +kernel)) (fun _ h9 => h9) rfl (by decide +kernel) rfl rfl (Nat.le_of_ble_eq_true rfl) dX9_forgetLatest_24 (fun H locs hP hD hS => ?_)
    have hP : va_P D vwCl (wWk a (on, bk, gv, kn, ws9, (we9 - 1), (wp9 - 1))) H := hP
    have hD : va_D A (wWk a (on, bk, gv, kn, ws9, (we9 - 1), (wp9 - 1))) := hD
    refine lv_aload_n hx hb dX9_forgetLatest_27 rfl (lv_at hl 0 rfl) ?_
    refine lv_iconst (v := 0) hx hb dX9_forgetLatest_28 (by decide) ?_
    refine va_put (D := D) (ci := 7) (v := .int 0) (ty := .boolean) (C := RX9) (T := TX9) (N := 7) hx hb hts inX9 tyX9 tyX9_ok nmX9 hown hKN.1 hP hD hS 0 rfl rfl 2 (by decide) (hts (.fieldLink RX9 16 "TreeFamily$Walk" "hasGiven" "Z") (by decide +kernel)) (fun _ h9 => h9) rfl (by decide +kernel) rfl rfl (Nat.le_of_ble_eq_true rfl) dX9_forgetLatest_29 (fun H locs hP hD hS => ?_)
    have hP : va_P D vwCl (wWk a (on, bk, false, kn, ws9, (we9 - 1), (wp9 - 1))) H := hP
    have hD : va_D A (wWk a (on, bk, false, kn, ws9, (we9 - 1), (wp9 - 1))) := hD
    exact W.vret hx hb hr (fun t9 e9 w9 => ⟨⟨(on, bk, false, kn, ws9, (we9 - 1), (wp9 - 1)), rfl, by subst c4; rfl, by rw [e9]; exact hP, hD⟩, hS.F e9⟩) hS.2.2 dX9_forgetLatest_32
