-- TreeFamily.isBelow
set_option maxHeartbeats 4000000 in
set_option maxRecDepth 100000 in
theorem c_X10_isBelow (l : Launch) (x : Int32) (n : Int32) : Met l yX10_isBelow wsX10_isBelow ({ frames := 0, cells := 0, slots := 0, locals := 0 } : Room) (va_Pc [.int x, .int n] (fun _ => True)) (vp_Si (fun r => r = bI (isB x n))) 0 0 (fun _ => False) := by
  refine Met.ofW (cc := cX10_isBelow) (maxL := 2) (ret := (some .boolean)) (by decide) rfl ?_
  intro p e s m args below meth c s₁ B hml hv
  obtain ⟨rfl, -⟩ := hv
  have hx := B.exec
  have hb := B.bytes
  have hr := B.returns
  have hts := atoms_spec (ws := wsX10_isBelow) B.pre
  have hown : s.vm.findClass RX10 = some m.cls := findClass_of_methodNamed B.named
  have hlocks := B.notSynchronized
  have hl := lv_entry ([.int x, .int n]) (n := 2) (Nat.le_of_ble_eq_true rfl)
  rw [lg_entry_eq]
  generalize (lg_sl ([.int x, .int n]) ++ List.replicate (2 - (lg_sl ([.int x, .int n])).length) Slot.unset).toArray = ls at hl ⊢
  have hl : lv_has ls 2 [(0, .int x), (1, .int n)] := hl
  refine lv_iload_n hx hb dX10_isBelow_0 rfl (lv_at hl 0 rfl) ?_
  refine lv_if_lt (tgt := 13) hx hb dX10_isBelow_1 (by decide) (fun c1 => ?_) (fun c1 => ?_)
  · skip
    refine lv_iconst (v := 0) hx hb dX10_isBelow_13 (by decide) ?_
    exact W.zret (v := 0) hx hb hr (by decide) (fun t9 e9 w9 => ⟨_, rfl, by simp [isB, bI, *], e9⟩) t_nil dX10_isBelow_14
  · skip
    refine lv_iload_n hx hb dX10_isBelow_4 rfl (lv_at hl 0 rfl) ?_
    refine lv_iload_n hx hb dX10_isBelow_5 rfl (lv_at hl 1 rfl) ?_
    refine lv_icmp_ge (tgt := 13) hx hb dX10_isBelow_6 (by decide) (fun c6 => ?_) (fun c6 => ?_)
    · skip
      refine lv_iconst (v := 0) hx hb dX10_isBelow_13 (by decide) ?_
      exact W.zret (v := 0) hx hb hr (by decide) (fun t9 e9 w9 => ⟨_, rfl, by simp [isB, bI, *], e9⟩) t_nil dX10_isBelow_14
    · skip
      refine lv_iconst (v := 1) hx hb dX10_isBelow_9 (by decide) ?_
      refine lv_goto (tgt := 14) hx hb dX10_isBelow_10 (by decide) ?_
      exact W.zret (v := 1) hx hb hr (by decide) (fun t9 e9 w9 => ⟨_, rfl, by simp [isB, bI, *], e9⟩) t_nil dX10_isBelow_14

-- Math.floorDiv
set_option maxHeartbeats 4000000 in
set_option maxRecDepth 100000 in
theorem c_J9_floorDiv_7cf53 (l : Launch) (x : Int32) (n : Int32) (hn : ¬ n = 0) : Met l yJ9_floorDiv_7cf53 wsJ9_floorDiv_7cf53 ({ frames := 0, cells := 0, slots := 0, locals := 0 } : Room) (va_Pc [.int x, .int n] (fun _ => True)) (vp_Si (fun r => r = fdiv x n)) 0 0 (fun _ => False) := by
  refine xMetF (cc := cJ9_floorDiv_7cf53) (maxL := 3) (ret := (some .int)) (by decide +kernel) rfl ?_
  intro p e s m args below meth c s₁ B hml hv
  obtain ⟨rfl, -⟩ := hv
  have hx := B.exec
  have hb := B.bytes
  have hr := B.returns
  have hts := atoms_spec (ws := wsJ9_floorDiv_7cf53) B.pre
  have hown : s.vm.findClass RJ9 = some m.cls := findClass_of_methodNamed B.named
  have hlocks := B.notSynchronized
  have hl := lv_entry ([.int x, .int n]) (n := 3) (Nat.le_of_ble_eq_true rfl)
  rw [lg_entry_eq]
  generalize (lg_sl ([.int x, .int n]) ++ List.replicate (3 - (lg_sl ([.int x, .int n])).length) Slot.unset).toArray = ls at hl ⊢
  have hl : lv_has ls 3 [(0, .int x), (1, .int n)] := hl
  refine lv_iload_n hx hb dJ9_floorDiv_7cf53_0 rfl (lv_at hl 0 rfl) ?_
  refine lv_iload_n hx hb dJ9_floorDiv_7cf53_1 rfl (lv_at hl 1 rfl) ?_
  refine lv_idiv hx hb dJ9_floorDiv_7cf53_2 hn ?_
  refine lv_istore_n (lv' := [(2, .int (x / n)), (0, .int x), (1, .int n)]) hx hb dJ9_floorDiv_7cf53_3 rfl hl (by decide) rfl (fun ls hl => ?_)
  refine lv_iload_n hx hb dJ9_floorDiv_7cf53_4 rfl (lv_at hl 1 rfl) ?_
  refine lv_iload_n hx hb dJ9_floorDiv_7cf53_5 rfl (lv_at hl 2 rfl) ?_
  refine lv_ixor hx hb dJ9_floorDiv_7cf53_6 ?_
  refine lv_if_ge (tgt := 21) hx hb dJ9_floorDiv_7cf53_7 (by decide) (fun c7 => ?_) (fun c7 => ?_)
  · skip
    refine lv_iload_n hx hb dJ9_floorDiv_7cf53_21 rfl (lv_at hl 0 rfl) ?_
    exact W.iret (v := (x / n)) hx hb hr (fun t9 e9 w9 => ⟨_, rfl, by simp [fdiv, *], e9⟩) t_nil dJ9_floorDiv_7cf53_22
  · skip
    refine lv_iload_n hx hb dJ9_floorDiv_7cf53_10 rfl (lv_at hl 0 rfl) ?_
    refine lv_iload_n hx hb dJ9_floorDiv_7cf53_11 rfl (lv_at hl 2 rfl) ?_
    refine lv_imul hx hb dJ9_floorDiv_7cf53_12 ?_
    refine lv_iload_n hx hb dJ9_floorDiv_7cf53_13 rfl (lv_at hl 1 rfl) ?_
    refine lv_icmp_eq (tgt := 21) hx hb dJ9_floorDiv_7cf53_14 (by decide) (fun c14 => ?_) (fun c14 => ?_)
    · skip
      refine lv_iload_n hx hb dJ9_floorDiv_7cf53_21 rfl (lv_at hl 0 rfl) ?_
      exact W.iret (v := (x / n)) hx hb hr (fun t9 e9 w9 => ⟨_, rfl, by simp [fdiv, *], e9⟩) t_nil dJ9_floorDiv_7cf53_22
    · skip
      refine lv_iload_n hx hb dJ9_floorDiv_7cf53_17 rfl (lv_at hl 0 rfl) ?_
      refine lv_iconst (v := 1) hx hb dJ9_floorDiv_7cf53_18 (by decide) ?_
      refine lv_isub hx hb dJ9_floorDiv_7cf53_19 ?_
      exact W.iret (v := ((x / n) - 1)) hx hb hr (fun t9 e9 w9 => ⟨_, rfl, by simp [fdiv, *], e9⟩) t_nil dJ9_floorDiv_7cf53_20

-- TreeFamily.goesBefore
set_option maxHeartbeats 4000000 in
set_option maxRecDepth 100000 in
theorem c_X10_goesBefore (l : Launch) (od : Int32) (x : Int32) (y : Int32) : Met l yX10_goesBefore wsX10_goesBefore ({ frames := 1, cells := 0, slots := 0, locals := 22 } : Room) (va_Pc [.int od, .int x, .int y] (fun _ => True)) (vp_Si (fun r => r = bI (gB od x y))) 0 0 (fun _ => False) := by
  refine Met.ofW (cc := cX10_goesBefore) (maxL := 3) (ret := (some .boolean)) (by decide) rfl ?_
  intro p e s m args below meth c s₁ B hml hv
  obtain ⟨rfl, -⟩ := hv
  have hx := B.exec
  have hb := B.bytes
  have hr := B.returns
  have hts := atoms_spec (ws := wsX10_goesBefore) B.pre
  have hown : s.vm.findClass RX10 = some m.cls := findClass_of_methodNamed B.named
  have hlocks := B.notSynchronized
  have hl := lv_entry ([.int od, .int x, .int y]) (n := 3) (Nat.le_of_ble_eq_true rfl)
  rw [lg_entry_eq]
  generalize (lg_sl ([.int od, .int x, .int y]) ++ List.replicate (3 - (lg_sl ([.int od, .int x, .int y])).length) Slot.unset).toArray = ls at hl ⊢
  have hl : lv_has ls 3 [(0, .int od), (1, .int x), (2, .int y)] := hl
  refine lv_iload_n hx hb dX10_goesBefore_0 rfl (lv_at hl 0 rfl) ?_
  by_cases k1_1 : od = 1
  · refine lv_lookup (tgt := 28) hx hb dX10_goesBefore_1 (by decide) (by rw [k1_1] <;> rfl) (by decide) ?_
    refine lv_iload_n hx hb dX10_goesBefore_28 rfl (lv_at hl 1 rfl) ?_
    refine lv_iload_n hx hb dX10_goesBefore_29 rfl (lv_at hl 2 rfl) ?_
    refine lv_icmp_le (tgt := 37) hx hb dX10_goesBefore_30 (by decide) (fun c30 => ?_) (fun c30 => ?_)
    · skip
      refine lv_iconst (v := 0) hx hb dX10_goesBefore_37 (by decide) ?_
      exact W.zret (v := 0) hx hb hr (by decide) (fun t9 e9 w9 => ⟨_, rfl, by simp [gB, bI, *], e9⟩) t_nil dX10_goesBefore_38
    · skip
      refine lv_iconst (v := 1) hx hb dX10_goesBefore_33 (by decide) ?_
      refine lv_goto (tgt := 38) hx hb dX10_goesBefore_34 (by decide) ?_
      exact W.zret (v := 1) hx hb hr (by decide) (fun t9 e9 w9 => ⟨_, rfl, by simp [gB, bI, *], e9⟩) t_nil dX10_goesBefore_38
  by_cases k1_2 : od = 2
  · refine lv_lookup (tgt := 39) hx hb dX10_goesBefore_1 (by decide) (by rw [k1_2] <;> rfl) (by decide) ?_
    refine lv_iload_n hx hb dX10_goesBefore_39 rfl (lv_at hl 1 rfl) ?_
    refine lv_iconst (v := 4) hx hb dX10_goesBefore_40 (by decide) ?_
    refine xs_i (va_runS (As := [.int x, .int 4]) (rest := []) ⟨hx, hb, hml, hown, hts⟩ (c_J9_floorDiv_7cf53 l _ _ (by decide)) (va_cwS 2 hts gX10_goesBefore_J9_floorDiv_7cf53 rfl rfl rfl (by decide +kernel) ⟨(Nat.le_of_ble_eq_true rfl), (Nat.le_of_ble_eq_true rfl)⟩) xPreT rfl rfl hl.1 rfl (lv_room (Nat.le_of_ble_eq_true rfl)) dX10_goesBefore_41 ⟨(Nat.le_of_ble_eq_true rfl), (Nat.le_of_ble_eq_true rfl)⟩) (fun r41 er41 => ?_)
    subst er41
    refine lv_iload_n hx hb dX10_goesBefore_44 rfl (lv_at hl 2 rfl) ?_
    refine lv_iconst (v := 4) hx hb dX10_goesBefore_45 (by decide) ?_
    refine xs_i (va_runS (As := [.int y, .int 4]) (rest := [.int (fdiv x 4)]) ⟨hx, hb, hml, hown, hts⟩ (c_J9_floorDiv_7cf53 l _ _ (by decide)) (va_cwS 2 hts gX10_goesBefore_J9_floorDiv_7cf53 rfl rfl rfl (by decide +kernel) ⟨(Nat.le_of_ble_eq_true rfl), (Nat.le_of_ble_eq_true rfl)⟩) xPreT rfl rfl hl.1 rfl (lv_room (Nat.le_of_ble_eq_true rfl)) dX10_goesBefore_46 ⟨(Nat.le_of_ble_eq_true rfl), (Nat.le_of_ble_eq_true rfl)⟩) (fun r46 er46 => ?_)
    subst er46
    refine lv_icmp_ge (tgt := 56) hx hb dX10_goesBefore_49 (by decide) (fun c49 => ?_) (fun c49 => ?_)
    · skip
      refine lv_iconst (v := 0) hx hb dX10_goesBefore_56 (by decide) ?_
      exact W.zret (v := 0) hx hb hr (by decide) (fun t9 e9 w9 => ⟨_, rfl, by simp [gB, bI, *], e9⟩) t_nil dX10_goesBefore_57
    · skip
      refine lv_iconst (v := 1) hx hb dX10_goesBefore_52 (by decide) ?_
      refine lv_goto (tgt := 57) hx hb dX10_goesBefore_53 (by decide) ?_
      exact W.zret (v := 1) hx hb hr (by decide) (fun t9 e9 w9 => ⟨_, rfl, by simp [gB, bI, *], e9⟩) t_nil dX10_goesBefore_57
  refine lv_lookup (tgt := 58) hx hb dX10_goesBefore_1 (by decide) (off := 57) (by rw [lv_osw k1_1 (by decide)]; rw [lv_osw k1_2 (by decide)]; rfl) (by decide) ?_
  refine lv_iload_n hx hb dX10_goesBefore_58 rfl (lv_at hl 1 rfl) ?_
  refine lv_iload_n hx hb dX10_goesBefore_59 rfl (lv_at hl 2 rfl) ?_
  refine lv_icmp_ge (tgt := 67) hx hb dX10_goesBefore_60 (by decide) (fun c60 => ?_) (fun c60 => ?_)
  · skip
    refine lv_iconst (v := 0) hx hb dX10_goesBefore_67 (by decide) ?_
    exact W.zret (v := 0) hx hb hr (by decide) (fun t9 e9 w9 => ⟨_, rfl, by simp [gB, bI, *], e9⟩) t_nil dX10_goesBefore_68
  · skip
    refine lv_iconst (v := 1) hx hb dX10_goesBefore_63 (by decide) ?_
    refine lv_goto (tgt := 68) hx hb dX10_goesBefore_64 (by decide) ?_
    exact W.zret (v := 1) hx hb hr (by decide) (fun t9 e9 w9 => ⟨_, rfl, by simp [gB, bI, *], e9⟩) t_nil dX10_goesBefore_68
