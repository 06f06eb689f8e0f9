-- OneMap.hasOrderOf
set_option maxHeartbeats 4000000 in
set_option maxRecDepth 100000 in
theorem c_X6_hasOrderOf (l : Launch) (D : va_G) (ca : Nat → ClassId) (kq a : Nat → Nat) (sz : Nat) (b : Nat → Nat) (ky vl : Nat → Int32) (lf rt : Nat → Nat) (ct ht : Nat → Int32) (tt : Nat → Int64) (sp pa ro : Nat → Nat) (ss dp rn : Nat) (od : Int32) (kd : Nat) (h1 h2 : Bool) (f1 f2 : Int32) (on bk gv : Bool) (kn ws9 we9 wp9 : Int32) (ch : Int32) (kyB vlB : Nat → Int32) (lfB rtB : Nat → Nat) (ctB htB : Nat → Int32) (ttB : Nat → Int64) (spB paB roB : Nat → Nat) (ssB dpB rnB : Nat) (odB : Int32) (kdB : Nat) (h3 h4 : Bool) (f3 f4 : Int32) (on2 bk2 gv2 : Bool) (kn2 wsB weB wpB : Int32) (ch2 : Int32) (hlf : ∀ k, lf k ≤ 60) (hrt : ∀ k, rt k ≤ 60) (hsp : ∀ k, sp k ≤ 60) (hpa : ∀ k, pa k ≤ 60) (hro : ∀ k, ro k ≤ 60) (hrn : rn ≤ 60) (hkd : kd < 4) (hlfB : ∀ k, lfB k ≤ 60) (hrtB : ∀ k, rtB k ≤ 60) (hspB : ∀ k, spB k ≤ 60) (hpaB : ∀ k, paB k ≤ 60) (hroB : ∀ k, roB k ≤ 60) (hrnB : rnB ≤ 60) (hkdB : kdB < 4): Met l yX6_hasOrderOf wsX6_hasOrderOf ({ frames := 0, cells := 0, slots := 0, locals := 0 } : Room) (xPc D (TY ca) [.ref (a 11), .ref (b 11)] ((wKd kq) ++ (wMo a ch) ++ (wRg a (h1, h2, f1, f2)) ++ (wWk a (on, bk, gv, kn, ws9, we9, wp9)) ++ (wT ca kq a (ky, vl, lf, rt, ct, ht, tt, sp, pa, ro, ss, dp, rn, od, kd)) ++ (wMo b ch2) ++ (wRg b (h3, h4, f3, f4)) ++ (wWk b (on2, bk2, gv2, kn2, wsB, weB, wpB)) ++ (wT ca kq b (kyB, vlB, lfB, rtB, ctB, htB, ttB, spB, paB, roB, ssB, dpB, rnB, odB, kdB))) sz) (va_Qi (fun (r : Int32) (u : M2) => r = bI (if od = odB then true else false) ∧ u = (((ky, vl, lf, rt, ct, ht, tt, sp, pa, ro, ss, dp, rn, od, kd), (h1, h2, f1, f2), (on, bk, gv, kn, ws9, we9, wp9), ch), ((kyB, vlB, lfB, rtB, ctB, htB, ttB, spB, paB, roB, ssB, dpB, rnB, odB, kdB), (h3, h4, f3, f4), (on2, bk2, gv2, kn2, wsB, weB, wpB), ch2))) (xB D (wM2 ca kq a b) (va_A ((wKd kq) ++ (wMo a ch) ++ (wRg a (h1, h2, f1, f2)) ++ (wWk a (on, bk, gv, kn, ws9, we9, wp9)) ++ (wT ca kq a (ky, vl, lf, rt, ct, ht, tt, sp, pa, ro, ss, dp, rn, od, kd)) ++ (wMo b ch2) ++ (wRg b (h3, h4, f3, f4)) ++ (wWk b (on2, bk2, gv2, kn2, wsB, weB, wpB)) ++ (wT ca kq b (kyB, vlB, lfB, rtB, ctB, htB, ttB, spB, paB, roB, ssB, dpB, rnB, odB, kdB))) sz)) (va_A ((wKd kq) ++ (wMo a ch) ++ (wRg a (h1, h2, f1, f2)) ++ (wWk a (on, bk, gv, kn, ws9, we9, wp9)) ++ (wT ca kq a (ky, vl, lf, rt, ct, ht, tt, sp, pa, ro, ss, dp, rn, od, kd)) ++ (wMo b ch2) ++ (wRg b (h3, h4, f3, f4)) ++ (wWk b (on2, bk2, gv2, kn2, wsB, weB, wpB)) ++ (wT ca kq b (kyB, vlB, lfB, rtB, ctB, htB, ttB, spB, paB, roB, ssB, dpB, rnB, odB, kdB))) sz)) 0 0 (va_A ((wKd kq) ++ (wMo a ch) ++ (wRg a (h1, h2, f1, f2)) ++ (wWk a (on, bk, gv, kn, ws9, we9, wp9)) ++ (wT ca kq a (ky, vl, lf, rt, ct, ht, tt, sp, pa, ro, ss, dp, rn, od, kd)) ++ (wMo b ch2) ++ (wRg b (h3, h4, f3, f4)) ++ (wWk b (on2, bk2, gv2, kn2, wsB, weB, wpB)) ++ (wT ca kq b (kyB, vlB, lfB, rtB, ctB, htB, ttB, spB, paB, roB, ssB, dpB, rnB, odB, kdB))) sz) := by
  refine Met.ofW (cc := cX6_hasOrderOf) (maxL := 2) (ret := (some .boolean)) (by decide) rfl ?_
  intro p e s m args below meth c s₁ B hml hv
  obtain ⟨rfl, hsz, hP, hKN, hD0⟩ := hv
  have hx := B.exec
  have hb := B.bytes
  have hr := B.returns
  have hts := atoms_spec (ws := wsX6_hasOrderOf) B.pre
  have hown : s.vm.findClass RX6 = some m.cls := findClass_of_methodNamed B.named
  have hlocks := B.notSynchronized
  have inX6 : ∀ w ∈ wsX60, w ∈ wsX6_hasOrderOf := by decide +kernel
  have inX8 : ∀ w ∈ wsX80, w ∈ wsX6_hasOrderOf := by decide +kernel
  subst hsz
  have hD := hD0.self (sz := s.heap.size)
  generalize hAe : va_A ((wKd kq) ++ (wMo a ch) ++ (wRg a (h1, h2, f1, f2)) ++ (wWk a (on, bk, gv, kn, ws9, we9, wp9)) ++ (wT ca kq a (ky, vl, lf, rt, ct, ht, tt, sp, pa, ro, ss, dp, rn, od, kd)) ++ (wMo b ch2) ++ (wRg b (h3, h4, f3, f4)) ++ (wWk b (on2, bk2, gv2, kn2, wsB, weB, wpB)) ++ (wT ca kq b (kyB, vlB, lfB, rtB, ctB, htB, ttB, spB, paB, roB, ssB, dpB, rnB, odB, kdB))) s.heap.size = A at hD ⊢
  have hA : ∀ q : Nat, s.heap.size ≤ q → A q := fun q h => by rw [← hAe]; exact Or.inr h
  have hS : va_S A s.heap s.heap [] := va_S.rf
  have hl := lv_entry ([.ref (a 11), .ref (b 11)]) (n := 2) (Nat.le_of_ble_eq_true rfl)
  rw [lg_entry_eq]
  generalize (lg_sl ([.ref (a 11), .ref (b 11)]) ++ List.replicate (2 - (lg_sl ([.ref (a 11), .ref (b 11)])).length) Slot.unset).toArray = ls at hl ⊢
  have hl : lv_has ls 2 [(0, .ref (a 11)), (1, .ref (b 11))] := hl
  refine lv_aload_n hx hb dX6_hasOrderOf_0 rfl (lv_at hl 0 rfl) ?_
  refine va_get (D := D) (ci := 4) (v := .ref (a 0)) (C := RX6) (T := TX6) (N := 4) hx hb hts inX6 hown hKN.1 hP 4 rfl rfl 0 (by decide) (hts (.fieldLink RX6 14 "TreeFamily$OneMap" "tree" "LTreeFamily$Tree;") (by decide +kernel)) (fun _ h9 => h9) rfl dX6_hasOrderOf_1 ?_
  refine va_getN (D := D) (ci := 6) (v := .int od) (C := RX8) (T := TX8) (N := 15) hx hb hts inX8 hown hKN.1 hP 7 rfl rfl 13 (by decide) (va_Nw.use rfl (NW.f hKN.2 (a := RX6) (i := 103) (b := "TreeFamily$Tree") (n := "order") (d := "I") (g := "TreeFamily") (by decide +kernel))) (fun _ h9 => h9) rfl dX6_hasOrderOf_4 ?_
  refine lv_aload_n hx hb dX6_hasOrderOf_7 rfl (lv_at hl 1 rfl) ?_
  refine va_get (D := D) (ci := 4) (v := .ref (b 0)) (C := RX6) (T := TX6) (N := 4) hx hb hts inX6 hown hKN.1 hP 18 rfl rfl 0 (by decide) (hts (.fieldLink RX6 14 "TreeFamily$OneMap" "tree" "LTreeFamily$Tree;") (by decide +kernel)) (fun _ h9 => h9) rfl dX6_hasOrderOf_8 ?_
  refine va_getN (D := D) (ci := 6) (v := .int odB) (C := RX8) (T := TX8) (N := 15) hx hb hts inX8 hown hKN.1 hP 21 rfl rfl 13 (by decide) (va_Nw.use rfl (NW.f hKN.2 (a := RX6) (i := 103) (b := "TreeFamily$Tree") (n := "order") (d := "I") (g := "TreeFamily") (by decide +kernel))) (fun _ h9 => h9) rfl dX6_hasOrderOf_11 ?_
  refine lv_icmp_ne (tgt := 21) hx hb dX6_hasOrderOf_14 (by decide) (fun c14 => ?_) (fun c14 => ?_)
  · skip
    refine lv_iconst (v := 0) hx hb dX6_hasOrderOf_21 (by decide) ?_
    exact W.zret (v := 0) hx hb hr (by decide) (fun t9 e9 w9 => ⟨⟨_, (((ky, vl, lf, rt, ct, ht, tt, sp, pa, ro, ss, dp, rn, od, kd), (h1, h2, f1, f2), (on, bk, gv, kn, ws9, we9, wp9), ch), ((kyB, vlB, lfB, rtB, ctB, htB, ttB, spB, paB, roB, ssB, dpB, rnB, odB, kdB), (h3, h4, f3, f4), (on2, bk2, gv2, kn2, wsB, weB, wpB), ch2)), rfl, ⟨by first | exact bI_of (c := true) (if_pos c14) rfl | exact bI_of (c := false) (if_neg c14) rfl, rfl⟩, by rw [e9]; exact hP, hD⟩, hS.F e9⟩) hS.2.2 dX6_hasOrderOf_22
  · skip
    refine lv_iconst (v := 1) hx hb dX6_hasOrderOf_17 (by decide) ?_
    refine lv_goto (tgt := 22) hx hb dX6_hasOrderOf_18 (by decide) ?_
    exact W.zret (v := 1) hx hb hr (by decide) (fun t9 e9 w9 => ⟨⟨_, (((ky, vl, lf, rt, ct, ht, tt, sp, pa, ro, ss, dp, rn, od, kd), (h1, h2, f1, f2), (on, bk, gv, kn, ws9, we9, wp9), ch), ((kyB, vlB, lfB, rtB, ctB, htB, ttB, spB, paB, roB, ssB, dpB, rnB, odB, kdB), (h3, h4, f3, f4), (on2, bk2, gv2, kn2, wsB, weB, wpB), ch2)), rfl, ⟨by first | exact bI_of (c := true) (if_pos c14) rfl | exact bI_of (c := false) (if_neg c14) rfl, rfl⟩, by rw [e9]; exact hP, hD⟩, hS.F e9⟩) hS.2.2 dX6_hasOrderOf_22

-- OneMap.hasOrderOf
set_option maxHeartbeats 4000000 in
set_option maxRecDepth 100000 in
theorem c_X6_hasOrderOf_a (l : Launch) (D : va_G) (ca : Nat → ClassId) (kq a : Nat → Nat) (sz : Nat) (ky vl : Nat → Int32) (lf rt : Nat → Nat) (ct ht : Nat → Int32) (tt : Nat → Int64) (sp pa ro : Nat → Nat) (ss dp rn : Nat) (od : Int32) (kd : Nat) (h1 h2 : Bool) (f1 f2 : Int32) (on bk gv : Bool) (kn ws9 we9 wp9 : Int32) (ch : Int32) (hlf : ∀ k, lf k ≤ 60) (hrt : ∀ k, rt k ≤ 60) (hsp : ∀ k, sp k ≤ 60) (hpa : ∀ k, pa k ≤ 60) (hro : ∀ k, ro k ≤ 60) (hrn : rn ≤ 60) (hkd : kd < 4): Met l yX6_hasOrderOf wsX6_hasOrderOf ({ frames := 0, cells := 0, slots := 0, locals := 0 } : Room) (xPc D (TY ca) [.ref (a 11), .ref (a 11)] ((wKd kq) ++ (wMo a ch) ++ (wRg a (h1, h2, f1, f2)) ++ (wWk a (on, bk, gv, kn, ws9, we9, wp9)) ++ (wT ca kq a (ky, vl, lf, rt, ct, ht, tt, sp, pa, ro, ss, dp, rn, od, kd))) sz) (va_Qi (fun (r : Int32) (u : MS) => r = bI (if od = od then true else false) ∧ u = ((ky, vl, lf, rt, ct, ht, tt, sp, pa, ro, ss, dp, rn, od, kd), (h1, h2, f1, f2), (on, bk, gv, kn, ws9, we9, wp9), ch)) (xB D (wM ca kq a) (va_A ((wKd kq) ++ (wMo a ch) ++ (wRg a (h1, h2, f1, f2)) ++ (wWk a (on, bk, gv, kn, ws9, we9, wp9)) ++ (wT ca kq a (ky, vl, lf, rt, ct, ht, tt, sp, pa, ro, ss, dp, rn, od, kd))) sz)) (va_A ((wKd kq) ++ (wMo a ch) ++ (wRg a (h1, h2, f1, f2)) ++ (wWk a (on, bk, gv, kn, ws9, we9, wp9)) ++ (wT ca kq a (ky, vl, lf, rt, ct, ht, tt, sp, pa, ro, ss, dp, rn, od, kd))) sz)) 0 0 (va_A ((wKd kq) ++ (wMo a ch) ++ (wRg a (h1, h2, f1, f2)) ++ (wWk a (on, bk, gv, kn, ws9, we9, wp9)) ++ (wT ca kq a (ky, vl, lf, rt, ct, ht, tt, sp, pa, ro, ss, dp, rn, od, kd))) sz) := by
  refine Met.ofW (cc := cX6_hasOrderOf) (maxL := 2) (ret := (some .boolean)) (by decide) rfl ?_
  intro p e s m args below meth c s₁ B hml hv
  obtain ⟨rfl, hsz, hP, hKN, hD0⟩ := hv
  have hx := B.exec
  have hb := B.bytes
  have hr := B.returns
  have hts := atoms_spec (ws := wsX6_hasOrderOf) B.pre
  have hown : s.vm.findClass RX6 = some m.cls := findClass_of_methodNamed B.named
  have hlocks := B.notSynchronized
  have inX6 : ∀ w ∈ wsX60, w ∈ wsX6_hasOrderOf := by decide +kernel
  have inX8 : ∀ w ∈ wsX80, w ∈ wsX6_hasOrderOf := by decide +kernel
  subst hsz
  have hD := hD0.self (sz := s.heap.size)
  generalize hAe : va_A ((wKd kq) ++ (wMo a ch) ++ (wRg a (h1, h2, f1, f2)) ++ (wWk a (on, bk, gv, kn, ws9, we9, wp9)) ++ (wT ca kq a (ky, vl, lf, rt, ct, ht, tt, sp, pa, ro, ss, dp, rn, od, kd))) s.heap.size = A at hD ⊢
  have hA : ∀ q : Nat, s.heap.size ≤ q → A q := fun q h => by rw [← hAe]; exact Or.inr h
  have hS : va_S A s.heap s.heap [] := va_S.rf
  have hl := lv_entry ([.ref (a 11), .ref (a 11)]) (n := 2) (Nat.le_of_ble_eq_true rfl)
  rw [lg_entry_eq]
  generalize (lg_sl ([.ref (a 11), .ref (a 11)]) ++ List.replicate (2 - (lg_sl ([.ref (a 11), .ref (a 11)])).length) Slot.unset).toArray = ls at hl ⊢
  have hl : lv_has ls 2 [(0, .ref (a 11)), (1, .ref (a 11))] := hl
  refine lv_aload_n hx hb dX6_hasOrderOf_0 rfl (lv_at hl 0 rfl) ?_
  refine va_get (D := D) (ci := 4) (v := .ref (a 0)) (C := RX6) (T := TX6) (N := 4) hx hb hts inX6 hown hKN.1 hP 4 rfl rfl 0 (by decide) (hts (.fieldLink RX6 14 "TreeFamily$OneMap" "tree" "LTreeFamily$Tree;") (by decide +kernel)) (fun _ h9 => h9) rfl dX6_hasOrderOf_1 ?_
  refine va_getN (D := D) (ci := 6) (v := .int od) (C := RX8) (T := TX8) (N := 15) hx hb hts inX8 hown hKN.1 hP 7 rfl rfl 13 (by decide) (va_Nw.use rfl (NW.f hKN.2 (a := RX6) (i := 103) (b := "TreeFamily$Tree") (n := "order") (d := "I") (g := "TreeFamily") (by decide +kernel))) (fun _ h9 => h9) rfl dX6_hasOrderOf_4 ?_
  refine lv_aload_n hx hb dX6_hasOrderOf_7 rfl (lv_at hl 1 rfl) ?_
  refine va_get (D := D) (ci := 4) (v := .ref (a 0)) (C := RX6) (T := TX6) (N := 4) hx hb hts inX6 hown hKN.1 hP 4 rfl rfl 0 (by decide) (hts (.fieldLink RX6 14 "TreeFamily$OneMap" "tree" "LTreeFamily$Tree;") (by decide +kernel)) (fun _ h9 => h9) rfl dX6_hasOrderOf_8 ?_
  refine va_getN (D := D) (ci := 6) (v := .int od) (C := RX8) (T := TX8) (N := 15) hx hb hts inX8 hown hKN.1 hP 7 rfl rfl 13 (by decide) (va_Nw.use rfl (NW.f hKN.2 (a := RX6) (i := 103) (b := "TreeFamily$Tree") (n := "order") (d := "I") (g := "TreeFamily") (by decide +kernel))) (fun _ h9 => h9) rfl dX6_hasOrderOf_11 ?_
  refine lv_icmp_ne (tgt := 21) hx hb dX6_hasOrderOf_14 (by decide) (fun c14 => ?_) (fun c14 => ?_)
  · skip
    refine lv_iconst (v := 0) hx hb dX6_hasOrderOf_21 (by decide) ?_
    exact W.zret (v := 0) hx hb hr (by decide) (fun t9 e9 w9 => ⟨⟨_, ((ky, vl, lf, rt, ct, ht, tt, sp, pa, ro, ss, dp, rn, od, kd), (h1, h2, f1, f2), (on, bk, gv, kn, ws9, we9, wp9), ch), rfl, ⟨by first | exact bI_of (c := true) (if_pos c14) rfl | exact bI_of (c := false) (if_neg c14) rfl, rfl⟩, by rw [e9]; exact hP, hD⟩, hS.F e9⟩) hS.2.2 dX6_hasOrderOf_22
  · skip
    refine lv_iconst (v := 1) hx hb dX6_hasOrderOf_17 (by decide) ?_
    refine lv_goto (tgt := 22) hx hb dX6_hasOrderOf_18 (by decide) ?_
    exact W.zret (v := 1) hx hb hr (by decide) (fun t9 e9 w9 => ⟨⟨_, ((ky, vl, lf, rt, ct, ht, tt, sp, pa, ro, ss, dp, rn, od, kd), (h1, h2, f1, f2), (on, bk, gv, kn, ws9, we9, wp9), ch), rfl, ⟨by first | exact bI_of (c := true) (if_pos c14) rfl | exact bI_of (c := false) (if_neg c14) rfl, rfl⟩, by rw [e9]; exact hP, hD⟩, hS.F e9⟩) hS.2.2 dX6_hasOrderOf_22

-- OneMap.countMissing
set_option maxHeartbeats 4000000 in
set_option maxRecDepth 100000 in
theorem c_X6_countMissing (l : Launch) (D : va_G) (ca : Nat → ClassId) (kq a : Nat → Nat) (sz : Nat) (b : Nat → Nat) (ky vl : Nat → Int32) (lf rt : Nat → Nat) (ct ht : Nat → Int32) (tt : Nat → Int64) (sp pa ro : Nat → Nat) (ss dp rn : Nat) (od : Int32) (kd : Nat) (h1 h2 : Bool) (f1 f2 : Int32) (on bk gv : Bool) (kn ws9 we9 wp9 : Int32) (ch : Int32) (kyB vlB : Nat → Int32) (lfB rtB : Nat → Nat) (ctB htB : Nat → Int32) (ttB : Nat → Int64) (spB paB roB : Nat → Nat) (ssB dpB rnB : Nat) (odB : Int32) (kdB : Nat) (h3 h4 : Bool) (f3 f4 : Int32) (on2 bk2 gv2 : Bool) (kn2 wsB weB wpB : Int32) (ch2 : Int32) (c2 : Nat) (hlf : ∀ k, lf k ≤ 60) (hrt : ∀ k, rt k ≤ 60) (hsp : ∀ k, sp k ≤ 60) (hpa : ∀ k, pa k ≤ 60) (hro : ∀ k, ro k ≤ 60) (hrn : rn ≤ 60) (hkd : kd < 4) (hlfB : ∀ k, lfB k ≤ 60) (hrtB : ∀ k, rtB k ≤ 60) (hspB : ∀ k, spB k ≤ 60) (hpaB : ∀ k, paB k ≤ 60) (hroB : ∀ k, roB k ≤ 60) (hrnB : rnB ≤ 60) (hkdB : kdB < 4) (hcB : ctB rnB = nI c2) (hc2 : c2 ≤ 60): Met l yX6_countMissing wsX6_countMissing ({ frames := 3, cells := 0, slots := 0, locals := 66 } : Room) (xPc D (TY ca) [.ref (a 11), .ref (b 11)] ((wKd kq) ++ (wMo a ch) ++ (wRg a (h1, h2, f1, f2)) ++ (wWk a (on, bk, gv, kn, ws9, we9, wp9)) ++ (wT ca kq a (ky, vl, lf, rt, ct, ht, tt, sp, pa, ro, ss, dp, rn, od, kd)) ++ (wMo b ch2) ++ (wRg b (h3, h4, f3, f4)) ++ (wWk b (on2, bk2, gv2, kn2, wsB, weB, wpB)) ++ (wT ca kq b (kyB, vlB, lfB, rtB, ctB, htB, ttB, spB, paB, roB, ssB, dpB, rnB, odB, kdB))) sz) (va_Qi (fun (r : Int32) (u : M2) => r = nI (cm_go (kyB, vlB, lfB, rtB, ctB, htB, ttB, spB, paB, roB, ssB, dpB, rnB, odB, kdB) c2 0 (ky, vl, lf, rt, ct, ht, tt, sp, pa, ro, ss, dp, rn, od, kd) 0).1 ∧ u = (((cm_go (kyB, vlB, lfB, rtB, ctB, htB, ttB, spB, paB, roB, ssB, dpB, rnB, odB, kdB) c2 0 (ky, vl, lf, rt, ct, ht, tt, sp, pa, ro, ss, dp, rn, od, kd) 0).2, (h1, h2, f1, f2), (on, bk, gv, kn, ws9, we9, wp9), ch), ((kyB, vlB, lfB, rtB, ctB, htB, ttB, spB, paB, roB, ssB, dpB, rnB, odB, kdB), (h3, h4, f3, f4), (on2, bk2, gv2, kn2, wsB, weB, wpB), ch2))) (xB D (wM2 ca kq a b) (va_A ((wKd kq) ++ (wMo a ch) ++ (wRg a (h1, h2, f1, f2)) ++ (wWk a (on, bk, gv, kn, ws9, we9, wp9)) ++ (wT ca kq a (ky, vl, lf, rt, ct, ht, tt, sp, pa, ro, ss, dp, rn, od, kd)) ++ (wMo b ch2) ++ (wRg b (h3, h4, f3, f4)) ++ (wWk b (on2, bk2, gv2, kn2, wsB, weB, wpB)) ++ (wT ca kq b (kyB, vlB, lfB, rtB, ctB, htB, ttB, spB, paB, roB, ssB, dpB, rnB, odB, kdB))) sz)) (va_A ((wKd kq) ++ (wMo a ch) ++ (wRg a (h1, h2, f1, f2)) ++ (wWk a (on, bk, gv, kn, ws9, we9, wp9)) ++ (wT ca kq a (ky, vl, lf, rt, ct, ht, tt, sp, pa, ro, ss, dp, rn, od, kd)) ++ (wMo b ch2) ++ (wRg b (h3, h4, f3, f4)) ++ (wWk b (on2, bk2, gv2, kn2, wsB, weB, wpB)) ++ (wT ca kq b (kyB, vlB, lfB, rtB, ctB, htB, ttB, spB, paB, roB, ssB, dpB, rnB, odB, kdB))) sz)) 0 0 (va_A ((wKd kq) ++ (wMo a ch) ++ (wRg a (h1, h2, f1, f2)) ++ (wWk a (on, bk, gv, kn, ws9, we9, wp9)) ++ (wT ca kq a (ky, vl, lf, rt, ct, ht, tt, sp, pa, ro, ss, dp, rn, od, kd)) ++ (wMo b ch2) ++ (wRg b (h3, h4, f3, f4)) ++ (wWk b (on2, bk2, gv2, kn2, wsB, weB, wpB)) ++ (wT ca kq b (kyB, vlB, lfB, rtB, ctB, htB, ttB, spB, paB, roB, ssB, dpB, rnB, odB, kdB))) sz) := by
  refine Met.ofW (cc := cX6_countMissing) (maxL := 6) (ret := (some .int)) (by decide) rfl ?_
  intro p e s m args below meth c s₁ B hml hv
  obtain ⟨rfl, hsz, hP, hKN, hD0⟩ := hv
  have hx := B.exec
  have hb := B.bytes
  have hr := B.returns
  have hts := atoms_spec (ws := wsX6_countMissing) B.pre
  have hown : s.vm.findClass RX6 = some m.cls := findClass_of_methodNamed B.named
  have hlocks := B.notSynchronized
  have inX6 : ∀ w ∈ wsX60, w ∈ wsX6_countMissing := by decide +kernel
  have inX8 : ∀ w ∈ wsX80, w ∈ wsX6_countMissing := by decide +kernel
  subst hsz
  have hD := hD0.self (sz := s.heap.size)
  generalize hAe : va_A ((wKd kq) ++ (wMo a ch) ++ (wRg a (h1, h2, f1, f2)) ++ (wWk a (on, bk, gv, kn, ws9, we9, wp9)) ++ (wT ca kq a (ky, vl, lf, rt, ct, ht, tt, sp, pa, ro, ss, dp, rn, od, kd)) ++ (wMo b ch2) ++ (wRg b (h3, h4, f3, f4)) ++ (wWk b (on2, bk2, gv2, kn2, wsB, weB, wpB)) ++ (wT ca kq b (kyB, vlB, lfB, rtB, ctB, htB, ttB, spB, paB, roB, ssB, dpB, rnB, odB, kdB))) s.heap.size = A at hD ⊢
  have hA : ∀ q : Nat, s.heap.size ≤ q → A q := fun q h => by rw [← hAe]; exact Or.inr h
  have hS : va_S A s.heap s.heap [] := va_S.rf
  have hl := lv_entry ([.ref (a 11), .ref (b 11)]) (n := 6) (Nat.le_of_ble_eq_true rfl)
  rw [lg_entry_eq]
  generalize (lg_sl ([.ref (a 11), .ref (b 11)]) ++ List.replicate (6 - (lg_sl ([.ref (a 11), .ref (b 11)])).length) Slot.unset).toArray = ls at hl ⊢
  have hl : lv_has ls 6 [(0, .ref (a 11)), (1, .ref (b 11))] := hl
  refine lv_iconst (v := 0) hx hb dX6_countMissing_0 (by decide) ?_
  refine lv_istore_n (lv' := [(2, .int 0), (0, .ref (a 11)), (1, .ref (b 11))]) hx hb dX6_countMissing_1 rfl hl (by decide) rfl (fun ls hl => ?_)
  refine lv_aload_n hx hb dX6_countMissing_2 rfl (lv_at hl 2 rfl) ?_
  refine xc_i (wr := (wMo a ch) ++ (wRg a (h1, h2, f1, f2)) ++ (wWk a (on, bk, gv, kn, ws9, we9, wp9)) ++ (wT ca kq a (ky, vl, lf, rt, ct, ht, tt, sp, pa, ro, ss, dp, rn, od, kd))) (va_runV (As := []) (rest := []) ⟨hx, hb, hml, hown, hts⟩ (c_X6_entryCount l D ca kq b _ kyB vlB lfB rtB ctB htB ttB spB paB roB ssB dpB rnB odB kdB h3 h4 f3 f4 on2 bk2 gv2 kn2 wsB weB wpB ch2 hlfB hrtB hspB hpaB hroB hrnB hkdB) (cwV 0 hts gX6_countMissing_X6_entryCount rfl rfl rfl (by decide +kernel) ⟨(Nat.le_of_ble_eq_true rfl), (Nat.le_of_ble_eq_true rfl)⟩) (xPreV hKN hP hD [0, 1, 2, 3, 18, 19, 20, 21, 22, 23, 24, 25, 26, 27, 28, 29, 30, 31] (by decide) rfl (q0 := 18) rfl rfl rfl) rfl rfl hl.1 rfl (lv_room (Nat.le_of_ble_eq_true rfl)) dX6_countMissing_3 ⟨(Nat.le_of_ble_eq_true rfl), (Nat.le_of_ble_eq_true rfl)⟩) hP hD hS hA [0, 1, 2, 3, 18, 19, 20, 21, 22, 23, 24, 25, 26, 27, 28, 29, 30, 31] [4, 5, 6, 7, 8, 9, 10, 11, 12, 13, 14, 15, 16, 17] rfl rfl (by decide) (by decide) (fun r3 u3 H locs hu3 hP hD hS => ?_)
  obtain ⟨er3, eu3⟩ := hu3
  subst er3
  subst eu3
  have hP : va_P D vwCl ((wKd kq) ++ (wMo a ch) ++ (wRg a (h1, h2, f1, f2)) ++ (wWk a (on, bk, gv, kn, ws9, we9, wp9)) ++ (wT ca kq a (ky, vl, lf, rt, ct, ht, tt, sp, pa, ro, ss, dp, rn, od, kd)) ++ (wMo b ch2) ++ (wRg b (h3, h4, f3, f4)) ++ (wWk b (on2, bk2, gv2, kn2, wsB, weB, wpB)) ++ (wT ca kq b (kyB, vlB, lfB, rtB, ctB, htB, ttB, spB, paB, roB, ssB, dpB, rnB, odB, kdB))) H := hP.sub (ws' := (wKd kq) ++ (wMo a ch) ++ (wRg a (h1, h2, f1, f2)) ++ (wWk a (on, bk, gv, kn, ws9, we9, wp9)) ++ (wT ca kq a (ky, vl, lf, rt, ct, ht, tt, sp, pa, ro, ss, dp, rn, od, kd)) ++ (wMo b ch2) ++ (wRg b (h3, h4, f3, f4)) ++ (wWk b (on2, bk2, gv2, kn2, wsB, weB, wpB)) ++ (wT ca kq b (kyB, vlB, lfB, rtB, ctB, htB, ttB, spB, paB, roB, ssB, dpB, rnB, odB, kdB))) [14, 15, 16, 17, 0, 1, 2, 3, 4, 5, 6, 7, 8, 9, 10, 11, 12, 13, 18, 19, 20, 21, 22, 23, 24, 25, 26, 27, 28, 29, 30, 31] rfl
  have hD : va_D A ((wKd kq) ++ (wMo a ch) ++ (wRg a (h1, h2, f1, f2)) ++ (wWk a (on, bk, gv, kn, ws9, we9, wp9)) ++ (wT ca kq a (ky, vl, lf, rt, ct, ht, tt, sp, pa, ro, ss, dp, rn, od, kd)) ++ (wMo b ch2) ++ (wRg b (h3, h4, f3, f4)) ++ (wWk b (on2, bk2, gv2, kn2, wsB, weB, wpB)) ++ (wT ca kq b (kyB, vlB, lfB, rtB, ctB, htB, ttB, spB, paB, roB, ssB, dpB, rnB, odB, kdB))) := hD.sub (ws' := (wKd kq) ++ (wMo a ch) ++ (wRg a (h1, h2, f1, f2)) ++ (wWk a (on, bk, gv, kn, ws9, we9, wp9)) ++ (wT ca kq a (ky, vl, lf, rt, ct, ht, tt, sp, pa, ro, ss, dp, rn, od, kd)) ++ (wMo b ch2) ++ (wRg b (h3, h4, f3, f4)) ++ (wWk b (on2, bk2, gv2, kn2, wsB, weB, wpB)) ++ (wT ca kq b (kyB, vlB, lfB, rtB, ctB, htB, ttB, spB, paB, roB, ssB, dpB, rnB, odB, kdB))) [14, 15, 16, 17, 0, 1, 2, 3, 4, 5, 6, 7, 8, 9, 10, 11, 12, 13, 18, 19, 20, 21, 22, 23, 24, 25, 26, 27, 28, 29, 30, 31] (by decide) rfl
  refine xr_top (y := nI c2) hcB ?_
  refine lv_istore_n (lv' := [(3, .int (nI c2)), (2, .int 0), (0, .ref (a 11)), (1, .ref (b 11))]) hx hb dX6_countMissing_6 rfl hl (by decide) rfl (fun ls hl => ?_)
  refine lv_iconst (v := 0) hx hb dX6_countMissing_7 (by decide) ?_
  refine lv_istore (lv' := [(4, .int 0), (3, .int (nI c2)), (2, .int 0), (0, .ref (a 11)), (1, .ref (b 11))]) hx hb dX6_countMissing_8 hl (by decide) rfl (fun ls hl => ?_)
  refine xl 10 (σ := Nat × Nat × TS) (fun n u H locs ls => match u with | (i, k, ky9, vl9, lf9, rt9, ct9, ht9, tt9, sp9, pa9, ro9, ss9, dp9, rn9, od9, kd9) => i + n = c2 ∧ k ≤ i ∧ (∀ k, lf9 k ≤ 60) ∧ (∀ k, rt9 k ≤ 60) ∧ (∀ k, sp9 k ≤ 60) ∧ (∀ k, pa9 k ≤ 60) ∧ (∀ k, ro9 k ≤ 60) ∧ rn9 ≤ 60 ∧ kd9 < 4 ∧ cm_go (kyB, vlB, lfB, rtB, ctB, htB, ttB, spB, paB, roB, ssB, dpB, rnB, odB, kdB) c2 0 (ky, vl, lf, rt, ct, ht, tt, sp, pa, ro, ss, dp, rn, od, kd) 0 = cm_go (kyB, vlB, lfB, rtB, ctB, htB, ttB, spB, paB, roB, ssB, dpB, rnB, odB, kdB) n i (ky9, vl9, lf9, rt9, ct9, ht9, tt9, sp9, pa9, ro9, ss9, dp9, rn9, od9, kd9) k ∧ va_P D vwCl ((wKd kq) ++ (wMo a ch) ++ (wRg a (h1, h2, f1, f2)) ++ (wWk a (on, bk, gv, kn, ws9, we9, wp9)) ++ (wT ca kq a (ky9, vl9, lf9, rt9, ct9, ht9, tt9, sp9, pa9, ro9, ss9, dp9, rn9, od9, kd9)) ++ (wMo b ch2) ++ (wRg b (h3, h4, f3, f4)) ++ (wWk b (on2, bk2, gv2, kn2, wsB, weB, wpB)) ++ (wT ca kq b (kyB, vlB, lfB, rtB, ctB, htB, ttB, spB, paB, roB, ssB, dpB, rnB, odB, kdB))) H ∧ va_D A ((wKd kq) ++ (wMo a ch) ++ (wRg a (h1, h2, f1, f2)) ++ (wWk a (on, bk, gv, kn, ws9, we9, wp9)) ++ (wT ca kq a (ky9, vl9, lf9, rt9, ct9, ht9, tt9, sp9, pa9, ro9, ss9, dp9, rn9, od9, kd9)) ++ (wMo b ch2) ++ (wRg b (h3, h4, f3, f4)) ++ (wWk b (on2, bk2, gv2, kn2, wsB, weB, wpB)) ++ (wT ca kq b (kyB, vlB, lfB, rtB, ctB, htB, ttB, spB, paB, roB, ssB, dpB, rnB, odB, kdB))) ∧ va_S A s.heap H locs ∧ lv_has ls 6 [(0, .ref (a 11)), (1, .ref (b 11)), (2, .int (nI k)), (3, .int (nI c2)), (4, .int (nI i))]) ?_ c2 (0, 0, (ky, vl, lf, rt, ct, ht, tt, sp, pa, ro, ss, dp, rn, od, kd)) _ _ _ ⟨(by omega), (Nat.le_refl _), hlf, hrt, hsp, hpa, hro, hrn, hkd, rfl, hP, hD, hS, lv_sub hl [3, 4, 2, 1, 0] rfl⟩
  clear hP hD hS hl
  intro n ih u H locs ls hI
  obtain ⟨i, k, ky9, vl9, lf9, rt9, ct9, ht9, tt9, sp9, pa9, ro9, ss9, dp9, rn9, od9, kd9⟩ := u
  obtain ⟨hn, hk9, hlf9, hrt9, hsp9, hpa9, hro9, hrn9, hkd9, hg, hP, hD, hS, hl⟩ := hI
  refine lv_iload hx hb dX6_countMissing_10 (lv_at hl 4 rfl) ?_
  refine lv_iload_n hx hb dX6_countMissing_12 rfl (lv_at hl 3 rfl) ?_
  refine lv_icmp_ge (tgt := 63) hx hb dX6_countMissing_13 (by decide) (fun c13 => ?_) (fun c13 => ?_)
  · skip
    have c13 : c2 ≤ i := (xn_le (a := c2) (b := i) (Nat.lt_of_le_of_lt hc2 (by decide)) (by omega)).mp c13
    refine lv_iload_n hx hb dX6_countMissing_63 rfl (lv_at hl 2 rfl) ?_
    exact W.iret (v := (nI k)) hx hb hr (fun t9 e9 w9 => ⟨⟨_, (((ky9, vl9, lf9, rt9, ct9, ht9, tt9, sp9, pa9, ro9, ss9, dp9, rn9, od9, kd9), (h1, h2, f1, f2), (on, bk, gv, kn, ws9, we9, wp9), ch), ((kyB, vlB, lfB, rtB, ctB, htB, ttB, spB, paB, roB, ssB, dpB, rnB, odB, kdB), (h3, h4, f3, f4), (on2, bk2, gv2, kn2, wsB, weB, wpB), ch2)), rfl, by obtain rfl : n = 0 := (by omega); have h9 : cm_go (kyB, vlB, lfB, rtB, ctB, htB, ttB, spB, paB, roB, ssB, dpB, rnB, odB, kdB) c2 0 (ky, vl, lf, rt, ct, ht, tt, sp, pa, ro, ss, dp, rn, od, kd) 0 = (k, (ky9, vl9, lf9, rt9, ct9, ht9, tt9, sp9, pa9, ro9, ss9, dp9, rn9, od9, kd9)) := hg; rw [h9]; exact ⟨rfl, rfl⟩, by rw [e9]; exact hP, hD⟩, hS.F e9⟩) hS.2.2 dX6_countMissing_64
  · skip
    have c13 : ¬ c2 ≤ i := fun h9 => c13 ((xn_le (a := c2) (b := i) (Nat.lt_of_le_of_lt hc2 (by decide)) (by omega)).mpr h9)
    obtain ⟨n, rfl⟩ : ∃ k, n = k + 1 := ⟨n - 1, by omega⟩
    refine lv_aload_n hx hb dX6_countMissing_16 rfl (lv_at hl 1 rfl) ?_
    refine va_get (D := D) (ci := 4) (v := .ref (b 0)) (C := RX6) (T := TX6) (N := 4) hx hb hts inX6 hown hKN.1 hP 18 rfl rfl 0 (by decide) (hts (.fieldLink RX6 14 "TreeFamily$OneMap" "tree" "LTreeFamily$Tree;") (by decide +kernel)) (fun _ h9 => h9) rfl dX6_countMissing_17 ?_
    refine lv_aload_n hx hb dX6_countMissing_20 rfl (lv_at hl 1 rfl) ?_
    refine va_get (D := D) (ci := 4) (v := .ref (b 0)) (C := RX6) (T := TX6) (N := 4) hx hb hts inX6 hown hKN.1 hP 18 rfl rfl 0 (by decide) (hts (.fieldLink RX6 14 "TreeFamily$OneMap" "tree" "LTreeFamily$Tree;") (by decide +kernel)) (fun _ h9 => h9) rfl dX6_countMissing_21 ?_
    refine va_getN (D := D) (ci := 6) (v := .int (nI rnB)) (C := RX8) (T := TX8) (N := 15) hx hb hts inX8 hown hKN.1 hP 21 rfl rfl 12 (by decide) (va_Nw.use rfl (NW.f hKN.2 (a := RX6) (i := 81) (b := "TreeFamily$Tree") (n := "root") (d := "I") (g := "TreeFamily") (by decide +kernel))) (fun _ h9 => h9) rfl dX6_countMissing_24 ?_
    refine lv_iload hx hb dX6_countMissing_27 (lv_at hl 4 rfl) ?_
    refine xc_i (wr := (wKd kq) ++ (wMo a ch) ++ (wRg a (h1, h2, f1, f2)) ++ (wWk a (on, bk, gv, kn, ws9, we9, wp9)) ++ (wT ca kq a (ky9, vl9, lf9, rt9, ct9, ht9, tt9, sp9, pa9, ro9, ss9, dp9, rn9, od9, kd9)) ++ (wMo b ch2) ++ (wRg b (h3, h4, f3, f4)) ++ (wWk b (on2, bk2, gv2, kn2, wsB, weB, wpB))) (va_runV (As := [.int (nI rnB), .int (nI i)]) (rest := []) ⟨hx, hb, hml, hown, hts⟩ (c_X8_nodeAt l D ca kq b _ kyB vlB lfB rtB ctB htB ttB spB paB roB ssB dpB rnB odB kdB rnB (nI i) hlfB hrtB hspB hpaB hroB hrnB hrnB) (cwV 2 hts gX6_countMissing_X8_nodeAt rfl rfl rfl (by decide +kernel) ⟨(Nat.le_of_ble_eq_true rfl), (Nat.le_of_ble_eq_true rfl)⟩) (xPreV hKN hP hD [21, 22, 23, 24, 25, 26, 27, 28, 29, 30, 31] (by decide) rfl (q0 := 21) rfl rfl rfl) rfl rfl hl.1 rfl (lv_room (Nat.le_of_ble_eq_true rfl)) dX6_countMissing_29 ⟨(Nat.le_of_ble_eq_true rfl), (Nat.le_of_ble_eq_true rfl)⟩) hP hD hS hA [21, 22, 23, 24, 25, 26, 27, 28, 29, 30, 31] [0, 1, 2, 3, 4, 5, 6, 7, 8, 9, 10, 11, 12, 13, 14, 15, 16, 17, 18, 19, 20] rfl rfl (by decide) (by decide) (fun r29 u29 H locs hu29 hP hD hS => ?_)
    obtain ⟨er29, eu29⟩ := hu29
    subst er29
    subst eu29
    have hP : va_P D vwCl ((wKd kq) ++ (wMo a ch) ++ (wRg a (h1, h2, f1, f2)) ++ (wWk a (on, bk, gv, kn, ws9, we9, wp9)) ++ (wT ca kq a (ky9, vl9, lf9, rt9, ct9, ht9, tt9, sp9, pa9, ro9, ss9, dp9, rn9, od9, kd9)) ++ (wMo b ch2) ++ (wRg b (h3, h4, f3, f4)) ++ (wWk b (on2, bk2, gv2, kn2, wsB, weB, wpB)) ++ (wT ca kq b (kyB, vlB, lfB, rtB, ctB, htB, ttB, spB, paB, roB, ssB, dpB, rnB, odB, kdB))) H := hP
    have hD : va_D A ((wKd kq) ++ (wMo a ch) ++ (wRg a (h1, h2, f1, f2)) ++ (wWk a (on, bk, gv, kn, ws9, we9, wp9)) ++ (wT ca kq a (ky9, vl9, lf9, rt9, ct9, ht9, tt9, sp9, pa9, ro9, ss9, dp9, rn9, od9, kd9)) ++ (wMo b ch2) ++ (wRg b (h3, h4, f3, f4)) ++ (wWk b (on2, bk2, gv2, kn2, wsB, weB, wpB)) ++ (wT ca kq b (kyB, vlB, lfB, rtB, ctB, htB, ttB, spB, paB, roB, ssB, dpB, rnB, odB, kdB))) := hD
    refine lv_istore (lv' := [(5, .int (nI (f_nodeAt (kyB, vlB, lfB, rtB, ctB, htB, ttB, spB, paB, roB, ssB, dpB, rnB, odB, kdB) rnB (nI i)))), (0, .ref (a 11)), (1, .ref (b 11)), (2, .int (nI k)), (3, .int (nI c2)), (4, .int (nI i))]) hx hb dX6_countMissing_32 hl (by decide) rfl (fun ls hl => ?_)
    refine lv_aload_n hx hb dX6_countMissing_34 rfl (lv_at hl 1 rfl) ?_
    refine va_get (D := D) (ci := 4) (v := .ref (a 0)) (C := RX6) (T := TX6) (N := 4) hx hb hts inX6 hown hKN.1 hP 4 rfl rfl 0 (by decide) (hts (.fieldLink RX6 14 "TreeFamily$OneMap" "tree" "LTreeFamily$Tree;") (by decide +kernel)) (fun _ h9 => h9) rfl dX6_countMissing_35 ?_
    refine lv_aload_n hx hb dX6_countMissing_38 rfl (lv_at hl 2 rfl) ?_
    refine va_get (D := D) (ci := 4) (v := .ref (b 0)) (C := RX6) (T := TX6) (N := 4) hx hb hts inX6 hown hKN.1 hP 18 rfl rfl 0 (by decide) (hts (.fieldLink RX6 14 "TreeFamily$OneMap" "tree" "LTreeFamily$Tree;") (by decide +kernel)) (fun _ h9 => h9) rfl dX6_countMissing_39 ?_
    refine va_getN (D := D) (ci := 6) (v := .ref (b 1)) (C := RX8) (T := TX8) (N := 15) hx hb hts inX8 hown hKN.1 hP 21 rfl rfl 0 (by decide) (va_Nw.use rfl (NW.f hKN.2 (a := RX6) (i := 90) (b := "TreeFamily$Tree") (n := "keys") (d := "[I") (g := "TreeFamily") (by decide +kernel))) (fun _ h9 => h9) rfl dX6_countMissing_42 ?_
    refine lv_iload hx hb dX6_countMissing_45 (lv_at hl 0 rfl) ?_
    refine xr_ild hx hb hKN.1 hP 22 0 rfl rfl (j := f_nodeAt (kyB, vlB, lfB, rtB, ctB, htB, ttB, spB, paB, roB, ssB, dpB, rnB, odB, kdB) rnB (nI i)) (Nat.lt_of_le_of_lt (wf_nodeAt (⟨hlfB, hrtB, hspB, hpaB, hroB, hrnB, hkdB⟩ : WF (kyB, vlB, lfB, rtB, ctB, htB, ttB, spB, paB, roB, ssB, dpB, rnB, odB, kdB)) hrnB _) (by decide)) (by decide) dX6_countMissing_47 ?_
    refine xc_i (wr := (wKd kq) ++ (wMo a ch) ++ (wRg a (h1, h2, f1, f2)) ++ (wWk a (on, bk, gv, kn, ws9, we9, wp9)) ++ (wMo b ch2) ++ (wRg b (h3, h4, f3, f4)) ++ (wWk b (on2, bk2, gv2, kn2, wsB, weB, wpB)) ++ (wT ca kq b (kyB, vlB, lfB, rtB, ctB, htB, ttB, spB, paB, roB, ssB, dpB, rnB, odB, kdB))) (va_runV (As := [.int (kyB (f_nodeAt (kyB, vlB, lfB, rtB, ctB, htB, ttB, spB, paB, roB, ssB, dpB, rnB, odB, kdB) rnB (nI i)))]) (rest := []) ⟨hx, hb, hml, hown, hts⟩ (c_X8_trace l D ca kq a _ ky9 vl9 lf9 rt9 ct9 ht9 tt9 sp9 pa9 ro9 ss9 dp9 rn9 od9 kd9 (kyB (f_nodeAt (kyB, vlB, lfB, rtB, ctB, htB, ttB, spB, paB, roB, ssB, dpB, rnB, odB, kdB) rnB (nI i))) hlf9 hrt9 hsp9 hpa9 hro9 hrn9) (cwV 1 hts gX6_countMissing_X8_trace rfl rfl rfl (by decide +kernel) ⟨(Nat.le_of_ble_eq_true rfl), (Nat.le_of_ble_eq_true rfl)⟩) (xPreV hKN hP hD [7, 8, 9, 10, 11, 12, 13, 14, 15, 16, 17] (by decide) rfl (q0 := 7) rfl rfl rfl) rfl rfl hl.1 rfl (lv_room (Nat.le_of_ble_eq_true rfl)) dX6_countMissing_48 ⟨(Nat.le_of_ble_eq_true rfl), (Nat.le_of_ble_eq_true rfl)⟩) hP hD hS hA [7, 8, 9, 10, 11, 12, 13, 14, 15, 16, 17] [0, 1, 2, 3, 4, 5, 6, 18, 19, 20, 21, 22, 23, 24, 25, 26, 27, 28, 29, 30, 31] rfl rfl (by decide) (by decide) (fun r48 u48 H locs hu48 hP hD hS => ?_)
    obtain ⟨er48, eu48⟩ := hu48
    obtain ⟨y48, ey48⟩ : ∃ z, z = (f_trace (ky9, vl9, lf9, rt9, ct9, ht9, tt9, sp9, pa9, ro9, ss9, dp9, rn9, od9, kd9) (kyB (f_nodeAt (kyB, vlB, lfB, rtB, ctB, htB, ttB, spB, paB, roB, ssB, dpB, rnB, odB, kdB) rnB (nI i)))).1 := ⟨_, rfl⟩
    rw [← ey48] at er48
    subst er48
    have hy48 : y48 ≤ 60 := by rw [ey48]; exact (wf_trace (⟨hlf9, hrt9, hsp9, hpa9, hro9, hrn9, hkd9⟩ : WF (ky9, vl9, lf9, rt9, ct9, ht9, tt9, sp9, pa9, ro9, ss9, dp9, rn9, od9, kd9)) (kyB (f_nodeAt (kyB, vlB, lfB, rtB, ctB, htB, ttB, spB, paB, roB, ssB, dpB, rnB, odB, kdB) rnB (nI i)))).1
    obtain ⟨ky_48, vl_48, lf_48, rt_48, ct_48, ht_48, tt_48, sp_48, pa_48, ro_48, ss_48, dp_48, rn_48, od_48, kd_48⟩ := u48
    obtain ⟨hlf_48, hrt_48, hsp_48, hpa_48, hro_48, hrn_48, hkd_48⟩ : WF (ky_48, vl_48, lf_48, rt_48, ct_48, ht_48, tt_48, sp_48, pa_48, ro_48, ss_48, dp_48, rn_48, od_48, kd_48) := by rw [eu48]; exact (wf_trace (⟨hlf9, hrt9, hsp9, hpa9, hro9, hrn9, hkd9⟩ : WF (ky9, vl9, lf9, rt9, ct9, ht9, tt9, sp9, pa9, ro9, ss9, dp9, rn9, od9, kd9)) (kyB (f_nodeAt (kyB, vlB, lfB, rtB, ctB, htB, ttB, spB, paB, roB, ssB, dpB, rnB, odB, kdB) rnB (nI i)))).2
    have hP : va_P D vwCl ((wKd kq) ++ (wMo a ch) ++ (wRg a (h1, h2, f1, f2)) ++ (wWk a (on, bk, gv, kn, ws9, we9, wp9)) ++ (wT ca kq a (ky_48, vl_48, lf_48, rt_48, ct_48, ht_48, tt_48, sp_48, pa_48, ro_48, ss_48, dp_48, rn_48, od_48, kd_48)) ++ (wMo b ch2) ++ (wRg b (h3, h4, f3, f4)) ++ (wWk b (on2, bk2, gv2, kn2, wsB, weB, wpB)) ++ (wT ca kq b (kyB, vlB, lfB, rtB, ctB, htB, ttB, spB, paB, roB, ssB, dpB, rnB, odB, kdB))) H := hP.sub (ws' := (wKd kq) ++ (wMo a ch) ++ (wRg a (h1, h2, f1, f2)) ++ (wWk a (on, bk, gv, kn, ws9, we9, wp9)) ++ (wT ca kq a (ky_48, vl_48, lf_48, rt_48, ct_48, ht_48, tt_48, sp_48, pa_48, ro_48, ss_48, dp_48, rn_48, od_48, kd_48)) ++ (wMo b ch2) ++ (wRg b (h3, h4, f3, f4)) ++ (wWk b (on2, bk2, gv2, kn2, wsB, weB, wpB)) ++ (wT ca kq b (kyB, vlB, lfB, rtB, ctB, htB, ttB, spB, paB, roB, ssB, dpB, rnB, odB, kdB))) [0, 1, 2, 3, 4, 5, 6, 21, 22, 23, 24, 25, 26, 27, 28, 29, 30, 31, 7, 8, 9, 10, 11, 12, 13, 14, 15, 16, 17, 18, 19, 20] rfl
    have hD : va_D A ((wKd kq) ++ (wMo a ch) ++ (wRg a (h1, h2, f1, f2)) ++ (wWk a (on, bk, gv, kn, ws9, we9, wp9)) ++ (wT ca kq a (ky_48, vl_48, lf_48, rt_48, ct_48, ht_48, tt_48, sp_48, pa_48, ro_48, ss_48, dp_48, rn_48, od_48, kd_48)) ++ (wMo b ch2) ++ (wRg b (h3, h4, f3, f4)) ++ (wWk b (on2, bk2, gv2, kn2, wsB, weB, wpB)) ++ (wT ca kq b (kyB, vlB, lfB, rtB, ctB, htB, ttB, spB, paB, roB, ssB, dpB, rnB, odB, kdB))) := hD.sub (ws' := (wKd kq) ++ (wMo a ch) ++ (wRg a (h1, h2, f1, f2)) ++ (wWk a (on, bk, gv, kn, ws9, we9, wp9)) ++ (wT ca kq a (ky_48, vl_48, lf_48, rt_48, ct_48, ht_48, tt_48, sp_48, pa_48, ro_48, ss_48, dp_48, rn_48, od_48, kd_48)) ++ (wMo b ch2) ++ (wRg b (h3, h4, f3, f4)) ++ (wWk b (on2, bk2, gv2, kn2, wsB, weB, wpB)) ++ (wT ca kq b (kyB, vlB, lfB, rtB, ctB, htB, ttB, spB, paB, roB, ssB, dpB, rnB, odB, kdB))) [0, 1, 2, 3, 4, 5, 6, 21, 22, 23, 24, 25, 26, 27, 28, 29, 30, 31, 7, 8, 9, 10, 11, 12, 13, 14, 15, 16, 17, 18, 19, 20] (by decide) rfl
    refine lv_if_ne (tgt := 57) hx hb dX6_countMissing_51 (by decide) (fun c51 => ?_) (fun c51 => ?_)
    · skip
      have c51 : ¬ y48 = 0 := fun h9 => c51 ((xn_eq (a := y48) (b := 0) (Nat.lt_of_le_of_lt hy48 (by decide)) (by decide)).mpr h9)
      refine lv_iinc (v := (nI (i + 1))) (lv' := [(4, .int (nI (i + 1))), (5, .int (nI (f_nodeAt (kyB, vlB, lfB, rtB, ctB, htB, ttB, spB, paB, roB, ssB, dpB, rnB, odB, kdB) rnB (nI i)))), (0, .ref (a 11)), (1, .ref (b 11)), (2, .int (nI k)), (3, .int (nI c2))]) hx hb dX6_countMissing_57 hl (k := 5) rfl (nI_1 _) (by decide) rfl (fun ls hl => ?_)
      refine lv_goto (tgt := 10) hx hb dX6_countMissing_60 (by decide) ?_
      exact ih n (by omega) (i + 1, k, (ky_48, vl_48, lf_48, rt_48, ct_48, ht_48, tt_48, sp_48, pa_48, ro_48, ss_48, dp_48, rn_48, od_48, kd_48)) _ _ _ ⟨(by omega), (by omega), hlf_48, hrt_48, hsp_48, hpa_48, hro_48, hrn_48, hkd_48, hg.trans (by rw [cm_go, ← eu48, ← ey48]; first | rw [if_pos c51] | rw [if_neg c51]), hP, hD, hS, lv_sub hl [2, 3, 4, 5, 0] rfl⟩
    · skip
      have c51 : y48 = 0 := (xn_eq (a := y48) (b := 0) (Nat.lt_of_le_of_lt hy48 (by decide)) (by decide)).mp c51
      refine lv_iinc (v := (nI (k + 1))) (lv' := [(2, .int (nI (k + 1))), (5, .int (nI (f_nodeAt (kyB, vlB, lfB, rtB, ctB, htB, ttB, spB, paB, roB, ssB, dpB, rnB, odB, kdB) rnB (nI i)))), (0, .ref (a 11)), (1, .ref (b 11)), (3, .int (nI c2)), (4, .int (nI i))]) hx hb dX6_countMissing_54 hl (k := 3) rfl (nI_1 _) (by decide) rfl (fun ls hl => ?_)
      refine lv_iinc (v := (nI (i + 1))) (lv' := [(4, .int (nI (i + 1))), (2, .int (nI (k + 1))), (5, .int (nI (f_nodeAt (kyB, vlB, lfB, rtB, ctB, htB, ttB, spB, paB, roB, ssB, dpB, rnB, odB, kdB) rnB (nI i)))), (0, .ref (a 11)), (1, .ref (b 11)), (3, .int (nI c2))]) hx hb dX6_countMissing_57 hl (k := 5) rfl (nI_1 _) (by decide) rfl (fun ls hl => ?_)
      refine lv_goto (tgt := 10) hx hb dX6_countMissing_60 (by decide) ?_
      exact ih n (by omega) (i + 1, k + 1, (ky_48, vl_48, lf_48, rt_48, ct_48, ht_48, tt_48, sp_48, pa_48, ro_48, ss_48, dp_48, rn_48, od_48, kd_48)) _ _ _ ⟨(by omega), (by omega), hlf_48, hrt_48, hsp_48, hpa_48, hro_48, hrn_48, hkd_48, hg.trans (by rw [cm_go, ← eu48, ← ey48]; first | rw [if_pos c51] | rw [if_neg c51]), hP, hD, hS, lv_sub hl [3, 4, 1, 5, 0] rfl⟩

-- OneMap.countMissing
set_option maxHeartbeats 4000000 in
set_option maxRecDepth 100000 in
theorem c_X6_countMissing_a (l : Launch) (D : va_G) (ca : Nat → ClassId) (kq a : Nat → Nat) (sz : Nat) (ky vl : Nat → Int32) (lf rt : Nat → Nat) (ct ht : Nat → Int32) (tt : Nat → Int64) (sp pa ro : Nat → Nat) (ss dp rn : Nat) (od : Int32) (kd : Nat) (h1 h2 : Bool) (f1 f2 : Int32) (on bk gv : Bool) (kn ws9 we9 wp9 : Int32) (ch : Int32) (c2 : Nat) (hlf : ∀ k, lf k ≤ 60) (hrt : ∀ k, rt k ≤ 60) (hsp : ∀ k, sp k ≤ 60) (hpa : ∀ k, pa k ≤ 60) (hro : ∀ k, ro k ≤ 60) (hrn : rn ≤ 60) (hkd : kd < 4) (hcB : ct rn = nI c2) (hc2 : c2 ≤ 60): Met l yX6_countMissing wsX6_countMissing ({ frames := 3, cells := 0, slots := 0, locals := 66 } : Room) (xPc D (TY ca) [.ref (a 11), .ref (a 11)] ((wKd kq) ++ (wMo a ch) ++ (wRg a (h1, h2, f1, f2)) ++ (wWk a (on, bk, gv, kn, ws9, we9, wp9)) ++ (wT ca kq a (ky, vl, lf, rt, ct, ht, tt, sp, pa, ro, ss, dp, rn, od, kd))) sz) (va_Qi (fun (r : Int32) (u : MS) => r = nI (cma_go c2 0 (ky, vl, lf, rt, ct, ht, tt, sp, pa, ro, ss, dp, rn, od, kd) 0).1 ∧ u = ((cma_go c2 0 (ky, vl, lf, rt, ct, ht, tt, sp, pa, ro, ss, dp, rn, od, kd) 0).2, (h1, h2, f1, f2), (on, bk, gv, kn, ws9, we9, wp9), ch)) (xB D (wM ca kq a) (va_A ((wKd kq) ++ (wMo a ch) ++ (wRg a (h1, h2, f1, f2)) ++ (wWk a (on, bk, gv, kn, ws9, we9, wp9)) ++ (wT ca kq a (ky, vl, lf, rt, ct, ht, tt, sp, pa, ro, ss, dp, rn, od, kd))) sz)) (va_A ((wKd kq) ++ (wMo a ch) ++ (wRg a (h1, h2, f1, f2)) ++ (wWk a (on, bk, gv, kn, ws9, we9, wp9)) ++ (wT ca kq a (ky, vl, lf, rt, ct, ht, tt, sp, pa, ro, ss, dp, rn, od, kd))) sz)) 0 0 (va_A ((wKd kq) ++ (wMo a ch) ++ (wRg a (h1, h2, f1, f2)) ++ (wWk a (on, bk, gv, kn, ws9, we9, wp9)) ++ (wT ca kq a (ky, vl, lf, rt, ct, ht, tt, sp, pa, ro, ss, dp, rn, od, kd))) sz) := by
  refine Met.ofW (cc := cX6_countMissing) (maxL := 6) (ret := (some .int)) (by decide) rfl ?_
  intro p e s m args below meth c s₁ B hml hv
  obtain ⟨rfl, hsz, hP, hKN, hD0⟩ := hv
  have hx := B.exec
  have hb := B.bytes
  have hr := B.returns
  have hts := atoms_spec (ws := wsX6_countMissing) B.pre
  have hown : s.vm.findClass RX6 = some m.cls := findClass_of_methodNamed B.named
  have hlocks := B.notSynchronized
  have inX6 : ∀ w ∈ wsX60, w ∈ wsX6_countMissing := by decide +kernel
  have inX8 : ∀ w ∈ wsX80, w ∈ wsX6_countMissing := by decide +kernel
  subst hsz
  have hD := hD0.self (sz := s.heap.size)
  generalize hAe : va_A ((wKd kq) ++ (wMo a ch) ++ (wRg a (h1, h2, f1, f2)) ++ (wWk a (on, bk, gv, kn, ws9, we9, wp9)) ++ (wT ca kq a (ky, vl, lf, rt, ct, ht, tt, sp, pa, ro, ss, dp, rn, od, kd))) s.heap.size = A at hD ⊢
  have hA : ∀ q : Nat, s.heap.size ≤ q → A q := fun q h => by rw [← hAe]; exact Or.inr h
  have hS : va_S A s.heap s.heap [] := va_S.rf
  have hl := lv_entry ([.ref (a 11), .ref (a 11)]) (n := 6) (Nat.le_of_ble_eq_true rfl)
  rw [lg_entry_eq]
  generalize (lg_sl ([.ref (a 11), .ref (a 11)]) ++ List.replicate (6 - (lg_sl ([.ref (a 11), .ref (a 11)])).length) Slot.unset).toArray = ls at hl ⊢
  have hl : lv_has ls 6 [(0, .ref (a 11)), (1, .ref (a 11))] := hl
  refine lv_iconst (v := 0) hx hb dX6_countMissing_0 (by decide) ?_
  refine lv_istore_n (lv' := [(2, .int 0), (0, .ref (a 11)), (1, .ref (a 11))]) hx hb dX6_countMissing_1 rfl hl (by decide) rfl (fun ls hl => ?_)
  refine lv_aload_n hx hb dX6_countMissing_2 rfl (lv_at hl 2 rfl) ?_
  refine xc_i (wr := []) (va_runV (As := []) (rest := []) ⟨hx, hb, hml, hown, hts⟩ (c_X6_entryCount l D ca kq a _ ky vl lf rt ct ht tt sp pa ro ss dp rn od kd h1 h2 f1 f2 on bk gv kn ws9 we9 wp9 ch hlf hrt hsp hpa hro hrn hkd) (cwV 0 hts gX6_countMissing_X6_entryCount rfl rfl rfl (by decide +kernel) ⟨(Nat.le_of_ble_eq_true rfl), (Nat.le_of_ble_eq_true rfl)⟩) (xPreV hKN hP hD [0, 1, 2, 3, 4, 5, 6, 7, 8, 9, 10, 11, 12, 13, 14, 15, 16, 17] (by decide) rfl (q0 := 4) rfl rfl rfl) rfl rfl hl.1 rfl (lv_room (Nat.le_of_ble_eq_true rfl)) dX6_countMissing_3 ⟨(Nat.le_of_ble_eq_true rfl), (Nat.le_of_ble_eq_true rfl)⟩) hP hD hS hA [0, 1, 2, 3, 4, 5, 6, 7, 8, 9, 10, 11, 12, 13, 14, 15, 16, 17] [] rfl rfl (by decide) (by decide) (fun r3 u3 H locs hu3 hP hD hS => ?_)
  obtain ⟨er3, eu3⟩ := hu3
  subst er3
  subst eu3
  have hP : va_P D vwCl ((wKd kq) ++ (wMo a ch) ++ (wRg a (h1, h2, f1, f2)) ++ (wWk a (on, bk, gv, kn, ws9, we9, wp9)) ++ (wT ca kq a (ky, vl, lf, rt, ct, ht, tt, sp, pa, ro, ss, dp, rn, od, kd))) H := hP
  have hD : va_D A ((wKd kq) ++ (wMo a ch) ++ (wRg a (h1, h2, f1, f2)) ++ (wWk a (on, bk, gv, kn, ws9, we9, wp9)) ++ (wT ca kq a (ky, vl, lf, rt, ct, ht, tt, sp, pa, ro, ss, dp, rn, od, kd))) := hD
  refine xr_top (y := nI c2) hcB ?_
  refine lv_istore_n (lv' := [(3, .int (nI c2)), (2, .int 0), (0, .ref (a 11)), (1, .ref (a 11))]) hx hb dX6_countMissing_6 rfl hl (by decide) rfl (fun ls hl => ?_)
  refine lv_iconst (v := 0) hx hb dX6_countMissing_7 (by decide) ?_
  refine lv_istore (lv' := [(4, .int 0), (3, .int (nI c2)), (2, .int 0), (0, .ref (a 11)), (1, .ref (a 11))]) hx hb dX6_countMissing_8 hl (by decide) rfl (fun ls hl => ?_)
  refine xl 10 (σ := Nat × Nat × TS) (fun n u H locs ls => match u with | (i, k, ky9, vl9, lf9, rt9, ct9, ht9, tt9, sp9, pa9, ro9, ss9, dp9, rn9, od9, kd9) => i + n = c2 ∧ k ≤ i ∧ (∀ k, lf9 k ≤ 60) ∧ (∀ k, rt9 k ≤ 60) ∧ (∀ k, sp9 k ≤ 60) ∧ (∀ k, pa9 k ≤ 60) ∧ (∀ k, ro9 k ≤ 60) ∧ rn9 ≤ 60 ∧ kd9 < 4 ∧ cma_go c2 0 (ky, vl, lf, rt, ct, ht, tt, sp, pa, ro, ss, dp, rn, od, kd) 0 = cma_go n i (ky9, vl9, lf9, rt9, ct9, ht9, tt9, sp9, pa9, ro9, ss9, dp9, rn9, od9, kd9) k ∧ va_P D vwCl ((wKd kq) ++ (wMo a ch) ++ (wRg a (h1, h2, f1, f2)) ++ (wWk a (on, bk, gv, kn, ws9, we9, wp9)) ++ (wT ca kq a (ky9, vl9, lf9, rt9, ct9, ht9, tt9, sp9, pa9, ro9, ss9, dp9, rn9, od9, kd9))) H ∧ va_D A ((wKd kq) ++ (wMo a ch) ++ (wRg a (h1, h2, f1, f2)) ++ (wWk a (on, bk, gv, kn, ws9, we9, wp9)) ++ (wT ca kq a (ky9, vl9, lf9, rt9, ct9, ht9, tt9, sp9, pa9, ro9, ss9, dp9, rn9, od9, kd9))) ∧ va_S A s.heap H locs ∧ lv_has ls 6 [(0, .ref (a 11)), (1, .ref (a 11)), (2, .int (nI k)), (3, .int (nI c2)), (4, .int (nI i))]) ?_ c2 (0, 0, (ky, vl, lf, rt, ct, ht, tt, sp, pa, ro, ss, dp, rn, od, kd)) _ _ _ ⟨(by omega), (Nat.le_refl _), hlf, hrt, hsp, hpa, hro, hrn, hkd, rfl, hP, hD, hS, lv_sub hl [3, 4, 2, 1, 0] rfl⟩
  clear hP hD hS hl
  intro n ih u H locs ls hI
  obtain ⟨i, k, ky9, vl9, lf9, rt9, ct9, ht9, tt9, sp9, pa9, ro9, ss9, dp9, rn9, od9, kd9⟩ := u
  obtain ⟨hn, hk9, hlf9, hrt9, hsp9, hpa9, hro9, hrn9, hkd9, hg, hP, hD, hS, hl⟩ := hI
  refine lv_iload hx hb dX6_countMissing_10 (lv_at hl 4 rfl) ?_
  refine lv_iload_n hx hb dX6_countMissing_12 rfl (lv_at hl 3 rfl) ?_
  refine lv_icmp_ge (tgt := 63) hx hb dX6_countMissing_13 (by decide) (fun c13 => ?_) (fun c13 => ?_)
  · skip
    have c13 : c2 ≤ i := (xn_le (a := c2) (b := i) (Nat.lt_of_le_of_lt hc2 (by decide)) (by omega)).mp c13
    refine lv_iload_n hx hb dX6_countMissing_63 rfl (lv_at hl 2 rfl) ?_
    exact W.iret (v := (nI k)) hx hb hr (fun t9 e9 w9 => ⟨⟨_, ((ky9, vl9, lf9, rt9, ct9, ht9, tt9, sp9, pa9, ro9, ss9, dp9, rn9, od9, kd9), (h1, h2, f1, f2), (on, bk, gv, kn, ws9, we9, wp9), ch), rfl, by obtain rfl : n = 0 := (by omega); have h9 : cma_go c2 0 (ky, vl, lf, rt, ct, ht, tt, sp, pa, ro, ss, dp, rn, od, kd) 0 = (k, (ky9, vl9, lf9, rt9, ct9, ht9, tt9, sp9, pa9, ro9, ss9, dp9, rn9, od9, kd9)) := hg; rw [h9]; exact ⟨rfl, rfl⟩, by rw [e9]; exact hP, hD⟩, hS.F e9⟩) hS.2.2 dX6_countMissing_64
  · skip
    have c13 : ¬ c2 ≤ i := fun h9 => c13 ((xn_le (a := c2) (b := i) (Nat.lt_of_le_of_lt hc2 (by decide)) (by omega)).mpr h9)
    obtain ⟨n, rfl⟩ : ∃ k, n = k + 1 := ⟨n - 1, by omega⟩
    refine lv_aload_n hx hb dX6_countMissing_16 rfl (lv_at hl 1 rfl) ?_
    refine va_get (D := D) (ci := 4) (v := .ref (a 0)) (C := RX6) (T := TX6) (N := 4) hx hb hts inX6 hown hKN.1 hP 4 rfl rfl 0 (by decide) (hts (.fieldLink RX6 14 "TreeFamily$OneMap" "tree" "LTreeFamily$Tree;") (by decide +kernel)) (fun _ h9 => h9) rfl dX6_countMissing_17 ?_
    refine lv_aload_n hx hb dX6_countMissing_20 rfl (lv_at hl 1 rfl) ?_
    refine va_get (D := D) (ci := 4) (v := .ref (a 0)) (C := RX6) (T := TX6) (N := 4) hx hb hts inX6 hown hKN.1 hP 4 rfl rfl 0 (by decide) (hts (.fieldLink RX6 14 "TreeFamily$OneMap" "tree" "LTreeFamily$Tree;") (by decide +kernel)) (fun _ h9 => h9) rfl dX6_countMissing_21 ?_
    refine va_getN (D := D) (ci := 6) (v := .int (nI rn9)) (C := RX8) (T := TX8) (N := 15) hx hb hts inX8 hown hKN.1 hP 7 rfl rfl 12 (by decide) (va_Nw.use rfl (NW.f hKN.2 (a := RX6) (i := 81) (b := "TreeFamily$Tree") (n := "root") (d := "I") (g := "TreeFamily") (by decide +kernel))) (fun _ h9 => h9) rfl dX6_countMissing_24 ?_
    refine lv_iload hx hb dX6_countMissing_27 (lv_at hl 4 rfl) ?_
    refine xc_i (wr := (wKd kq) ++ (wMo a ch) ++ (wRg a (h1, h2, f1, f2)) ++ (wWk a (on, bk, gv, kn, ws9, we9, wp9))) (va_runV (As := [.int (nI rn9), .int (nI i)]) (rest := []) ⟨hx, hb, hml, hown, hts⟩ (c_X8_nodeAt l D ca kq a _ ky9 vl9 lf9 rt9 ct9 ht9 tt9 sp9 pa9 ro9 ss9 dp9 rn9 od9 kd9 rn9 (nI i) hlf9 hrt9 hsp9 hpa9 hro9 hrn9 hrn9) (cwV 2 hts gX6_countMissing_X8_nodeAt rfl rfl rfl (by decide +kernel) ⟨(Nat.le_of_ble_eq_true rfl), (Nat.le_of_ble_eq_true rfl)⟩) (xPreV hKN hP hD [7, 8, 9, 10, 11, 12, 13, 14, 15, 16, 17] (by decide) rfl (q0 := 7) rfl rfl rfl) rfl rfl hl.1 rfl (lv_room (Nat.le_of_ble_eq_true rfl)) dX6_countMissing_29 ⟨(Nat.le_of_ble_eq_true rfl), (Nat.le_of_ble_eq_true rfl)⟩) hP hD hS hA [7, 8, 9, 10, 11, 12, 13, 14, 15, 16, 17] [0, 1, 2, 3, 4, 5, 6] rfl rfl (by decide) (by decide) (fun r29 u29 H locs hu29 hP hD hS => ?_)
    obtain ⟨er29, eu29⟩ := hu29
    subst er29
    subst eu29
    have hP : va_P D vwCl ((wKd kq) ++ (wMo a ch) ++ (wRg a (h1, h2, f1, f2)) ++ (wWk a (on, bk, gv, kn, ws9, we9, wp9)) ++ (wT ca kq a (ky9, vl9, lf9, rt9, ct9, ht9, tt9, sp9, pa9, ro9, ss9, dp9, rn9, od9, kd9))) H := hP
    have hD : va_D A ((wKd kq) ++ (wMo a ch) ++ (wRg a (h1, h2, f1, f2)) ++ (wWk a (on, bk, gv, kn, ws9, we9, wp9)) ++ (wT ca kq a (ky9, vl9, lf9, rt9, ct9, ht9, tt9, sp9, pa9, ro9, ss9, dp9, rn9, od9, kd9))) := hD
    refine lv_istore (lv' := [(5, .int (nI (f_nodeAt (ky9, vl9, lf9, rt9, ct9, ht9, tt9, sp9, pa9, ro9, ss9, dp9, rn9, od9, kd9) rn9 (nI i)))), (0, .ref (a 11)), (1, .ref (a 11)), (2, .int (nI k)), (3, .int (nI c2)), (4, .int (nI i))]) hx hb dX6_countMissing_32 hl (by decide) rfl (fun ls hl => ?_)
    refine lv_aload_n hx hb dX6_countMissing_34 rfl (lv_at hl 1 rfl) ?_
    refine va_get (D := D) (ci := 4) (v := .ref (a 0)) (C := RX6) (T := TX6) (N := 4) hx hb hts inX6 hown hKN.1 hP 4 rfl rfl 0 (by decide) (hts (.fieldLink RX6 14 "TreeFamily$OneMap" "tree" "LTreeFamily$Tree;") (by decide +kernel)) (fun _ h9 => h9) rfl dX6_countMissing_35 ?_
    refine lv_aload_n hx hb dX6_countMissing_38 rfl (lv_at hl 2 rfl) ?_
    refine va_get (D := D) (ci := 4) (v := .ref (a 0)) (C := RX6) (T := TX6) (N := 4) hx hb hts inX6 hown hKN.1 hP 4 rfl rfl 0 (by decide) (hts (.fieldLink RX6 14 "TreeFamily$OneMap" "tree" "LTreeFamily$Tree;") (by decide +kernel)) (fun _ h9 => h9) rfl dX6_countMissing_39 ?_
    refine va_getN (D := D) (ci := 6) (v := .ref (a 1)) (C := RX8) (T := TX8) (N := 15) hx hb hts inX8 hown hKN.1 hP 7 rfl rfl 0 (by decide) (va_Nw.use rfl (NW.f hKN.2 (a := RX6) (i := 90) (b := "TreeFamily$Tree") (n := "keys") (d := "[I") (g := "TreeFamily") (by decide +kernel))) (fun _ h9 => h9) rfl dX6_countMissing_42 ?_
    refine lv_iload hx hb dX6_countMissing_45 (lv_at hl 0 rfl) ?_
    refine xr_ild hx hb hKN.1 hP 8 0 rfl rfl (j := f_nodeAt (ky9, vl9, lf9, rt9, ct9, ht9, tt9, sp9, pa9, ro9, ss9, dp9, rn9, od9, kd9) rn9 (nI i)) (Nat.lt_of_le_of_lt (wf_nodeAt (⟨hlf9, hrt9, hsp9, hpa9, hro9, hrn9, hkd9⟩ : WF (ky9, vl9, lf9, rt9, ct9, ht9, tt9, sp9, pa9, ro9, ss9, dp9, rn9, od9, kd9)) hrn9 _) (by decide)) (by decide) dX6_countMissing_47 ?_
    refine xc_i (wr := (wKd kq) ++ (wMo a ch) ++ (wRg a (h1, h2, f1, f2)) ++ (wWk a (on, bk, gv, kn, ws9, we9, wp9))) (va_runV (As := [.int (ky9 (f_nodeAt (ky9, vl9, lf9, rt9, ct9, ht9, tt9, sp9, pa9, ro9, ss9, dp9, rn9, od9, kd9) rn9 (nI i)))]) (rest := []) ⟨hx, hb, hml, hown, hts⟩ (c_X8_trace l D ca kq a _ ky9 vl9 lf9 rt9 ct9 ht9 tt9 sp9 pa9 ro9 ss9 dp9 rn9 od9 kd9 (ky9 (f_nodeAt (ky9, vl9, lf9, rt9, ct9, ht9, tt9, sp9, pa9, ro9, ss9, dp9, rn9, od9, kd9) rn9 (nI i))) hlf9 hrt9 hsp9 hpa9 hro9 hrn9) (cwV 1 hts gX6_countMissing_X8_trace rfl rfl rfl (by decide +kernel) ⟨(Nat.le_of_ble_eq_true rfl), (Nat.le_of_ble_eq_true rfl)⟩) (xPreV hKN hP hD [7, 8, 9, 10, 11, 12, 13, 14, 15, 16, 17] (by decide) rfl (q0 := 7) rfl rfl rfl) rfl rfl hl.1 rfl (lv_room (Nat.le_of_ble_eq_true rfl)) dX6_countMissing_48 ⟨(Nat.le_of_ble_eq_true rfl), (Nat.le_of_ble_eq_true rfl)⟩) hP hD hS hA [7, 8, 9, 10, 11, 12, 13, 14, 15, 16, 17] [0, 1, 2, 3, 4, 5, 6] rfl rfl (by decide) (by decide) (fun r48 u48 H locs hu48 hP hD hS => ?_)
    obtain ⟨er48, eu48⟩ := hu48
    obtain ⟨y48, ey48⟩ : ∃ z, z = (f_trace (ky9, vl9, lf9, rt9, ct9, ht9, tt9, sp9, pa9, ro9, ss9, dp9, rn9, od9, kd9) (ky9 (f_nodeAt (ky9, vl9, lf9, rt9, ct9, ht9, tt9, sp9, pa9, ro9, ss9, dp9, rn9, od9, kd9) rn9 (nI i)))).1 := ⟨_, rfl⟩
    rw [← ey48] at er48
    subst er48
    have hy48 : y48 ≤ 60 := by rw [ey48]; exact (wf_trace (⟨hlf9, hrt9, hsp9, hpa9, hro9, hrn9, hkd9⟩ : WF (ky9, vl9, lf9, rt9, ct9, ht9, tt9, sp9, pa9, ro9, ss9, dp9, rn9, od9, kd9)) (ky9 (f_nodeAt (ky9, vl9, lf9, rt9, ct9, ht9, tt9, sp9, pa9, ro9, ss9, dp9, rn9, od9, kd9) rn9 (nI i)))).1
    obtain ⟨ky_48, vl_48, lf_48, rt_48, ct_48, ht_48, tt_48, sp_48, pa_48, ro_48, ss_48, dp_48, rn_48, od_48, kd_48⟩ := u48
    obtain ⟨hlf_48, hrt_48, hsp_48, hpa_48, hro_48, hrn_48, hkd_48⟩ : WF (ky_48, vl_48, lf_48, rt_48, ct_48, ht_48, tt_48, sp_48, pa_48, ro_48, ss_48, dp_48, rn_48, od_48, kd_48) := by rw [eu48]; exact (wf_trace (⟨hlf9, hrt9, hsp9, hpa9, hro9, hrn9, hkd9⟩ : WF (ky9, vl9, lf9, rt9, ct9, ht9, tt9, sp9, pa9, ro9, ss9, dp9, rn9, od9, kd9)) (ky9 (f_nodeAt (ky9, vl9, lf9, rt9, ct9, ht9, tt9, sp9, pa9, ro9, ss9, dp9, rn9, od9, kd9) rn9 (nI i)))).2
    have hP : va_P D vwCl ((wKd kq) ++ (wMo a ch) ++ (wRg a (h1, h2, f1, f2)) ++ (wWk a (on, bk, gv, kn, ws9, we9, wp9)) ++ (wT ca kq a (ky_48, vl_48, lf_48, rt_48, ct_48, ht_48, tt_48, sp_48, pa_48, ro_48, ss_48, dp_48, rn_48, od_48, kd_48))) H := hP
    have hD : va_D A ((wKd kq) ++ (wMo a ch) ++ (wRg a (h1, h2, f1, f2)) ++ (wWk a (on, bk, gv, kn, ws9, we9, wp9)) ++ (wT ca kq a (ky_48, vl_48, lf_48, rt_48, ct_48, ht_48, tt_48, sp_48, pa_48, ro_48, ss_48, dp_48, rn_48, od_48, kd_48))) := hD
    refine lv_if_ne (tgt := 57) hx hb dX6_countMissing_51 (by decide) (fun c51 => ?_) (fun c51 => ?_)
    · skip
      have c51 : ¬ y48 = 0 := fun h9 => c51 ((xn_eq (a := y48) (b := 0) (Nat.lt_of_le_of_lt hy48 (by decide)) (by decide)).mpr h9)
      refine lv_iinc (v := (nI (i + 1))) (lv' := [(4, .int (nI (i + 1))), (5, .int (nI (f_nodeAt (ky9, vl9, lf9, rt9, ct9, ht9, tt9, sp9, pa9, ro9, ss9, dp9, rn9, od9, kd9) rn9 (nI i)))), (0, .ref (a 11)), (1, .ref (a 11)), (2, .int (nI k)), (3, .int (nI c2))]) hx hb dX6_countMissing_57 hl (k := 5) rfl (nI_1 _) (by decide) rfl (fun ls hl => ?_)
      refine lv_goto (tgt := 10) hx hb dX6_countMissing_60 (by decide) ?_
      exact ih n (by omega) (i + 1, k, (ky_48, vl_48, lf_48, rt_48, ct_48, ht_48, tt_48, sp_48, pa_48, ro_48, ss_48, dp_48, rn_48, od_48, kd_48)) _ _ _ ⟨(by omega), (by omega), hlf_48, hrt_48, hsp_48, hpa_48, hro_48, hrn_48, hkd_48, hg.trans (by rw [cma_go, ← eu48, ← ey48]; first | rw [if_pos c51] | rw [if_neg c51]), hP, hD, hS, lv_sub hl [2, 3, 4, 5, 0] rfl⟩
    · skip
      have c51 : y48 = 0 := (xn_eq (a := y48) (b := 0) (Nat.lt_of_le_of_lt hy48 (by decide)) (by decide)).mp c51
      refine lv_iinc (v := (nI (k + 1))) (lv' := [(2, .int (nI (k + 1))), (5, .int (nI (f_nodeAt (ky9, vl9, lf9, rt9, ct9, ht9, tt9, sp9, pa9, ro9, ss9, dp9, rn9, od9, kd9) rn9 (nI i)))), (0, .ref (a 11)), (1, .ref (a 11)), (3, .int (nI c2)), (4, .int (nI i))]) hx hb dX6_countMissing_54 hl (k := 3) rfl (nI_1 _) (by decide) rfl (fun ls hl => ?_)
      refine lv_iinc (v := (nI (i + 1))) (lv' := [(4, .int (nI (i + 1))), (2, .int (nI (k + 1))), (5, .int (nI (f_nodeAt (ky9, vl9, lf9, rt9, ct9, ht9, tt9, sp9, pa9, ro9, ss9, dp9, rn9, od9, kd9) rn9 (nI i)))), (0, .ref (a 11)), (1, .ref (a 11)), (3, .int (nI c2))]) hx hb dX6_countMissing_57 hl (k := 5) rfl (nI_1 _) (by decide) rfl (fun ls hl => ?_)
      refine lv_goto (tgt := 10) hx hb dX6_countMissing_60 (by decide) ?_
      exact ih n (by omega) (i + 1, k + 1, (ky_48, vl_48, lf_48, rt_48, ct_48, ht_48, tt_48, sp_48, pa_48, ro_48, ss_48, dp_48, rn_48, od_48, kd_48)) _ _ _ ⟨(by omega), (by omega), hlf_48, hrt_48, hsp_48, hpa_48, hro_48, hrn_48, hkd_48, hg.trans (by rw [cma_go, ← eu48, ← ey48]; first | rw [if_pos c51] | rw [if_neg c51]), hP, hD, hS, lv_sub hl [3, 4, 1, 5, 0] rfl⟩
