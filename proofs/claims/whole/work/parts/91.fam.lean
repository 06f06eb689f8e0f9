/-! THE FAMILY: three maps; a call is told to the map that it names, or refused -/
def wX (ca : Nat → ClassId) (f kq : Nat → Nat) (ad : Nat → Nat → Nat) : va_W := [(f 0, .inr (8, [.ref (f 1), .ref (f 2)])), (f 1, .inl (ca 3, 4, .inr (.inr (.inr (.inr (fun k => some (kq k))))))), (f 2, .inl (ca 4, 3, .inr (.inr (.inr (.inr (fun k => some (ad k 11)))))))]
def wMp (ca : Nat → ClassId) (kq a : Nat → Nat) (m : MS) : va_W := (wMo a m.2.2.2) ++ (wRg a m.2.1) ++ (wWk a m.2.2.1) ++ (wT ca kq a m.1)
def wF (ca : Nat → ClassId) (f kq : Nat → Nat) (ad : Nat → Nat → Nat) (i0 i1 i2 : Nat) (m1 m2 m : MS) : va_W := (wX ca f kq ad) ++ (wKd kq) ++ (wMp ca kq (ad i0) m) ++ (wMp ca kq (ad i1) m1) ++ (wMp ca kq (ad i2) m2)
def GG {A : Type} (z : A) (F : RW → A × Int32 × RW) (mm : Int32) (r : RW) : A × Int32 × RW := if isB mm 3 = true then F r else (z, 1, r)
theorem GG_ok {A : Type} {z : A} {F : RW → A × Int32 × RW} {mm : Int32} {r : RW} (h : isB mm 3 = true) : GG z F mm r = F r := if_pos h
theorem GG_bad {A : Type} {z : A} {F : RW → A × Int32 × RW} {mm : Int32} {r : RW} (h : isB mm 3 = false) : GG z F mm r = (z, 1, r) := by unfold GG; rw [h]; exact if_neg (by decide)
/-- the exception that a code stands for -/
def xA (c : Int32) : String := if c = 1 then eIA else eIO
def xN (c : Int32) : String := if c = 1 then eIA else if c = 2 then eIS else eIO
def PR {A : Type} (z : A) (F : RW → A × Int32 × RW) (mm : Int32) (r : RW) (N : Nat) (x : A) (u : MS) : Prop := x = (GG z F mm r).1 ∧ (GG z F mm r).2.1 = 0 ∧ Rel1 (N + 61) u (GG z F mm r).2.2
def PT {A : Type} (xE : Int32 → String) (z : A) (F : RW → A × Int32 × RW) (mm : Int32) (r : RW) (N : Nat) (E : String) (u : MS) : Prop := E = xE (GG z F mm r).2.1 ∧ ¬ (GG z F mm r).2.1 = 0 ∧ Rel1 (N + 61) u (GG z F mm r).2.2
theorem gret {A : Type} {z x : A} {F : RW → A × Int32 × RW} {mm : Int32} {r : RW} {N : Nat} {u : MS} (hB : isB mm 3 = true) (h1 : x = (F r).1) (h2 : (F r).2.1 = 0) (h3 : Rel1 (N + 61) u (F r).2.2) : PR z F mm r N x u := by unfold PR; rw [GG_ok hB]; exact ⟨h1, h2, h3⟩
theorem gretF {A : Type} {z x : A} {F : RW → A × Int32 × RW} {mm : Int32} {r R : RW} {N : Nat} {u : MS} (hB : isB mm 3 = true) (h1 : F r = (x, 0, R)) (h3 : Rel1 (N + 61) u R) : PR z F mm r N x u := gret hB (by rw [h1]) (by rw [h1]) (by rw [h1]; exact h3)
theorem gthr {A : Type} {xE : Int32 → String} {z x : A} {F : RW → A × Int32 × RW} {mm c : Int32} {r : RW} {N : Nat} {u : MS} {E : String} (hB : isB mm 3 = true) (hF : F r = (x, c, r)) (hc : ¬ c = 0) (hE : E = xE c) (hr : Rel1 (N + 61) u r) : PT xE z F mm r N E u := by
  unfold PT
  rw [GG_ok hB, hF]
  exact ⟨hE, hc, hr⟩
theorem gbad {A : Type} {xE : Int32 → String} {z : A} {F : RW → A × Int32 × RW} {mm : Int32} {r : RW} {N : Nat} {u : MS} {E : String} (hB : isB mm 3 = false) (hE : E = xE 1) (hr : Rel1 (N + 61) u r) : PT xE z F mm r N E u := by
  unfold PT
  rw [GG_bad hB]
  exact ⟨hE, (by show ¬ (1 : Int32) = 0; decide), hr⟩
theorem tab4 {x : Int32} (h0 : ¬ x = 0) (h1 : ¬ x = 1) (h2 : ¬ x = 2) (h3 : ¬ x = 3) : x.toInt < 0 ∨ 3 < x.toInt := by
  have a0 : ¬ x.toInt = 0 := fun e => h0 (Int32.toInt_inj.mp e)
  have a1 : ¬ x.toInt = 1 := fun e => h1 (Int32.toInt_inj.mp e)
  have a2 : ¬ x.toInt = 2 := fun e => h2 (Int32.toInt_inj.mp e)
  have a3 : ¬ x.toInt = 3 := fun e => h3 (Int32.toInt_inj.mp e)
  omega
theorem tab3 {x : Int32} (h0 : ¬ x = 0) (h1 : ¬ x = 1) (h2 : ¬ x = 2) : x.toInt < 0 ∨ 2 < x.toInt := by
  have a0 : ¬ x.toInt = 0 := fun e => h0 (Int32.toInt_inj.mp e)
  have a1 : ¬ x.toInt = 1 := fun e => h1 (Int32.toInt_inj.mp e)
  have a2 : ¬ x.toInt = 2 := fun e => h2 (Int32.toInt_inj.mp e)
  omega
theorem isB_t4 {x : Int32} (h : x.toInt < 0 ∨ 3 < x.toInt) : isB x 4 = false := by
  rcases h with h | h
  · exact isB_lt (by rw [Int32.lt_iff_toInt_lt]; exact h)
  · refine isB_ge (by rw [Int32.le_iff_toInt_le]; have : (4 : Int32).toInt = 4 := rfl; omega)
theorem isB_t3 {x : Int32} (h : x.toInt < 0 ∨ 2 < x.toInt) : isB x 3 = false := by
  rcases h with h | h
  · exact isB_lt (by rw [Int32.lt_iff_toInt_lt]; exact h)
  · refine isB_ge (by rw [Int32.le_iff_toInt_le]; have : (3 : Int32).toInt = 3 := rfl; omega)
theorem nI_inj {a b : Nat} (ha : a < 2147483648) (hb : b < 2147483648) (h : nI a = nI b) : a = b := (xn_eq ha hb).mp h
/-- near: keyAt asked at the neighbour's place -/
theorem near_r {which key x i : Int32} {r : RW} {n k : Nat} (h4 : isB which 4 = true) (hk : nearK which (plE r.od key r.en) (hitE r.od key r.en) = n) (hl : r.en.length ≤ 60) (hi : i = nI n - 1) (h1 : k < r.en.length) (h2 : i = nI k) (h3 : x = (r.en.getD k (0, 0)).1) (hn6 : n ≤ 100) : F_near which key r = (x, 0, r) := by
  have hn : n = k + 1 := by
    by_cases c : n = 0
    · subst c
      rw [hi] at h2
      have := congrArg Int32.toInt h2
      rw [show (nI k).toInt = k from Int32.toInt_ofNat_of_lt (by omega), show (nI 0 - 1 : Int32).toInt = -1 from rfl] at this
      omega
    · rw [hi, show nI n - 1 = nI (n - 1) from pk_sub (b := 1) (by omega)] at h2
      have := nI_inj (by omega) (by omega) h2
      omega
  subst hn
  exact F_near_0 h4 hk h1 h3.symm
theorem near_t {which key i : Int32} {r : RW} {n : Nat} (h4 : isB which 4 = true) (hk : nearK which (plE r.od key r.en) (hitE r.od key r.en) = n) (hl : r.en.length ≤ 60) (hi : i = nI n - 1) (h1 : ∀ k, k < r.en.length → i ≠ nI k) : F_near which key r = (0, 2, r) := by
  refine F_near_2 h4 hk ?_
  by_cases c : n = 0
  · exact Or.inl c
  · refine Or.inr (Nat.lt_of_not_le fun q => ?_)
    exact h1 (n - 1) (by omega) (by rw [hi]; exact pk_sub (b := 1) (by omega))
theorem m1_add (n : Nat) : nI n = nI (n + 1) - 1 := (pk_sub (a := n + 1) (b := 1) (by omega)).symm
theorem nk_le (which : Int32) (p : Nat) (b : Bool) : nearK which p b ≤ p + 2 := by
  unfold nearK
  by_cases c1 : which = 1
  · rw [if_pos c1]; omega
  · rw [if_neg c1]
    by_cases c2 : which = 2
    · rw [if_pos c2]; omega
    · rw [if_neg c2]
      by_cases c3 : which = 0
      · rw [if_pos c3]; cases b <;> simp
      · rw [if_neg c3]; cases b <;> simp
/-- the first or the last entry in range, asked by its place -/
theorem eor_r {b : Bool} {x i : Int32} {r : RW} {k : Nat} (hb : begR r ≤ endR r ∧ endR r ≤ r.en.length ∧ r.en.length ≤ 60) (hi : i = if begR r = endR r then -1 else nI (if b = true then endR r - 1 else begR r)) (h1 : k < r.en.length) (h2 : i = nI k) : ¬ begR r = endR r ∧ k = (if b = true then endR r - 1 else begR r) := by
  by_cases c : begR r = endR r
  · rw [if_pos c] at hi
    rw [hi] at h2
    have := congrArg Int32.toInt h2
    rw [show (nI k).toInt = k from Int32.toInt_ofNat_of_lt (by omega), show (-1 : Int32).toInt = -1 from rfl] at this
    omega
  · rw [if_neg c] at hi
    refine ⟨c, ?_⟩
    rw [hi] at h2
    exact (nI_inj (by cases b <;> simp <;> omega) (by omega) h2).symm
theorem eor_t {b : Bool} {i : Int32} {r : RW} (hb : begR r ≤ endR r ∧ endR r ≤ r.en.length ∧ r.en.length ≤ 60) (hi : i = if begR r = endR r then -1 else nI (if b = true then endR r - 1 else begR r)) (h1 : ∀ k, k < r.en.length → i ≠ nI k) : begR r = endR r := by
  by_cases c : begR r = endR r
  · exact c
  · rw [if_neg c] at hi
    exact absurd hi (h1 _ (by cases b <;> simp <;> omega))
section XR3
variable {p : Program} {l : Launch} {e : Env} {R : Room} {s : State} {m : MethodId} {args : Array Value} {below : List Frame} {meth : Method} {c : Code} {H : Heap} {locs : List Loc} {cells slots : Nat} {Q : State → Prop}
variable {pc : Nat} {ls : Array Slot} {rest st0 : List Value} {av : Array Value} {A0 : Nat → Prop} {H0 : Heap} {mc ms : Nat} {D : va_G} {tys : List (ClassId × FieldType)} {ws w0 wr : va_W}
theorem xr_topr {x y : Value} (h : x = y) (k : W p l e R s m args below meth c H locs cells slots Q (F0 m pc ls (y :: rest))) : W p l e R s m args below meth c H locs cells slots Q (F0 m pc ls (x :: rest)) := h ▸ k
theorem vx_callr {S SX : Type} {post : S → Prop} {px : SX → Prop} {B : S → Nat → State → Prop} {BX : String → SX → State → Prop} {A1 AX : Nat → Prop} {free : Addr → Prop} (hr : vx_Run p l e R s m args below meth c H locs cells slots mc ms (F0 m pc ls st0) rest (va_Qr post B A1 av) (vx_X px BX AX) free) (hS : va_S A0 H0 H locs) (hA : ∀ q, q < H.size → A1 q → A0 q) (hf : ∀ q, free q → A0 q) (hAX : ∀ q, q < H.size → AX q → A0 q)
    (kx : ∀ (E : String) (ce : Cell) (q9 : Addr) (u : SX) (t : State) (H1 : Heap) (locs1 : List Loc), t.heap = H1 → s.vm.Alike t.vm → px u → BX E u t → H.size ≤ H1.size → (∀ q : Nat, q < H.size → ¬ AX q → H1[q]? = H[q]?) → va_S A0 H0 H1 locs1 → H1[q9]? = some ce → ce.vm = .none → s.vm.findClass E = some ce.cls → vx_W p l e R s m args below meth c H1 locs1 (cells + mc) (slots + ms) Q (F0 m pc ls rest) q9)
    (kk : ∀ (u : S) (ra : Nat) (t : State) (H1 : Heap) (locs1 : List Loc), t.heap = H1 → s.vm.Alike t.vm → post u → B u ra t → H.size ≤ H1.size → (∀ q : Nat, q < H.size → ¬ A1 q → H1[q]? = H[q]?) → va_S A0 H0 H1 locs1 → W p l e R s m args below meth c H1 locs1 (cells + mc) (slots + ms) Q (F0 m (pc + 3) ls (.ref ra :: rest))) : W p l e R s m args below meth c H locs cells slots Q (F0 m pc ls st0) := by
  intro T hT X
  rcases hr T hT X with ⟨v, st₀, t, T', L, h0, X', hL, e1, e2, ⟨⟨u, ra, hv, hp, hb⟩, hF⟩, st⟩ | ⟨q, st₀, t, T', L, E, ce, h0, X', hL, e1, e2, ⟨u, hp, hb, hF⟩, hce, hcv, hcl, st⟩
  · cases hv
    obtain ⟨k1, k2, k3⟩ := vx_keep h0 e1 hS hA hf hL hF
    obtain ⟨t2, a1, b1⟩ := kk u ra t T'.heap (locs ++ L) e1.symm (by rw [← e2]; exact X'.warmed.alike) hp hb k1 k2 k3 T' rfl X'
    exact ⟨t2, st t2 a1, b1⟩
  · obtain ⟨k1, k2, k3⟩ := vx_keep h0 e1 hS hAX hf hL hF
    obtain ⟨t2, a1, b1⟩ := kx E ce q u t T'.heap (locs ++ L) e1.symm (by rw [← e2]; exact X'.warmed.alike) hp hb k1 k2 k3 (by rw [e1]; exact hce) hcv hcl T' rfl X'
    exact ⟨t2, st.trans a1, b1⟩
theorem xcx_r {S : Type} {post : S → Prop} {RA : Nat → Prop} {PX : String → S → Prop} {wf : S → va_W} (hr : vx_Run p l e R s m args below meth c H locs cells slots mc ms (F0 m pc ls st0) rest (va_Qr post (fun u ra t => RA ra ∧ xB D wf (va_A w0 H.size) u t) (va_A w0 H.size) av) (xX D wf (va_A w0 H.size) PX) (va_A w0 H.size)) (hP : va_P D vwCl ws H) (hD : va_D A0 ws) (hS : va_S A0 H0 H locs) (hA : ∀ q, H0.size ≤ q → A0 q) (isC isR : List Nat) (hC : isC.map (fun i => ws[i]?) = w0.map some) (hR : isR.map (fun i => ws[i]?) = wr.map some) (hn : va_nd isR = true) (hdis : ∀ i ∈ isR, i ∉ isC)
    (kx : ∀ (E : String) (ce : Cell) (q9 : Addr) (u : S) (H1 : Heap) (locs1 : List Loc), PX E u → va_P D vwCl (wr ++ wf u) H1 → va_D A0 (wr ++ wf u) → va_S A0 H0 H1 locs1 → H1[q9]? = some ce → ce.vm = .none → s.vm.findClass E = some ce.cls → vx_W p l e R s m args below meth c H1 locs1 (cells + mc) (slots + ms) Q (F0 m pc ls rest) q9)
    (kk : ∀ (ra : Nat) (u : S) (H1 : Heap) (locs1 : List Loc), post u → RA ra → va_P D vwCl (wr ++ wf u) H1 → va_D A0 (wr ++ wf u) → va_S A0 H0 H1 locs1 → W p l e R s m args below meth c H1 locs1 (cells + mc) (slots + ms) Q (F0 m (pc + 3) ls (.ref ra :: rest))) : W p l e R s m args below meth c H locs cells slots Q (F0 m pc ls st0) := by
  have hF := va_free (wc := w0) hD hS hA isC hC
  refine vx_callr hr hS (fun q _ h => hF q h) hF (fun q _ h => hF q h) (fun E ce q9 u t H1 locs1 ht _ _ hB _ hk1 hS1 h1 h2 h3 => ?_) (fun u ra t H1 locs1 ht _ hw hB _ hk1 hS1 => ?_)
  · obtain ⟨hX, hP1, hD1⟩ := hB
    rw [ht] at hP1
    obtain ⟨hP2, hD2⟩ := va_join hP hD isC isR hC hR hn hdis hk1 hF hP1 hD1
    exact kx E ce q9 u H1 locs1 hX hP2 hD2 hS1 h1 h2 h3
  · obtain ⟨hr1, hP1, hD1⟩ := hB
    rw [ht] at hP1
    obtain ⟨hP2, hD2⟩ := va_join hP hD isC isR hC hR hn hdis hk1 hF hP1 hD1
    exact kk ra u H1 locs1 hw hr1 hP2 hD2 hS1
end XR3
theorem hat_X10_eIA {args : Array Value} {s : State} (h : NW s) (h1 : ∀ w ∈ (vx_atS RX10 48 eIA eNs).filter goodWord, w.before args s = true) : ∀ w ∈ vx_atS RX10 48 eIA eNs, w.before args s = true := vx_hat h1 (B := exB eIA) (by decide +kernel) (exB_ok h (by decide +kernel))
theorem hgo_X10_eIA_44 : ∀ w ∈ Cond.classLink RX10 44 eIA :: Cond.initialized eIA :: vx_atS RX10 48 eIA eNs, vx_ot w = true := by decide +kernel
theorem hat_X10_eIS {args : Array Value} {s : State} (h : NW s) (h1 : ∀ w ∈ (vx_atS RX10 120 eIS eNs).filter goodWord, w.before args s = true) : ∀ w ∈ vx_atS RX10 120 eIS eNs, w.before args s = true := vx_hat h1 (B := exB eIS) (by decide +kernel) (exB_ok h (by decide +kernel))
theorem hgo_X10_eIS_116 : ∀ w ∈ Cond.classLink RX10 116 eIS :: Cond.initialized eIS :: vx_atS RX10 120 eIS eNs, vx_ot w = true := by decide +kernel
