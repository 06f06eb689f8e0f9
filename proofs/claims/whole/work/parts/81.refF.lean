/-! what each public method of the reference does to a map: answer, code, the map -/
def iN (x : Int32) : Nat := x.toInt.toNat
theorem isB_lt {x n : Int32} (h : x < 0) : isB x n = false := by unfold isB; exact if_pos h
theorem isB_ge {x n : Int32} (h : n ≤ x) : isB x n = false := by
  unfold isB
  by_cases c : x < 0
  · exact if_pos c
  · rw [if_neg c]; exact if_pos h
theorem isB_in {x n : Int32} (h : ¬ x < 0) (g : ¬ n ≤ x) : isB x n = true := by unfold isB; rw [if_neg h, if_neg g]
theorem isB_nN {x : Int32} {n : Nat} (hn : n < 2147483648) (h : isB x (nI n) = true) : iN x < n ∧ x = nI (iN x) := by
  unfold isB at h
  by_cases c : x < 0
  · rw [if_pos c] at h; cases h
  · rw [if_neg c] at h
    by_cases d : nI n ≤ x
    · rw [if_pos d] at h; cases h
    · rw [Int32.lt_iff_toInt_lt] at c
      rw [Int32.le_iff_toInt_le, show (nI n).toInt = n from Int32.toInt_ofNat_of_lt (by omega)] at d
      have h0 : (0 : Int32).toInt = 0 := rfl
      have h1 := x.toInt_lt
      unfold iN
      refine ⟨by omega, ?_⟩
      apply Int32.toInt_inj.mp
      rw [show (nI x.toInt.toNat).toInt = x.toInt.toNat from Int32.toInt_ofNat_of_lt (by omega)]
      omega
theorem gt_ge {x y : Int32} (h : x < y) : ¬ y ≤ x := by
  rw [Int32.lt_iff_toInt_lt] at h
  rw [Int32.le_iff_toInt_le]
  omega
theorem le34 {x : Int32} (h : x ≤ 3) : ¬ (4 : Int32) ≤ x := by
  rw [Int32.le_iff_toInt_le] at h ⊢
  have : (3 : Int32).toInt = 3 := rfl
  have : (4 : Int32).toInt = 4 := rfl
  omega
theorem gt34 {x : Int32} (h : ¬ x ≤ 3) : (4 : Int32) ≤ x := by
  rw [Int32.le_iff_toInt_le] at h ⊢
  have : (3 : Int32).toInt = 3 := rfl
  have : (4 : Int32).toInt = 4 := rfl
  omega
theorem le23 {x : Int32} (h : x ≤ 2) : ¬ (3 : Int32) ≤ x := by
  rw [Int32.le_iff_toInt_le] at h ⊢
  have : (3 : Int32).toInt = 3 := rfl
  have : (2 : Int32).toInt = 2 := rfl
  omega
theorem gt23 {x : Int32} (h : ¬ x ≤ 2) : (3 : Int32) ≤ x := by
  rw [Int32.le_iff_toInt_le] at h ⊢
  have : (3 : Int32).toInt = 3 := rfl
  have : (2 : Int32).toInt = 2 := rfl
  omega
def rEn (r : RW) (E : List (Int32 × Int32)) (c : Int32) : RW := (r.od, E, c, r.hw, r.lo, r.hg, r.wk, r.kw, r.cp, r.gv, r.ho)
def rNew (r : RW) (o : Int32) : RW := (o, [], r.cg + 1, 0, r.lo, r.hg, false, r.kw, r.cp, r.gv, r.ho)
def F_make (kind o : Int32) (r : RW) : Unit × Int32 × RW := if isB kind 4 = true ∧ isB o 3 = true then ((), 0, rNew r o) else ((), 1, r)
def F_enter (key v : Int32) (r : RW) : Int32 × Int32 × RW := if hitE r.od key r.en = true then (0, 0, rEn r (putE r.od key v r.en) r.cg) else if r.en.length = 60 then (0, 2, r) else (1, 0, rEn r (putE r.od key v r.en) (r.cg + 1))
def F_remove (key : Int32) (r : RW) : Int32 × Int32 × RW := if hitE r.od key r.en = true then (1, 0, rEn r (cutE (plE r.od key r.en) r.en) (r.cg + 1)) else (0, 0, r)
def F_get (key : Int32) (r : RW) : Int32 × Int32 × RW := if hitE r.od key r.en = true then ((r.en.getD (plE r.od key r.en) (0, 0)).2, 0, r) else (0, 2, r)
/-- the place of the neighbour, and one -/
def nearK (which : Int32) (p : Nat) (hit : Bool) : Nat := if which = 1 then p + 1 else if which = 2 then p else if which = 0 then (if hit = true then p + 1 else p) else (if hit = true then p + 2 else p + 1)
def F_near (which key : Int32) (r : RW) : Int32 × Int32 × RW := if isB which 4 = true then (if nearK which (plE r.od key r.en) (hitE r.od key r.en) = 0 ∨ r.en.length < nearK which (plE r.od key r.en) (hitE r.od key r.en) then (0, 2, r) else ((r.en.getD (nearK which (plE r.od key r.en) (hitE r.od key r.en) - 1) (0, 0)).1, 0, r)) else (0, 1, r)
def F_size (r : RW) : Int32 × Int32 × RW := (nI r.en.length, 0, r)
def F_rank (key : Int32) (r : RW) : Int32 × Int32 × RW := (nI (plE r.od key r.en), 0, r)
def F_select (i : Int32) (r : RW) : Int32 × Int32 × RW := if isB i (nI r.en.length) = true then ((r.en.getD (iN i) (0, 0)).1, 0, r) else (0, 2, r)
def F_sum (key : Int32) (r : RW) : Int64 × Int32 × RW := (sumE (r.en.take (plE r.od key r.en)), 0, r)
def F_range (how f s : Int32) (r : RW) : Unit × Int32 × RW := if isB how 4 = true ∧ ¬ (how = 3 ∧ gB r.od s f = true) then ((), 0, (r.od, r.en, r.cg, iN how, f, s, r.wk, r.kw, r.cp, r.gv, r.ho)) else ((), 1, r)
def F_within (what : Int32) (r : RW) : Int32 × Int32 × RW := if isB what 3 = true then (if what = 0 then (nI (endR r - begR r), 0, r) else if endR r = begR r then (0, 2, r) else ((r.en.getD (if what = 1 then begR r else endR r - 1) (0, 0)).1, 0, r)) else (0, 1, r)
abbrev outR (key : Int32) (r : RW) : Prop := (r.hw % 2 = 1 ∧ gB r.od key r.lo = true) ∨ (1 < r.hw ∧ gB r.od key r.hg = false)
def F_putWithin (key v : Int32) (r : RW) : Int32 × Int32 × RW := if outR key r then (0, 1, r) else F_enter key v r
def F_poll (b : Bool) (r : RW) : Int32 × Int32 × RW := if begR r = endR r then (0, 2, r) else ((r.en.getD (if b = true then endR r - 1 else begR r) (0, 0)).1, 0, rEn r (cutE (if b = true then endR r - 1 else begR r) r.en) (r.cg + 1))
def walkL (b : Bool) (r : RW) : List Int32 := if b = true then (((r.en.take (endR r)).drop (begR r)).map (·.1)).reverse else ((r.en.take (endR r)).drop (begR r)).map (·.1)
def F_iterate (b : Bool) (r : RW) : Unit × Int32 × RW := ((), 0, (r.od, r.en, r.cg, r.hw, r.lo, r.hg, true, r.cg, walkL b r, 0, false))
def F_next (r : RW) : Int32 × Int32 × RW := if r.wk = false ∨ r.kw ≠ r.cg then (0, 2, r) else if r.gv = r.cp.length then (0, 3, r) else (r.cp.getD r.gv 0, 0, (r.od, r.en, r.cg, r.hw, r.lo, r.hg, r.wk, r.kw, r.cp, r.gv + 1, true))
def F_drop (r : RW) : Unit × Int32 × RW := if r.wk = false ∨ r.kw ≠ r.cg ∨ r.ho = false then ((), 2, r) else ((), 0, (r.od, cutE (plE r.od (r.cp.getD (r.gv - 1) 0) r.en) r.en, r.cg + 1, r.hw, r.lo, r.hg, r.wk, r.cg + 1, r.cp, r.gv, false))
def F_changes (r : RW) : Int32 × Int32 × RW := (r.cg, 0, r)
def F_audit (r : RW) : Int32 × Int32 × RW := (1, 0, r)
/-- two rows of entries become one -/
def mgE (od op : Int32) : Nat → List (Int32 × Int32) → List (Int32 × Int32) → List (Int32 × Int32) × Nat
  | 0, _, _ => ([], 0)
  | n + 1, a :: A, [] => if op = 1 then ((mgE od op n A []).1, (mgE od op n A []).2 + 1) else (a :: (mgE od op n A []).1, (mgE od op n A []).2)
  | n + 1, [], b :: B => if op = 0 then (b :: (mgE od op n [] B).1, (mgE od op n [] B).2 + 1) else ((mgE od op n [] B).1, (mgE od op n [] B).2)
  | n + 1, a :: A, b :: B => if gB od a.1 b.1 = true then (if op = 1 then ((mgE od op n A (b :: B)).1, (mgE od op n A (b :: B)).2 + 1) else (a :: (mgE od op n A (b :: B)).1, (mgE od op n A (b :: B)).2)) else if gB od b.1 a.1 = true then (if op = 0 then (b :: (mgE od op n (a :: A) B).1, (mgE od op n (a :: A) B).2 + 1) else ((mgE od op n (a :: A) B).1, (mgE od op n (a :: A) B).2)) else (if op = 2 then ((mgE od op n A B).1, (mgE od op n A B).2 + 1) else ((a.1, 2 * a.2 + b.2) :: (mgE od op n A B).1, (mgE od op n A B).2))
  | _ + 1, [], [] => ([], 0)
def F_join (op : Int32) (r s : RW) : Int32 × Int32 × RW := if isB op 3 = true ∧ r.od = s.od then (if 60 < (mgE r.od op 120 r.en s.en).1.length then (0, 2, r) else (nI (mgE r.od op 120 r.en s.en).2, 0, rEn r (mgE r.od op 120 r.en s.en).1 (r.cg + nI (mgE r.od op 120 r.en s.en).2))) else (0, 1, r)
/-! the states that the methods leave -/
theorem wq_renew {q : QS} (h : WQ q) (j : Nat) (o : Int32) (c : Nat → Int32) : WQ (q.co, upd q.oo j o, va_up q.zz j 0, q.ks, q.vs, c, va_up q.hw j 0, q.lo, q.hg, va_up q.wk j false, q.kw, q.mn, q.gv, q.cp, q.ho, q.nk, q.nv) := by
  obtain ⟨h1, h2, h3, h4, h5⟩ := h
  refine ⟨fun i => ?_, fun i => ?_, h3, h4, fun i hi => ?_⟩
  · show va_up q.zz j 0 i ≤ 60
    by_cases e : i = j
    · subst e; rw [vup_eq]; omega
    · rw [vup_ne e]; exact h1 i
  · show va_up q.hw j 0 i ≤ 3
    by_cases e : i = j
    · subst e; rw [vup_eq]; omega
    · rw [vup_ne e]; exact h2 i
  · have hi : va_up q.hw j 0 i = 3 := hi
    show gB (upd q.oo j o i) (q.hg i) (q.lo i) = false
    by_cases e : i = j
    · subst e; rw [vup_eq] at hi; omega
    · rw [vup_ne e] at hi; rw [ux_ne e]; exact h5 i hi
theorem ab_renew (q : QS) (j : Nat) (o : Int32) : ab (q.co, upd q.oo j o, va_up q.zz j 0, q.ks, q.vs, upd q.cg j (q.cg j + 1), va_up q.hw j 0, q.lo, q.hg, va_up q.wk j false, q.kw, q.mn, q.gv, q.cp, q.ho, q.nk, q.nv) = va_up (ab q) j (rNew (ab q j) o) := by
  refine ab_up ?_ fun i hi => ?_
  · show (upd q.oo j o j, rowL q.ks q.vs (va_up q.zz j 0 j) j, upd q.cg j (q.cg j + 1) j, va_up q.hw j 0 j, q.lo j, q.hg j, va_up q.wk j false j, q.kw j, colL q.cp (q.mn j) j, q.gv j, q.ho j) = _
    rw [ux_eq, vup_eq, ux_eq, vup_eq, vup_eq]
    rfl
  · show (upd q.oo j o i, rowL q.ks q.vs (va_up q.zz j 0 i) i, upd q.cg j (q.cg j + 1) i, va_up q.hw j 0 i, q.lo i, q.hg i, va_up q.wk j false i, q.kw i, colL q.cp (q.mn i) i, q.gv i, q.ho i) = _
    rw [ux_ne hi, vup_ne hi, ux_ne hi, vup_ne hi, vup_ne hi]
    rfl
/-- other rows: entries -/
theorem row_far {f g f' g' : Nat → Int32} {z i j : Nat} (hz : z ≤ 60) (hij : i ≠ j) (hf : ∀ x, ¬ (64 * j ≤ x ∧ x < 64 * j + 64) → f' x = f x) (hg : ∀ x, ¬ (64 * j ≤ x ∧ x < 64 * j + 64) → g' x = g x) : rowL f' g' z i = rowL f g z i := rowL_cg fun x hx => ⟨hf _ (by omega), hg _ (by omega)⟩
theorem col_far {f f' : Nat → Int32} {z i j : Nat} (hz : z ≤ 60) (hij : i ≠ j) (hf : ∀ x, ¬ (64 * j ≤ x ∧ x < 64 * j + 64) → f' x = f x) : colL f' z i = colL f z i := colL_cg fun x hx => hf _ (by omega)
/-- entries and CHANGES of one map -/
theorem wq_ent {q : QS} (h : WQ q) (j z : Nat) (hz : z ≤ 60) (co : Int32) (ks vs cg nk nv : Nat → Int32) : WQ (co, q.oo, va_up q.zz j z, ks, vs, cg, q.hw, q.lo, q.hg, q.wk, q.kw, q.mn, q.gv, q.cp, q.ho, nk, nv) := by
  obtain ⟨h1, h2, h3, h4, h5⟩ := h
  refine ⟨fun i => ?_, h2, h3, h4, h5⟩
  show va_up q.zz j z i ≤ 60
  by_cases e : i = j
  · subst e; rw [vup_eq]; exact hz
  · rw [vup_ne e]; exact h1 i
theorem ab_ent {q : QS} (h : WQ q) {j z : Nat} {co c : Int32} {ks vs nk nv : Nat → Int32} {E : List (Int32 × Int32)} (hE : rowL ks vs z j = E) (hf : ∀ x, ¬ (64 * j ≤ x ∧ x < 64 * j + 64) → ks x = q.ks x) (hg : ∀ x, ¬ (64 * j ≤ x ∧ x < 64 * j + 64) → vs x = q.vs x) : ab (co, q.oo, va_up q.zz j z, ks, vs, upd q.cg j c, q.hw, q.lo, q.hg, q.wk, q.kw, q.mn, q.gv, q.cp, q.ho, nk, nv) = va_up (ab q) j (rEn (ab q j) E c) := by
  refine ab_up ?_ fun i hi => ?_
  · show (q.oo j, rowL ks vs (va_up q.zz j z j) j, upd q.cg j c j, q.hw j, q.lo j, q.hg j, q.wk j, q.kw j, colL q.cp (q.mn j) j, q.gv j, q.ho j) = _
    rw [ux_eq, vup_eq, hE]
    rfl
  · show (q.oo i, rowL ks vs (va_up q.zz j z i) i, upd q.cg j c i, q.hw i, q.lo i, q.hg i, q.wk i, q.kw i, colL q.cp (q.mn i) i, q.gv i, q.ho i) = _
    rw [ux_ne hi, vup_ne hi, row_far (h.1 i) hi hf hg]
    rfl
theorem ab_val {q : QS} (h : WQ q) {j i : Nat} {co v : Int32} (hi : i < q.zz j) : ab (co, q.oo, q.zz, q.ks, upd q.vs (64 * j + i) v, q.cg, q.hw, q.lo, q.hg, q.wk, q.kw, q.mn, q.gv, q.cp, q.ho, q.nk, q.nv) = va_up (ab q) j (rEn (ab q j) ((rowL q.ks q.vs (q.zz j) j).take i ++ (((rowL q.ks q.vs (q.zz j) j).getD i (0, 0)).1, v) :: (rowL q.ks q.vs (q.zz j) j).drop (i + 1)) (ab q j).cg) := by
  have h6 := h.1 j
  refine ab_up ?_ fun k hk => ?_
  · show (q.oo j, rowL q.ks (upd q.vs (64 * j + i) v) (q.zz j) j, q.cg j, q.hw j, q.lo j, q.hg j, q.wk j, q.kw j, colL q.cp (q.mn j) j, q.gv j, q.ho j) = _
    rw [rowL_set hi]
    rfl
  · show (q.oo k, rowL q.ks (upd q.vs (64 * j + i) v) (q.zz k) k, q.cg k, q.hw k, q.lo k, q.hg k, q.wk k, q.kw k, colL q.cp (q.mn k) k, q.gv k, q.ho k) = _
    rw [row_far (h.1 k) hk (fun x _ => rfl) (fun x hx => ux_ne (by omega))]
    rfl
theorem far_shU {f0 f : Nat → Int32} {j i z : Nat} {v : Int32} (h : shU f0 f (64 * j + i) (64 * j + z)) (hz : z < 64) (hi : i < 64) : ∀ x, ¬ (64 * j ≤ x ∧ x < 64 * j + 64) → upd f (64 * j + i) v x = f0 x := fun x hx => by
  rw [ux_ne (by omega), h, if_neg (by omega)]
theorem far_shD {f0 f : Nat → Int32} {j i z : Nat} (h : shD f0 f (64 * j + i) (64 * j + z)) (hz : z < 64) : ∀ x, ¬ (64 * j ≤ x ∧ x < 64 * j + 64) → f x = f0 x := fun x hx => by
  rw [h, if_neg (by omega)]
/-- range -/
theorem wq_range {q : QS} (h : WQ q) {j hw0 : Nat} {co f s : Int32} (hh : hw0 ≤ 3) (h3 : hw0 = 3 → gB (q.oo j) s f = false) : WQ (co, q.oo, q.zz, q.ks, q.vs, q.cg, va_up q.hw j hw0, upd q.lo j f, upd q.hg j s, q.wk, q.kw, q.mn, q.gv, q.cp, q.ho, q.nk, q.nv) := by
  obtain ⟨h1, h2, h3', h4, h5⟩ := h
  refine ⟨h1, fun i => ?_, h3', h4, fun i hi => ?_⟩
  · show va_up q.hw j hw0 i ≤ 3
    by_cases e : i = j
    · subst e; rw [vup_eq]; exact hh
    · rw [vup_ne e]; exact h2 i
  · have hi : va_up q.hw j hw0 i = 3 := hi
    show gB (q.oo i) (upd q.hg j s i) (upd q.lo j f i) = false
    by_cases e : i = j
    · subst e; rw [vup_eq] at hi; rw [ux_eq, ux_eq]; exact h3 hi
    · rw [vup_ne e] at hi; rw [ux_ne e, ux_ne e]; exact h5 i hi
theorem ab_range (q : QS) {j hw0 : Nat} {co f s : Int32} : ab (co, q.oo, q.zz, q.ks, q.vs, q.cg, va_up q.hw j hw0, upd q.lo j f, upd q.hg j s, q.wk, q.kw, q.mn, q.gv, q.cp, q.ho, q.nk, q.nv) = va_up (ab q) j ((ab q j).od, (ab q j).en, (ab q j).cg, hw0, f, s, (ab q j).wk, (ab q j).kw, (ab q j).cp, (ab q j).gv, (ab q j).ho) := by
  refine ab_up ?_ fun i hi => ?_
  · show (q.oo j, rowL q.ks q.vs (q.zz j) j, q.cg j, va_up q.hw j hw0 j, upd q.lo j f j, upd q.hg j s j, q.wk j, q.kw j, colL q.cp (q.mn j) j, q.gv j, q.ho j) = _
    rw [vup_eq, ux_eq, ux_eq]
    rfl
  · show (q.oo i, rowL q.ks q.vs (q.zz i) i, q.cg i, va_up q.hw j hw0 i, upd q.lo j f i, upd q.hg j s i, q.wk i, q.kw i, colL q.cp (q.mn i) i, q.gv i, q.ho i) = _
    rw [vup_ne hi, ux_ne hi, ux_ne hi]
    rfl
/-- iterate -/
theorem wq_iter {q : QS} (h : WQ q) {j n : Nat} {co c : Int32} {cp : Nat → Int32} (hn : n ≤ 60) : WQ (co, q.oo, q.zz, q.ks, q.vs, q.cg, q.hw, q.lo, q.hg, va_up q.wk j true, upd q.kw j c, va_up q.mn j n, va_up q.gv j 0, cp, va_up q.ho j false, q.nk, q.nv) := by
  obtain ⟨h1, h2, h3, h4, h5⟩ := h
  refine ⟨h1, h2, fun i => ?_, fun i => ?_, h5⟩
  · show va_up q.mn j n i ≤ 60
    by_cases e : i = j
    · subst e; rw [vup_eq]; exact hn
    · rw [vup_ne e]; exact h3 i
  · show va_up q.gv j 0 i ≤ va_up q.mn j n i
    by_cases e : i = j
    · subst e; rw [vup_eq, vup_eq]; omega
    · rw [vup_ne e, vup_ne e]; exact h4 i
theorem ab_iter {q : QS} (h : WQ q) {j n : Nat} {co c : Int32} {cp : Nat → Int32} {C : List Int32} (hC : colL cp n j = C) (hf : ∀ x, ¬ (64 * j ≤ x ∧ x < 64 * j + 64) → cp x = q.cp x) : ab (co, q.oo, q.zz, q.ks, q.vs, q.cg, q.hw, q.lo, q.hg, va_up q.wk j true, upd q.kw j c, va_up q.mn j n, va_up q.gv j 0, cp, va_up q.ho j false, q.nk, q.nv) = va_up (ab q) j ((ab q j).od, (ab q j).en, (ab q j).cg, (ab q j).hw, (ab q j).lo, (ab q j).hg, true, c, C, 0, false) := by
  refine ab_up ?_ fun i hi => ?_
  · show (q.oo j, rowL q.ks q.vs (q.zz j) j, q.cg j, q.hw j, q.lo j, q.hg j, va_up q.wk j true j, upd q.kw j c j, colL cp (va_up q.mn j n j) j, va_up q.gv j 0 j, va_up q.ho j false j) = _
    rw [vup_eq, ux_eq, vup_eq, vup_eq, vup_eq, hC]
    rfl
  · show (q.oo i, rowL q.ks q.vs (q.zz i) i, q.cg i, q.hw i, q.lo i, q.hg i, va_up q.wk j true i, upd q.kw j c i, colL cp (va_up q.mn j n i) i, va_up q.gv j 0 i, va_up q.ho j false i) = _
    rw [vup_ne hi, ux_ne hi, vup_ne hi, vup_ne hi, vup_ne hi, col_far (h.2.2.1 i) hi hf]
    rfl
/-- next -/
theorem wq_next {q : QS} (h : WQ q) {j : Nat} {co : Int32} {ho : Nat → Bool} (hn : q.gv j < q.mn j) : WQ (co, q.oo, q.zz, q.ks, q.vs, q.cg, q.hw, q.lo, q.hg, q.wk, q.kw, q.mn, va_up q.gv j (q.gv j + 1), q.cp, ho, q.nk, q.nv) := by
  obtain ⟨h1, h2, h3, h4, h5⟩ := h
  refine ⟨h1, h2, h3, fun i => ?_, h5⟩
  show va_up q.gv j (q.gv j + 1) i ≤ q.mn i
  by_cases e : i = j
  · subst e; rw [vup_eq]; omega
  · rw [vup_ne e]; exact h4 i
theorem ab_next (q : QS) {j : Nat} {co : Int32} : ab (co, q.oo, q.zz, q.ks, q.vs, q.cg, q.hw, q.lo, q.hg, q.wk, q.kw, q.mn, va_up q.gv j (q.gv j + 1), q.cp, va_up q.ho j true, q.nk, q.nv) = va_up (ab q) j ((ab q j).od, (ab q j).en, (ab q j).cg, (ab q j).hw, (ab q j).lo, (ab q j).hg, (ab q j).wk, (ab q j).kw, (ab q j).cp, (ab q j).gv + 1, true) := by
  refine ab_up ?_ fun i hi => ?_
  · show (q.oo j, rowL q.ks q.vs (q.zz j) j, q.cg j, q.hw j, q.lo j, q.hg j, q.wk j, q.kw j, colL q.cp (q.mn j) j, va_up q.gv j (q.gv j + 1) j, va_up q.ho j true j) = _
    rw [vup_eq, vup_eq]
    rfl
  · show (q.oo i, rowL q.ks q.vs (q.zz i) i, q.cg i, q.hw i, q.lo i, q.hg i, q.wk i, q.kw i, colL q.cp (q.mn i) i, va_up q.gv j (q.gv j + 1) i, va_up q.ho j true i) = _
    rw [vup_ne hi, vup_ne hi]
    rfl
/-- drop, behind close -/
theorem ab_kh (q : QS) {j : Nat} {c : Int32} : ab (q.co, q.oo, q.zz, q.ks, q.vs, q.cg, q.hw, q.lo, q.hg, q.wk, upd q.kw j c, q.mn, q.gv, q.cp, va_up q.ho j false, q.nk, q.nv) = va_up (ab q) j ((ab q j).od, (ab q j).en, (ab q j).cg, (ab q j).hw, (ab q j).lo, (ab q j).hg, (ab q j).wk, c, (ab q j).cp, (ab q j).gv, false) := by
  refine ab_up ?_ fun i hi => ?_
  · show (q.oo j, rowL q.ks q.vs (q.zz j) j, q.cg j, q.hw j, q.lo j, q.hg j, q.wk j, upd q.kw j c j, colL q.cp (q.mn j) j, q.gv j, va_up q.ho j false j) = _
    rw [ux_eq, vup_eq]
    rfl
  · show (q.oo i, rowL q.ks q.vs (q.zz i) i, q.cg i, q.hw i, q.lo i, q.hg i, q.wk i, upd q.kw j c i, colL q.cp (q.mn i) i, q.gv i, va_up q.ho j false i) = _
    rw [ux_ne hi, vup_ne hi]
    rfl
abbrev enQ (q : QS) (j : Nat) : List (Int32 × Int32) := rowL q.ks q.vs (q.zz j) j
abbrev plQ (q : QS) (j : Nat) (key : Int32) : Nat := plE (q.oo j) key (enQ q j)
abbrev hitQ (q : QS) (j : Nat) (key : Int32) : Bool := hitE (q.oo j) key (enQ q j)
theorem plz (q : QS) (j : Nat) (key : Int32) : plQ q j key ≤ q.zz j := by
  have h := plE_le (q.oo j) key (enQ q j)
  rw [rowL_len] at h
  exact h
theorem pl60 {q : QS} (h : WQ q) (j : Nat) (key : Int32) : plQ q j key ≤ 60 := Nat.le_trans (plz q j key) (h.1 j)
theorem hitz {q : QS} {j : Nat} {key : Int32} (h : hitQ q j key = true) : plQ q j key < q.zz j := by
  have h9 := hit_lt h
  rw [rowL_len] at h9
  exact h9
theorem ab_len (q : QS) (j : Nat) : (ab q j).en.length = q.zz j := rowL_len _ _ _ _
theorem EN_of {q u : QS} {j : Nat} {key v r c : Int32} {R : RW} (hF : F_enter key v (ab q j) = (r, c, R)) (hw : WQ u) (h2 : u.co = c) (h3 : ab u = va_up (ab q) j R) : WQ u ∧ r = (F_enter key v (ab q j)).1 ∧ u.co = (F_enter key v (ab q j)).2.1 ∧ ab u = va_up (ab q) j (F_enter key v (ab q j)).2.2 := by
  rw [hF]
  exact ⟨hw, rfl, h2, h3⟩
theorem F_enter_hit {key v : Int32} {r : RW} (h : hitE r.od key r.en = true) : F_enter key v r = (0, 0, rEn r (r.en.take (plE r.od key r.en) ++ ((r.en.getD (plE r.od key r.en) (0, 0)).1, v) :: r.en.drop (plE r.od key r.en + 1)) r.cg) := by
  unfold F_enter
  rw [if_pos h, putE_hit h]
theorem F_enter_full {key v : Int32} {r : RW} (h : hitE r.od key r.en = false) (hl : r.en.length = 60) : F_enter key v r = (0, 2, r) := by
  unfold F_enter
  rw [if_neg (by rw [h]; decide), if_pos hl]
theorem F_enter_new {key v : Int32} {r : RW} (h : hitE r.od key r.en = false) (hl : ¬ r.en.length = 60) : F_enter key v r = (1, 0, rEn r (insE (plE r.od key r.en) (key, v) r.en) (r.cg + 1)) := by
  unfold F_enter
  rw [if_neg (by rw [h]; decide), if_neg hl, putE_new h]
theorem beg_1 {r : RW} (h : r.hw % 2 = 1) : begR r = plE r.od r.lo r.en := if_pos h
theorem beg_0 {r : RW} (h : ¬ r.hw % 2 = 1) : begR r = 0 := if_neg h
theorem enR_1 {r : RW} (h : 1 < r.hw) : endR r = plE r.od r.hg r.en := if_pos h
theorem enR_0 {r : RW} (h : ¬ 1 < r.hw) : endR r = r.en.length := if_neg h
theorem gB_a {od x y : Int32} (h : od = 1) (c : x ≤ y) : gB od x y = false := by unfold gB; rw [if_pos h, if_pos c]
theorem gB_b {od x y : Int32} (h : od = 1) (c : ¬ x ≤ y) : gB od x y = true := by unfold gB; rw [if_pos h, if_neg c]
theorem gB_c {od x y : Int32} (h : ¬ od = 1) (h2 : od = 2) (c : fdiv y 4 ≤ fdiv x 4) : gB od x y = false := by unfold gB; rw [if_neg h, if_pos h2, if_pos c]
theorem gB_d {od x y : Int32} (h : ¬ od = 1) (h2 : od = 2) (c : ¬ fdiv y 4 ≤ fdiv x 4) : gB od x y = true := by unfold gB; rw [if_neg h, if_pos h2, if_neg c]
theorem gB_e {od x y : Int32} (h : ¬ od = 1) (h2 : ¬ od = 2) (c : y ≤ x) : gB od x y = false := by unfold gB; rw [if_neg h, if_neg h2, if_pos c]
theorem gB_g {od x y : Int32} (h : ¬ od = 1) (h2 : ¬ od = 2) (c : ¬ y ≤ x) : gB od x y = true := by unfold gB; rw [if_neg h, if_neg h2, if_neg c]
