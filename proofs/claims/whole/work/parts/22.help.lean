theorem xn_eq {a b : Nat} (ha : a < 2147483648) (hb : b < 2147483648) : nI a = nI b ↔ a = b := nI_eq ha hb
theorem xn_lt {a b : Nat} (ha : a < 2147483648) (hb : b < 2147483648) : nI a < nI b ↔ a < b := nI_ltI ha hb
theorem xn_le {a b : Nat} (ha : a < 2147483648) (hb : b < 2147483648) : nI a ≤ nI b ↔ a ≤ b := nI_leI ha hb
theorem nI_dec {n : Nat} (h : 0 < n) : nI n + (-1) = nI (n - 1) := sb_m1 h
theorem vu_le {f : Nat → Nat} {N x y : Nat} (h : ∀ k, f k ≤ N) (hy : y ≤ N) : ∀ k, va_up f x y k ≤ N := fun k => by
  by_cases hk : k = x
  · subst hk; rw [show va_up f k y k = y from if_pos rfl]; exact hy
  · rw [show va_up f x y k = f k from if_neg hk]; exact h k
/-- the start of a contract that asks nothing of the heap -/
theorem xPreT {s : State} {H : Heap} {As : List Value} : PreS s H (va_Pc As (fun _ => True)) As := ⟨fun _ _ _ _ q => q, fun _ _ _ => ⟨rfl, trivial⟩⟩
theorem bI_nar (b : Bool) : narrow .boolean (.int (bI b)) = .int (bI b) := by cases b <;> rfl
/-- a contract of a method of the JDK's that no native row stands for -/
theorem xMetF {l : Launch} {y : MethodName} {ws ws' : List Cond} {rm : Room} {Pc : Array Value → State → Prop} {Qc : Array Value → State → Outcome → State → Prop} {mc ms : Nat} {free : Addr → Prop} {cc : ByteArray} {maxL : Nat} {ret : Option FieldType}
    (hy : plainFor y = true) (hw : ws = Cond.code y cc maxL ret :: ws')
    (body : ∀ p e s m args below meth c s₁, BodyLoose p l y (headSpec ws rm) cc maxL ret e s m args below meth c s₁ → c.maxLocals = maxL → Pc args s →
      W p l e (headSpec ws rm).room s m args below meth c s.heap [] 0 0 (MQ below Qc args s mc ms free) (entryFrame m args maxL)) : Met l y ws rm Pc Qc mc ms free := by
  refine MetFree.of_bodySF (code := cc) (maxLocals := maxL) (ret := ret) hy ?_ ?_
  · intro args s m h hn
    obtain ⟨meth, c, h1, h2, h3, h4, h5, h6, -, -⟩ := Cond.code_spec hn (atoms_spec (ws := ws) h _ (by rw [hw]; exact List.mem_cons_self))
    exact ⟨meth, c, h1, h2, h3, h4, h5, h6⟩
  · intro p e s m args below meth c s₁ B hml hP _
    have hh0 : s₁.heap = s.heap := by rw [B.state]; rfl
    obtain ⟨t, a1, o, b1, b2, b3⟩ := body p e s m args below meth c s₁ B hml hP s₁ hh0 (Stand.of_body B)
    exact ⟨t, o, a1, b1, b2, ⟨b3.1, b3.2⟩⟩
/-- a loop: inv n u at its head, n falls -/
theorem xl {p : Program} {l : Launch} {e : Env} {R : Room} {s : State} {m : MethodId} {args : Array Value} {below : List Frame} {meth : Method} {c : Code} {cells slots : Nat} {Q : State → Prop} (head : Nat) {σ : Type} (inv : Nat → σ → Heap → List Loc → Array Slot → Prop)
    (step : ∀ n, (∀ k, k < n → ∀ u H locs ls, inv k u H locs ls → W p l e R s m args below meth c H locs cells slots Q (F0 m head ls [])) → ∀ u H locs ls, inv n u H locs ls → W p l e R s m args below meth c H locs cells slots Q (F0 m head ls [])) :
    ∀ n u H locs ls, inv n u H locs ls → W p l e R s m args below meth c H locs cells slots Q (F0 m head ls []) := by
  intro n
  induction n using Nat.strongRecOn with
  | _ n ih => exact step n ih
