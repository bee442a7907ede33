/-! System.arraycopy; several steps at once -/
section COPY
variable {p : Program} {l : Launch} {e : Env} {R : Room} {s : State} {m : MethodId} {args : Array Value} {below : List Frame} {meth : Method} {c : Code} {H : Heap} {locs : List Loc} {cells slots : Nat} {Q : State → Prop}
variable {cc : ByteArray} {pc : Nat} {ls : Array Slot} {rest : List Value}
/-- the native copy, of arrays of values that mk makes -/
theorem x_copyW {α : Type} (mk : α → Value) (hexec : p.tables.exec = Jvm.exec) (hb : c.code = cc) (hml : c.maxLocals = ls.size) {own : String} {index : Nat} (hown : s.vm.findClass own = some m.cls) (hlink : (Cond.methodLink own index arraycopyName).before args s = true) (hnat : (Cond.native arraycopyName).before args s = true) (hstat : (Cond.static arraycopyName).before args s = true) (hini : (Cond.initialized "java/lang/System").before args s = true)
    {a0 a : Nat} {c0 c1 : ClassId} {n0 n1 : Nat} {f g : Nat → α} {ty : FieldType} (hc0 : H[a0]? = some (arrV c0 n0 (fun j => mk (f j)))) (hc1 : H[a]? = some (arrV c1 n1 (fun j => mk (g j)))) (ht0 : ArrOfT s c0 ty) (ht1 : ArrOfT s c1 ty) (hprim : refKind ty = false)
    {sp dp n : Int32} (h1 : ¬ sp < 0) (h2 : ¬ dp < 0) (h3 : ¬ n < 0) (h4 : sp.toNatClampNeg + n.toNatClampNeg ≤ n0) (h5 : dp.toNatClampNeg + n.toNatClampNeg ≤ n1) (hfit : ∀ x : α, fits ty (mk x) = true) (hnr : ∀ x : α, match mk x with
      | .ref _ => False
      | _ => True)
    (hframes : 1 ≤ R.frames) (hlocals : (rest.map fun v => v.category).sum + (nativeFrameWords "java/lang/System" "arraycopy" 5 + 11) ≤ R.locals) (hdg : decode cc pc = .ok (.invokestatic index, 3))
    (kk : ∀ (H1 : Heap) (L1 : List Loc), H1[a]? = some (arrV c1 n1 (fun j => mk (va_cpy f g sp.toNatClampNeg dp.toNatClampNeg n.toNatClampNeg j))) → H1.size = H.size → (∀ q : Nat, q ≠ a → H1[q]? = H[q]?) → (∀ q ∈ L1, q.base = a) → W p l e R s m args below meth c H1 (locs ++ L1) cells slots Q (F0 m (pc + 3) ls rest)) : W p l e R s m args below meth c H locs cells slots Q (F0 m pc ls (.int n :: .int dp :: .ref a :: .int sp :: .ref a0 :: rest)) := by
  have nn : ∀ z : Int32, ¬ z < 0 → z.toInt = (z.toNatClampNeg : Int) := by
    intro z hz
    have hz0 : (0 : Int) ≤ z.toInt := by
      have := Int32.not_lt.mp hz
      simpa using Int32.le_iff_toInt_le.mp this
    show z.toInt = ((z.toInt.toNat : Nat) : Int)
    omega
  intro T hT X
  obtain ⟨-, k0, hk0, cm0, hkk0⟩ := ht0 n0 (fun j => mk (f j))
  obtain ⟨-, k1, hk1, cm1, hkk1⟩ := ht1 n1 (fun j => mk (g j))
  obtain ⟨vm', X', step⟩ := X.arraycopy hexec hown hlink hnat hstat hini (src := a0) (dst := a) (cs := arrV c0 n0 (fun j => mk (f j))) (cd := arrV c1 n1 (fun j => mk (g j))) (srcPos := sp) (destPos := dp) (n := n) (by rw [hT]; exact hc0) (by rw [hT]; exact hc1)
    (fun _ h => by cases h) (fun _ h => by cases h) (fun h => by cases h) (fun h => by cases h) hk0 hk1 hkk0 hkk1 (by simp [hprim]) h1 h2 h3
    (by rw [nn sp h1, nn n h3, arrV_size]; omega)
    (by rw [nn dp h2, nn n h3, arrV_size]; omega)
    (fun vm₁ _ i hi => by
      have e : (arrV c0 n0 (fun j => mk (f j))).slots.getD (sp.toNatClampNeg + i) .null = mk (f (sp.toNatClampNeg + i)) := by
        rw [Array.getD_eq_getD_getElem?, arrV_read _ _ (by omega)]
        rfl
      refine ⟨?_, ?_⟩
      · rw [e]
        exact hfit _
      · rw [e]
        have := hnr (f (sp.toNatClampNeg + i))
        revert this
        cases mk (f (sp.toNatClampNeg + i)) <;> intro h <;> first | exact trivial | exact h.elim)
    (g := F0 m pc ls (.int n :: .int dp :: .ref a :: .int sp :: .ref a0 :: rest)) rfl (by rw [hml]) (rest := rest) rfl (by rw [hb]; exact hdg) hframes (by show 2 * 0 + _ + _ ≤ _; omega)
  have e1 : copied (arrV c0 n0 (fun j => mk (f j))) (arrV c1 n1 (fun j => mk (g j))) sp dp n = arrV c1 n1 (fun j => mk (va_cpy f g sp.toNatClampNeg dp.toNatClampNeg n.toNatClampNeg j)) := va_copied mk c0 c1 f g h4
  rw [e1] at X' step
  have hl : a < H.size := (Array.getElem?_eq_some_iff.mp hc1).1
  obtain ⟨t, a1, b1⟩ := kk (H.setIfInBounds a (arrV c1 n1 (fun j => mk (va_cpy f g sp.toNatClampNeg dp.toNatClampNeg n.toNatClampNeg j)))) _ (by simp [Array.getElem?_setIfInBounds, hl]) (by simp) (fun q hq => by simp [Array.getElem?_setIfInBounds, Ne.symm hq]) (fun q hq => by
    obtain ⟨z, -, hz⟩ := List.mem_map.mp hq
    rw [← hz]) _ (by rw [← hT]; rfl) X'
  exact ⟨t, step t a1, b1⟩
end COPY
section STEPS6
variable {l : Launch} {P : xP} {M : List (xY × xT)} {μ : xM} {pc : Nat}

end STEPS6
/-! several steps at once: no fork, no return -/
noncomputable def x_go (M : List (xY × xT)) (N : Nat) (k : Nat) : xT → Nat → xS → Option (Nat × xS) := Nat.rec (motive := fun _ => xT → Nat → xS → Option (Nat × xS)) (fun _ pc st => some (pc, st)) (fun _ ih t pc st => match x_at t pc with
  | some ri => match ri (x_in (x_run M N) M) st with
    | some [.inr q] => ih t q.1 q.2
    | _ => none
  | none => none) k
theorem x_go_sound {l : Launch} {P : xP} {M : List (xY × xT)} (hM : xMok l P M) (N : Nat) {μ : xM} {t : xT} (ht : xTabOK l P M μ t) {p : Program} {e : Env} {s : State} {m : MethodId} {args : Array Value} {below : List Frame} {meth : Method} {c : Code} {R : Room} {Q : State → Prop} (C : xCx μ p s m args meth c R) {pc' : Nat} {st' : xS} (kk : ∀ (H : Heap) (locs : List Loc) (cells slots : Nat) (ls : Array Slot) (stk : List Value), xJ P μ.2.2.1 R s st' H locs cells slots ls stk → W p l e R s m args below meth c H locs cells slots Q (F0 m pc' ls stk)) : ∀ (k pc : Nat) (st : xS), x_go M N k t pc st = some (pc', st') → ∀ (H : Heap) (locs : List Loc) (cells slots : Nat) (ls : Array Slot) (stk : List Value), xJ P μ.2.2.1 R s st H locs cells slots ls stk → W p l e R s m args below meth c H locs cells slots Q (F0 m pc ls stk) := by
  intro k
  induction k with
  | zero =>
    intro pc st h
    have h : some (pc, st) = some (pc', st') := h
    cases h
    exact kk
  | succ k ih =>
    intro pc st h H locs cells slots ls stk J
    have h : (match x_at t pc with
      | some ri => match ri (x_in (x_run M N) M) st with
        | some [.inr q] => x_go M N k t q.1 q.2
        | _ => none
      | none => none) = some (pc', st') := h
    match hat : x_at t pc, h with
    | some ri, h =>
      have h : (match ri (x_in (x_run M N) M) st with
        | some [.inr q] => x_go M N k t q.1 q.2
        | _ => none) = some (pc', st') := h
      match hri : ri (x_in (x_run M N) M) st, h with
      | some [.inr q], h =>
        refine ht pc ri hat p e s m args below meth c R Q C _ (x_sound hM N).2 st _ hri H locs cells slots ls stk J (fun o ho => ?_)
        rw [List.mem_singleton.mp ho]
        intro H locs cells slots ls stk J
        exact ih q.1 q.2 h H locs cells slots ls stk J
