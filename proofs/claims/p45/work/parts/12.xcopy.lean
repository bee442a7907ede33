/-! System.arraycopy; several steps at once -/
theorem x_cp_lk {os : List (Nat × xV)} {ds : xV} {sp dp : Nat} {o : List (Nat × xV)} {d : xV} (k : Nat) : ∀ n : Nat, x_lk (x_cp os ds sp dp o d n) d k = if dp ≤ k ∧ k < dp + n then x_lk os ds (sp + (k - dp)) else x_lk o d k
  | 0 => by rw [if_neg (by omega)]; rfl
  | n + 1 => by
    show x_lk (x_upd (x_cp os ds sp dp o d n) (dp + n) (x_lk os ds (sp + n)) d) d k = _
    rw [x_upd_lk, x_cp_lk k n]
    by_cases h : k = dp + n
    · subst h
      rw [if_pos rfl, if_pos (by omega), Nat.add_sub_cancel_left]
    · rw [if_neg h]
      by_cases h2 : dp ≤ k ∧ k < dp + n
      · rw [if_pos h2, if_pos (by omega)]
      · rw [if_neg h2, if_neg (by omega)]
section COPY
variable {p : Program} {l : Launch} {e : Env} {R : Room} {s : State} {m : MethodId} {args : Array Value} {below : List Frame} {meth : Method} {c : Code} {H : Heap} {locs : List Loc} {cells slots : Nat} {Q : State → Prop}
variable {cc : ByteArray} {pc : Nat} {ls : Array Slot} {rest : List Value}
/-- the native copy, of arrays of values that mk makes -/
theorem x_copyW {α : Type} (mk : α → Value) (hexec : p.tables.exec = Jvm.exec) (hb : c.code = cc) (hml : c.maxLocals = ls.size) {own : String} {index : Nat} (hown : s.vm.findClass own = some m.cls) (hlink : (Cond.methodLink own index arraycopyName).before args s = true) (hnat : (Cond.native arraycopyName).before args s = true) (hstat : (Cond.static arraycopyName).before args s = true) (hini : (Cond.initialized "java/lang/System").before args s = true)
    {a0 a : Nat} {c0 c1 : ClassId} {n0 n1 : Nat} {f g : Nat → α} {ty : FieldType} (hc0 : H[a0]? = some (arrV c0 n0 (fun j => mk (f j)))) (hc1 : H[a]? = some (arrV c1 n1 (fun j => mk (g j)))) (ht0 : ArrOfT s c0 ty) (ht1 : ArrOfT s c1 ty) (hprim : refKind ty = false)
    {sp dp n : Int32} (h1 : ¬ sp < 0) (h2 : ¬ dp < 0) (h3 : ¬ n < 0) (h4 : sp.toNatClampNeg + n.toNatClampNeg ≤ n0) (h5 : dp.toNatClampNeg + n.toNatClampNeg ≤ n1) (hfit : ∀ x : α, fits ty (mk x) = true) (hnr : ∀ x : α, match mk x with
      | .ref _ => False
      | _ => True)
    (hframes : 1 ≤ R.frames) (hlocals : (rest.map fun v => v.category).sum + (nativeFrameWords "java/lang/System" "arraycopy" 5 + 11) ≤ R.locals) (hdg : decode cc pc = .ok (.invokestatic index, 3))
    (kk : ∀ (H1 : Heap) (L1 : List Loc), H1[a]? = some (arrV c1 n1 (fun j => mk (va_cpy f g sp.toNatClampNeg dp.toNatClampNeg n.toNatClampNeg j))) → H1.size = H.size → (∀ q : Nat, q ≠ a → H1[q]? = H[q]?) → (∀ q ∈ L1, q.base = a) → W p l e R s m args below meth c H1 (locs ++ L1) cells slots Q (F0 m (pc + 3) ls rest)) : W p l e R s m args below meth c H locs cells slots Q (F0 m pc ls (.int n :: .int dp :: .ref a :: .int sp :: .ref a0 :: rest)) := by
  have nn : ∀ z : Int32, ¬ z < 0 → z.toInt = (z.toNatClampNeg : Int) := by
    intro z hz
    have hz0 : (0 : Int) ≤ z.toInt := by
      have := Int32.not_lt.mp hz
      simpa using Int32.le_iff_toInt_le.mp this
    show z.toInt = ((z.toInt.toNat : Nat) : Int)
    omega
  intro T hT X
  obtain ⟨-, k0, hk0, cm0, hkk0⟩ := ht0 n0 (fun j => mk (f j))
  obtain ⟨-, k1, hk1, cm1, hkk1⟩ := ht1 n1 (fun j => mk (g j))
  obtain ⟨vm', X', step⟩ := X.arraycopy hexec hown hlink hnat hstat hini (src := a0) (dst := a) (cs := arrV c0 n0 (fun j => mk (f j))) (cd := arrV c1 n1 (fun j => mk (g j))) (srcPos := sp) (destPos := dp) (n := n) (by rw [hT]; exact hc0) (by rw [hT]; exact hc1)
    (fun _ h => by cases h) (fun _ h => by cases h) (fun h => by cases h) (fun h => by cases h) hk0 hk1 hkk0 hkk1 (by simp [hprim]) h1 h2 h3
    (by rw [nn sp h1, nn n h3, arrV_size]; omega)
    (by rw [nn dp h2, nn n h3, arrV_size]; omega)
    (fun vm₁ _ i hi => by
      have e : (arrV c0 n0 (fun j => mk (f j))).slots.getD (sp.toNatClampNeg + i) .null = mk (f (sp.toNatClampNeg + i)) := by
        rw [Array.getD_eq_getD_getElem?, arrV_read _ _ (by omega)]
        rfl
      refine ⟨?_, ?_⟩
      · rw [e]
        exact hfit _
      · rw [e]
        have := hnr (f (sp.toNatClampNeg + i))
        revert this
        cases mk (f (sp.toNatClampNeg + i)) <;> intro h <;> first | exact trivial | exact h.elim)
    (g := F0 m pc ls (.int n :: .int dp :: .ref a :: .int sp :: .ref a0 :: rest)) rfl (by rw [hml]) (rest := rest) rfl (by rw [hb]; exact hdg) hframes (by show 2 * 0 + _ + _ ≤ _; omega)
  have e1 : copied (arrV c0 n0 (fun j => mk (f j))) (arrV c1 n1 (fun j => mk (g j))) sp dp n = arrV c1 n1 (fun j => mk (va_cpy f g sp.toNatClampNeg dp.toNatClampNeg n.toNatClampNeg j)) := va_copied mk c0 c1 f g h4
  rw [e1] at X' step
  have hl : a < H.size := (Array.getElem?_eq_some_iff.mp hc1).1
  obtain ⟨t, a1, b1⟩ := kk (H.setIfInBounds a (arrV c1 n1 (fun j => mk (va_cpy f g sp.toNatClampNeg dp.toNatClampNeg n.toNatClampNeg j)))) _ (by simp [Array.getElem?_setIfInBounds, hl]) (by simp) (fun q hq => by simp [Array.getElem?_setIfInBounds, Ne.symm hq]) (fun q hq => by
    obtain ⟨z, -, hz⟩ := List.mem_map.mp hq
    rw [← hz]) _ (by rw [← hT]; rfl) X'
  exact ⟨t, step t a1, b1⟩
end COPY
section STEPS6
variable {l : Launch} {P : xP} {M : List (xY × xT)} {μ : xM} {pc : Nat}

theorem x_copy_inv {ty : FieldType} {nx : Nat} {cf : xF} {en : xE} {cl sl : Nat} {h : xH} {L : xL} {S : List xV} {outs : List xO} {stk : List Value} (ho : i_copy ty nx cf (en, cl, sl, h, L, S) = some outs) (jS : xdens P S stk) : ∃ (n dp sp : Int32) (r1 r0 n0 n1 : Nat) (d0 d1 : xV) (o0 o1 : List (Nat × xV)) (S' : List xV) (stk' : List Value), stk = .int n :: .int dp :: .ref (P.2.1 + r1) :: .int sp :: .ref (P.2.1 + r0) :: stk' ∧ xdens P S' stk' ∧ h[r0]? = some (.inl (ty, n0, d0, o0)) ∧ h[r1]? = some (.inl (ty, n1, d1, o1)) ∧ x_sum S' ≤ 8 ∧ ¬ n < 0 ∧ ¬ sp < 0 ∧ ¬ dp < 0 ∧ sp.toNatClampNeg + n.toNatClampNeg ≤ n0 ∧ dp.toNatClampNeg + n.toNatClampNeg ≤ n1 ∧ r1 < h.length ∧ outs = [.inr (nx, en, cl, sl, h.set r1 (.inl (ty, n1, d1, x_cp o0 d0 sp.toNatClampNeg dp.toNatClampNeg o1 d1 n.toNatClampNeg)), L, S')] := by
  have base : ∀ (n dp sp : Int32) (r1 r0 : Nat) (S : List xV) (stk : List Value), xdens P S stk → i_copy ty nx cf (en, cl, sl, h, L, .inl (.int n) :: .inl (.int dp) :: .inl (.ref r1) :: .inl (.int sp) :: .inl (.ref r0) :: S) = some outs → ∃ (n0 n1 : Nat) (d0 d1 : xV) (o0 o1 : List (Nat × xV)), h[r0]? = some (.inl (ty, n0, d0, o0)) ∧ h[r1]? = some (.inl (ty, n1, d1, o1)) ∧ x_sum S ≤ 8 ∧ ¬ n < 0 ∧ ¬ sp < 0 ∧ ¬ dp < 0 ∧ sp.toNatClampNeg + n.toNatClampNeg ≤ n0 ∧ dp.toNatClampNeg + n.toNatClampNeg ≤ n1 ∧ r1 < h.length ∧ outs = [.inr (nx, en, cl, sl, h.set r1 (.inl (ty, n1, d1, x_cp o0 d0 sp.toNatClampNeg dp.toNatClampNeg o1 d1 n.toNatClampNeg)), L, S)] := by
    intro n dp sp r1 r0 S stk dS ho
    have ho : (match x_nth h r0 with
      | some (.inl (t0, n0, d0, o0)) => match x_nth h r1 with
        | some (.inl (t1, n1, d1, o1)) => cond (decide (t0 = ty) && (decide (t1 = ty) && Nat.ble (x_sum S) 8)) (x_idx n (n0 + 1) (fun n => x_idx sp (n0 + 1) (fun sp => x_idx dp (n1 + 1) (fun dp => cond (Nat.ble (sp + n) n0 && Nat.ble (dp + n) n1) (x_spine (x_cp o0 d0 sp dp o1 d1 n) (fun o => x_set h r1 (.inl (ty, n1, d1, o)) (fun h => some [Sum.inr (nx, en, cl, sl, h, L, S)]))) none)))) none
        | _ => none
      | _ => none) = some outs := ho
    match h0 : x_nth h r0, ho with
    | some (.inl (t0, n0, d0, o0)), ho =>
      match h1 : x_nth h r1, ho with
      | some (.inl (t1, n1, d1, o1)), ho =>
        obtain ⟨hc, hz⟩ := x_condS (α := List xO) (b := decide (t0 = ty) && (decide (t1 = ty) && Nat.ble (x_sum S) 8)) (x := x_idx n (n0 + 1) (fun n => x_idx sp (n0 + 1) (fun sp => x_idx dp (n1 + 1) (fun dp => cond (Nat.ble (sp + n) n0 && Nat.ble (dp + n) n1) (x_spine (x_cp o0 d0 sp dp o1 d1 n) (fun o => x_set h r1 (.inl (ty, n1, d1, o)) (fun h => some [Sum.inr (nx, en, cl, sl, h, L, S)]))) none)))) ho
        rw [Bool.and_eq_true, Bool.and_eq_true] at hc
        obtain ⟨e0, e1, e2⟩ := hc
        have e0 := of_decide_eq_true e0
        have e1 := of_decide_eq_true e1
        obtain ⟨-, -, p1, hz⟩ := x_idx_den hz
        obtain ⟨-, -, p2, hz⟩ := x_idx_den hz
        obtain ⟨-, -, p3, hz⟩ := x_idx_den hz
        obtain ⟨hb, hz⟩ := x_condS hz
        rw [x_spine_eq] at hz
        obtain ⟨hl, hz⟩ := x_set_eq _ _ _ _ hz
        rw [Bool.and_eq_true] at hb
        subst e0
        subst e1
        exact ⟨n0, n1, d0, d1, o0, o1, (x_nth_lt h0).1, (x_nth_lt h1).1, Nat.le_of_ble_eq_true e2, p1, p2, p3, Nat.le_of_ble_eq_true hb.1, Nat.le_of_ble_eq_true hb.2, hl, (Option.some.inj hz).symm⟩
  have shape : ∃ (n dp sp : Int32) (r1 r0 : Nat) (S' : List xV), S = .inl (.int n) :: .inl (.int dp) :: .inl (.ref r1) :: .inl (.int sp) :: .inl (.ref r0) :: S' := by
    unfold i_copy at ho
    dsimp only at ho
    split at ho
    · exact ⟨_, _, _, _, _, _, rfl⟩
    · cases ho
  obtain ⟨n, dp, sp, r1, r0, S', rfl⟩ := shape
  match stk, jS with
  | v1 :: v2 :: v3 :: v4 :: v5 :: stk, ⟨d1, d2, d3, d4, d5, ds⟩ =>
    have d1 : v1 = .int n := d1
    have d2 : v2 = .int dp := d2
    have d3 : v3 = .ref (P.2.1 + r1) := d3
    have d4 : v4 = .int sp := d4
    have d5 : v5 = .ref (P.2.1 + r0) := d5
    subst d1
    subst d2
    subst d3
    subst d4
    subst d5
    obtain ⟨n0, n1, d0, d1, o0, o1, hh⟩ := base n dp sp r1 r0 S' stk ds ho
    exact ⟨n, dp, sp, r1, r0, n0, n1, d0, d1, o0, o1, S', stk, rfl, ds, hh⟩

theorem s_copyint {index : Nat} (hd : decode μ.2.1 pc = .ok (.invokestatic index, 3)) (hw1 : Cond.methodLink μ.1 index arraycopyName ∈ xTB) (hw2 : Cond.native arraycopyName ∈ xTB) (hw3 : Cond.static arraycopyName ∈ xTB) (hw4 : Cond.initialized "java/lang/System" ∈ xTB) (hf : 1 ≤ μ.2.2.2.2.2.frames) (hlo : 30 ≤ μ.2.2.2.2.2.locals) : xSim l P M μ pc (i_copy .int (pc + 3)) := by
  intro p e s m args below meth c R Q C cf hcf st outs ho H locs cells slots ls stk J K
  obtain ⟨hx, hb, hml, hown, hts, hr, hlk, hnm, hR⟩ := C
  obtain ⟨en, cl, sl, h, L, S⟩ := st
  obtain ⟨je, jc, js, jg, ⟨lv, jl, jd⟩, jS, jx, jo, jk⟩ := J
  obtain ⟨n, dp, sp, r1, r0, n0, n1, d0, d1, o0, o1, S', stk', rfl, ds, q0, q1, hsum, g1, g2, g3, g4, g5, hrl, rfl⟩ := x_copy_inv ho jS
  obtain ⟨c0, ⟨n0', X0⟩, hcell0, hn0, hX0, hAr0, -⟩ := jg.2 _ _ q0
  obtain ⟨c1, ⟨n1', X1⟩, hcell1, hn1, hX1, hAr1, hRA1⟩ := jg.2 _ _ q1
  have hn0 : n0' = n0 := hn0
  have hn1 : n1' = n1 := hn1
  subst hn0
  subst hn1
  subst hR
  match X0, hX0, hcell0 with
  | .inr (.inl f), ⟨hX, _⟩, _ => cases hX
  | .inr (.inr (.inr (.inr f))), ⟨⟨_, hX⟩, _⟩, _ => cases hX
  | .inl f, ⟨_, hX0⟩, hcell0 =>
    match X1, hX1, hcell1 with
    | .inr (.inl f), ⟨hX, _⟩, _ => cases hX
    | .inr (.inr (.inr (.inr f))), ⟨⟨_, hX⟩, _⟩, _ => cases hX
    | .inl g, ⟨hty, hX1⟩, hcell1 =>
      have h7 : nativeFrameWords "java/lang/System" "arraycopy" 5 = 7 := by decide +kernel
      refine x_copyW (fun z => Value.int z) hx hb (hml.trans jl.1.symm) hown (hts _ hw1) (hts _ hw2) (hts _ hw3) (hts _ hw4) hcell0 hcell1 hAr0 hAr1 rfl g2 g3 g1 g4 g5 (fun _ => rfl) (fun _ => trivial) hf (by rw [x_sum_den ds, h7]; omega) hd fun H1 L1 e1 z1 o1 hL1 => ?_
      refine K _ (x_mem1 _) _ _ _ _ _ _ ⟨je, jc, js, jg.set hrl ⟨c1, (n1', .inl (va_cpy f g sp.toNatClampNeg dp.toNatClampNeg n.toNatClampNeg)), e1, rfl, ⟨hty, fun k hk => ?_⟩, hAr1, hRA1⟩ z1 o1, ⟨lv, jl, jd⟩, ds, jx.kept (fun q hq => o1 q (Nat.ne_of_lt (Nat.lt_of_lt_of_le hq (Nat.le_add_right _ _)))), fun q hq => (List.mem_append.mp hq).elim (jo q) (fun h => by rw [hL1 q h]; exact Nat.le_add_right _ _), jk⟩
      show xden P (x_lk (x_cp _ _ _ _ _ _ _) _ k) (Value.int (va_cpy f g _ _ _ k))
      rw [x_cp_lk]
      unfold va_cpy
      by_cases hk2 : dp.toNatClampNeg ≤ k ∧ k < dp.toNatClampNeg + n.toNatClampNeg
      · rw [if_pos hk2, if_pos hk2]
        exact hX0 _ (by omega)
      · rw [if_neg hk2, if_neg hk2]
        exact hX1 k hk

theorem s_copylong {index : Nat} (hd : decode μ.2.1 pc = .ok (.invokestatic index, 3)) (hw1 : Cond.methodLink μ.1 index arraycopyName ∈ xTB) (hw2 : Cond.native arraycopyName ∈ xTB) (hw3 : Cond.static arraycopyName ∈ xTB) (hw4 : Cond.initialized "java/lang/System" ∈ xTB) (hf : 1 ≤ μ.2.2.2.2.2.frames) (hlo : 30 ≤ μ.2.2.2.2.2.locals) : xSim l P M μ pc (i_copy .long (pc + 3)) := by
  intro p e s m args below meth c R Q C cf hcf st outs ho H locs cells slots ls stk J K
  obtain ⟨hx, hb, hml, hown, hts, hr, hlk, hnm, hR⟩ := C
  obtain ⟨en, cl, sl, h, L, S⟩ := st
  obtain ⟨je, jc, js, jg, ⟨lv, jl, jd⟩, jS, jx, jo, jk⟩ := J
  obtain ⟨n, dp, sp, r1, r0, n0, n1, d0, d1, o0, o1, S', stk', rfl, ds, q0, q1, hsum, g1, g2, g3, g4, g5, hrl, rfl⟩ := x_copy_inv ho jS
  obtain ⟨c0, ⟨n0', X0⟩, hcell0, hn0, hX0, hAr0, -⟩ := jg.2 _ _ q0
  obtain ⟨c1, ⟨n1', X1⟩, hcell1, hn1, hX1, hAr1, hRA1⟩ := jg.2 _ _ q1
  have hn0 : n0' = n0 := hn0
  have hn1 : n1' = n1 := hn1
  subst hn0
  subst hn1
  subst hR
  match X0, hX0, hcell0 with
  | .inl f, ⟨hX, _⟩, _ => rcases hX with hX | hX | hX <;> cases hX
  | .inr (.inr (.inr (.inr f))), ⟨⟨_, hX⟩, _⟩, _ => cases hX
  | .inr (.inl f), ⟨_, hX0⟩, hcell0 =>
    match X1, hX1, hcell1 with
    | .inl f, ⟨hX, _⟩, _ => rcases hX with hX | hX | hX <;> cases hX
    | .inr (.inr (.inr (.inr f))), ⟨⟨_, hX⟩, _⟩, _ => cases hX
    | .inr (.inl g), ⟨hty, hX1⟩, hcell1 =>
      have h7 : nativeFrameWords "java/lang/System" "arraycopy" 5 = 7 := by decide +kernel
      refine x_copyW (fun z => Value.long z) hx hb (hml.trans jl.1.symm) hown (hts _ hw1) (hts _ hw2) (hts _ hw3) (hts _ hw4) hcell0 hcell1 hAr0 hAr1 rfl g2 g3 g1 g4 g5 (fun _ => rfl) (fun _ => trivial) hf (by rw [x_sum_den ds, h7]; omega) hd fun H1 L1 e1 z1 o1 hL1 => ?_
      refine K _ (x_mem1 _) _ _ _ _ _ _ ⟨je, jc, js, jg.set hrl ⟨c1, (n1', .inr (.inl (va_cpy f g sp.toNatClampNeg dp.toNatClampNeg n.toNatClampNeg))), e1, rfl, ⟨hty, fun k hk => ?_⟩, hAr1, hRA1⟩ z1 o1, ⟨lv, jl, jd⟩, ds, jx.kept (fun q hq => o1 q (Nat.ne_of_lt (Nat.lt_of_lt_of_le hq (Nat.le_add_right _ _)))), fun q hq => (List.mem_append.mp hq).elim (jo q) (fun h => by rw [hL1 q h]; exact Nat.le_add_right _ _), jk⟩
      show xden P (x_lk (x_cp _ _ _ _ _ _ _) _ k) (Value.long (va_cpy f g _ _ _ k))
      rw [x_cp_lk]
      unfold va_cpy
      by_cases hk2 : dp.toNatClampNeg ≤ k ∧ k < dp.toNatClampNeg + n.toNatClampNeg
      · rw [if_pos hk2, if_pos hk2]
        exact hX0 _ (by omega)
      · rw [if_neg hk2, if_neg hk2]
        exact hX1 k hk

noncomputable def i_math (op : Int32 → Int32 → Int32) (nx : Nat) : xI := fun _ (e, cl, sl, h, L, S) => match S with
  | .inl (.int b) :: .inl (.int a) :: S => cond (Nat.ble (x_sum S) 8) (x_k32 (op a b) (fun r => some [.inr (nx, e, cl, sl, h, L, .inl (.int r) :: S)])) none
  | _ => none
noncomputable def i_mathl (op : Int64 → Int64) (nx : Nat) : xI := fun _ (e, cl, sl, h, L, S) => match S with
  | .inl (.long a) :: S => cond (Nat.ble (x_sum S) 8) (x_k64 (op a) (fun r => some [.inr (nx, e, cl, sl, h, L, .inl (.long r) :: S)])) none
  | _ => none
theorem x_math {op : Int32 → Int32 → Int32} {nx : Nat} {cf : xF} {en : xE} {cl sl : Nat} {h : xH} {L : xL} {S : List xV} {outs : List xO} {stk : List Value} (ho : i_math op nx cf (en, cl, sl, h, L, S) = some outs) (jS : xdens P S stk) : ∃ (b a : Int32) (S' : List xV) (stk' : List Value), stk = .int b :: .int a :: stk' ∧ xdens P S' stk' ∧ x_sum S' ≤ 8 ∧ outs = [.inr (nx, en, cl, sl, h, L, .inl (.int (op a b)) :: S')] := by
  match S, stk, jS, ho with
  | [x], _, _, ho =>
    rcases x with w | q
    · cases w <;> cases ho
    · cases ho
  | y :: x :: S, w :: v :: stk, ⟨dy, dx, ds⟩, ho =>
    match y, x, dy, dx, ho with
    | .inl (.int b), .inl (.int a), dy, dx, ho =>
      cases dy
      cases dx
      obtain ⟨hc, hz⟩ := x_condS (α := List xO) (b := Nat.ble (x_sum S) 8) (x := x_k32 (op a b) (fun r => some [Sum.inr (nx, en, cl, sl, h, L, (Sum.inl (Value.int r) : xV) :: S)])) ho
      rw [x_k32_eq] at hz
      exact ⟨b, a, S, stk, rfl, ds, Nat.le_of_ble_eq_true hc, (Option.some.inj hz).symm⟩
theorem x_mathl {op : Int64 → Int64} {nx : Nat} {cf : xF} {en : xE} {cl sl : Nat} {h : xH} {L : xL} {S : List xV} {outs : List xO} {stk : List Value} (ho : i_mathl op nx cf (en, cl, sl, h, L, S) = some outs) (jS : xdens P S stk) : ∃ (a : Int64) (S' : List xV) (stk' : List Value), stk = .long a :: stk' ∧ xdens P S' stk' ∧ x_sum S' ≤ 8 ∧ outs = [.inr (nx, en, cl, sl, h, L, .inl (.long (op a)) :: S')] := by
  match S, stk, jS, ho with
  | x :: S, v :: stk, ⟨dx, ds⟩, ho =>
    match x, dx, ho with
    | .inl (.long a), dx, ho =>
      cases dx
      obtain ⟨hc, hz⟩ := x_condS (α := List xO) (b := Nat.ble (x_sum S) 8) (x := x_k64 (op a) (fun r => some [Sum.inr (nx, en, cl, sl, h, L, (Sum.inl (Value.long r) : xV) :: S)])) ho
      rw [x_k64_eq] at hz
      exact ⟨a, S, stk, rfl, ds, Nat.le_of_ble_eq_true hc, (Option.some.inj hz).symm⟩

theorem s_mmax {index : Nat} (hd : decode μ.2.1 pc = .ok (.invokestatic index, 3)) (hw1 : Cond.methodLink μ.1 index Lib.Math.max.name ∈ xTB) (hw2 : Cond.static Lib.Math.max.name ∈ xTB) (hw3 : Cond.initialized "java/lang/Math" ∈ xTB) (hw4 : Cond.code Lib.Math.max.name Lib.Math.max.code 2 (some .int) ∈ xTB) (hf : 1 ≤ μ.2.2.2.2.2.frames) (hlo : 30 ≤ μ.2.2.2.2.2.locals) : xSim l P M μ pc (i_math (fun x y => if x < y then y else x) (pc + 3)) := by
  intro p e s m args below meth c R Q C cf hcf st outs ho H locs cells slots ls stk J K
  obtain ⟨hx, hb, hml, hown, hts, hr, hlk, hnm, hR⟩ := C
  obtain ⟨en, cl, sl, h, L, S⟩ := st
  obtain ⟨je, jc, js, jg, ⟨lv, jl, jd⟩, jS, jx, jo, jk⟩ := J
  obtain ⟨b, a, S', stk', rfl, ds, hsum, rfl⟩ := x_math ho jS
  subst hR
  exact va_mmax hx hb (hml.trans jl.1.symm) hown (hts _ hw1) (hts _ hw2) (hts _ hw3) (hts _ hw4) hf (by rw [x_sum_den ds]; omega) (by have := jc; simp only at this; omega) (by have := js; simp only at this; omega) hd (K _ (x_mem1 _) _ _ _ _ _ _ ⟨je, jc, js, jg, ⟨lv, jl, jd⟩, ⟨rfl, ds⟩, jx, jo, jk⟩)

theorem s_mmin {index : Nat} (hd : decode μ.2.1 pc = .ok (.invokestatic index, 3)) (hw1 : Cond.methodLink μ.1 index Lib.Math.min.name ∈ xTB) (hw2 : Cond.static Lib.Math.min.name ∈ xTB) (hw3 : Cond.initialized "java/lang/Math" ∈ xTB) (hw4 : Cond.code Lib.Math.min.name Lib.Math.min.code 2 (some .int) ∈ xTB) (hf : 1 ≤ μ.2.2.2.2.2.frames) (hlo : 30 ≤ μ.2.2.2.2.2.locals) : xSim l P M μ pc (i_math (fun x y => if y < x then y else x) (pc + 3)) := by
  intro p e s m args below meth c R Q C cf hcf st outs ho H locs cells slots ls stk J K
  obtain ⟨hx, hb, hml, hown, hts, hr, hlk, hnm, hR⟩ := C
  obtain ⟨en, cl, sl, h, L, S⟩ := st
  obtain ⟨je, jc, js, jg, ⟨lv, jl, jd⟩, jS, jx, jo, jk⟩ := J
  obtain ⟨b, a, S', stk', rfl, ds, hsum, rfl⟩ := x_math ho jS
  subst hR
  exact va_mmin hx hb (hml.trans jl.1.symm) hown (hts _ hw1) (hts _ hw2) (hts _ hw3) (hts _ hw4) hf (by rw [x_sum_den ds]; omega) (by have := jc; simp only at this; omega) (by have := js; simp only at this; omega) hd (K _ (x_mem1 _) _ _ _ _ _ _ ⟨je, jc, js, jg, ⟨lv, jl, jd⟩, ⟨rfl, ds⟩, jx, jo, jk⟩)

theorem s_mabsl {index : Nat} (hd : decode μ.2.1 pc = .ok (.invokestatic index, 3)) (hw1 : Cond.methodLink μ.1 index Lib.MathLoose.abs_long.x ∈ xTB) (hw2 : Cond.static Lib.MathLoose.abs_long.x ∈ xTB) (hw3 : Cond.initialized "java/lang/Math" ∈ xTB) (hw4 : Cond.code Lib.MathLoose.abs_long.x Lib.MathLoose.abs_long.code 2 (some .long) ∈ xTB) (hf : 1 ≤ μ.2.2.2.2.2.frames) (hlo : 30 ≤ μ.2.2.2.2.2.locals) : xSim l P M μ pc (i_mathl (fun x => if 0 < x then x else -x) (pc + 3)) := by
  intro p e s m args below meth c R Q C cf hcf st outs ho H locs cells slots ls stk J K
  obtain ⟨hx, hb, hml, hown, hts, hr, hlk, hnm, hR⟩ := C
  obtain ⟨en, cl, sl, h, L, S⟩ := st
  obtain ⟨je, jc, js, jg, ⟨lv, jl, jd⟩, jS, jx, jo, jk⟩ := J
  obtain ⟨a, S', stk', rfl, ds, hsum, rfl⟩ := x_mathl ho jS
  subst hR
  exact va_mabs_long hx hb (hml.trans jl.1.symm) hown (hts _ hw1) (hts _ hw2) (hts _ hw3) (hts _ hw4) hf (by rw [x_sum_den ds]; omega) (by have := jc; simp only at this; omega) (by have := js; simp only at this; omega) hd (K _ (x_mem1 _) _ _ _ _ _ _ ⟨je, jc, js, jg, ⟨lv, jl, jd⟩, ⟨rfl, ds⟩, jx, jo, jk⟩)

end STEPS6
/-! several steps at once: no fork, no return -/
noncomputable def x_go (M : List (xY × xT)) (N : Nat) (k : Nat) : xT → Nat → xS → Option (Nat × xS) := Nat.rec (motive := fun _ => xT → Nat → xS → Option (Nat × xS)) (fun _ pc st => some (pc, st)) (fun _ ih t pc st => match x_at t pc with
  | some ri => match ri (x_in (x_run M N) M) st with
    | some [.inr q] => ih t q.1 q.2
    | _ => none
  | none => none) k
theorem x_go_sound {l : Launch} {P : xP} {M : List (xY × xT)} (hM : xMok l P M) (N : Nat) {μ : xM} {t : xT} (ht : xTabOK l P M μ t) {p : Program} {e : Env} {s : State} {m : MethodId} {args : Array Value} {below : List Frame} {meth : Method} {c : Code} {R : Room} {Q : State → Prop} (C : xCx μ p s m args meth c R) {pc' : Nat} {st' : xS} (kk : ∀ (H : Heap) (locs : List Loc) (cells slots : Nat) (ls : Array Slot) (stk : List Value), xJ P μ.2.2.1 R s st' H locs cells slots ls stk → W p l e R s m args below meth c H locs cells slots Q (F0 m pc' ls stk)) : ∀ (k pc : Nat) (st : xS), x_go M N k t pc st = some (pc', st') → ∀ (H : Heap) (locs : List Loc) (cells slots : Nat) (ls : Array Slot) (stk : List Value), xJ P μ.2.2.1 R s st H locs cells slots ls stk → W p l e R s m args below meth c H locs cells slots Q (F0 m pc ls stk) := by
  intro k
  induction k with
  | zero =>
    intro pc st h
    have h : some (pc, st) = some (pc', st') := h
    cases h
    exact kk
  | succ k ih =>
    intro pc st h H locs cells slots ls stk J
    have h : (match x_at t pc with
      | some ri => match ri (x_in (x_run M N) M) st with
        | some [.inr q] => x_go M N k t q.1 q.2
        | _ => none
      | none => none) = some (pc', st') := h
    match hat : x_at t pc, h with
    | some ri, h =>
      have h : (match ri (x_in (x_run M N) M) st with
        | some [.inr q] => x_go M N k t q.1 q.2
        | _ => none) = some (pc', st') := h
      match hri : ri (x_in (x_run M N) M) st, h with
      | some [.inr q], h =>
        refine ht pc ri hat p e s m args below meth c R Q C _ (x_sound hM N).2 st _ hri H locs cells slots ls stk J (fun o ho => ?_)
        rw [List.mem_singleton.mp ho]
        intro H locs cells slots ls stk J
        exact ih q.1 q.2 h H locs cells slots ls stk J
