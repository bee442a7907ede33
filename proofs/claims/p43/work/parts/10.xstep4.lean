/-! THE STEPS, fourth part: stores into arrays, what is made -/
theorem x_sto_int {P : xP} {ty : FieldType} {a : xV} {w : Value} {f : xV → Option (List xO)} {outs : List xO} (hty : ty = .int ∨ ty = .byte ∨ ty = .boolean) (ho : x_sto ty a f = some outs) (d : xden P a w) : ∃ (x : Int32) (a' : xV), w = .int x ∧ f a' = some outs ∧ xden P a' (.int (vp_nar ty x)) := by
  match a, d, ho with
  | .inl (.int i), d, ho =>
    obtain ⟨hc, ho⟩ := x_condS (α := List xO) (b := fits ty (.int i) && decide (narrow ty (.int i) = .int i)) (x := f (.inl (.int i))) ho
    rw [Bool.and_eq_true] at hc
    refine ⟨i, _, d, ho, ?_⟩
    have h := of_decide_eq_true hc.2
    show Value.int (vp_nar ty i) = .int i
    unfold vp_nar
    rw [h]
  | .inl (.long i), d, ho =>
    obtain ⟨hc, ho⟩ := x_condS (α := List xO) (b := decide (ty = .long)) (x := f (.inl (.long i))) ho
    have h := of_decide_eq_true hc
    subst h
    rcases hty with h | h | h <;> cases h
  | .inr (1, k), d, ho =>
    obtain ⟨hc, ho⟩ := x_condS (α := List xO) (b := decide (ty = .long)) (x := f (.inr (1, k))) ho
    have h := of_decide_eq_true hc
    subst h
    rcases hty with h | h | h <;> cases h
  | .inr (3, k), d, ho =>
    obtain ⟨hc, ho⟩ := x_condS (α := List xO) (b := decide (ty = .long)) (x := f (.inr (3, k))) ho
    have h := of_decide_eq_true hc
    subst h
    rcases hty with h | h | h <;> cases h
  | .inr (0, k), d, ho =>
    have ho : cond (decide (ty = .int)) (f (.inr (0, k))) (cond (decide (ty = .byte)) (f (.inr (2, 0))) none) = some outs := ho
    by_cases hi : ty = .int
    · rw [decide_eq_true hi] at ho
      subst hi
      exact ⟨_, _, d, ho, rfl⟩
    · rw [decide_eq_false hi] at ho
      obtain ⟨hc, ho⟩ := x_condS (α := List xO) (b := decide (ty = .byte)) (x := f (.inr (2, 0))) ho
      exact ⟨_, .inr (2, 0), d, ho, ⟨_, rfl⟩⟩
  | .inr (2, k), ⟨x, d⟩, ho =>
    have ho : cond (decide (ty = .int)) (f (.inr (2, k))) (cond (decide (ty = .byte)) (f (.inr (2, 0))) none) = some outs := ho
    by_cases hi : ty = .int
    · rw [decide_eq_true hi] at ho
      subst hi
      exact ⟨_, .inr (2, k), d, ho, ⟨_, rfl⟩⟩
    · rw [decide_eq_false hi] at ho
      obtain ⟨hc, ho⟩ := x_condS (α := List xO) (b := decide (ty = .byte)) (x := f (.inr (2, 0))) ho
      exact ⟨_, .inr (2, 0), d, ho, ⟨_, rfl⟩⟩
section STEPS4
variable {l : Launch} {P : xP} {M : List (xY × xT)} {μ : xM} {pc : Nat}

theorem s_iast (hd : decode μ.2.1 pc = .ok (.iastore, 1)) : xSim l P M μ pc (i_ast .int (pc + 1)) := by
  intro p e s m args below meth c R Q C cf hcf st outs ho H locs cells slots ls stk J K
  obtain ⟨hx, hb, hml, hown, hts, hr, hlk, hnm, hR⟩ := C
  obtain ⟨en, cl, sl, h, L, S⟩ := st
  obtain ⟨je, jc, js, jg, ⟨lv, jl, jd⟩, jS, jx, jo, jk⟩ := J
  match S, stk, jS, ho with
  | [a], _, _, ho => cases ho
  | [a, y], _, _, ho =>
    rcases y with w | q
    · cases w <;> cases ho
    · cases ho
  | a :: y :: x :: S, u :: w :: v :: stk, ⟨da, dy, dx, ds⟩, ho =>
    match y, x, dy, dx, ho with
    | .inl (.int i), .inl (.ref r), dy, dx, ho =>
      have dx : v = .ref (P.2.1 + r) := dx
      have dy : w = .int i := dy
      subst dx
      subst dy
      have ho : (match x_nth h r with
        | some (.inl (tz, n, d, o)) => cond (decide (tz = .int)) (x_sto .int a (fun v => x_idx i n (fun j => x_spine (x_upd o j v d) (fun o => x_set h r (.inl (.int, n, d, o)) (fun h => some [Sum.inr (pc + 1, en, cl, sl, h, L, S)]))))) none
        | _ => none) = some outs := ho
      match hn : x_nth h r, ho with
      | some (.inl (tz, n, d, o)), ho =>
        obtain ⟨htz, hz⟩ := x_condS (α := List xO) (b := decide (tz = .int)) (x := x_sto .int a (fun v => x_idx i n (fun j => x_spine (x_upd o j v d) (fun o => x_set h r (.inl (.int, n, d, o)) (fun h => some [Sum.inr (pc + 1, en, cl, sl, h, L, S)]))))) ho
        clear ho
        have ho := hz
        clear hz
        have htz := of_decide_eq_true htz
        subst htz
        obtain ⟨x, a, rfl, ho, da⟩ := x_sto_int (w := u) (Or.inl rfl) ho da
        obtain ⟨hin, hlt, -, ho⟩ := x_idx_den ho
        rw [x_spine_eq] at ho
        obtain ⟨hrl, ho⟩ := x_set_eq _ _ _ _ ho
        have ho := Option.some.inj ho
        subst ho
        obtain ⟨cA, ⟨n', X⟩, hcell, hn', hX, hAr, hRA⟩ := jg.2 _ _ (x_nth_lt hn).1
        have hn' : n' = n := hn'
        subst hn'
        match X, hX, hcell with
        | .inl f, ⟨hty, hX⟩, hcell =>
          refine W.iast hx hb hcell (hAr n' (fun j => .int (f j))) (fun q => by cases q) (by show ¬ (i < 0 ∨ (arrV _ _ _).slots.size ≤ _); rw [arrV_size]; exact hin) rfl rfl hd fun H1 e z oq => ?_
          refine K _ (x_mem1 _) _ _ _ _ _ _ ⟨je, jc, js, jg.set hrl ⟨cA, (n', .inl (upd f i.toNatClampNeg (vp_nar .int x))), ?_, rfl, ⟨hty, fun k hk => ?_⟩, hAr, hRA⟩ z oq, ⟨lv, jl, jd⟩, ds, jx.kept (fun q hq => oq q (Nat.ne_of_lt (Nat.lt_of_lt_of_le hq (Nat.le_add_right _ _)))), xlocs_put jo (Nat.le_add_right _ _), jk⟩
          · show H1[_]? = some (vp_cell _ _)
            rw [e]
            rw [vp_cell_i, vp_cell_i, arrV_store]
            congr 2
            funext q
            by_cases hq : q = i.toNatClampNeg
            · subst hq
              simp [updV, upd, vp_nar]
              try rfl
            · simp [updV, upd, vp_nar, hq]
          · rw [x_upd_lk]
            by_cases hq : k = i.toNatClampNeg
            · subst hq
              rw [if_pos rfl]
              simpa [upd, vp_nar] using da
            · rw [if_neg hq]
              simpa [upd, vp_nar, hq] using hX k hk
        | .inr (.inl f), ⟨hX, _⟩, hcell => cases hX

theorem x_cls_den {h : xH} {ci : Nat} {a : xV} {v : Value} {s : State} {H : Heap} {r0 : vw_C} (hc : x_cls h ci a = true) (d : xden P a v) (jg : xG P h s H) (jk : va_K P.2.2.2.1 vwCl [] s) (hr : vwCl[ci]? = some r0) : ∃ r : Nat, v = .ref (P.2.1 + r) ∧ a = .inl (.ref r) ∧ ∃ cell : Cell, H[P.2.1 + r]? = some cell ∧ cell.vm = .none ∧ cell.cls = P.2.2.2.1.1 ci ∧ s.vm.findClass r0.1 = some cell.cls := by
  match a, d, hc with
  | .inl (.ref r), d, hc =>
    have hc : (match x_nth h r with
      | some (.inr (cj, _)) => Nat.beq ci cj
      | _ => false) = true := hc
    match hn : x_nth h r, hc with
    | some (.inr (cj, fs)), hc =>
      have hc := Nat.eq_of_beq_eq_true hc
      subst hc
      obtain ⟨vs, dvs, r', h1, cell, q1, q2, q3, q4⟩ := jg.2 _ _ (x_nth_lt hn).1
      exact ⟨r, d, rfl, cell, q1, q3, q2, by rw [q2]; exact (jk.1 ci _ hr).2.1⟩
theorem s_aast {C : String} {T : u_T} {N : Nat} (ci : Nat) (hd : decode μ.2.1 pc = .ok (.aastore, 1)) (hc : vwCl[ci]? = some (C, T, N)) : xSim l P M μ pc (i_aast ci C (pc + 1)) := by
  intro p e s m args below meth c R Q C cf hcf st outs ho H locs cells slots ls stk J K
  obtain ⟨hx, hb, hml, hown, hts, hr, hlk, hnm, hR⟩ := C
  obtain ⟨en, cl, sl, h, L, S⟩ := st
  obtain ⟨je, jc, js, jg, ⟨lv, jl, jd⟩, jS, jx, jo, jk⟩ := J
  match S, stk, jS, ho with
  | [a], _, _, ho =>
    rcases a with w | q
    · cases w <;> cases ho
    · cases ho
  | [a, y], _, _, ho =>
    rcases a with w | q
    · cases w <;> first | cases ho | (rcases y with w | q <;> first | cases ho | (cases w <;> cases ho))
    · cases ho
  | a :: y :: x :: S, u :: w :: v :: stk, ⟨da, dy, dx, ds⟩, ho =>
    match a, y, x, da, dy, dx, ho with
    | .inl (.ref q), .inl (.int i), .inl (.ref r), da, dy, dx, ho =>
      have dx : v = .ref (P.2.1 + r) := dx
      have dy : w = .int i := dy
      subst dx
      subst dy
      have ho : (match x_nth h r with
        | some (.inl (tz, n, d, o)) => cond (decide (tz = .object C) && x_cls h ci (.inl (.ref q))) (x_idx i n (fun j => x_spine (x_upd o j (.inl (.ref q)) d) (fun o => x_set h r (.inl (.object C, n, d, o)) (fun h => some [Sum.inr (pc + 1, en, cl, sl, h, L, S)])))) none
        | _ => none) = some outs := ho
      match hn : x_nth h r, ho with
      | some (.inl (tz, n, d, o)), ho =>
        obtain ⟨htz, hz⟩ := x_condS (α := List xO) (b := decide (tz = .object C) && x_cls h ci (.inl (.ref q))) (x := x_idx i n (fun j => x_spine (x_upd o j (.inl (.ref q)) d) (fun o => x_set h r (.inl (.object C, n, d, o)) (fun h => some [Sum.inr (pc + 1, en, cl, sl, h, L, S)])))) ho
        clear ho
        have ho := hz
        clear hz
        rw [Bool.and_eq_true] at htz
        obtain ⟨htz, hcq⟩ := htz
        have htz := of_decide_eq_true htz
        subst htz
        obtain ⟨hin, hlt, h0, ho⟩ := x_idx_den ho
        rw [x_spine_eq] at ho
        obtain ⟨hrl, ho⟩ := x_set_eq _ _ _ _ ho
        have ho := Option.some.inj ho
        subst ho
        obtain ⟨cA, ⟨n', X⟩, hcell, hn', hX, hAr, hRA⟩ := jg.2 _ _ (x_nth_lt hn).1
        have hn' : n' = n := hn'
        subst hn'
        obtain ⟨q', hu, hq', cellV, g1, g3, g2, -⟩ := x_cls_den hcq da jg jk hc
        cases hq'
        subst hu
        have hcls := (jk.1 ci _ hc).2
        have hRA' := hRA
        obtain ⟨kA, comp, k1, k2, k3, -⟩ := hRA
        have hcomp : comp = P.2.2.2.1.1 ci := Option.some.inj (k3.symm.trans hcls.1)
        subst hcomp
        obtain ⟨kC, hkC, -⟩ := hcls.2
        match X, hX, hcell with
        | .inr (.inr (.inr (.inr f))), ⟨hty, hX⟩, hcell =>
          refine W.aast hx hb hcell (fun q h => by cases h) (fun h => by cases h) k1 k2 rfl hkC ⟨h0, by show _ < (arrV _ _ _).slots.size; rw [arrV_size]; exact hlt⟩ g1 (fun q h => by rw [g3] at h; cases h) (by rw [g2]; exact hkC) (by rw [g2]; exact va_assign hcls) rfl rfl hd fun H1 e z oq => ?_
          refine K _ (x_mem1 _) _ _ _ _ _ _ ⟨je, jc, js, jg.set hrl ⟨cA, (n', .inr (.inr (.inr (.inr (va_up f i.toNatClampNeg (some (P.2.1 + q))))))), ?_, rfl, ⟨hty, fun k hk => ?_⟩, hAr, hRA'⟩ z oq, ⟨lv, jl, jd⟩, ds, jx.kept (fun q hq => oq q (Nat.ne_of_lt (Nat.lt_of_lt_of_le hq (Nat.le_add_right _ _)))), xlocs_put jo (Nat.le_add_right _ _), jk⟩
          · show H1[_]? = some (vp_cell _ _)
            rw [e]
            rw [vp_cell_q, vp_cell_q, arrV_store]
            congr 2
            funext q
            by_cases hq : q = i.toNatClampNeg
            · subst hq
              simp [updV, va_up, va_rf]
            · simp [updV, va_up, hq]
          · rw [x_upd_lk]
            by_cases hq : k = i.toNatClampNeg
            · subst hq
              rw [if_pos rfl]
              simp [va_up, va_rf, xden]
            · rw [if_neg hq]
              simpa [va_up, hq] using hX k hk
        | .inl f, ⟨hX, _⟩, hcell => rcases hX with hX | hX | hX <;> cases hX
        | .inr (.inl f), ⟨hX, _⟩, hcell => cases hX

theorem x_newa_inv {ty : FieldType} {d : xV} {nx : Nat} {cf : xF} {en : xE} {cl sl : Nat} {h : xH} {L : xL} {S : List xV} {outs : List xO} {stk : List Value} (ho : i_newa ty d nx cf (en, cl, sl, h, L, S) = some outs) (jS : xdens P S stk) : ∃ (i : Int32) (S' : List xV) (stk' : List Value), stk = .int i :: stk' ∧ xdens P S' stk' ∧ ¬ i < 0 ∧ i.toNatClampNeg < 1000000 ∧ 1 ≤ cl ∧ i.toNatClampNeg ≤ sl ∧ outs = [.inr (nx, en, cl - 1, sl - i.toNatClampNeg, h ++ [.inl (ty, i.toNatClampNeg, d, [])], L, .inl (.ref h.length) :: S')] := by
  match S, stk, jS, ho with
  | x :: S, v :: stk, ⟨dx, ds⟩, ho =>
    match x, dx, ho with
    | .inl (.int i), dx, ho =>
      have dx : v = .int i := dx
      subst dx
      have ho : x_idx i 1000000 (fun N => cond (Nat.ble 1 cl && Nat.ble N sl) (x_kN (cl - 1) (fun cl => x_kN (sl - N) (fun sl => x_push h (.inl (ty, N, d, [])) (fun h r => x_kN r (fun r => some [Sum.inr (nx, en, cl, sl, h, L, (Sum.inl (Value.ref r) : xV) :: S)]))))) none) = some outs := ho
      obtain ⟨hin, hlt, h0, ho⟩ := x_idx_den ho
      obtain ⟨hb, hz⟩ := x_condS ho
      rw [x_kN_eq, x_kN_eq, x_push_eq, x_kN_eq] at hz
      rw [Bool.and_eq_true] at hb
      exact ⟨i, S, stk, rfl, ds, h0, hlt, Nat.le_of_ble_eq_true hb.1, Nat.le_of_ble_eq_true hb.2, (Option.some.inj hz).symm⟩

theorem s_newai {atype : ArrayType} (ty : FieldType) (hd : decode μ.2.1 pc = .ok (.newarray atype, 2)) (hty : newarray.typeOf atype = ty) (hk : ty = .int ∨ ty = .byte ∨ ty = .boolean) (hw : Cond.arrayClass ty ∈ xTB) : xSim l P M μ pc (i_newa ty (.inl (.int (Int32.ofNat 0))) (pc + 2)) := by
  intro p e s m args below meth c R Q C cf hcf st outs ho H locs cells slots ls stk J K
  obtain ⟨hx, hb, hml, hown, hts, hr, hlk, hnm, hR⟩ := C
  obtain ⟨en, cl, sl, h, L, S⟩ := st
  obtain ⟨je, jc, js, jg, ⟨lv, jl, jd⟩, jS, jx, jo, jk⟩ := J
  subst hty
  obtain ⟨i, S', stk', rfl, ds, h0, hlt, hc1, hs1, rfl⟩ := x_newa_inv ho jS
  have hcb : componentBytes (newarray.typeOf atype) ≤ 8 := by rcases hk with h | h | h <;> rw [h] <;> decide
  have hdv : defaultValue (newarray.typeOf atype) = .int 0 := by rcases hk with h | h | h <;> rw [h] <;> rfl
  have hra : ∀ cA, s.vm.findClass ("[" ++ (newarray.typeOf atype).toString) = some cA → va_RA s cA (newarray.typeOf atype) := fun cA h => by rcases hk with q | q | q <;> rw [q] at h ⊢ <;> exact h
  refine va_newaK hx hb (hts _ hw) rfl hd rfl h0 rfl (Nat.le_trans (Nat.mul_le_mul (Nat.le_of_lt hlt) hcb) (by decide)) (by have := jc; simp only at this; omega) (by have := js; simp only at this; omega) rfl fun H1 cA e1 z1 o1 hAr hNm => ?_
  have hk' := K _ (x_mem1 _) H1 locs (cells + 1) (slots + i.toNatClampNeg) ls (.ref H.size :: stk') ⟨je, by have := jc; simp only at this ⊢; omega, by have := js; simp only at this ⊢; omega, jg.push ⟨cA, (i.toNatClampNeg, .inl (fun _ => 0)), ?_, rfl, ⟨hk, fun j _ => rfl⟩, hAr, hra cA hNm⟩ z1 o1, ⟨lv, jl, jd⟩, ⟨?_, ds⟩, jx.kept (fun q hq => o1 q (by have := jg.1; omega)), jo, jk⟩
  · exact hk'
  · rw [e1, hdv]; rfl
  · show Value.ref H.size = .ref (P.2.1 + h.length)
    rw [jg.1]
theorem s_newal (hd : decode μ.2.1 pc = .ok (.newarray .long, 2)) (hw : Cond.arrayClass .long ∈ xTB) : xSim l P M μ pc (i_newa .long (.inl (.long (Int64.ofNat 0))) (pc + 2)) := by
  intro p e s m args below meth c R Q C cf hcf st outs ho H locs cells slots ls stk J K
  obtain ⟨hx, hb, hml, hown, hts, hr, hlk, hnm, hR⟩ := C
  obtain ⟨en, cl, sl, h, L, S⟩ := st
  obtain ⟨je, jc, js, jg, ⟨lv, jl, jd⟩, jS, jx, jo, jk⟩ := J
  obtain ⟨i, S', stk', rfl, ds, h0, hlt, hc1, hs1, rfl⟩ := x_newa_inv ho jS
  have hcb : componentBytes (newarray.typeOf .long) ≤ 8 := by decide
  refine va_newaK (atype := .long) hx hb (hts _ hw) rfl hd rfl h0 rfl (Nat.le_trans (Nat.mul_le_mul (Nat.le_of_lt hlt) hcb) (by decide)) (by have := jc; simp only at this; omega) (by have := js; simp only at this; omega) rfl fun H1 cA e1 z1 o1 hAr hNm => ?_
  have hk' := K _ (x_mem1 _) H1 locs (cells + 1) (slots + i.toNatClampNeg) ls (.ref H.size :: stk') ⟨je, by have := jc; simp only at this ⊢; omega, by have := js; simp only at this ⊢; omega, jg.push ⟨cA, (i.toNatClampNeg, .inr (.inl (fun _ => 0))), ?_, rfl, ⟨rfl, fun j _ => rfl⟩, hAr, hNm⟩ z1 o1, ⟨lv, jl, jd⟩, ⟨?_, ds⟩, jx.kept (fun q hq => o1 q (by have := jg.1; omega)), jo, jk⟩
  · exact hk'
  · rw [e1]; rfl
  · show Value.ref H.size = .ref (P.2.1 + h.length)
    rw [jg.1]
theorem s_newq {index : Nat} (C : String) (hd : decode μ.2.1 pc = .ok (.anewarray index, 3)) (hw : Cond.classLink μ.1 index C ∈ xTB) (hC : C ∈ (["BreadMap$Tray", "BreadMap$Land"] : List String)) : xSim l P M μ pc (i_newa (.object C) (.inl .null) (pc + 3)) := by
  intro p e s m args below meth c R Q C cf hcf st outs ho H locs cells slots ls stk J K
  obtain ⟨hx, hb, hml, hown, hts, hr, hlk, hnm, hR⟩ := C
  obtain ⟨en, cl, sl, h, L, S⟩ := st
  obtain ⟨je, jc, js, jg, ⟨lv, jl, jd⟩, jS, jx, jo, jk⟩ := J
  obtain ⟨i, S', stk', rfl, ds, h0, hlt, hc1, hs1, rfl⟩ := x_newa_inv ho jS
  refine W.anew hx hb hown (hts _ hw) (va_AO.use (jx.2.1 C hC)) rfl hd rfl h0 (by omega) (by have := jc; simp only at this; omega) (by have := js; simp only at this; omega) fun cA kA comp f1 f2 f3 f4 => ?_
  generalize hH1 : H.push ({ cls := cA, slots := Array.replicate i.toNatClampNeg .null, vm := .none } : Cell) = H1
  have z1 : H1.size = H.size + 1 := by rw [← hH1, Array.size_push]
  have e1 : H1[H.size]? = some (arrV cA i.toNatClampNeg (fun _ => .null)) := by rw [← hH1, Array.getElem?_push_size, ← arrV_new]
  have o1 : ∀ q : Nat, q < H.size → H1[q]? = H[q]? := fun q hq => by rw [← hH1, Array.getElem?_push, if_neg (Nat.ne_of_lt hq)]
  have hAr : ArrOfT s cA (.object C) := fun N z => ⟨(fun k h => by cases h), kA, f2, comp, f3⟩
  have hk' := K _ (x_mem1 _) H1 locs (cells + 1) (slots + i.toNatClampNeg) ls (.ref H.size :: stk') ⟨je, by have := jc; simp only at this ⊢; omega, by have := js; simp only at this ⊢; omega, jg.push ⟨cA, (i.toNatClampNeg, .inr (.inr (.inr (.inr (fun _ => none))))), ?_, rfl, ⟨⟨C, rfl⟩, fun j _ => rfl⟩, hAr, ⟨kA, comp, f2, f3, f4, f1⟩⟩ z1 o1, ⟨lv, jl, jd⟩, ⟨?_, ds⟩, jx.kept (fun q hq => o1 q (by have := jg.1; omega)), jo, jk⟩
  · exact hk'
  · rw [vp_cell_q]
    exact e1
  · show Value.ref H.size = .ref (P.2.1 + h.length)
    rw [jg.1]
theorem x_dens_lit : ∀ {vs : List Value}, vs.all (fun v => match v with | .ref _ => false | _ => true) = true → xdens P (vs.map Sum.inl) vs
  | [], _ => trivial
  | v :: vs, h => by
    rw [List.all_cons, Bool.and_eq_true] at h
    refine ⟨?_, x_dens_lit h.2⟩
    cases v <;> first | rfl | cases h.1
theorem s_new {index : Nat} {C : String} {T : u_T} {N : Nat} (ci : Nat) (ty : Nat → FieldType) (vs : List Value) (fs : List xV) (hd : decode μ.2.1 pc = .ok (.new index, 3)) (hc : vwCl[ci]? = some (C, T, N)) (hin : ∀ w ∈ u_ws C T N, w ∈ xTB) (hty : ∀ k, k < N → parseFieldDescriptor (T k).2.2.1 = some (ty k)) (hw1 : Cond.classLink μ.1 index C ∈ xTB) (hw2 : Cond.instantiable C N ∈ xTB) (hw3 : Cond.initialized C ∈ xTB) (hfs : fs = vs.map Sum.inl) (hnr : vs.all (fun v => match v with | .ref _ => false | _ => true) = true) (hdv : ∀ j, j < N → defaultValue (ty j) = vp_V vs j) : xSim l P M μ pc (i_new ci N fs (pc + 3)) := by
  intro p e s m args below meth c R Q C cf hcf st outs ho H locs cells slots ls stk J K
  obtain ⟨hx, hb, hml, hown, hts, hr, hlk, hnm, hR⟩ := C
  obtain ⟨en, cl, sl, h, L, S⟩ := st
  obtain ⟨je, jc, js, jg, ⟨lv, jl, jd⟩, jS, jx, jo, jk⟩ := J
  obtain ⟨hbb, hz⟩ := x_condS (α := List xO) (b := Nat.ble 1 cl && Nat.ble N sl) (x := x_kN (cl - 1) (fun cl => x_kN (sl - N) (fun sl => x_push h (.inr (ci, fs)) (fun h r => x_kN r (fun r => some [Sum.inr (pc + 3, en, cl, sl, h, L, (Sum.inl (Value.ref r) : xV) :: S)]))))) ho
  rw [x_kN_eq, x_kN_eq, x_push_eq, x_kN_eq] at hz
  have hz := Option.some.inj hz
  subst hz
  rw [Bool.and_eq_true] at hbb
  have hc1 := Nat.le_of_ble_eq_true hbb.1
  have hs1 := Nat.le_of_ble_eq_true hbb.2
  have hKn := jk.1 ci _ hc
  refine W.newcK hx hb hown (hts _ hw1) (hts _ hw2) (hts _ hw3) rfl hd (by have := jc; simp only at this; omega) (by have := js; simp only at this; omega) hKn.2.1 rfl fun H1 kC hkC e1 z1 o1 => ?_
  have hk' := K _ (x_mem1 _) H1 locs (cells + 1) (slots + N) ls (.ref H.size :: stk) ⟨je, by have := jc; simp only at this ⊢; omega, by have := js; simp only at this ⊢; omega, jg.push ⟨vs, by rw [hfs]; exact x_dens_lit hnr, ⟨_, hc, (u_born ty hts hin hKn hkC e1 hty).to hdv⟩⟩ z1 o1, ⟨lv, jl, jd⟩, ⟨?_, jS⟩, jx.kept (fun q hq => o1 q (by have := jg.1; omega)), jo, jk⟩
  · exact hk'
  · show Value.ref H.size = .ref (P.2.1 + h.length)
    rw [jg.1]
theorem s_objInit {index : Nat} (hd : decode μ.2.1 pc = .ok (.invokespecial index, 3)) (hw1 : Cond.methodLink μ.1 index objectInit ∈ xTB) (hw2 : Cond.instanceMethod objectInit ∈ xTB) (hw3 : Cond.code objectInit ⟨#[0xb1]⟩ 1 none ∈ xTB) (hf : 1 ≤ μ.2.2.2.2.2.frames) (hlo : 20 ≤ μ.2.2.2.2.2.locals) : xSim l P M μ pc (i_objInit (pc + 3)) := by
  intro p e s m args below meth c R Q C cf hcf st outs ho H locs cells slots ls stk J K
  obtain ⟨hx, hb, hml, hown, hts, hr, hlk, hnm, hR⟩ := C
  obtain ⟨en, cl, sl, h, L, S⟩ := st
  obtain ⟨je, jc, js, jg, ⟨lv, jl, jd⟩, jS, jx, jo, jk⟩ := J
  match S, stk, jS, ho with
  | x :: S, v :: stk, ⟨dx, ds⟩, ho =>
    match x, dx, ho with
    | .inl (.ref r), dx, ho =>
      have dx : v = .ref (P.2.1 + r) := dx
      subst dx
      obtain ⟨hbb, hz⟩ := x_condS (α := List xO) (b := Nat.ble (x_sum S) 8) (x := some [Sum.inr (pc + 3, en, cl, sl, h, L, S)]) ho
      have hz := Option.some.inj hz
      subst hz
      have hsum := Nat.le_of_ble_eq_true hbb
      subst hR
      exact W.objInit hx hb hown (hts _ hw1) (hts _ hw2) (hts _ hw3) rfl (by rw [hml]; exact jl.1) rfl hd hf (by rw [x_sum_den ds]; show 2 * 0 + _ + 12 ≤ _; omega) (K _ (x_mem1 _) _ _ _ _ _ _ ⟨je, jc, js, jg, ⟨lv, jl, jd⟩, ds, jx, jo, jk⟩)
end STEPS4
