/-! the length of a static table -/
noncomputable def i_tlen (nx : Nat) : xI := fun _ (e, cl, sl, h, L, S) => match S with
  | .inr (4, t) :: S => cond (Nat.beq t 1 || Nat.beq t 2) (some [.inr (nx, e, cl, sl, h, L, .inl (.int (Int32.ofNat 5)) :: S)]) none
  | _ => none
theorem s_tlen {l : Launch} {P : xP} {M : List (xY × xT)} {μ : xM} {pc : Nat} (hd : decode μ.2.1 pc = .ok (.arraylength, 1)) : xSim l P M μ pc (i_tlen (pc + 1)) := by
  intro p e s m args below meth c R Q C cf hcf st outs ho H locs cells slots ls stk J K
  obtain ⟨hx, hb, hml, hown, hts, hr, hlk, hnm, hR⟩ := C
  obtain ⟨en, cl, sl, h, L, S⟩ := st
  obtain ⟨je, jc, js, jg, ⟨lv, jl, jd⟩, jS, jx, jo, jk⟩ := J
  match S, stk, jS, ho with
  | x :: S, v :: stk, ⟨dx, ds⟩, ho =>
    match x, dx, ho with
    | .inr (4, t), dx, ho =>
      have dx : v = .ref (P.2.2.1 t) := dx
      subst dx
      obtain ⟨ht, ho⟩ := x_condS (α := List xO) (b := Nat.beq t 1 || Nat.beq t 2) (x := some [Sum.inr (pc + 1, en, cl, sl, h, L, (Sum.inl (Value.int (Int32.ofNat 5)) : xV) :: S)]) ho
      have ho := Option.some.inj ho
      subst ho
      have hm : ∃ C n, (C, n, t) ∈ xStat := by
        rw [Bool.or_eq_true] at ht
        rcases ht with ht | ht
        · rw [Nat.eq_of_beq_eq_true ht]; exact ⟨_, _, List.mem_cons_self⟩
        · rw [Nat.eq_of_beq_eq_true ht]; exact ⟨_, _, List.mem_cons_of_mem _ List.mem_cons_self⟩
      obtain ⟨C, n, hm⟩ := hm
      obtain ⟨cell, g1, g2, g3, g4, g5, -, -⟩ := (jx.2.2.1 _ hm).2
      exact W.alen (n := Int32.ofNat 5) hx hb g1 g2 g5 rfl rfl hd (K _ (x_mem1 _) _ _ _ _ _ _ ⟨je, jc, js, jg, ⟨lv, jl, jd⟩, ⟨rfl, ds⟩, jx, jo, jk⟩)
