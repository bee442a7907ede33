section STEPS4
variable {l : Launch} {P : xP} {M : List (xY × xT)} {μ : xM} {pc : Nat}
theorem s_iast (hd : decode μ.2.1 pc = .ok (.iastore, 1)) : xSim l P M μ pc (i_ast .int (pc + 1)) := by
  intro p e s m args below meth c R Q C cf hcf st outs ho H locs cells slots ls stk J K
  obtain ⟨hx, hb, hml, hown, hts, hr, hlk, hnm, hR⟩ := C
  obtain ⟨en, cl, sl, h, L, S⟩ := st
  obtain ⟨je, jc, js, jg, ⟨lv, jl, jd⟩, jS, jx, jo, jk⟩ := J
  match S, stk, jS, ho with
  | [a], _, _, ho => cases ho
  | [a, y], _, _, ho =>
    rcases y with w | q
    · cases w <;> cases ho
    · cases ho
  | a :: y :: x :: S, u :: w :: v :: stk, ⟨da, dy, dx, ds⟩, ho =>
    match y, x, dy, dx, ho with
    | .inl (.int i), .inl (.ref r), dy, dx, ho =>
      have dx : v = .ref (P.2.1 + r) := dx
      have dy : w = .int i := dy
      subst dx
      subst dy
      have ho : (match x_nth h r with
        | some (.inl (tz, n, d, o)) => cond (decide (tz = .int)) (x_sto .int a (fun v => x_idx i n (fun j => x_spine (x_upd o j v d) (fun o => x_set h r (.inl (.int, n, d, o)) (fun h => some [Sum.inr (pc + 1, en, cl, sl, h, L, S)]))))) none
        | _ => none) = some outs := ho
      match hn : x_nth h r, ho with
      | some (.inl (tz, n, d, o)), ho =>
        obtain ⟨htz, hz⟩ := x_condS (α := List xO) (b := decide (tz = .int)) (x := x_sto .int a (fun v => x_idx i n (fun j => x_spine (x_upd o j v d) (fun o => x_set h r (.inl (.int, n, d, o)) (fun h => some [Sum.inr (pc + 1, en, cl, sl, h, L, S)]))))) ho
        clear ho
        have ho := hz
        clear hz
        have htz := of_decide_eq_true htz
        subst htz
        obtain ⟨x, a, rfl, ho, da⟩ := x_sto_int (w := u) (Or.inl rfl) ho da
        obtain ⟨hin, hlt, -, ho⟩ := x_idx_den ho
        rw [x_spine_eq] at ho
        obtain ⟨hrl, ho⟩ := x_set_eq _ _ _ _ ho
        have ho := Option.some.inj ho
        subst ho
        obtain ⟨cA, ⟨n', X⟩, hcell, hn', hX, hAr, hRA⟩ := jg.2 _ _ (x_nth_lt hn).1
        have hn' : n' = n := hn'
        subst hn'
        match X, hX, hcell with
        | .inl f, ⟨hty, hX⟩, hcell =>
          refine W.iast hx hb hcell (hAr n' (fun j => .int (f j))) (fun q => by cases q) (by show ¬ (i < 0 ∨ (arrV _ _ _).slots.size ≤ _); rw [arrV_size]; exact hin) rfl rfl hd fun H1 e z oq => ?_
          refine K _ (x_mem1 _) _ _ _ _ _ _ ⟨je, jc, js, jg.set hrl ⟨cA, (n', .inl (upd f i.toNatClampNeg (vp_nar .int x))), ?_, rfl, ⟨hty, fun k hk => ?_⟩, hAr, hRA⟩ z oq, ⟨lv, jl, jd⟩, ds, jx.kept (fun q hq => oq q (Nat.ne_of_lt (Nat.lt_of_lt_of_le hq (Nat.le_add_right _ _)))), xlocs_put jo (Nat.le_add_right _ _), jk⟩
          · show H1[_]? = some (vp_cell _ _)
            rw [e]
            rw [vp_cell_i, vp_cell_i, arrV_store]
            congr 2
            funext q
            by_cases hq : q = i.toNatClampNeg
            · subst hq
              simp [updV, upd, vp_nar]
              try rfl
            · simp [updV, upd, vp_nar, hq]
          · rw [x_upd_lk]
            by_cases hq : k = i.toNatClampNeg
            · subst hq
              rw [if_pos rfl]
              simpa [upd, vp_nar] using da
            · rw [if_neg hq]
              simpa [upd, vp_nar, hq] using hX k hk
        | .inr (.inl f), ⟨hX, _⟩, hcell => cases hX
end STEPS4
