section STEPS4
variable {l : Launch} {P : xP} {M : List (xY × xT)} {μ : xM} {pc : Nat}
theorem s_aast {C : String} {T : u_T} {N : Nat} (ci : Nat) (hd : decode μ.2.1 pc = .ok (.aastore, 1)) (hc : vwCl[ci]? = some (C, T, N)) : xSim l P M μ pc (i_aast ci C (pc + 1)) := by
  intro p e s m args below meth c R Q C cf hcf st outs ho H locs cells slots ls stk J K
  obtain ⟨hx, hb, hml, hown, hts, hr, hlk, hnm, hR⟩ := C
  obtain ⟨en, cl, sl, h, L, S⟩ := st
  obtain ⟨je, jc, js, jg, ⟨lv, jl, jd⟩, jS, jx, jo, jk⟩ := J
  match S, stk, jS, ho with
  | [a], _, _, ho =>
    rcases a with w | q
    · cases w <;> cases ho
    · cases ho
  | [a, y], _, _, ho =>
    rcases a with w | q
    · cases w <;> first | cases ho | (rcases y with w | q <;> first | cases ho | (cases w <;> cases ho))
    · cases ho
  | a :: y :: x :: S, u :: w :: v :: stk, ⟨da, dy, dx, ds⟩, ho =>
    match a, y, x, da, dy, dx, ho with
    | .inl (.ref q), .inl (.int i), .inl (.ref r), da, dy, dx, ho =>
      have dx : v = .ref (P.2.1 + r) := dx
      have dy : w = .int i := dy
      subst dx
      subst dy
      have ho : (match x_nth h r with
        | some (.inl (tz, n, d, o)) => cond (decide (tz = .object C) && x_cls h ci (.inl (.ref q))) (x_idx i n (fun j => x_spine (x_upd o j (.inl (.ref q)) d) (fun o => x_set h r (.inl (.object C, n, d, o)) (fun h => some [Sum.inr (pc + 1, en, cl, sl, h, L, S)])))) none
        | _ => none) = some outs := ho
      match hn : x_nth h r, ho with
      | some (.inl (tz, n, d, o)), ho =>
        obtain ⟨htz, hz⟩ := x_condS (α := List xO) (b := decide (tz = .object C) && x_cls h ci (.inl (.ref q))) (x := x_idx i n (fun j => x_spine (x_upd o j (.inl (.ref q)) d) (fun o => x_set h r (.inl (.object C, n, d, o)) (fun h => some [Sum.inr (pc + 1, en, cl, sl, h, L, S)])))) ho
        clear ho
        have ho := hz
        clear hz
        rw [Bool.and_eq_true] at htz
        obtain ⟨htz, hcq⟩ := htz
        have htz := of_decide_eq_true htz
        subst htz
        obtain ⟨hin, hlt, h0, ho⟩ := x_idx_den ho
        rw [x_spine_eq] at ho
        obtain ⟨hrl, ho⟩ := x_set_eq _ _ _ _ ho
        have ho := Option.some.inj ho
        subst ho
        obtain ⟨cA, ⟨n', X⟩, hcell, hn', hX, hAr, hRA⟩ := jg.2 _ _ (x_nth_lt hn).1
        have hn' : n' = n := hn'
        subst hn'
        obtain ⟨q', hu, hq', cellV, g1, g3, g2, -⟩ := x_cls_den hcq da jg jk hc
        cases hq'
        subst hu
        have hcls := (jk.1 ci _ hc).2
        have hRA' := hRA
        obtain ⟨kA, comp, k1, k2, k3, -⟩ := hRA
        have hcomp : comp = P.2.2.2.1.1 ci := Option.some.inj (k3.symm.trans hcls.1)
        subst hcomp
        obtain ⟨kC, hkC, -⟩ := hcls.2
        match X, hX, hcell with
        | .inr (.inr (.inr (.inr f))), ⟨hty, hX⟩, hcell =>
          refine W.aast hx hb hcell (fun q h => by cases h) (fun h => by cases h) k1 k2 rfl hkC ⟨h0, by show _ < (arrV _ _ _).slots.size; rw [arrV_size]; exact hlt⟩ g1 (fun q h => by rw [g3] at h; cases h) (by rw [g2]; exact hkC) (by rw [g2]; exact va_assign hcls) rfl rfl hd fun H1 e z oq => ?_
          refine K _ (x_mem1 _) _ _ _ _ _ _ ⟨je, jc, js, jg.set hrl ⟨cA, (n', .inr (.inr (.inr (.inr (va_up f i.toNatClampNeg (some (P.2.1 + q))))))), ?_, rfl, ⟨hty, fun k hk => ?_⟩, hAr, hRA'⟩ z oq, ⟨lv, jl, jd⟩, ds, jx.kept (fun q hq => oq q (Nat.ne_of_lt (Nat.lt_of_lt_of_le hq (Nat.le_add_right _ _)))), xlocs_put jo (Nat.le_add_right _ _), jk⟩
          · show H1[_]? = some (vp_cell _ _)
            rw [e]
            rw [vp_cell_q, vp_cell_q, arrV_store]
            congr 2
            funext q
            by_cases hq : q = i.toNatClampNeg
            · subst hq
              simp [updV, va_up, va_rf]
            · simp [updV, va_up, hq]
          · rw [x_upd_lk]
            by_cases hq : k = i.toNatClampNeg
            · subst hq
              rw [if_pos rfl]
              simp [va_up, va_rf, xden]
            · rw [if_neg hq]
              simpa [va_up, hq] using hX k hk
        | .inl f, ⟨hX, _⟩, hcell => rcases hX with hX | hX | hX <;> cases hX
        | .inr (.inl f), ⟨hX, _⟩, hcell => cases hX
end STEPS4
