section STEPS4
variable {l : Launch} {P : xP} {M : List (xY × xT)} {μ : xM} {pc : Nat}
theorem s_objInit {index : Nat} (hd : decode μ.2.1 pc = .ok (.invokespecial index, 3)) (hw1 : Cond.methodLink μ.1 index objectInit ∈ xTB) (hw2 : Cond.instanceMethod objectInit ∈ xTB) (hw3 : Cond.code objectInit ⟨#[0xb1]⟩ 1 none ∈ xTB) (hf : 1 ≤ μ.2.2.2.2.2.frames) (hlo : 20 ≤ μ.2.2.2.2.2.locals) : xSim l P M μ pc (i_objInit (pc + 3)) := by
  intro p e s m args below meth c R Q C cf hcf st outs ho H locs cells slots ls stk J K
  obtain ⟨hx, hb, hml, hown, hts, hr, hlk, hnm, hR⟩ := C
  obtain ⟨en, cl, sl, h, L, S⟩ := st
  obtain ⟨je, jc, js, jg, ⟨lv, jl, jd⟩, jS, jx, jo, jk⟩ := J
  match S, stk, jS, ho with
  | x :: S, v :: stk, ⟨dx, ds⟩, ho =>
    match x, dx, ho with
    | .inl (.ref r), dx, ho =>
      have dx : v = .ref (P.2.1 + r) := dx
      subst dx
      obtain ⟨hbb, hz⟩ := x_condS (α := List xO) (b := Nat.ble (x_sum S) 8) (x := some [Sum.inr (pc + 3, en, cl, sl, h, L, S)]) ho
      have hz := Option.some.inj hz
      subst hz
      have hsum := Nat.le_of_ble_eq_true hbb
      subst hR
      exact W.objInit hx hb hown (hts _ hw1) (hts _ hw2) (hts _ hw3) rfl (by rw [hml]; exact jl.1) rfl hd hf (by rw [x_sum_den ds]; show 2 * 0 + _ + 12 ≤ _; omega) (K _ (x_mem1 _) _ _ _ _ _ _ ⟨je, jc, js, jg, ⟨lv, jl, jd⟩, ds, jx, jo, jk⟩)
end STEPS4
