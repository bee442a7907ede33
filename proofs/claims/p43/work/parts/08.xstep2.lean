/-! THE STEPS, second part -/
section INV2
variable {P : xP} {en : xE} {cl sl nx : Nat} {h : xH} {L : xL} {S : List xV} {outs : List xO} {cf : xF} {stk : List Value}
theorem x_condS {b : Bool} {α : Type} {x : Option α} {r : α} (h : cond b x none = some r) : b = true ∧ x = some r := by
  cases b with
  | false => cases h
  | true => exact ⟨rfl, h⟩
end INV2
theorem x_fitR {ty : FieldType} {a b : Nat} (h : fits ty (.ref a) = true) : fits ty (.ref b) = true ∧ narrow ty (.ref b) = .ref b := by cases ty <;> first | exact ⟨h, rfl⟩ | cases h
theorem x_fit_den {P : xP} {ty : FieldType} {a : xV} {v : Value} (h : x_fit ty a = true) (d : xden P a v) : fits ty v = true ∧ narrow ty v = v := by
  have lit : ∀ w : Value, (fits ty w && decide (narrow ty w = w)) = true → fits ty w = true ∧ narrow ty w = w := fun w h => by
    rw [Bool.and_eq_true] at h
    exact ⟨h.1, of_decide_eq_true h.2⟩
  match a, h, d with
  | .inl (.ref k), h, d => cases d; exact x_fitR h
  | .inl (.int i), h, d => cases d; exact lit _ h
  | .inl (.long i), h, d => cases d; exact lit _ h
  | .inl (.float i), h, d => cases d; exact lit _ h
  | .inl (.double i), h, d => cases d; exact lit _ h
  | .inl .null, h, d => cases d; exact lit _ h
  | .inl (.retAddr i), h, d => cases d; exact lit _ h
  | .inr (0, k), h, d => cases d; have := of_decide_eq_true h; subst this; exact ⟨rfl, rfl⟩
  | .inr (1, k), h, d => cases d; have := of_decide_eq_true h; subst this; exact ⟨rfl, rfl⟩
  | .inr (2, k), h, ⟨_, d⟩ => cases d; have := of_decide_eq_true h; subst this; exact ⟨rfl, rfl⟩
  | .inr (3, k), h, ⟨_, d⟩ => cases d; have := of_decide_eq_true h; subst this; exact ⟨rfl, rfl⟩
section STEPS2
variable {l : Launch} {P : xP} {M : List (xY × xT)} {μ : xM} {pc : Nat}

theorem s_dup (hd : decode μ.2.1 pc = .ok (.dup, 1)) : xSim l P M μ pc (i_dup (pc + 1)) := by
  intro p e s m args below meth c R Q C cf hcf st outs ho H locs cells slots ls stk J K
  obtain ⟨hx, hb, hml, hown, hts, hr, hlk, hnm, hR⟩ := C
  obtain ⟨en, cl, sl, h, L, S⟩ := st
  obtain ⟨je, jc, js, jg, ⟨lv, jl, jd⟩, jS, jx, jo, jk⟩ := J
  match S, stk, jS, ho with
  | x :: S, v :: stk, ⟨dx, ds⟩, ho =>
    obtain ⟨hc, ho⟩ := x_condS (α := List xO) (b := Nat.beq (x_cat x) 1) (x := some [Sum.inr (pc + 1, en, cl, sl, h, L, x :: x :: S)]) ho
    have ho := Option.some.inj ho
    subst ho
    exact lv_dup hx hb hd ((x_cat_den dx).trans (Nat.eq_of_beq_eq_true hc)) (K _ (x_mem1 _) _ _ _ _ _ _ ⟨je, jc, js, jg, ⟨lv, jl, jd⟩, ⟨dx, dx, ds⟩, jx, jo, jk⟩)

theorem s_goto {off : Int} (tgt : Nat) (hd : decode μ.2.1 pc = .ok (.goto off, 3)) (ht : (pc : Int) + off = (tgt : Int)) : xSim l P M μ pc (i_jump tgt) := by
  intro p e s m args below meth c R Q C cf hcf st outs ho H locs cells slots ls stk J K
  obtain ⟨hx, hb, hml, hown, hts, hr, hlk, hnm, hR⟩ := C
  obtain ⟨en, cl, sl, h, L, S⟩ := st
  obtain ⟨je, jc, js, jg, ⟨lv, jl, jd⟩, jS, jx, jo, jk⟩ := J
  have ho := Option.some.inj ho
  subst ho
  exact lv_goto hx hb hd ht (K _ (x_mem1 _) _ _ _ _ _ _ ⟨je, jc, js, jg, ⟨lv, jl, jd⟩, jS, jx, jo, jk⟩)

theorem s_icmp_ge {off : Int} (tgt : Nat) (hd : decode μ.2.1 pc = .ok (.if_icmp .ge off, 3)) (ht : (pc : Int) + off = (tgt : Int)) : xSim l P M μ pc (i_icmp 0 (pc + 3) tgt) := by
  intro p e s m args below meth c R Q C cf hcf st outs ho H locs cells slots ls stk J K
  obtain ⟨hx, hb, hml, hown, hts, hr, hlk, hnm, hR⟩ := C
  obtain ⟨en, cl, sl, h, L, S⟩ := st
  obtain ⟨je, jc, js, jg, ⟨lv, jl, jd⟩, jS, jx, jo, jk⟩ := J
  match S, stk, jS, ho with
  | y :: x :: S, w :: v :: stk, ⟨dy, dx, ds⟩, ho =>
    have ho : x_br 0 en x y (fun en => .inr ((pc + 3), en, cl, sl, h, L, S)) (fun en => .inr (tgt, en, cl, sl, h, L, S)) = some outs := ho
    obtain ⟨a, z, rfl, hz, r1, r2⟩ := x_br_den ho je dx dy
    cases hz
    exact lv_icmp_ge hx hb hd ht (fun q => by
      obtain ⟨e', h1, h2⟩ := r2 (fun z => Int.not_lt.mpr (Int32.le_iff_toInt_le.mp q) z)
      exact K _ h2 _ _ _ _ _ _ ⟨h1, jc, js, jg, ⟨lv, jl, jd⟩, ds, jx, jo, jk⟩) (fun q => by
      obtain ⟨e', h1, h2⟩ := r1 (Int.not_le.mp (fun z => q (Int32.le_iff_toInt_le.mpr z)))
      exact K _ h2 _ _ _ _ _ _ ⟨h1, jc, js, jg, ⟨lv, jl, jd⟩, ds, jx, jo, jk⟩)

end STEPS2
