/-! THE STEPS, second part -/
section INV2
variable {P : xP} {en : xE} {cl sl nx : Nat} {h : xH} {L : xL} {S : List xV} {outs : List xO} {cf : xF} {stk : List Value}
theorem x_sh64 {op : Int64 → Int32 → Int64} (ho : i_sh64 op nx cf (en, cl, sl, h, L, S) = some outs) (d : xdens P S stk) : ∃ (b : Int32) (a : Int64) (r : xV) (S' : List xV) (stk' : List Value), stk = .int b :: .long a :: stk' ∧ xdens P S' stk' ∧ xden P r (.long (op a b)) ∧ outs = [.inr (nx, en, cl, sl, h, L, r :: S')] := by
  match S, stk, d, ho with
  | y :: x :: S, w :: v :: stk, ⟨dy, dx, d⟩, ho =>
    have key : ∀ y x : xV, xden P y w → xden P x v → x_isI y = true → x_isL x = true → cond (x_isI y && x_isL x) (some [Sum.inr (nx, en, cl, sl, h, L, (Sum.inr (3, 0) : xV) :: S)]) none = some outs → ∃ (b : Int32) (a : Int64) (r : xV) (S' : List xV) (stk' : List Value), w :: v :: stk = .int b :: .long a :: stk' ∧ xdens P S' stk' ∧ xden P r (.long (op a b)) ∧ outs = [.inr (nx, en, cl, sl, h, L, r :: S')] := by
      intro y x dy dx hi hj ho
      obtain ⟨b, rfl⟩ := x_isI_den hi dy
      obtain ⟨a, rfl⟩ := x_isL_den hj dx
      rw [hi, hj] at ho
      exact ⟨b, a, .inr (3, 0), _, _, rfl, d, ⟨_, rfl⟩, (Option.some.inj ho).symm⟩
    match y, x, dy, dx, ho with
    | .inl (.int b), .inl (.long a), dy, dx, ho =>
      cases dx
      cases dy
      have ho : x_k64 (op a b) (fun r => some [Sum.inr (nx, en, cl, sl, h, L, (Sum.inl (Value.long r) : xV) :: S)]) = some outs := ho
      rw [x_k64_eq] at ho
      exact ⟨b, a, .inl (.long (op a b)), _, _, rfl, d, rfl, (Option.some.inj ho).symm⟩
    | .inl (.int b), .inr (1, k), dy, dx, ho => exact key _ _ dy dx rfl rfl ho
    | .inl (.int b), .inr (3, k), dy, dx, ho => exact key _ _ dy dx rfl rfl ho
    | .inr (0, j), .inl (.long b), dy, dx, ho => exact key _ _ dy dx rfl rfl ho
    | .inr (0, j), .inr (1, k), dy, dx, ho => exact key _ _ dy dx rfl rfl ho
    | .inr (0, j), .inr (3, k), dy, dx, ho => exact key _ _ dy dx rfl rfl ho
    | .inr (2, j), .inl (.long b), dy, dx, ho => exact key _ _ dy dx rfl rfl ho
    | .inr (2, j), .inr (1, k), dy, dx, ho => exact key _ _ dy dx rfl rfl ho
    | .inr (2, j), .inr (3, k), dy, dx, ho => exact key _ _ dy dx rfl rfl ho
theorem x_i2l (ho : i_i2l nx cf (en, cl, sl, h, L, S) = some outs) (d : xdens P S stk) : ∃ (a : Int32) (r : xV) (S' : List xV) (stk' : List Value), stk = .int a :: stk' ∧ xdens P S' stk' ∧ xden P r (.long a.toInt64) ∧ outs = [.inr (nx, en, cl, sl, h, L, r :: S')] := by
  match S, stk, d, ho with
  | x :: S, v :: stk, ⟨dx, d⟩, ho =>
    match x, dx, ho with
    | .inl (.int a), dx, ho =>
      cases dx
      have ho : x_k64 a.toInt64 (fun r => some [Sum.inr (nx, en, cl, sl, h, L, (Sum.inl (Value.long r) : xV) :: S)]) = some outs := ho
      rw [x_k64_eq] at ho
      exact ⟨a, .inl (.long a.toInt64), _, _, rfl, d, rfl, (Option.some.inj ho).symm⟩
    | .inr (0, k), dx, ho =>
      have dx : v = .int (P.1 k) := dx
      subst dx
      exact ⟨P.1 k, .inr (1, k), _, _, rfl, d, rfl, (Option.some.inj ho).symm⟩
    | .inr (2, k), dx, ho =>
      obtain ⟨a, rfl⟩ := dx
      exact ⟨a, .inr (3, 0), _, _, rfl, d, ⟨_, rfl⟩, (Option.some.inj ho).symm⟩
theorem x_l2i (ho : i_l2i nx cf (en, cl, sl, h, L, S) = some outs) (d : xdens P S stk) : ∃ (a : Int64) (r : xV) (S' : List xV) (stk' : List Value), stk = .long a :: stk' ∧ xdens P S' stk' ∧ xden P r (.int a.toInt32) ∧ outs = [.inr (nx, en, cl, sl, h, L, r :: S')] := by
  match S, stk, d, ho with
  | x :: S, v :: stk, ⟨dx, d⟩, ho =>
    match x, dx, ho with
    | .inl (.long a), dx, ho =>
      cases dx
      have ho : x_k32 a.toInt32 (fun r => some [Sum.inr (nx, en, cl, sl, h, L, (Sum.inl (Value.int r) : xV) :: S)]) = some outs := ho
      rw [x_k32_eq] at ho
      exact ⟨a, .inl (.int a.toInt32), _, _, rfl, d, rfl, (Option.some.inj ho).symm⟩
    | .inr (1, k), dx, ho =>
      have dx : v = .long (P.1 k).toInt64 := dx
      subst dx
      exact ⟨_, .inr (2, 0), _, _, rfl, d, ⟨_, rfl⟩, (Option.some.inj ho).symm⟩
    | .inr (3, k), dx, ho =>
      obtain ⟨a, rfl⟩ := dx
      exact ⟨a, .inr (2, 0), _, _, rfl, d, ⟨_, rfl⟩, (Option.some.inj ho).symm⟩
theorem x_condS {b : Bool} {α : Type} {x : Option α} {r : α} (h : cond b x none = some r) : b = true ∧ x = some r := by
  cases b with
  | false => cases h
  | true => exact ⟨rfl, h⟩
end INV2
theorem x_fitR {ty : FieldType} {a b : Nat} (h : fits ty (.ref a) = true) : fits ty (.ref b) = true ∧ narrow ty (.ref b) = .ref b := by cases ty <;> first | exact ⟨h, rfl⟩ | cases h
theorem x_fitN {ty : FieldType} (h : fits ty .null = true) : narrow ty .null = .null := by cases ty <;> first | rfl | cases h
theorem x_fit_den {P : xP} {ty : FieldType} {a : xV} {v : Value} (h : x_fit ty a = true) (d : xden P a v) : fits ty v = true ∧ narrow ty v = v := by
  have lit : ∀ w : Value, (fits ty w && decide (narrow ty w = w)) = true → fits ty w = true ∧ narrow ty w = w := fun w h => by
    rw [Bool.and_eq_true] at h
    exact ⟨h.1, of_decide_eq_true h.2⟩
  match a, h, d with
  | .inl (.ref k), h, d => cases d; exact x_fitR h
  | .inl (.int i), h, d => cases d; exact lit _ h
  | .inl (.long i), h, d => cases d; exact lit _ h
  | .inl (.float i), h, d => cases d; exact lit _ h
  | .inl (.double i), h, d => cases d; exact lit _ h
  | .inl .null, h, d => cases d; exact lit _ h
  | .inl (.retAddr i), h, d => cases d; exact lit _ h
  | .inr (0, k), h, d => cases d; have := of_decide_eq_true h; subst this; exact ⟨rfl, rfl⟩
  | .inr (1, k), h, d => cases d; have := of_decide_eq_true h; subst this; exact ⟨rfl, rfl⟩
  | .inr (2, k), h, ⟨_, d⟩ => cases d; have := of_decide_eq_true h; subst this; exact ⟨rfl, rfl⟩
  | .inr (3, k), h, ⟨_, d⟩ => cases d; have := of_decide_eq_true h; subst this; exact ⟨rfl, rfl⟩
section STEPS2
variable {l : Launch} {P : xP} {M : List (xY × xT)} {μ : xM} {pc : Nat}

theorem s_lshl (hd : decode μ.2.1 pc = .ok (.lshl, 1)) : xSim l P M μ pc (i_sh64 (fun x y => x <<< (y.toInt64 &&& 63)) (pc + 1)) := by
  intro p e s m args below meth c R Q C cf hcf st outs ho H locs cells slots ls stk J K
  obtain ⟨hx, hb, hml, hown, hts, hr, hlk, hnm, hR⟩ := C
  obtain ⟨en, cl, sl, h, L, S⟩ := st
  obtain ⟨je, jc, js, jg, ⟨lv, jl, jd⟩, jS, jx, jo, jk⟩ := J
  obtain ⟨b, a, r, S, stk, rfl, ds, dr, rfl⟩ := x_sh64 ho jS
  exact lv_lshl hx hb hd rfl (K _ (x_mem1 _) _ _ _ _ _ _ ⟨je, jc, js, jg, ⟨lv, jl, jd⟩, ⟨dr, ds⟩, jx, jo, jk⟩)

theorem s_lushr (hd : decode μ.2.1 pc = .ok (.lushr, 1)) : xSim l P M μ pc (i_sh64 (fun x y => (x.toUInt64 >>> (y.toInt64.toUInt64 &&& Int64.toUInt64 63)).toInt64) (pc + 1)) := by
  intro p e s m args below meth c R Q C cf hcf st outs ho H locs cells slots ls stk J K
  obtain ⟨hx, hb, hml, hown, hts, hr, hlk, hnm, hR⟩ := C
  obtain ⟨en, cl, sl, h, L, S⟩ := st
  obtain ⟨je, jc, js, jg, ⟨lv, jl, jd⟩, jS, jx, jo, jk⟩ := J
  obtain ⟨b, a, r, S, stk, rfl, ds, dr, rfl⟩ := x_sh64 ho jS
  exact lv_lushr hx hb hd rfl (K _ (x_mem1 _) _ _ _ _ _ _ ⟨je, jc, js, jg, ⟨lv, jl, jd⟩, ⟨dr, ds⟩, jx, jo, jk⟩)

theorem s_i2l (hd : decode μ.2.1 pc = .ok (.i2l, 1)) : xSim l P M μ pc (i_i2l (pc + 1)) := by
  intro p e s m args below meth c R Q C cf hcf st outs ho H locs cells slots ls stk J K
  obtain ⟨hx, hb, hml, hown, hts, hr, hlk, hnm, hR⟩ := C
  obtain ⟨en, cl, sl, h, L, S⟩ := st
  obtain ⟨je, jc, js, jg, ⟨lv, jl, jd⟩, jS, jx, jo, jk⟩ := J
  obtain ⟨a, r, S, stk, rfl, ds, dr, rfl⟩ := x_i2l ho jS
  exact lv_i2l hx hb hd rfl (K _ (x_mem1 _) _ _ _ _ _ _ ⟨je, jc, js, jg, ⟨lv, jl, jd⟩, ⟨dr, ds⟩, jx, jo, jk⟩)

theorem s_l2i (hd : decode μ.2.1 pc = .ok (.l2i, 1)) : xSim l P M μ pc (i_l2i (pc + 1)) := by
  intro p e s m args below meth c R Q C cf hcf st outs ho H locs cells slots ls stk J K
  obtain ⟨hx, hb, hml, hown, hts, hr, hlk, hnm, hR⟩ := C
  obtain ⟨en, cl, sl, h, L, S⟩ := st
  obtain ⟨je, jc, js, jg, ⟨lv, jl, jd⟩, jS, jx, jo, jk⟩ := J
  obtain ⟨a, r, S, stk, rfl, ds, dr, rfl⟩ := x_l2i ho jS
  exact lv_l2i hx hb hd rfl (K _ (x_mem1 _) _ _ _ _ _ _ ⟨je, jc, js, jg, ⟨lv, jl, jd⟩, ⟨dr, ds⟩, jx, jo, jk⟩)

theorem s_pop (hd : decode μ.2.1 pc = .ok (.pop, 1)) : xSim l P M μ pc (i_pop (pc + 1)) := by
  intro p e s m args below meth c R Q C cf hcf st outs ho H locs cells slots ls stk J K
  obtain ⟨hx, hb, hml, hown, hts, hr, hlk, hnm, hR⟩ := C
  obtain ⟨en, cl, sl, h, L, S⟩ := st
  obtain ⟨je, jc, js, jg, ⟨lv, jl, jd⟩, jS, jx, jo, jk⟩ := J
  match S, stk, jS, ho with
  | x :: S, v :: stk, ⟨dx, ds⟩, ho =>
    obtain ⟨hc, ho⟩ := x_condS (α := List xO) (b := Nat.beq (x_cat x) 1) (x := some [Sum.inr (pc + 1, en, cl, sl, h, L, S)]) ho
    have ho := Option.some.inj ho
    subst ho
    exact lv_pop hx hb hd ((x_cat_den dx).trans (Nat.eq_of_beq_eq_true hc)) (K _ (x_mem1 _) _ _ _ _ _ _ ⟨je, jc, js, jg, ⟨lv, jl, jd⟩, ds, jx, jo, jk⟩)

theorem s_dup (hd : decode μ.2.1 pc = .ok (.dup, 1)) : xSim l P M μ pc (i_dup (pc + 1)) := by
  intro p e s m args below meth c R Q C cf hcf st outs ho H locs cells slots ls stk J K
  obtain ⟨hx, hb, hml, hown, hts, hr, hlk, hnm, hR⟩ := C
  obtain ⟨en, cl, sl, h, L, S⟩ := st
  obtain ⟨je, jc, js, jg, ⟨lv, jl, jd⟩, jS, jx, jo, jk⟩ := J
  match S, stk, jS, ho with
  | x :: S, v :: stk, ⟨dx, ds⟩, ho =>
    obtain ⟨hc, ho⟩ := x_condS (α := List xO) (b := Nat.beq (x_cat x) 1) (x := some [Sum.inr (pc + 1, en, cl, sl, h, L, x :: x :: S)]) ho
    have ho := Option.some.inj ho
    subst ho
    exact lv_dup hx hb hd ((x_cat_den dx).trans (Nat.eq_of_beq_eq_true hc)) (K _ (x_mem1 _) _ _ _ _ _ _ ⟨je, jc, js, jg, ⟨lv, jl, jd⟩, ⟨dx, dx, ds⟩, jx, jo, jk⟩)

theorem s_dup2l (hd : decode μ.2.1 pc = .ok (.dup2, 1)) : xSim l P M μ pc (i_dup2l (pc + 1)) := by
  intro p e s m args below meth c R Q C cf hcf st outs ho H locs cells slots ls stk J K
  obtain ⟨hx, hb, hml, hown, hts, hr, hlk, hnm, hR⟩ := C
  obtain ⟨en, cl, sl, h, L, S⟩ := st
  obtain ⟨je, jc, js, jg, ⟨lv, jl, jd⟩, jS, jx, jo, jk⟩ := J
  match S, stk, jS, ho with
  | x :: S, v :: stk, ⟨dx, ds⟩, ho =>
    obtain ⟨hc, ho⟩ := x_condS (α := List xO) (b := Nat.beq (x_cat x) 2) (x := some [Sum.inr (pc + 1, en, cl, sl, h, L, x :: x :: S)]) ho
    have ho := Option.some.inj ho
    subst ho
    exact lv_dup2_2 hx hb hd ((x_cat_den dx).trans (Nat.eq_of_beq_eq_true hc)) (K _ (x_mem1 _) _ _ _ _ _ _ ⟨je, jc, js, jg, ⟨lv, jl, jd⟩, ⟨dx, dx, ds⟩, jx, jo, jk⟩)

theorem s_dup2 (hd : decode μ.2.1 pc = .ok (.dup2, 1)) : xSim l P M μ pc (i_dup2 (pc + 1)) := by
  intro p e s m args below meth c R Q C cf hcf st outs ho H locs cells slots ls stk J K
  obtain ⟨hx, hb, hml, hown, hts, hr, hlk, hnm, hR⟩ := C
  obtain ⟨en, cl, sl, h, L, S⟩ := st
  obtain ⟨je, jc, js, jg, ⟨lv, jl, jd⟩, jS, jx, jo, jk⟩ := J
  match S, stk, jS, ho with
  | x :: y :: S, v :: w :: stk, ⟨dx, dy, ds⟩, ho =>
    obtain ⟨hc, ho⟩ := x_condS (α := List xO) (b := Nat.beq (x_cat x) 1 && Nat.beq (x_cat y) 1) (x := some [Sum.inr (pc + 1, en, cl, sl, h, L, x :: y :: x :: y :: S)]) ho
    have ho := Option.some.inj ho
    subst ho
    rw [Bool.and_eq_true] at hc
    exact lv_dup2_11 hx hb hd ((x_cat_den dx).trans (Nat.eq_of_beq_eq_true hc.1)) ((x_cat_den dy).trans (Nat.eq_of_beq_eq_true hc.2)) (K _ (x_mem1 _) _ _ _ _ _ _ ⟨je, jc, js, jg, ⟨lv, jl, jd⟩, ⟨dx, dy, dx, dy, ds⟩, jx, jo, jk⟩)

theorem s_goto {off : Int} (tgt : Nat) (hd : decode μ.2.1 pc = .ok (.goto off, 3)) (ht : (pc : Int) + off = (tgt : Int)) : xSim l P M μ pc (i_jump tgt) := by
  intro p e s m args below meth c R Q C cf hcf st outs ho H locs cells slots ls stk J K
  obtain ⟨hx, hb, hml, hown, hts, hr, hlk, hnm, hR⟩ := C
  obtain ⟨en, cl, sl, h, L, S⟩ := st
  obtain ⟨je, jc, js, jg, ⟨lv, jl, jd⟩, jS, jx, jo, jk⟩ := J
  have ho := Option.some.inj ho
  subst ho
  exact lv_goto hx hb hd ht (K _ (x_mem1 _) _ _ _ _ _ _ ⟨je, jc, js, jg, ⟨lv, jl, jd⟩, jS, jx, jo, jk⟩)

theorem s_icmp_eq {off : Int} (tgt : Nat) (hd : decode μ.2.1 pc = .ok (.if_icmp .eq off, 3)) (ht : (pc : Int) + off = (tgt : Int)) : xSim l P M μ pc (i_icmp 2 tgt (pc + 3)) := by
  intro p e s m args below meth c R Q C cf hcf st outs ho H locs cells slots ls stk J K
  obtain ⟨hx, hb, hml, hown, hts, hr, hlk, hnm, hR⟩ := C
  obtain ⟨en, cl, sl, h, L, S⟩ := st
  obtain ⟨je, jc, js, jg, ⟨lv, jl, jd⟩, jS, jx, jo, jk⟩ := J
  match S, stk, jS, ho with
  | y :: x :: S, w :: v :: stk, ⟨dy, dx, ds⟩, ho =>
    have ho : x_br 2 en x y (fun en => .inr (tgt, en, cl, sl, h, L, S)) (fun en => .inr ((pc + 3), en, cl, sl, h, L, S)) = some outs := ho
    obtain ⟨a, z, rfl, hz, r1, r2⟩ := x_br_den ho je dx dy
    cases hz
    exact lv_icmp_eq hx hb hd ht (fun q => by
      obtain ⟨e', h1, h2⟩ := r1 (congrArg Int32.toInt q)
      exact K _ h2 _ _ _ _ _ _ ⟨h1, jc, js, jg, ⟨lv, jl, jd⟩, ds, jx, jo, jk⟩) (fun q => by
      obtain ⟨e', h1, h2⟩ := r2 (fun z => q (Int32.toInt_inj.mp z))
      exact K _ h2 _ _ _ _ _ _ ⟨h1, jc, js, jg, ⟨lv, jl, jd⟩, ds, jx, jo, jk⟩)

theorem s_if_eq {off : Int} (tgt : Nat) (hd : decode μ.2.1 pc = .ok (.ifCond .eq off, 3)) (ht : (pc : Int) + off = (tgt : Int)) : xSim l P M μ pc (i_if 2 tgt (pc + 3)) := by
  intro p e s m args below meth c R Q C cf hcf st outs ho H locs cells slots ls stk J K
  obtain ⟨hx, hb, hml, hown, hts, hr, hlk, hnm, hR⟩ := C
  obtain ⟨en, cl, sl, h, L, S⟩ := st
  obtain ⟨je, jc, js, jg, ⟨lv, jl, jd⟩, jS, jx, jo, jk⟩ := J
  match S, stk, jS, ho with
  | x :: S, v :: stk, ⟨dx, ds⟩, ho =>
    have ho : x_br 2 en x (.inl (.int 0)) (fun en => .inr (tgt, en, cl, sl, h, L, S)) (fun en => .inr ((pc + 3), en, cl, sl, h, L, S)) = some outs := ho
    obtain ⟨a, z, rfl, hz, r1, r2⟩ := x_br_den ho je dx (w := .int 0) rfl
    cases hz
    exact lv_if_eq hx hb hd ht (fun q => by
      obtain ⟨e', h1, h2⟩ := r1 (congrArg Int32.toInt q)
      exact K _ h2 _ _ _ _ _ _ ⟨h1, jc, js, jg, ⟨lv, jl, jd⟩, ds, jx, jo, jk⟩) (fun q => by
      obtain ⟨e', h1, h2⟩ := r2 (fun z => q (Int32.toInt_inj.mp z))
      exact K _ h2 _ _ _ _ _ _ ⟨h1, jc, js, jg, ⟨lv, jl, jd⟩, ds, jx, jo, jk⟩)

theorem s_icmp_ne {off : Int} (tgt : Nat) (hd : decode μ.2.1 pc = .ok (.if_icmp .ne off, 3)) (ht : (pc : Int) + off = (tgt : Int)) : xSim l P M μ pc (i_icmp 2 (pc + 3) tgt) := by
  intro p e s m args below meth c R Q C cf hcf st outs ho H locs cells slots ls stk J K
  obtain ⟨hx, hb, hml, hown, hts, hr, hlk, hnm, hR⟩ := C
  obtain ⟨en, cl, sl, h, L, S⟩ := st
  obtain ⟨je, jc, js, jg, ⟨lv, jl, jd⟩, jS, jx, jo, jk⟩ := J
  match S, stk, jS, ho with
  | y :: x :: S, w :: v :: stk, ⟨dy, dx, ds⟩, ho =>
    have ho : x_br 2 en x y (fun en => .inr ((pc + 3), en, cl, sl, h, L, S)) (fun en => .inr (tgt, en, cl, sl, h, L, S)) = some outs := ho
    obtain ⟨a, z, rfl, hz, r1, r2⟩ := x_br_den ho je dx dy
    cases hz
    exact lv_icmp_ne hx hb hd ht (fun q => by
      obtain ⟨e', h1, h2⟩ := r2 (fun z => q (Int32.toInt_inj.mp z))
      exact K _ h2 _ _ _ _ _ _ ⟨h1, jc, js, jg, ⟨lv, jl, jd⟩, ds, jx, jo, jk⟩) (fun q => by
      obtain ⟨e', h1, h2⟩ := r1 (congrArg Int32.toInt q)
      exact K _ h2 _ _ _ _ _ _ ⟨h1, jc, js, jg, ⟨lv, jl, jd⟩, ds, jx, jo, jk⟩)

theorem s_if_ne {off : Int} (tgt : Nat) (hd : decode μ.2.1 pc = .ok (.ifCond .ne off, 3)) (ht : (pc : Int) + off = (tgt : Int)) : xSim l P M μ pc (i_if 2 (pc + 3) tgt) := by
  intro p e s m args below meth c R Q C cf hcf st outs ho H locs cells slots ls stk J K
  obtain ⟨hx, hb, hml, hown, hts, hr, hlk, hnm, hR⟩ := C
  obtain ⟨en, cl, sl, h, L, S⟩ := st
  obtain ⟨je, jc, js, jg, ⟨lv, jl, jd⟩, jS, jx, jo, jk⟩ := J
  match S, stk, jS, ho with
  | x :: S, v :: stk, ⟨dx, ds⟩, ho =>
    have ho : x_br 2 en x (.inl (.int 0)) (fun en => .inr ((pc + 3), en, cl, sl, h, L, S)) (fun en => .inr (tgt, en, cl, sl, h, L, S)) = some outs := ho
    obtain ⟨a, z, rfl, hz, r1, r2⟩ := x_br_den ho je dx (w := .int 0) rfl
    cases hz
    exact lv_if_ne hx hb hd ht (fun q => by
      obtain ⟨e', h1, h2⟩ := r2 (fun z => q (Int32.toInt_inj.mp z))
      exact K _ h2 _ _ _ _ _ _ ⟨h1, jc, js, jg, ⟨lv, jl, jd⟩, ds, jx, jo, jk⟩) (fun q => by
      obtain ⟨e', h1, h2⟩ := r1 (congrArg Int32.toInt q)
      exact K _ h2 _ _ _ _ _ _ ⟨h1, jc, js, jg, ⟨lv, jl, jd⟩, ds, jx, jo, jk⟩)

theorem s_icmp_lt {off : Int} (tgt : Nat) (hd : decode μ.2.1 pc = .ok (.if_icmp .lt off, 3)) (ht : (pc : Int) + off = (tgt : Int)) : xSim l P M μ pc (i_icmp 0 tgt (pc + 3)) := by
  intro p e s m args below meth c R Q C cf hcf st outs ho H locs cells slots ls stk J K
  obtain ⟨hx, hb, hml, hown, hts, hr, hlk, hnm, hR⟩ := C
  obtain ⟨en, cl, sl, h, L, S⟩ := st
  obtain ⟨je, jc, js, jg, ⟨lv, jl, jd⟩, jS, jx, jo, jk⟩ := J
  match S, stk, jS, ho with
  | y :: x :: S, w :: v :: stk, ⟨dy, dx, ds⟩, ho =>
    have ho : x_br 0 en x y (fun en => .inr (tgt, en, cl, sl, h, L, S)) (fun en => .inr ((pc + 3), en, cl, sl, h, L, S)) = some outs := ho
    obtain ⟨a, z, rfl, hz, r1, r2⟩ := x_br_den ho je dx dy
    cases hz
    exact lv_icmp_lt hx hb hd ht (fun q => by
      obtain ⟨e', h1, h2⟩ := r1 (Int32.lt_iff_toInt_lt.mp q)
      exact K _ h2 _ _ _ _ _ _ ⟨h1, jc, js, jg, ⟨lv, jl, jd⟩, ds, jx, jo, jk⟩) (fun q => by
      obtain ⟨e', h1, h2⟩ := r2 (fun z => q (Int32.lt_iff_toInt_lt.mpr z))
      exact K _ h2 _ _ _ _ _ _ ⟨h1, jc, js, jg, ⟨lv, jl, jd⟩, ds, jx, jo, jk⟩)

theorem s_if_lt {off : Int} (tgt : Nat) (hd : decode μ.2.1 pc = .ok (.ifCond .lt off, 3)) (ht : (pc : Int) + off = (tgt : Int)) : xSim l P M μ pc (i_if 0 tgt (pc + 3)) := by
  intro p e s m args below meth c R Q C cf hcf st outs ho H locs cells slots ls stk J K
  obtain ⟨hx, hb, hml, hown, hts, hr, hlk, hnm, hR⟩ := C
  obtain ⟨en, cl, sl, h, L, S⟩ := st
  obtain ⟨je, jc, js, jg, ⟨lv, jl, jd⟩, jS, jx, jo, jk⟩ := J
  match S, stk, jS, ho with
  | x :: S, v :: stk, ⟨dx, ds⟩, ho =>
    have ho : x_br 0 en x (.inl (.int 0)) (fun en => .inr (tgt, en, cl, sl, h, L, S)) (fun en => .inr ((pc + 3), en, cl, sl, h, L, S)) = some outs := ho
    obtain ⟨a, z, rfl, hz, r1, r2⟩ := x_br_den ho je dx (w := .int 0) rfl
    cases hz
    exact lv_if_lt hx hb hd ht (fun q => by
      obtain ⟨e', h1, h2⟩ := r1 (Int32.lt_iff_toInt_lt.mp q)
      exact K _ h2 _ _ _ _ _ _ ⟨h1, jc, js, jg, ⟨lv, jl, jd⟩, ds, jx, jo, jk⟩) (fun q => by
      obtain ⟨e', h1, h2⟩ := r2 (fun z => q (Int32.lt_iff_toInt_lt.mpr z))
      exact K _ h2 _ _ _ _ _ _ ⟨h1, jc, js, jg, ⟨lv, jl, jd⟩, ds, jx, jo, jk⟩)

theorem s_icmp_ge {off : Int} (tgt : Nat) (hd : decode μ.2.1 pc = .ok (.if_icmp .ge off, 3)) (ht : (pc : Int) + off = (tgt : Int)) : xSim l P M μ pc (i_icmp 0 (pc + 3) tgt) := by
  intro p e s m args below meth c R Q C cf hcf st outs ho H locs cells slots ls stk J K
  obtain ⟨hx, hb, hml, hown, hts, hr, hlk, hnm, hR⟩ := C
  obtain ⟨en, cl, sl, h, L, S⟩ := st
  obtain ⟨je, jc, js, jg, ⟨lv, jl, jd⟩, jS, jx, jo, jk⟩ := J
  match S, stk, jS, ho with
  | y :: x :: S, w :: v :: stk, ⟨dy, dx, ds⟩, ho =>
    have ho : x_br 0 en x y (fun en => .inr ((pc + 3), en, cl, sl, h, L, S)) (fun en => .inr (tgt, en, cl, sl, h, L, S)) = some outs := ho
    obtain ⟨a, z, rfl, hz, r1, r2⟩ := x_br_den ho je dx dy
    cases hz
    exact lv_icmp_ge hx hb hd ht (fun q => by
      obtain ⟨e', h1, h2⟩ := r2 (fun z => Int.not_lt.mpr (Int32.le_iff_toInt_le.mp q) z)
      exact K _ h2 _ _ _ _ _ _ ⟨h1, jc, js, jg, ⟨lv, jl, jd⟩, ds, jx, jo, jk⟩) (fun q => by
      obtain ⟨e', h1, h2⟩ := r1 (Int.not_le.mp (fun z => q (Int32.le_iff_toInt_le.mpr z)))
      exact K _ h2 _ _ _ _ _ _ ⟨h1, jc, js, jg, ⟨lv, jl, jd⟩, ds, jx, jo, jk⟩)

theorem s_if_ge {off : Int} (tgt : Nat) (hd : decode μ.2.1 pc = .ok (.ifCond .ge off, 3)) (ht : (pc : Int) + off = (tgt : Int)) : xSim l P M μ pc (i_if 0 (pc + 3) tgt) := by
  intro p e s m args below meth c R Q C cf hcf st outs ho H locs cells slots ls stk J K
  obtain ⟨hx, hb, hml, hown, hts, hr, hlk, hnm, hR⟩ := C
  obtain ⟨en, cl, sl, h, L, S⟩ := st
  obtain ⟨je, jc, js, jg, ⟨lv, jl, jd⟩, jS, jx, jo, jk⟩ := J
  match S, stk, jS, ho with
  | x :: S, v :: stk, ⟨dx, ds⟩, ho =>
    have ho : x_br 0 en x (.inl (.int 0)) (fun en => .inr ((pc + 3), en, cl, sl, h, L, S)) (fun en => .inr (tgt, en, cl, sl, h, L, S)) = some outs := ho
    obtain ⟨a, z, rfl, hz, r1, r2⟩ := x_br_den ho je dx (w := .int 0) rfl
    cases hz
    exact lv_if_ge hx hb hd ht (fun q => by
      obtain ⟨e', h1, h2⟩ := r2 (fun z => Int.not_lt.mpr (Int32.le_iff_toInt_le.mp q) z)
      exact K _ h2 _ _ _ _ _ _ ⟨h1, jc, js, jg, ⟨lv, jl, jd⟩, ds, jx, jo, jk⟩) (fun q => by
      obtain ⟨e', h1, h2⟩ := r1 (Int.not_le.mp (fun z => q (Int32.le_iff_toInt_le.mpr z)))
      exact K _ h2 _ _ _ _ _ _ ⟨h1, jc, js, jg, ⟨lv, jl, jd⟩, ds, jx, jo, jk⟩)

theorem s_icmp_gt {off : Int} (tgt : Nat) (hd : decode μ.2.1 pc = .ok (.if_icmp .gt off, 3)) (ht : (pc : Int) + off = (tgt : Int)) : xSim l P M μ pc (i_icmp 1 tgt (pc + 3)) := by
  intro p e s m args below meth c R Q C cf hcf st outs ho H locs cells slots ls stk J K
  obtain ⟨hx, hb, hml, hown, hts, hr, hlk, hnm, hR⟩ := C
  obtain ⟨en, cl, sl, h, L, S⟩ := st
  obtain ⟨je, jc, js, jg, ⟨lv, jl, jd⟩, jS, jx, jo, jk⟩ := J
  match S, stk, jS, ho with
  | y :: x :: S, w :: v :: stk, ⟨dy, dx, ds⟩, ho =>
    have ho : x_br 1 en x y (fun en => .inr (tgt, en, cl, sl, h, L, S)) (fun en => .inr ((pc + 3), en, cl, sl, h, L, S)) = some outs := ho
    obtain ⟨a, z, rfl, hz, r1, r2⟩ := x_br_den ho je dx dy
    cases hz
    exact lv_icmp_gt hx hb hd ht (fun q => by
      obtain ⟨e', h1, h2⟩ := r1 (Int32.lt_iff_toInt_lt.mp q)
      exact K _ h2 _ _ _ _ _ _ ⟨h1, jc, js, jg, ⟨lv, jl, jd⟩, ds, jx, jo, jk⟩) (fun q => by
      obtain ⟨e', h1, h2⟩ := r2 (fun z => q (Int32.lt_iff_toInt_lt.mpr z))
      exact K _ h2 _ _ _ _ _ _ ⟨h1, jc, js, jg, ⟨lv, jl, jd⟩, ds, jx, jo, jk⟩)

theorem s_if_gt {off : Int} (tgt : Nat) (hd : decode μ.2.1 pc = .ok (.ifCond .gt off, 3)) (ht : (pc : Int) + off = (tgt : Int)) : xSim l P M μ pc (i_if 1 tgt (pc + 3)) := by
  intro p e s m args below meth c R Q C cf hcf st outs ho H locs cells slots ls stk J K
  obtain ⟨hx, hb, hml, hown, hts, hr, hlk, hnm, hR⟩ := C
  obtain ⟨en, cl, sl, h, L, S⟩ := st
  obtain ⟨je, jc, js, jg, ⟨lv, jl, jd⟩, jS, jx, jo, jk⟩ := J
  match S, stk, jS, ho with
  | x :: S, v :: stk, ⟨dx, ds⟩, ho =>
    have ho : x_br 1 en x (.inl (.int 0)) (fun en => .inr (tgt, en, cl, sl, h, L, S)) (fun en => .inr ((pc + 3), en, cl, sl, h, L, S)) = some outs := ho
    obtain ⟨a, z, rfl, hz, r1, r2⟩ := x_br_den ho je dx (w := .int 0) rfl
    cases hz
    exact lv_if_gt hx hb hd ht (fun q => by
      obtain ⟨e', h1, h2⟩ := r1 (Int32.lt_iff_toInt_lt.mp q)
      exact K _ h2 _ _ _ _ _ _ ⟨h1, jc, js, jg, ⟨lv, jl, jd⟩, ds, jx, jo, jk⟩) (fun q => by
      obtain ⟨e', h1, h2⟩ := r2 (fun z => q (Int32.lt_iff_toInt_lt.mpr z))
      exact K _ h2 _ _ _ _ _ _ ⟨h1, jc, js, jg, ⟨lv, jl, jd⟩, ds, jx, jo, jk⟩)

theorem s_icmp_le {off : Int} (tgt : Nat) (hd : decode μ.2.1 pc = .ok (.if_icmp .le off, 3)) (ht : (pc : Int) + off = (tgt : Int)) : xSim l P M μ pc (i_icmp 1 (pc + 3) tgt) := by
  intro p e s m args below meth c R Q C cf hcf st outs ho H locs cells slots ls stk J K
  obtain ⟨hx, hb, hml, hown, hts, hr, hlk, hnm, hR⟩ := C
  obtain ⟨en, cl, sl, h, L, S⟩ := st
  obtain ⟨je, jc, js, jg, ⟨lv, jl, jd⟩, jS, jx, jo, jk⟩ := J
  match S, stk, jS, ho with
  | y :: x :: S, w :: v :: stk, ⟨dy, dx, ds⟩, ho =>
    have ho : x_br 1 en x y (fun en => .inr ((pc + 3), en, cl, sl, h, L, S)) (fun en => .inr (tgt, en, cl, sl, h, L, S)) = some outs := ho
    obtain ⟨a, z, rfl, hz, r1, r2⟩ := x_br_den ho je dx dy
    cases hz
    exact lv_icmp_le hx hb hd ht (fun q => by
      obtain ⟨e', h1, h2⟩ := r2 (fun z => Int.not_lt.mpr (Int32.le_iff_toInt_le.mp q) z)
      exact K _ h2 _ _ _ _ _ _ ⟨h1, jc, js, jg, ⟨lv, jl, jd⟩, ds, jx, jo, jk⟩) (fun q => by
      obtain ⟨e', h1, h2⟩ := r1 (Int.not_le.mp (fun z => q (Int32.le_iff_toInt_le.mpr z)))
      exact K _ h2 _ _ _ _ _ _ ⟨h1, jc, js, jg, ⟨lv, jl, jd⟩, ds, jx, jo, jk⟩)

theorem s_if_le {off : Int} (tgt : Nat) (hd : decode μ.2.1 pc = .ok (.ifCond .le off, 3)) (ht : (pc : Int) + off = (tgt : Int)) : xSim l P M μ pc (i_if 1 (pc + 3) tgt) := by
  intro p e s m args below meth c R Q C cf hcf st outs ho H locs cells slots ls stk J K
  obtain ⟨hx, hb, hml, hown, hts, hr, hlk, hnm, hR⟩ := C
  obtain ⟨en, cl, sl, h, L, S⟩ := st
  obtain ⟨je, jc, js, jg, ⟨lv, jl, jd⟩, jS, jx, jo, jk⟩ := J
  match S, stk, jS, ho with
  | x :: S, v :: stk, ⟨dx, ds⟩, ho =>
    have ho : x_br 1 en x (.inl (.int 0)) (fun en => .inr ((pc + 3), en, cl, sl, h, L, S)) (fun en => .inr (tgt, en, cl, sl, h, L, S)) = some outs := ho
    obtain ⟨a, z, rfl, hz, r1, r2⟩ := x_br_den ho je dx (w := .int 0) rfl
    cases hz
    exact lv_if_le hx hb hd ht (fun q => by
      obtain ⟨e', h1, h2⟩ := r2 (fun z => Int.not_lt.mpr (Int32.le_iff_toInt_le.mp q) z)
      exact K _ h2 _ _ _ _ _ _ ⟨h1, jc, js, jg, ⟨lv, jl, jd⟩, ds, jx, jo, jk⟩) (fun q => by
      obtain ⟨e', h1, h2⟩ := r1 (Int.not_le.mp (fun z => q (Int32.le_iff_toInt_le.mpr z)))
      exact K _ h2 _ _ _ _ _ _ ⟨h1, jc, js, jg, ⟨lv, jl, jd⟩, ds, jx, jo, jk⟩)

theorem s_lcmp (hd : decode μ.2.1 pc = .ok (.lcmp, 1)) : xSim l P M μ pc (i_lcmp (pc + 1)) := by
  intro p e s m args below meth c R Q C cf hcf st outs ho H locs cells slots ls stk J K
  obtain ⟨hx, hb, hml, hown, hts, hr, hlk, hnm, hR⟩ := C
  obtain ⟨en, cl, sl, h, L, S⟩ := st
  obtain ⟨je, jc, js, jg, ⟨lv, jl, jd⟩, jS, jx, jo, jk⟩ := J
  match S, stk, jS, ho with
  | y :: x :: S, w :: v :: stk, ⟨dy, dx, ds⟩, ho =>
    match x, y, dx, dy, ho with
    | .inl (.long a), .inl (.long z), dx, dy, ho =>
      cases dx
      cases dy
      have ho : x_k32 (lg_cmp a z) (fun r => some [Sum.inr (pc + 1, en, cl, sl, h, L, (Sum.inl (Value.int r) : xV) :: S)]) = some outs := ho
      rw [x_k32_eq] at ho
      have ho := Option.some.inj ho
      subst ho
      exact W.lcmp hx hb hd (K _ (x_mem1 _) _ _ _ _ _ _ ⟨je, jc, js, jg, ⟨lv, jl, jd⟩, ⟨rfl, ds⟩, jx, jo, jk⟩)
    | .inr (1, k), .inl (.long z), dx, dy, ho =>
      have dx : v = .long (P.1 k).toInt64 := dx
      subst dx
      cases dy
      have ho : x_lcmp en k z.toInt (fun r en => .inr (pc + 1, en, cl, sl, h, L, .inl (.int r) :: S)) = some outs := ho
      obtain ⟨h1, h2, h3⟩ := x_lcmp_den ho je
      have hi : (P.1 k).toInt64.toInt = (P.1 k).toInt := Int32.toInt_toInt64 _
      refine W.lcmp hx hb hd ?_
      rcases Int.lt_trichotomy (P.1 k).toInt z.toInt with q | q | q
      · obtain ⟨e', g1, g2⟩ := h1 q
        have hv : lg_cmp (P.1 k).toInt64 z = -1 := by
          unfold lg_cmp
          rw [if_neg (by rw [gt_iff_lt, Int64.lt_iff_toInt_lt, hi]; omega), if_neg (by rw [← Int64.toInt_inj, hi]; omega)]
        rw [hv]
        exact K _ g2 _ _ _ _ _ _ ⟨g1, jc, js, jg, ⟨lv, jl, jd⟩, ⟨rfl, ds⟩, jx, jo, jk⟩
      · obtain ⟨e', g1, g2⟩ := h3 q
        have hv : lg_cmp (P.1 k).toInt64 z = 0 := by
          unfold lg_cmp
          rw [if_neg (by rw [gt_iff_lt, Int64.lt_iff_toInt_lt, hi]; omega), if_pos (by rw [← Int64.toInt_inj, hi]; omega)]
        rw [hv]
        exact K _ g2 _ _ _ _ _ _ ⟨g1, jc, js, jg, ⟨lv, jl, jd⟩, ⟨rfl, ds⟩, jx, jo, jk⟩
      · obtain ⟨e', g1, g2⟩ := h2 q
        have hv : lg_cmp (P.1 k).toInt64 z = 1 := by
          unfold lg_cmp
          rw [if_pos (by rw [gt_iff_lt, Int64.lt_iff_toInt_lt, hi]; omega)]
        rw [hv]
        exact K _ g2 _ _ _ _ _ _ ⟨g1, jc, js, jg, ⟨lv, jl, jd⟩, ⟨rfl, ds⟩, jx, jo, jk⟩
/-- a switch, by what it does with a number -/
theorem x_switch (d : Nat) (cs : List (Int × Nat)) (l0 : Int) (hs : x_srt l0 cs = true) (row : ∀ (p : Program) (e : Env) (s : State) (m : MethodId) (args : Array Value) (below : List Frame) (meth : Method) (c : Code) (R : Room) (Q : State → Prop) (H : Heap) (locs : List Loc) (cells slots : Nat) (ls : Array Slot) (rest : List Value) (z : Int32), p.tables.exec = Jvm.exec → c.code = μ.2.1 → W p l e R s m args below meth c H locs cells slots Q (F0 m (x_find d z.toInt cs) ls rest) → W p l e R s m args below meth c H locs cells slots Q (F0 m pc ls (.int z :: rest))) : xSim l P M μ pc (i_sw d cs) := by
  intro p e s m args below meth c R Q C cf hcf st outs ho H locs cells slots ls stk J K
  obtain ⟨hx, hb, hml, hown, hts, hr, hlk, hnm, hR⟩ := C
  obtain ⟨en, cl, sl, h, L, S⟩ := st
  obtain ⟨je, jc, js, jg, ⟨lv, jl, jd⟩, jS, jx, jo, jk⟩ := J
  match S, stk, jS, ho with
  | x :: S, v :: stk, ⟨dx, ds⟩, ho =>
    match x, dx, ho with
    | .inl (.int a), dx, ho =>
      cases dx
      have ho : x_kN (x_find d a.toInt cs) (fun t => some [Sum.inr (t, en, cl, sl, h, L, S)]) = some outs := ho
      rw [x_kN_eq] at ho
      have ho := Option.some.inj ho
      subst ho
      exact row _ _ _ _ _ _ _ _ _ _ _ _ _ _ _ _ _ hx hb (K _ (x_mem1 _) _ _ _ _ _ _ ⟨je, jc, js, jg, ⟨lv, jl, jd⟩, ds, jx, jo, jk⟩)
    | .inr (0, k), dx, ho =>
      have dx : v = .int (P.1 k) := dx
      subst dx
      have ho : x_sw en k d (fun t en => .inr (t, en, cl, sl, h, L, S)) (x_env en k).1 cs = some outs := ho
      obtain ⟨e', g1, g2⟩ := x_sw_den je ho (x_env_den je k).1 hs
      exact row _ _ _ _ _ _ _ _ _ _ _ _ _ _ _ _ _ hx hb (K _ g2 _ _ _ _ _ _ ⟨g1, jc, js, jg, ⟨lv, jl, jd⟩, ds, jx, jo, jk⟩)
theorem c_iload {i NX : Nat} (row : ∀ (p : Program) (e : Env) (s : State) (m : MethodId) (args : Array Value) (below : List Frame) (meth : Method) (c : Code) (R : Room) (Q : State → Prop) (H : Heap) (locs : List Loc) (cells slots : Nat) (ls : Array Slot) (rest : List Value) (z : Int32) (nx : Nat), p.tables.exec = Jvm.exec → c.code = μ.2.1 → ls[i]? = some (.val (.int z)) → nx = NX → W p l e R s m args below meth c H locs cells slots Q (F0 m nx ls (.int z :: rest)) → W p l e R s m args below meth c H locs cells slots Q (F0 m pc ls rest)) : xSim l P M μ pc (i_loadc i NX) := by
  intro p e s m args below meth c R Q C cf hcf st outs ho H locs cells slots ls stk J K
  obtain ⟨hx, hb, hml, hown, hts, hr, hlk, hnm, hR⟩ := C
  obtain ⟨en, cl, sl, h, L, S⟩ := st
  obtain ⟨je, jc, js, jg, ⟨lv, jl, jd⟩, jS, jx, jo, jk⟩ := J
  have go : i_load x_isI i NX cf (en, cl, sl, h, L, S) = some outs → W p l e R s m args below meth c H locs cells slots Q (F0 m pc ls stk) := fun ho => by
    obtain ⟨a, v, hm, dv, hok, rfl⟩ := x_load ho je jd
    obtain ⟨x, rfl⟩ := x_isI_den hok dv
    exact row _ _ _ _ _ _ _ _ _ _ _ _ _ _ _ _ _ _ hx hb (jl.2.2 _ hm) rfl (K _ (x_mem1 _) _ _ _ _ _ _ ⟨je, jc, js, jg, ⟨lv, jl, jd⟩, ⟨dv, jS⟩, jx, jo, jk⟩)
  have ho : (match x_get L i with
    | some (.inr (0, k)) => cond (decide ((x_env en k).2 - (x_env en k).1 < 64)) (x_kN ((x_env en k).2 - (x_env en k).1 + 1).toNat (fun n => x_conc en k (fun v e => .inr (NX, e, cl, sl, h, L, .inl (.int v) :: S)) (x_env en k).1 n)) (i_load x_isI i NX cf (en, cl, sl, h, L, S))
    | _ => i_load x_isI i NX cf (en, cl, sl, h, L, S)) = some outs := ho
  match hg : x_get L i, ho with
  | none, ho => exact go ho
  | some (.inl w), ho => exact go ho
  | some (.inr (1, k)), ho => exact go ho
  | some (.inr (n + 2, k)), ho => exact go ho
  | some (.inr (0, k)), ho =>
    by_cases hs : (x_env en k).2 - (x_env en k).1 < 64
    · have ho : cond (decide ((x_env en k).2 - (x_env en k).1 < 64)) (x_kN ((x_env en k).2 - (x_env en k).1 + 1).toNat (fun n => x_conc en k (fun v e => .inr (NX, e, cl, sl, h, L, .inl (.int v) :: S)) (x_env en k).1 n)) (i_load x_isI i NX cf (en, cl, sl, h, L, S)) = some outs := ho
      rw [decide_eq_true hs] at ho
      have ho : x_kN ((x_env en k).2 - (x_env en k).1 + 1).toNat (fun n => x_conc en k (fun v e => .inr (NX, e, cl, sl, h, L, .inl (.int v) :: S)) (x_env en k).1 n) = some outs := ho
      rw [x_kN_eq] at ho
      have hb1 : (x_env en k).1 ≤ (P.1 k).toInt ∧ (P.1 k).toInt ≤ (x_env en k).2 := x_env_den je k
      obtain ⟨e', g1, g2⟩ := x_conc_den je ho hb1.1 (by show _ < _ + ((((x_env en k).2 - (x_env en k).1 + 1).toNat : Nat) : Int); omega)
      obtain ⟨v, dv, hm⟩ := x_get_den jd hg
      have dv : v = .int (P.1 k) := dv
      subst dv
      exact row _ _ _ _ _ _ _ _ _ _ _ _ _ _ _ _ _ _ hx hb (jl.2.2 _ hm) rfl (K _ g2 _ _ _ _ _ _ ⟨g1, jc, js, jg, ⟨lv, jl, jd⟩, ⟨rfl, jS⟩, jx, jo, jk⟩)
    · have ho : cond (decide ((x_env en k).2 - (x_env en k).1 < 64)) (x_kN ((x_env en k).2 - (x_env en k).1 + 1).toNat (fun n => x_conc en k (fun v e => .inr (NX, e, cl, sl, h, L, .inl (.int v) :: S)) (x_env en k).1 n)) (i_load x_isI i NX cf (en, cl, sl, h, L, S)) = some outs := ho
      rw [decide_eq_false hs] at ho
      exact go ho
theorem s_iloadc_n {k : Fin 4} {i : Nat} (hd : decode μ.2.1 pc = .ok (.iload_n k, 1)) (hi : (k : Nat) = i) : xSim l P M μ pc (i_loadc i (pc + 1)) := c_iload (fun _ _ _ _ _ _ _ _ _ _ _ _ _ _ _ _ _ _ hx hb hl hn kk => lv_iload_n hx hb hd hi hl (hn ▸ kk))
theorem s_iloadc {i : Nat} (hd : decode μ.2.1 pc = .ok (.iload i, 2)) : xSim l P M μ pc (i_loadc i (pc + 2)) := c_iload (fun _ _ _ _ _ _ _ _ _ _ _ _ _ _ _ _ _ _ hx hb hl hn kk => lv_iload hx hb hd hl (hn ▸ kk))
theorem s_tsw {dflt lo hi : Int} {offs : Array Int} {len : Nat} (d : Nat) (cs : List (Int × Nat)) (hd : decode μ.2.1 pc = .ok (.tableswitch dflt lo hi offs, len)) (hs : x_srt lo cs = true) (h0 : (pc : Int) + dflt = (d : Int)) (hcs : cs = offs.toList.zipIdx.map (fun q => (lo + (q.2 : Int), ((pc : Int) + q.1).toNat))) (hpos : ∀ o ∈ offs.toList, 0 ≤ (pc : Int) + o) (hn : (offs.size : Int) = hi - lo + 1) : xSim l P M μ pc (i_sw d cs) := by
  refine x_switch d cs lo hs ?_
  intro p e s m args below meth c R Q H locs cells slots ls rest z hx hb kk
  have find : ∀ (os : List Int) (i : Nat) (w : Int), (∀ o ∈ os, 0 ≤ (pc : Int) + o) → (w < lo + (i : Int) ∨ lo + (i : Int) + os.length ≤ w → x_find d w ((os.zipIdx i).map (fun q => (lo + (q.2 : Int), ((pc : Int) + q.1).toNat))) = d) ∧ ∀ (j : Nat) (o : Int), os[j]? = some o → w = lo + (i : Int) + (j : Int) → ((x_find d w ((os.zipIdx i).map (fun q => (lo + (q.2 : Int), ((pc : Int) + q.1).toNat))) : Nat) : Int) = (pc : Int) + o := by
    intro os
    induction os with
    | nil => exact fun i w _ => ⟨fun _ => rfl, fun j o h => by simp at h⟩
    | cons o os ih =>
      intro i w hp
      obtain ⟨ih1, ih2⟩ := ih (i + 1) w (fun o ho => hp o (List.mem_cons_of_mem _ ho))
      rw [List.zipIdx_cons, List.map_cons]
      refine ⟨fun h => ?_, fun j o' hj hw => ?_⟩
      · show cond (decide (w = lo + (i : Int))) _ (x_find d w _) = d
        rw [decide_eq_false (by rw [List.length_cons] at h; omega)]
        exact ih1 (by rw [List.length_cons] at h; omega)
      · show ((cond (decide (w = lo + (i : Int))) _ (x_find d w _) : Nat) : Int) = _
        cases j with
        | zero =>
          cases hj
          rw [decide_eq_true (by omega)]
          have := hp o List.mem_cons_self
          show (((pc : Int) + o).toNat : Int) = _
          omega
        | succ j =>
          rw [decide_eq_false (by omega)]
          exact ih2 j o' (by simpa using hj) (by omega)
  obtain ⟨f1, f2⟩ := find offs.toList 0 z.toInt hpos
  rw [show offs.toList.zipIdx 0 = offs.toList.zipIdx from rfl, ← hcs] at f1 f2
  have hlen : (offs.toList.length : Int) = hi - lo + 1 := by rw [Array.length_toList]; exact hn
  by_cases h : z.toInt < lo ∨ hi < z.toInt
  · refine lv_tableOut (tgt := x_find d z.toInt cs) hx hb hd h ?_ kk
    rw [f1 (by omega)]
    exact h0
  · have hj : (z.toInt - lo).toNat < offs.size := by omega
    have hget : offs[(z.toInt - lo).toNat]? = some offs[(z.toInt - lo).toNat] := Array.getElem?_eq_getElem hj
    refine lv_tableIn (tgt := x_find d z.toInt cs) hx hb hd (fun q => h (Or.inl q)) (fun q => h (Or.inr q)) hget ?_ kk
    exact (f2 (z.toInt - lo).toNat _ (by rw [Array.getElem?_toList]; exact hget) (by omega)).symm
theorem s_lsw {dflt : Int} {ps : Array (Int × Int)} {len : Nat} (d : Nat) (cs : List (Int × Nat)) (l0 : Int) (hd : decode μ.2.1 pc = .ok (.lookupswitch dflt ps, len)) (hs : x_srt l0 cs = true) (hp : (ps.toList.zip (ps.toList.drop 1)).all (fun (a, next) => a.1 < next.1) = true) (h0 : (pc : Int) + dflt = (d : Int)) (hcs : cs = ps.toList.map (fun q => (q.1, ((pc : Int) + q.2).toNat))) (hpos : ∀ q ∈ ps.toList, 0 ≤ (pc : Int) + q.2) : xSim l P M μ pc (i_sw d cs) := by
  refine x_switch d cs l0 hs ?_
  intro p e s m args below meth c R Q H locs cells slots ls rest z hx hb kk
  have find : ∀ (ps : List (Int × Int)) (w : Int), (∀ q ∈ ps, 0 ≤ (pc : Int) + q.2) → (pc : Int) + Op.lookupswitch.offset ps dflt w = ((x_find d w (ps.map (fun q => (q.1, ((pc : Int) + q.2).toNat))) : Nat) : Int) := by
    intro ps
    induction ps with
    | nil => intro w _; rw [Op.lookupswitch.offset_nil]; exact h0
    | cons q ps ih =>
      intro w hp
      have h1 := ih w (fun q hq => hp q (List.mem_cons_of_mem _ hq))
      obtain ⟨a, o⟩ := q
      rw [Op.lookupswitch.offset_cons]
      show _ = ((cond (decide (w = a)) ((pc : Int) + o).toNat (x_find d w _) : Nat) : Int)
      have h2 := hp (a, o) List.mem_cons_self
      by_cases hw : w = a
      · rw [if_pos hw.symm, decide_eq_true hw]
        show _ = (((pc : Int) + o).toNat : Int)
        simp only at h2
        omega
      · rw [if_neg (fun q => hw q.symm), decide_eq_false hw]
        exact h1
  exact lv_lookup (tgt := x_find d z.toInt cs) hx hb hd hp rfl (by rw [hcs]; exact find ps.toList z.toInt hpos) kk
end STEPS2
