section
/-! THE STEPS, second part -/
section INV2
variable {P : xP} {en : xE} {cl sl nx : Nat} {h : xH} {L : xL} {S : List xV} {outs : List xO} {cf : xF} {stk : List Value}
theorem x_condS {b : Bool} {α : Type} {x : Option α} {r : α} (h : cond b x none = some r) : b = true ∧ x = some r := by
  cases b with
  | false => cases h
  | true => exact ⟨rfl, h⟩
end INV2
theorem x_fitR {ty : FieldType} {a b : Nat} (h : fits ty (.ref a) = true) : fits ty (.ref b) = true ∧ narrow ty (.ref b) = .ref b := by cases ty <;> first | exact ⟨h, rfl⟩ | cases h
theorem x_fit_den {P : xP} {ty : FieldType} {a : xV} {v : Value} (h : x_fit ty a = true) (d : xden P a v) : fits ty v = true ∧ narrow ty v = v := by
  have lit : ∀ w : Value, (fits ty w && decide (narrow ty w = w)) = true → fits ty w = true ∧ narrow ty w = w := fun w h => by
    rw [Bool.and_eq_true] at h
    exact ⟨h.1, of_decide_eq_true h.2⟩
  match a, h, d with
  | .inl (.ref k), h, d => cases d; exact x_fitR h
  | .inl (.int i), h, d => cases d; exact lit _ h
  | .inl (.long i), h, d => cases d; exact lit _ h
  | .inl (.float i), h, d => cases d; exact lit _ h
  | .inl (.double i), h, d => cases d; exact lit _ h
  | .inl .null, h, d => cases d; exact lit _ h
  | .inl (.retAddr i), h, d => cases d; exact lit _ h
  | .inr (0, k), h, d => cases d; have := of_decide_eq_true h; subst this; exact ⟨rfl, rfl⟩
  | .inr (1, k), h, d => cases d; have := of_decide_eq_true h; subst this; exact ⟨rfl, rfl⟩
  | .inr (2, k), h, ⟨_, d⟩ => cases d; have := of_decide_eq_true h; subst this; exact ⟨rfl, rfl⟩
  | .inr (3, k), h, ⟨_, d⟩ => cases d; have := of_decide_eq_true h; subst this; exact ⟨rfl, rfl⟩
section STEPS2
variable {l : Launch} {P : xP} {M : List (xY × xT)} {μ : xM} {pc : Nat}

theorem s_dup (hd : decode μ.2.1 pc = .ok (.dup, 1)) : xSim l P M μ pc (i_dup (pc + 1)) := by
  intro p e s m args below meth c R Q C cf hcf st outs ho H locs cells slots ls stk J K
  obtain ⟨hx, hb, hml, hown, hts, hr, hlk, hnm, hR⟩ := C
  obtain ⟨en, cl, sl, h, L, S⟩ := st
  obtain ⟨je, jc, js, jg, ⟨lv, jl, jd⟩, jS, jx, jo, jk⟩ := J
  match S, stk, jS, ho with
  | x :: S, v :: stk, ⟨dx, ds⟩, ho =>
    obtain ⟨hc, ho⟩ := x_condS (α := List xO) (b := Nat.beq (x_cat x) 1) (x := some [Sum.inr (pc + 1, en, cl, sl, h, L, x :: x :: S)]) ho
    have ho := Option.some.inj ho
    subst ho
    exact lv_dup hx hb hd ((x_cat_den dx).trans (Nat.eq_of_beq_eq_true hc)) (K _ (x_mem1 _) _ _ _ _ _ _ ⟨je, jc, js, jg, ⟨lv, jl, jd⟩, ⟨dx, dx, ds⟩, jx, jo, jk⟩)

theorem s_goto {off : Int} (tgt : Nat) (hd : decode μ.2.1 pc = .ok (.goto off, 3)) (ht : (pc : Int) + off = (tgt : Int)) : xSim l P M μ pc (i_jump tgt) := by
  intro p e s m args below meth c R Q C cf hcf st outs ho H locs cells slots ls stk J K
  obtain ⟨hx, hb, hml, hown, hts, hr, hlk, hnm, hR⟩ := C
  obtain ⟨en, cl, sl, h, L, S⟩ := st
  obtain ⟨je, jc, js, jg, ⟨lv, jl, jd⟩, jS, jx, jo, jk⟩ := J
  have ho := Option.some.inj ho
  subst ho
  exact lv_goto hx hb hd ht (K _ (x_mem1 _) _ _ _ _ _ _ ⟨je, jc, js, jg, ⟨lv, jl, jd⟩, jS, jx, jo, jk⟩)

theorem s_icmp_ge {off : Int} (tgt : Nat) (hd : decode μ.2.1 pc = .ok (.if_icmp .ge off, 3)) (ht : (pc : Int) + off = (tgt : Int)) : xSim l P M μ pc (i_icmp 0 (pc + 3) tgt) := by
  intro p e s m args below meth c R Q C cf hcf st outs ho H locs cells slots ls stk J K
  obtain ⟨hx, hb, hml, hown, hts, hr, hlk, hnm, hR⟩ := C
  obtain ⟨en, cl, sl, h, L, S⟩ := st
  obtain ⟨je, jc, js, jg, ⟨lv, jl, jd⟩, jS, jx, jo, jk⟩ := J
  match S, stk, jS, ho with
  | y :: x :: S, w :: v :: stk, ⟨dy, dx, ds⟩, ho =>
    have ho : x_br 0 en x y (fun en => .inr ((pc + 3), en, cl, sl, h, L, S)) (fun en => .inr (tgt, en, cl, sl, h, L, S)) = some outs := ho
    obtain ⟨a, z, rfl, hz, r1, r2⟩ := x_br_den ho je dx dy
    cases hz
    exact lv_icmp_ge hx hb hd ht (fun q => by
      obtain ⟨e', h1, h2⟩ := r2 (fun z => Int.not_lt.mpr (Int32.le_iff_toInt_le.mp q) z)
      exact K _ h2 _ _ _ _ _ _ ⟨h1, jc, js, jg, ⟨lv, jl, jd⟩, ds, jx, jo, jk⟩) (fun q => by
      obtain ⟨e', h1, h2⟩ := r1 (Int.not_le.mp (fun z => q (Int32.le_iff_toInt_le.mpr z)))
      exact K _ h2 _ _ _ _ _ _ ⟨h1, jc, js, jg, ⟨lv, jl, jd⟩, ds, jx, jo, jk⟩)

end STEPS2
end
section
/-! THE STEPS, third part: fields, arrays, what is made -/
theorem x_nth_lt {α : Type} {l : List α} {k : Nat} {a : α} (h : x_nth l k = some a) : l[k]? = some a ∧ k < l.length := by
  rw [x_nth_eq] at h
  exact ⟨h, (List.getElem?_eq_some_iff.mp h).1⟩
theorem va_P1 {D : va_G} {q : Nat × va_E} {H : Heap} (h : va_at D vwCl q H) : va_P D vwCl [q] H := by
  intro k x hk
  cases k with
  | zero => cases hk; exact h
  | succ k => simp at hk
theorem xlocs_put {B : Nat} {locs : List Loc} {a i : Nat} (h : ∀ q ∈ locs, B ≤ q.base) (ha : B ≤ a) : ∀ q ∈ locs ++ [(⟨a, i⟩ : Loc)], B ≤ q.base := by
  intro q hq
  rcases List.mem_append.mp hq with h1 | h1
  · exact h q h1
  · rw [List.mem_singleton.mp h1]; exact ha
section STEPS3
variable {l : Launch} {P : xP} {M : List (xY × xT)} {μ : xM} {pc : Nat}
theorem s_getf {C : String} {T : u_T} {N index : Nat} (ci k : Nat) (hd : decode μ.2.1 pc = .ok (.getfield index, 3)) (hc : vwCl[ci]? = some (C, T, N)) (hk : k < N) (hin : ∀ w ∈ u_ws C T N, w ∈ xTB) (hw : Cond.fieldLink μ.1 index (T k).1 (T k).2.1 (T k).2.2.1 ∈ xTB) : xSim l P M μ pc (i_getf ci k (pc + 3)) := by
  intro p e s m args below meth c R Q C cf hcf st outs ho H locs cells slots ls stk J K
  obtain ⟨hx, hb, hml, hown, hts, hr, hlk, hnm, hR⟩ := C
  obtain ⟨en, cl, sl, h, L, S⟩ := st
  obtain ⟨je, jc, js, jg, ⟨lv, jl, jd⟩, jS, jx, jo, jk⟩ := J
  match S, stk, jS, ho with
  | x :: S, v :: stk, ⟨dx, ds⟩, ho =>
    match x, dx, ho with
    | .inl (.ref r), dx, ho =>
      have dx : v = .ref (P.2.1 + r) := dx
      subst dx
      have ho : (match x_nth h r with
        | some (.inr (cj, fs)) => cond (Nat.beq ci cj) (match x_nth fs k with
          | some v => x_frc (x_nm en v) (fun v => some [Sum.inr (pc + 3, en, cl, sl, h, L, v :: S)])
          | none => none) none
        | _ => none) = some outs := ho
      match hn : x_nth h r, ho with
      | some (.inr (cj, fs)), ho =>
        obtain ⟨hcj, hz⟩ := x_condS ho
        clear ho
        have ho := hz
        clear hz
        have hcj := Nat.eq_of_beq_eq_true hcj
        subst hcj
        match hf : x_nth fs k, ho with
        | some a, ho =>
          have ho : x_frc (x_nm en a) (fun v => some [Sum.inr (pc + 3, en, cl, sl, h, L, v :: S)]) = some outs := ho
          rw [x_frc_eq] at ho
          have ho := Option.some.inj ho
          subst ho
          obtain ⟨vs, dvs, hat⟩ := jg.2 _ _ (x_nth_lt hn).1
          obtain ⟨v, hv, da⟩ := x_nth_dens dvs hf
          exact va_get hx hb hts hin hown jk (va_P1 hat) 0 rfl hc k hk (hts _ hw) (fun _ h9 => h9) hv hd (K _ (x_mem1 _) _ _ _ _ _ _ ⟨je, jc, js, jg, ⟨lv, jl, jd⟩, ⟨x_nm_den je da, ds⟩, jx, jo, jk⟩)

theorem s_putf {C : String} {T : u_T} {N index : Nat} (ci k : Nat) (ty0 : Nat → FieldType) (ty : FieldType) (hd : decode μ.2.1 pc = .ok (.putfield index, 3)) (hc : vwCl[ci]? = some (C, T, N)) (hk : k < N) (hin : ∀ w ∈ u_ws C T N, w ∈ xTB) (hw : Cond.fieldLink μ.1 index (T k).1 (T k).2.1 (T k).2.2.1 ∈ xTB) (hty0 : ∀ k, k < N → parseFieldDescriptor (T k).2.2.1 = some (ty0 k)) (hnames : ∀ a, a < N → ∀ b, b < N → a ≠ b → (T a).2.1 ≠ (T b).2.1) (ht : ty0 k = ty) (hfin : (T k).2.2.2 = false) : xSim l P M μ pc (i_putf ci k ty (pc + 3)) := by
  intro p e s m args below meth c R Q C cf hcf st outs ho H locs cells slots ls stk J K
  obtain ⟨hx, hb, hml, hown, hts, hr, hlk, hnm, hR⟩ := C
  obtain ⟨en, cl, sl, h, L, S⟩ := st
  obtain ⟨je, jc, js, jg, ⟨lv, jl, jd⟩, jS, jx, jo, jk⟩ := J
  match S, stk, jS, ho with
  | a :: x :: S, w :: v :: stk, ⟨da, dx, ds⟩, ho =>
    match x, dx, ho with
    | .inl (.ref r), dx, ho =>
      have dx : v = .ref (P.2.1 + r) := dx
      subst dx
      obtain ⟨hft, hz⟩ := x_condS (α := List xO) (b := x_fit ty a) (x := (match x_nth h r with
        | some (.inr (cj, fs)) => cond (Nat.beq ci cj) (x_set fs k a (fun fs => x_set h r (.inr (ci, fs)) (fun h => some [Sum.inr (pc + 3, en, cl, sl, h, L, S)]))) none
        | _ => none)) ho
      clear ho
      have ho := hz
      clear hz
      match hn : x_nth h r, ho with
      | some (.inr (cj, fs)), ho =>
        obtain ⟨hcj, hz⟩ := x_condS (α := List xO) (b := Nat.beq ci cj) (x := x_set fs k a (fun fs => x_set h r (.inr (ci, fs)) (fun h => some [Sum.inr (pc + 3, en, cl, sl, h, L, S)]))) ho
        clear ho
        have ho := hz
        clear hz
        have hcj := Nat.eq_of_beq_eq_true hcj
        subst hcj
        obtain ⟨hkl, ho⟩ := x_set_eq _ _ _ _ ho
        obtain ⟨hrl, ho⟩ := x_set_eq _ _ _ _ ho
        have ho := Option.some.inj ho
        subst ho
        obtain ⟨vs, dvs, r', h1, cell, q1, q2, q3, q4⟩ := jg.2 _ _ (x_nth_lt hn).1
        have hr' : r' = (C, T, N) := Option.some.inj (h1.symm.trans hc)
        subst hr'
        obtain ⟨hfit, hnr⟩ := x_fit_den hft da
        have hty : parseFieldDescriptor (T k).2.2.1 = some ty := by rw [hty0 k hk, ht]
        have hap := va_apart (own := μ.1) hts hin ty0 hty0 hnames jk hc
        obtain ⟨hS, hfc, kC, hkC, hkind⟩ := jk.1 ci _ hc
        obtain ⟨cf', kf, fi, f, hi, hsl⟩ := hS k hk
        have hlv : k < vs.length := by rw [← x_dens_len dvs]; exact hkl
        have hlay := hts _ (hin _ (u_in_lay hk))
        unfold u_lay at hlay
        rw [if_neg (by rw [hfin]; decide)] at hlay
        have hst := (u_facts hfc hkC (u_lays hts hin hk) hi).1
        have h6 := u_store hfc hkC hkind hlay hi hty hnr hfit
        refine W.putK hx hb (f := f) ⟨hown, hts _ hw, ⟨_, _, _, hi⟩, hst⟩ (by rw [q2]; exact h6) q1 q3 (by rw [hsl]; exact k2_hasslot (q4 k hk)) rfl rfl hd fun H' e1 e2 e3 => ?_
        rw [hsl] at e1 ⊢
        refine K _ (x_mem1 _) _ _ _ _ _ _ ⟨je, jc, js, jg.set hrl ⟨vs.set k w, x_dens_set da dvs, ⟨_, hc, t_OB.to (V := updV (vp_V vs) k w) ⟨_, e1, q2, q3, t_set q4 hap hk w⟩ (fun j _ => vp_updV_set hlv w j)⟩⟩ e2 e3, ⟨lv, jl, jd⟩, ds, jx.kept (fun q hq => e3 q (Nat.ne_of_lt (Nat.lt_of_lt_of_le hq (Nat.le_add_right _ _)))), xlocs_put jo (Nat.le_add_right _ _), jk⟩

theorem s_putfin {C : String} {T : u_T} {N index : Nat} (ci k : Nat) (ty0 : Nat → FieldType) (ty : FieldType) (hd : decode μ.2.1 pc = .ok (.putfield index, 3)) (hc : vwCl[ci]? = some (C, T, N)) (hk : k < N) (hin : ∀ w ∈ u_ws C T N, w ∈ xTB) (hw : Cond.fieldLink μ.1 index (T k).1 (T k).2.1 (T k).2.2.1 ∈ xTB) (hty0 : ∀ k, k < N → parseFieldDescriptor (T k).2.2.1 = some (ty0 k)) (hnames : ∀ a, a < N → ∀ b, b < N → a ≠ b → (T a).2.1 ≠ (T b).2.1) (ht : ty0 k = ty) (hfin : (T k).2.2.2 = true) (hin2 : μ.2.2.2.2.1 = "<init>") (hdecl : (T k).1 = μ.1) : xSim l P M μ pc (i_putf ci k ty (pc + 3)) := by
  intro p e s m args below meth c R Q C cf hcf st outs ho H locs cells slots ls stk J K
  obtain ⟨hx, hb, hml, hown, hts, hr, hlk, hnm, hR⟩ := C
  obtain ⟨en, cl, sl, h, L, S⟩ := st
  obtain ⟨je, jc, js, jg, ⟨lv, jl, jd⟩, jS, jx, jo, jk⟩ := J
  match S, stk, jS, ho with
  | a :: x :: S, w :: v :: stk, ⟨da, dx, ds⟩, ho =>
    match x, dx, ho with
    | .inl (.ref r), dx, ho =>
      have dx : v = .ref (P.2.1 + r) := dx
      subst dx
      obtain ⟨hft, hz⟩ := x_condS (α := List xO) (b := x_fit ty a) (x := (match x_nth h r with
        | some (.inr (cj, fs)) => cond (Nat.beq ci cj) (x_set fs k a (fun fs => x_set h r (.inr (ci, fs)) (fun h => some [Sum.inr (pc + 3, en, cl, sl, h, L, S)]))) none
        | _ => none)) ho
      clear ho
      have ho := hz
      clear hz
      match hn : x_nth h r, ho with
      | some (.inr (cj, fs)), ho =>
        obtain ⟨hcj, hz⟩ := x_condS (α := List xO) (b := Nat.beq ci cj) (x := x_set fs k a (fun fs => x_set h r (.inr (ci, fs)) (fun h => some [Sum.inr (pc + 3, en, cl, sl, h, L, S)]))) ho
        clear ho
        have ho := hz
        clear hz
        have hcj := Nat.eq_of_beq_eq_true hcj
        subst hcj
        obtain ⟨hkl, ho⟩ := x_set_eq _ _ _ _ ho
        obtain ⟨hrl, ho⟩ := x_set_eq _ _ _ _ ho
        have ho := Option.some.inj ho
        subst ho
        obtain ⟨vs, dvs, r', h1, cell, q1, q2, q3, q4⟩ := jg.2 _ _ (x_nth_lt hn).1
        have hr' : r' = (C, T, N) := Option.some.inj (h1.symm.trans hc)
        subst hr'
        obtain ⟨hfit, hnr⟩ := x_fit_den hft da
        have hty : parseFieldDescriptor (T k).2.2.1 = some ty := by rw [hty0 k hk, ht]
        have hap := va_apart (own := μ.1) hts hin ty0 hty0 hnames jk hc
        obtain ⟨hS, hfc, kC, hkC, hkind⟩ := jk.1 ci _ hc
        obtain ⟨cf', kf, fi, f, hi, hsl⟩ := hS k hk
        have hlv : k < vs.length := by rw [← x_dens_len dvs]; exact hkl
        have hlay := hts _ (hin _ (u_in_lay hk))
        unfold u_lay at hlay
        rw [if_pos hfin] at hlay
        have hst := (u_facts hfc hkC (u_lays hts hin hk) hi).1
        have hcf2 : m.cls = cf' := by
          obtain ⟨_, _, c', _, _, _, -, -, hf', -, -, -, hown2, -⟩ := Cond.laysFinal_spec hlay
          have e1 : c' = cf' := by have := hi.symm.trans hf'; simp at this; exact this.1.symm
          rw [hdecl] at hown2
          rw [← e1]; exact Option.some.inj (hown.symm.trans hown2)
        have h6 := u_fits hfc hkC hkind (Or.inr hlay) hi hty hnr hfit
        refine W.putFinK hx hb hown (hts _ hw) hi hst hcf2 (hnm.trans hin2) (by rw [q2]; exact h6) q1 q3 (by rw [hsl]; exact k2_hasslot (q4 k hk)) rfl rfl hd fun H' e1 e2 e3 => ?_
        rw [hsl] at e1 ⊢
        refine K _ (x_mem1 _) _ _ _ _ _ _ ⟨je, jc, js, jg.set hrl ⟨vs.set k w, x_dens_set da dvs, ⟨_, hc, t_OB.to (V := updV (vp_V vs) k w) ⟨_, e1, q2, q3, t_set q4 hap hk w⟩ (fun j _ => vp_updV_set hlv w j)⟩⟩ e2 e3, ⟨lv, jl, jd⟩, ds, jx.kept (fun q hq => e3 q (Nat.ne_of_lt (Nat.lt_of_lt_of_le hq (Nat.le_add_right _ _)))), xlocs_put jo (Nat.le_add_right _ _), jk⟩

theorem s_alen (hd : decode μ.2.1 pc = .ok (.arraylength, 1)) : xSim l P M μ pc (i_alen (pc + 1)) := by
  intro p e s m args below meth c R Q C cf hcf st outs ho H locs cells slots ls stk J K
  obtain ⟨hx, hb, hml, hown, hts, hr, hlk, hnm, hR⟩ := C
  obtain ⟨en, cl, sl, h, L, S⟩ := st
  obtain ⟨je, jc, js, jg, ⟨lv, jl, jd⟩, jS, jx, jo, jk⟩ := J
  match S, stk, jS, ho with
  | x :: S, v :: stk, ⟨dx, ds⟩, ho =>
    match x, dx, ho with
    | .inl (.ref r), dx, ho =>
      have dx : v = .ref (P.2.1 + r) := dx
      subst dx
      have ho : (match x_nth h r with
        | some (.inl (_, n, _, _)) => x_k32 (Int32.ofNat n) (fun r => some [Sum.inr (pc + 1, en, cl, sl, h, L, (Sum.inl (Value.int r) : xV) :: S)])
        | _ => none) = some outs := ho
      match hn : x_nth h r, ho with
      | some (.inl (tz, n, d, o)), ho =>
        have ho : x_k32 (Int32.ofNat n) (fun r => some [Sum.inr (pc + 1, en, cl, sl, h, L, (Sum.inl (Value.int r) : xV) :: S)]) = some outs := ho
        rw [x_k32_eq] at ho
        have ho := Option.some.inj ho
        subst ho
        obtain ⟨cA, ⟨n', X⟩, hcell, hn', hX, hAr, hRA⟩ := jg.2 _ _ (x_nth_lt hn).1
        have hn' : n' = n := hn'
        subst hn'
        have kk := K _ (x_mem1 _) H locs cells slots ls (Value.int (Int32.ofNat n') :: stk) ⟨je, jc, js, jg, ⟨lv, jl, jd⟩, ⟨rfl, ds⟩, jx, jo, jk⟩
        match X, hX, hcell with
        | .inl f, hX, hcell => exact W.alen (n := Int32.ofNat n') hx hb hcell (hAr n' (fun j => .int (f j))) (by rw [vp_cell_i, arrV_size] <;> rfl) rfl rfl hd kk
        | .inr (.inl f), hX, hcell => exact W.alen (n := Int32.ofNat n') hx hb hcell (hAr n' (fun j => .long (f j))) (by rw [vp_cell_l, arrV_size] <;> rfl) rfl rfl hd kk
        | .inr (.inr (.inr (.inr f))), hX, hcell => exact W.alen (n := Int32.ofNat n') hx hb hcell (hAr n' (fun j => va_rf (f j))) (by rw [vp_cell_q, arrV_size] <;> rfl) rfl rfl hd kk

end STEPS3
end
section
/-! THE STEPS, fourth part: stores into arrays, what is made -/
theorem x_sto_int {P : xP} {ty : FieldType} {a : xV} {w : Value} {f : xV → Option (List xO)} {outs : List xO} (hty : ty = .int ∨ ty = .byte ∨ ty = .boolean) (ho : x_sto ty a f = some outs) (d : xden P a w) : ∃ (x : Int32) (a' : xV), w = .int x ∧ f a' = some outs ∧ xden P a' (.int (vp_nar ty x)) := by
  match a, d, ho with
  | .inl (.int i), d, ho =>
    obtain ⟨hc, ho⟩ := x_condS (α := List xO) (b := fits ty (.int i) && decide (narrow ty (.int i) = .int i)) (x := f (.inl (.int i))) ho
    rw [Bool.and_eq_true] at hc
    refine ⟨i, _, d, ho, ?_⟩
    have h := of_decide_eq_true hc.2
    show Value.int (vp_nar ty i) = .int i
    unfold vp_nar
    rw [h]
  | .inl (.long i), d, ho =>
    obtain ⟨hc, ho⟩ := x_condS (α := List xO) (b := decide (ty = .long)) (x := f (.inl (.long i))) ho
    have h := of_decide_eq_true hc
    subst h
    rcases hty with h | h | h <;> cases h
  | .inr (1, k), d, ho =>
    obtain ⟨hc, ho⟩ := x_condS (α := List xO) (b := decide (ty = .long)) (x := f (.inr (1, k))) ho
    have h := of_decide_eq_true hc
    subst h
    rcases hty with h | h | h <;> cases h
  | .inr (3, k), d, ho =>
    obtain ⟨hc, ho⟩ := x_condS (α := List xO) (b := decide (ty = .long)) (x := f (.inr (3, k))) ho
    have h := of_decide_eq_true hc
    subst h
    rcases hty with h | h | h <;> cases h
  | .inr (0, k), d, ho =>
    have ho : cond (decide (ty = .int)) (f (.inr (0, k))) (cond (decide (ty = .byte)) (f (.inr (2, 0))) none) = some outs := ho
    by_cases hi : ty = .int
    · rw [decide_eq_true hi] at ho
      subst hi
      exact ⟨_, _, d, ho, rfl⟩
    · rw [decide_eq_false hi] at ho
      obtain ⟨hc, ho⟩ := x_condS (α := List xO) (b := decide (ty = .byte)) (x := f (.inr (2, 0))) ho
      exact ⟨_, .inr (2, 0), d, ho, ⟨_, rfl⟩⟩
  | .inr (2, k), ⟨x, d⟩, ho =>
    have ho : cond (decide (ty = .int)) (f (.inr (2, k))) (cond (decide (ty = .byte)) (f (.inr (2, 0))) none) = some outs := ho
    by_cases hi : ty = .int
    · rw [decide_eq_true hi] at ho
      subst hi
      exact ⟨_, .inr (2, k), d, ho, ⟨_, rfl⟩⟩
    · rw [decide_eq_false hi] at ho
      obtain ⟨hc, ho⟩ := x_condS (α := List xO) (b := decide (ty = .byte)) (x := f (.inr (2, 0))) ho
      exact ⟨_, .inr (2, 0), d, ho, ⟨_, rfl⟩⟩
section STEPS4
variable {l : Launch} {P : xP} {M : List (xY × xT)} {μ : xM} {pc : Nat}

theorem s_iast (hd : decode μ.2.1 pc = .ok (.iastore, 1)) : xSim l P M μ pc (i_ast .int (pc + 1)) := by
  intro p e s m args below meth c R Q C cf hcf st outs ho H locs cells slots ls stk J K
  obtain ⟨hx, hb, hml, hown, hts, hr, hlk, hnm, hR⟩ := C
  obtain ⟨en, cl, sl, h, L, S⟩ := st
  obtain ⟨je, jc, js, jg, ⟨lv, jl, jd⟩, jS, jx, jo, jk⟩ := J
  match S, stk, jS, ho with
  | [a], _, _, ho => cases ho
  | [a, y], _, _, ho =>
    rcases y with w | q
    · cases w <;> cases ho
    · cases ho
  | a :: y :: x :: S, u :: w :: v :: stk, ⟨da, dy, dx, ds⟩, ho =>
    match y, x, dy, dx, ho with
    | .inl (.int i), .inl (.ref r), dy, dx, ho =>
      have dx : v = .ref (P.2.1 + r) := dx
      have dy : w = .int i := dy
      subst dx
      subst dy
      have ho : (match x_nth h r with
        | some (.inl (tz, n, d, o)) => cond (decide (tz = .int)) (x_sto .int a (fun v => x_idx i n (fun j => x_spine (x_upd o j v d) (fun o => x_set h r (.inl (.int, n, d, o)) (fun h => some [Sum.inr (pc + 1, en, cl, sl, h, L, S)]))))) none
        | _ => none) = some outs := ho
      match hn : x_nth h r, ho with
      | some (.inl (tz, n, d, o)), ho =>
        obtain ⟨htz, hz⟩ := x_condS (α := List xO) (b := decide (tz = .int)) (x := x_sto .int a (fun v => x_idx i n (fun j => x_spine (x_upd o j v d) (fun o => x_set h r (.inl (.int, n, d, o)) (fun h => some [Sum.inr (pc + 1, en, cl, sl, h, L, S)]))))) ho
        clear ho
        have ho := hz
        clear hz
        have htz := of_decide_eq_true htz
        subst htz
        obtain ⟨x, a, rfl, ho, da⟩ := x_sto_int (w := u) (Or.inl rfl) ho da
        obtain ⟨hin, hlt, -, ho⟩ := x_idx_den ho
        rw [x_spine_eq] at ho
        obtain ⟨hrl, ho⟩ := x_set_eq _ _ _ _ ho
        have ho := Option.some.inj ho
        subst ho
        obtain ⟨cA, ⟨n', X⟩, hcell, hn', hX, hAr, hRA⟩ := jg.2 _ _ (x_nth_lt hn).1
        have hn' : n' = n := hn'
        subst hn'
        match X, hX, hcell with
        | .inl f, ⟨hty, hX⟩, hcell =>
          refine W.iast hx hb hcell (hAr n' (fun j => .int (f j))) (fun q => by cases q) (by show ¬ (i < 0 ∨ (arrV _ _ _).slots.size ≤ _); rw [arrV_size]; exact hin) rfl rfl hd fun H1 e z oq => ?_
          refine K _ (x_mem1 _) _ _ _ _ _ _ ⟨je, jc, js, jg.set hrl ⟨cA, (n', .inl (upd f i.toNatClampNeg (vp_nar .int x))), ?_, rfl, ⟨hty, fun k hk => ?_⟩, hAr, hRA⟩ z oq, ⟨lv, jl, jd⟩, ds, jx.kept (fun q hq => oq q (Nat.ne_of_lt (Nat.lt_of_lt_of_le hq (Nat.le_add_right _ _)))), xlocs_put jo (Nat.le_add_right _ _), jk⟩
          · show H1[_]? = some (vp_cell _ _)
            rw [e]
            rw [vp_cell_i, vp_cell_i, arrV_store]
            congr 2
            funext q
            by_cases hq : q = i.toNatClampNeg
            · subst hq
              simp [updV, upd, vp_nar]
              try rfl
            · simp [updV, upd, vp_nar, hq]
          · rw [x_upd_lk]
            by_cases hq : k = i.toNatClampNeg
            · subst hq
              rw [if_pos rfl]
              simpa [upd, vp_nar] using da
            · rw [if_neg hq]
              simpa [upd, vp_nar, hq] using hX k hk
        | .inr (.inl f), ⟨hX, _⟩, hcell => cases hX

theorem x_cls_den {h : xH} {ci : Nat} {a : xV} {v : Value} {s : State} {H : Heap} {r0 : vw_C} (hc : x_cls h ci a = true) (d : xden P a v) (jg : xG P h s H) (jk : va_K P.2.2.2.1 vwCl [] s) (hr : vwCl[ci]? = some r0) : ∃ r : Nat, v = .ref (P.2.1 + r) ∧ a = .inl (.ref r) ∧ ∃ cell : Cell, H[P.2.1 + r]? = some cell ∧ cell.vm = .none ∧ cell.cls = P.2.2.2.1.1 ci ∧ s.vm.findClass r0.1 = some cell.cls := by
  match a, d, hc with
  | .inl (.ref r), d, hc =>
    have hc : (match x_nth h r with
      | some (.inr (cj, _)) => Nat.beq ci cj
      | _ => false) = true := hc
    match hn : x_nth h r, hc with
    | some (.inr (cj, fs)), hc =>
      have hc := Nat.eq_of_beq_eq_true hc
      subst hc
      obtain ⟨vs, dvs, r', h1, cell, q1, q2, q3, q4⟩ := jg.2 _ _ (x_nth_lt hn).1
      exact ⟨r, d, rfl, cell, q1, q3, q2, by rw [q2]; exact (jk.1 ci _ hr).2.1⟩
theorem s_aast {C : String} {T : u_T} {N : Nat} (ci : Nat) (hd : decode μ.2.1 pc = .ok (.aastore, 1)) (hc : vwCl[ci]? = some (C, T, N)) : xSim l P M μ pc (i_aast ci C (pc + 1)) := by
  intro p e s m args below meth c R Q C cf hcf st outs ho H locs cells slots ls stk J K
  obtain ⟨hx, hb, hml, hown, hts, hr, hlk, hnm, hR⟩ := C
  obtain ⟨en, cl, sl, h, L, S⟩ := st
  obtain ⟨je, jc, js, jg, ⟨lv, jl, jd⟩, jS, jx, jo, jk⟩ := J
  match S, stk, jS, ho with
  | [a], _, _, ho =>
    rcases a with w | q
    · cases w <;> cases ho
    · cases ho
  | [a, y], _, _, ho =>
    rcases a with w | q
    · cases w <;> first | cases ho | (rcases y with w | q <;> first | cases ho | (cases w <;> cases ho))
    · cases ho
  | a :: y :: x :: S, u :: w :: v :: stk, ⟨da, dy, dx, ds⟩, ho =>
    match a, da, ho with
    | .inl (.ref q), da, ho =>
      match y, dy, ho with
      | .inl (.int i), dy, ho =>
        match x, dx, ho with
        | .inl (.ref r), dx, ho =>
          have dx : v = .ref (P.2.1 + r) := dx
          have dy : w = .int i := dy
          subst dx
          subst dy
          have ho : (match x_nth h r with
            | some (.inl (tz, n, d, o)) => cond (decide (tz = .object C) && x_cls h ci (.inl (.ref q))) (x_idx i n (fun j => x_spine (x_upd o j (.inl (.ref q)) d) (fun o => x_set h r (.inl (.object C, n, d, o)) (fun h => some [Sum.inr (pc + 1, en, cl, sl, h, L, S)])))) none
            | _ => none) = some outs := ho
          match hn : x_nth h r, ho with
          | some (.inl (tz, n, d, o)), ho =>
            obtain ⟨htz, hz⟩ := x_condS (α := List xO) (b := decide (tz = .object C) && x_cls h ci (.inl (.ref q))) (x := x_idx i n (fun j => x_spine (x_upd o j (.inl (.ref q)) d) (fun o => x_set h r (.inl (.object C, n, d, o)) (fun h => some [Sum.inr (pc + 1, en, cl, sl, h, L, S)])))) ho
            clear ho
            have ho := hz
            clear hz
            rw [Bool.and_eq_true] at htz
            obtain ⟨htz, hcq⟩ := htz
            have htz := of_decide_eq_true htz
            subst htz
            obtain ⟨hin, hlt, h0, ho⟩ := x_idx_den ho
            rw [x_spine_eq] at ho
            obtain ⟨hrl, ho⟩ := x_set_eq _ _ _ _ ho
            have ho := Option.some.inj ho
            subst ho
            obtain ⟨cA, ⟨n', X⟩, hcell, hn', hX, hAr, hRA⟩ := jg.2 _ _ (x_nth_lt hn).1
            have hn' : n' = n := hn'
            subst hn'
            obtain ⟨q', hu, hq', cellV, g1, g3, g2, -⟩ := x_cls_den hcq da jg jk hc
            cases hq'
            subst hu
            have hcls := (jk.1 ci _ hc).2
            have hRA' := hRA
            obtain ⟨kA, comp, k1, k2, k3, -⟩ := hRA
            have hcomp : comp = P.2.2.2.1.1 ci := Option.some.inj (k3.symm.trans hcls.1)
            subst hcomp
            obtain ⟨kC, hkC, -⟩ := hcls.2
            match X, hX, hcell with
            | .inr (.inr (.inr (.inr f))), ⟨hty, hX⟩, hcell =>
              refine W.aast hx hb hcell (fun q h => by cases h) (fun h => by cases h) k1 k2 rfl hkC ⟨h0, by show _ < (arrV _ _ _).slots.size; rw [arrV_size]; exact hlt⟩ g1 (fun q h => by rw [g3] at h; cases h) (by rw [g2]; exact hkC) (by rw [g2]; exact va_assign hcls) rfl rfl hd fun H1 e z oq => ?_
              refine K _ (x_mem1 _) _ _ _ _ _ _ ⟨je, jc, js, jg.set hrl ⟨cA, (n', .inr (.inr (.inr (.inr (va_up f i.toNatClampNeg (some (P.2.1 + q))))))), ?_, rfl, ⟨hty, fun k hk => ?_⟩, hAr, hRA'⟩ z oq, ⟨lv, jl, jd⟩, ds, jx.kept (fun q hq => oq q (Nat.ne_of_lt (Nat.lt_of_lt_of_le hq (Nat.le_add_right _ _)))), xlocs_put jo (Nat.le_add_right _ _), jk⟩
              · show H1[_]? = some (vp_cell _ _)
                rw [e]
                rw [vp_cell_q, vp_cell_q, arrV_store]
                congr 2
                funext q
                by_cases hq : q = i.toNatClampNeg
                · subst hq
                  simp [updV, va_up, va_rf]
                · simp [updV, va_up, hq]
              · rw [x_upd_lk]
                by_cases hq : k = i.toNatClampNeg
                · subst hq
                  rw [if_pos rfl]
                  simp [va_up, va_rf, xden]
                · rw [if_neg hq]
                  simpa [va_up, hq] using hX k hk
            | .inl f, ⟨hX, _⟩, hcell => rcases hX with hX | hX | hX <;> cases hX
            | .inr (.inl f), ⟨hX, _⟩, hcell => cases hX

theorem x_newa_inv {ty : FieldType} {d : xV} {nx : Nat} {cf : xF} {en : xE} {cl sl : Nat} {h : xH} {L : xL} {S : List xV} {outs : List xO} {stk : List Value} (ho : i_newa ty d nx cf (en, cl, sl, h, L, S) = some outs) (jS : xdens P S stk) : ∃ (i : Int32) (S' : List xV) (stk' : List Value), stk = .int i :: stk' ∧ xdens P S' stk' ∧ ¬ i < 0 ∧ i.toNatClampNeg < 1000000 ∧ 1 ≤ cl ∧ i.toNatClampNeg ≤ sl ∧ outs = [.inr (nx, en, cl - 1, sl - i.toNatClampNeg, h ++ [.inl (ty, i.toNatClampNeg, d, [])], L, .inl (.ref h.length) :: S')] := by
  match S, stk, jS, ho with
  | x :: S, v :: stk, ⟨dx, ds⟩, ho =>
    match x, dx, ho with
    | .inl (.int i), dx, ho =>
      have dx : v = .int i := dx
      subst dx
      have ho : x_idx i 1000000 (fun N => cond (Nat.ble 1 cl && Nat.ble N sl) (x_kN (cl - 1) (fun cl => x_kN (sl - N) (fun sl => x_push h (.inl (ty, N, d, [])) (fun h r => x_kN r (fun r => some [Sum.inr (nx, en, cl, sl, h, L, (Sum.inl (Value.ref r) : xV) :: S)]))))) none) = some outs := ho
      obtain ⟨hin, hlt, h0, ho⟩ := x_idx_den ho
      obtain ⟨hb, hz⟩ := x_condS ho
      rw [x_kN_eq, x_kN_eq, x_push_eq, x_kN_eq] at hz
      rw [Bool.and_eq_true] at hb
      exact ⟨i, S, stk, rfl, ds, h0, hlt, Nat.le_of_ble_eq_true hb.1, Nat.le_of_ble_eq_true hb.2, (Option.some.inj hz).symm⟩

theorem s_newai {atype : ArrayType} (ty : FieldType) (hd : decode μ.2.1 pc = .ok (.newarray atype, 2)) (hty : newarray.typeOf atype = ty) (hk : ty = .int ∨ ty = .byte ∨ ty = .boolean) (hw : Cond.arrayClass ty ∈ xTB) : xSim l P M μ pc (i_newa ty (.inl (.int (Int32.ofNat 0))) (pc + 2)) := by
  intro p e s m args below meth c R Q C cf hcf st outs ho H locs cells slots ls stk J K
  obtain ⟨hx, hb, hml, hown, hts, hr, hlk, hnm, hR⟩ := C
  obtain ⟨en, cl, sl, h, L, S⟩ := st
  obtain ⟨je, jc, js, jg, ⟨lv, jl, jd⟩, jS, jx, jo, jk⟩ := J
  subst hty
  obtain ⟨i, S', stk', rfl, ds, h0, hlt, hc1, hs1, rfl⟩ := x_newa_inv ho jS
  have hcb : componentBytes (newarray.typeOf atype) ≤ 8 := by rcases hk with h | h | h <;> rw [h] <;> decide
  have hdv : defaultValue (newarray.typeOf atype) = .int 0 := by rcases hk with h | h | h <;> rw [h] <;> rfl
  have hra : ∀ cA, s.vm.findClass ("[" ++ (newarray.typeOf atype).toString) = some cA → va_RA s cA (newarray.typeOf atype) := fun cA h => by rcases hk with q | q | q <;> rw [q] at h ⊢ <;> exact h
  refine va_newaK hx hb (hts _ hw) rfl hd rfl h0 rfl (Nat.le_trans (Nat.mul_le_mul (Nat.le_of_lt hlt) hcb) (by decide)) (by have := jc; simp only at this; omega) (by have := js; simp only at this; omega) rfl fun H1 cA e1 z1 o1 hAr hNm => ?_
  have hk' := K _ (x_mem1 _) H1 locs (cells + 1) (slots + i.toNatClampNeg) ls (.ref H.size :: stk') ⟨je, by have := jc; simp only at this ⊢; omega, by have := js; simp only at this ⊢; omega, jg.push ⟨cA, (i.toNatClampNeg, .inl (fun _ => 0)), ?_, rfl, ⟨hk, fun j _ => rfl⟩, hAr, hra cA hNm⟩ z1 o1, ⟨lv, jl, jd⟩, ⟨?_, ds⟩, jx.kept (fun q hq => o1 q (by have := jg.1; omega)), jo, jk⟩
  · exact hk'
  · rw [e1, hdv]; rfl
  · show Value.ref H.size = .ref (P.2.1 + h.length)
    rw [jg.1]
theorem s_newal (hd : decode μ.2.1 pc = .ok (.newarray .long, 2)) (hw : Cond.arrayClass .long ∈ xTB) : xSim l P M μ pc (i_newa .long (.inl (.long (Int64.ofNat 0))) (pc + 2)) := by
  intro p e s m args below meth c R Q C cf hcf st outs ho H locs cells slots ls stk J K
  obtain ⟨hx, hb, hml, hown, hts, hr, hlk, hnm, hR⟩ := C
  obtain ⟨en, cl, sl, h, L, S⟩ := st
  obtain ⟨je, jc, js, jg, ⟨lv, jl, jd⟩, jS, jx, jo, jk⟩ := J
  obtain ⟨i, S', stk', rfl, ds, h0, hlt, hc1, hs1, rfl⟩ := x_newa_inv ho jS
  have hcb : componentBytes (newarray.typeOf .long) ≤ 8 := by decide
  refine va_newaK (atype := .long) hx hb (hts _ hw) rfl hd rfl h0 rfl (Nat.le_trans (Nat.mul_le_mul (Nat.le_of_lt hlt) hcb) (by decide)) (by have := jc; simp only at this; omega) (by have := js; simp only at this; omega) rfl fun H1 cA e1 z1 o1 hAr hNm => ?_
  have hk' := K _ (x_mem1 _) H1 locs (cells + 1) (slots + i.toNatClampNeg) ls (.ref H.size :: stk') ⟨je, by have := jc; simp only at this ⊢; omega, by have := js; simp only at this ⊢; omega, jg.push ⟨cA, (i.toNatClampNeg, .inr (.inl (fun _ => 0))), ?_, rfl, ⟨rfl, fun j _ => rfl⟩, hAr, hNm⟩ z1 o1, ⟨lv, jl, jd⟩, ⟨?_, ds⟩, jx.kept (fun q hq => o1 q (by have := jg.1; omega)), jo, jk⟩
  · exact hk'
  · rw [e1]; rfl
  · show Value.ref H.size = .ref (P.2.1 + h.length)
    rw [jg.1]
theorem s_newq {index : Nat} (C : String) (hd : decode μ.2.1 pc = .ok (.anewarray index, 3)) (hw : Cond.classLink μ.1 index C ∈ xTB) (hC : C ∈ (["BreadMap$Tray", "BreadMap$Land"] : List String)) : xSim l P M μ pc (i_newa (.object C) (.inl .null) (pc + 3)) := by
  intro p e s m args below meth c R Q C cf hcf st outs ho H locs cells slots ls stk J K
  obtain ⟨hx, hb, hml, hown, hts, hr, hlk, hnm, hR⟩ := C
  obtain ⟨en, cl, sl, h, L, S⟩ := st
  obtain ⟨je, jc, js, jg, ⟨lv, jl, jd⟩, jS, jx, jo, jk⟩ := J
  obtain ⟨i, S', stk', rfl, ds, h0, hlt, hc1, hs1, rfl⟩ := x_newa_inv ho jS
  refine W.anew hx hb hown (hts _ hw) (va_AO.use (jx.2.1 C hC)) rfl hd rfl h0 (by omega) (by have := jc; simp only at this; omega) (by have := js; simp only at this; omega) fun cA kA comp f1 f2 f3 f4 => ?_
  generalize hH1 : H.push ({ cls := cA, slots := Array.replicate i.toNatClampNeg .null, vm := .none } : Cell) = H1
  have z1 : H1.size = H.size + 1 := by rw [← hH1, Array.size_push]
  have e1 : H1[H.size]? = some (arrV cA i.toNatClampNeg (fun _ => .null)) := by rw [← hH1, Array.getElem?_push_size, ← arrV_new]
  have o1 : ∀ q : Nat, q < H.size → H1[q]? = H[q]? := fun q hq => by rw [← hH1, Array.getElem?_push, if_neg (Nat.ne_of_lt hq)]
  have hAr : ArrOfT s cA (.object C) := fun N z => ⟨(fun k h => by cases h), kA, f2, comp, f3⟩
  have hk' := K _ (x_mem1 _) H1 locs (cells + 1) (slots + i.toNatClampNeg) ls (.ref H.size :: stk') ⟨je, by have := jc; simp only at this ⊢; omega, by have := js; simp only at this ⊢; omega, jg.push ⟨cA, (i.toNatClampNeg, .inr (.inr (.inr (.inr (fun _ => none))))), ?_, rfl, ⟨⟨C, rfl⟩, fun j _ => rfl⟩, hAr, ⟨kA, comp, f2, f3, f4, f1⟩⟩ z1 o1, ⟨lv, jl, jd⟩, ⟨?_, ds⟩, jx.kept (fun q hq => o1 q (by have := jg.1; omega)), jo, jk⟩
  · exact hk'
  · rw [vp_cell_q]
    exact e1
  · show Value.ref H.size = .ref (P.2.1 + h.length)
    rw [jg.1]
theorem x_dens_lit : ∀ {vs : List Value}, vs.all (fun v => match v with | .ref _ => false | _ => true) = true → xdens P (vs.map Sum.inl) vs
  | [], _ => trivial
  | v :: vs, h => by
    rw [List.all_cons, Bool.and_eq_true] at h
    refine ⟨?_, x_dens_lit h.2⟩
    cases v <;> first | rfl | cases h.1
theorem s_new {index : Nat} {C : String} {T : u_T} {N : Nat} (ci : Nat) (ty : Nat → FieldType) (vs : List Value) (fs : List xV) (hd : decode μ.2.1 pc = .ok (.new index, 3)) (hc : vwCl[ci]? = some (C, T, N)) (hin : ∀ w ∈ u_ws C T N, w ∈ xTB) (hty : ∀ k, k < N → parseFieldDescriptor (T k).2.2.1 = some (ty k)) (hw1 : Cond.classLink μ.1 index C ∈ xTB) (hw2 : Cond.instantiable C N ∈ xTB) (hw3 : Cond.initialized C ∈ xTB) (hfs : fs = vs.map Sum.inl) (hnr : vs.all (fun v => match v with | .ref _ => false | _ => true) = true) (hdv : ∀ j, j < N → defaultValue (ty j) = vp_V vs j) : xSim l P M μ pc (i_new ci N fs (pc + 3)) := by
  intro p e s m args below meth c R Q C cf hcf st outs ho H locs cells slots ls stk J K
  obtain ⟨hx, hb, hml, hown, hts, hr, hlk, hnm, hR⟩ := C
  obtain ⟨en, cl, sl, h, L, S⟩ := st
  obtain ⟨je, jc, js, jg, ⟨lv, jl, jd⟩, jS, jx, jo, jk⟩ := J
  obtain ⟨hbb, hz⟩ := x_condS (α := List xO) (b := Nat.ble 1 cl && Nat.ble N sl) (x := x_kN (cl - 1) (fun cl => x_kN (sl - N) (fun sl => x_push h (.inr (ci, fs)) (fun h r => x_kN r (fun r => some [Sum.inr (pc + 3, en, cl, sl, h, L, (Sum.inl (Value.ref r) : xV) :: S)]))))) ho
  rw [x_kN_eq, x_kN_eq, x_push_eq, x_kN_eq] at hz
  have hz := Option.some.inj hz
  subst hz
  rw [Bool.and_eq_true] at hbb
  have hc1 := Nat.le_of_ble_eq_true hbb.1
  have hs1 := Nat.le_of_ble_eq_true hbb.2
  have hKn := jk.1 ci _ hc
  refine W.newcK hx hb hown (hts _ hw1) (hts _ hw2) (hts _ hw3) rfl hd (by have := jc; simp only at this; omega) (by have := js; simp only at this; omega) hKn.2.1 rfl fun H1 kC hkC e1 z1 o1 => ?_
  have hk' := K _ (x_mem1 _) H1 locs (cells + 1) (slots + N) ls (.ref H.size :: stk) ⟨je, by have := jc; simp only at this ⊢; omega, by have := js; simp only at this ⊢; omega, jg.push ⟨vs, by rw [hfs]; exact x_dens_lit hnr, ⟨_, hc, (u_born ty hts hin hKn hkC e1 hty).to hdv⟩⟩ z1 o1, ⟨lv, jl, jd⟩, ⟨?_, jS⟩, jx.kept (fun q hq => o1 q (by have := jg.1; omega)), jo, jk⟩
  · exact hk'
  · show Value.ref H.size = .ref (P.2.1 + h.length)
    rw [jg.1]
theorem s_objInit {index : Nat} (hd : decode μ.2.1 pc = .ok (.invokespecial index, 3)) (hw1 : Cond.methodLink μ.1 index objectInit ∈ xTB) (hw2 : Cond.instanceMethod objectInit ∈ xTB) (hw3 : Cond.code objectInit ⟨#[0xb1]⟩ 1 none ∈ xTB) (hf : 1 ≤ μ.2.2.2.2.2.frames) (hlo : 20 ≤ μ.2.2.2.2.2.locals) : xSim l P M μ pc (i_objInit (pc + 3)) := by
  intro p e s m args below meth c R Q C cf hcf st outs ho H locs cells slots ls stk J K
  obtain ⟨hx, hb, hml, hown, hts, hr, hlk, hnm, hR⟩ := C
  obtain ⟨en, cl, sl, h, L, S⟩ := st
  obtain ⟨je, jc, js, jg, ⟨lv, jl, jd⟩, jS, jx, jo, jk⟩ := J
  match S, stk, jS, ho with
  | x :: S, v :: stk, ⟨dx, ds⟩, ho =>
    match x, dx, ho with
    | .inl (.ref r), dx, ho =>
      have dx : v = .ref (P.2.1 + r) := dx
      subst dx
      obtain ⟨hbb, hz⟩ := x_condS (α := List xO) (b := Nat.ble (x_sum S) 8) (x := some [Sum.inr (pc + 3, en, cl, sl, h, L, S)]) ho
      have hz := Option.some.inj hz
      subst hz
      have hsum := Nat.le_of_ble_eq_true hbb
      subst hR
      exact W.objInit hx hb hown (hts _ hw1) (hts _ hw2) (hts _ hw3) rfl (by rw [hml]; exact jl.1) rfl hd hf (by rw [x_sum_den ds]; show 2 * 0 + _ + 12 ≤ _; omega) (K _ (x_mem1 _) _ _ _ _ _ _ ⟨je, jc, js, jg, ⟨lv, jl, jd⟩, ds, jx, jo, jk⟩)
end STEPS4
end
section
/-! THE STEPS, fifth part: calls and returns; THE RUN -/
theorem x_after {P : xP} {rs : List xR} {p : Program} {l : Launch} {e : Env} {R : Room} {s : State} {m : MethodId} {args a : Array Value} {below : List Frame} {meth : Method} {c : Code} {H : Heap} {locs : List Loc} {cells slots mc ms pc : Nat} {ls : Array Slot} {st0 rest : List Value} {Q : State → Prop}
    (hrun : va_Run p l e R s m args below meth c H locs cells slots mc ms (F0 m pc ls st0) rest (xQc P rs a) (fun z => P.2.1 ≤ z))
    (kk : ∀ r ∈ rs, ∀ (ov : Option Value) (H1 : Heap) (L : List Loc), xEnv P r.1 → xdenO P r.2.2 ov → xG P r.2.1 s H1 → (∀ q : Nat, q < P.2.1 → H1[q]? = H[q]?) → (∀ q ∈ L, P.2.1 ≤ q.base) → W p l e R s m args below meth c H1 (locs ++ L) (cells + mc) (slots + ms) Q (F0 m (pc + 3) ls (ov.toList ++ rest))) : W p l e R s m args below meth c H locs cells slots Q (F0 m pc ls st0) := by
  intro T hT X
  obtain ⟨v, st₀, t, T', L, h0, X', hL, e1, e2, ⟨r, hr, he, ⟨ov, hd, hv⟩, hg, hlow⟩, st⟩ := hrun T hT X
  cases hv
  have hal : t.vm.Alike s.vm := by rw [← e2]; exact X'.warmed.alike.symm
  obtain ⟨t2, a1, b1⟩ := kk r hr v T'.heap L he hd (by rw [e1]; exact hg.moved hal) (fun q hq => by rw [e1, hlow q hq, h0]) hL T' rfl X'
  exact ⟨t2, st t2 a1, b1⟩
theorem xPc_blind (P : xP) (h : xH) (vs : List Value) : FrameBlind (xPc P h vs) := fun a U g mk q => ⟨q.1, xG.moved (u := U) (U := U.calling g mk a) (Vm.Alike.refl U.vm) q.2.1, xX.same (s := U) (U := U.calling g mk a) rfl rfl q.2.2.1, va_K.moved (u := U) (U := U.calling g mk a) (Vm.Alike.refl U.vm) q.2.2.2⟩
theorem xPc_at {P : xP} {h : xH} {vs : List Value} {s : State} {H : Heap} (jg : xG P h s H) (jx : xX P s H) (jk : va_K P.2.2.2.1 vwCl [] s) : ∀ U : State, U.heap = H → s.WarmedH U.vm → xPc P h vs vs.toArray U := fun U hU hW => ⟨rfl, by rw [hU]; exact jg.moved hW.alike, by rw [hU]; exact jx.moved hW hU, va_K.moved hW.alike jk⟩
section STEPS5
variable {l : Launch} {P : xP} {M : List (xY × xT)} {μ : xM} {pc : Nat}
/-- a call's inside: what the engine found out -/
theorem x_call_inv {virt : Option Nat} {mi n mc ms nx : Nat} {cf : xF} {en : xE} {cl sl : Nat} {h : xH} {L : xL} {S : List xV} {outs : List xO} {stk : List Value} (ho : i_call virt mi n mc ms nx cf (en, cl, sl, h, L, S) = some outs) (jS : xdens P S stk) : ∃ (as S' : List xV) (vs stk' : List Value) (rs : List xR), as.length = n ∧ stk = vs.reverse ++ stk' ∧ xdens P as vs ∧ xdens P S' stk' ∧ x_sum S' ≤ 8 ∧ mc ≤ cl ∧ ms ≤ sl ∧ (∀ ci, virt = some ci → ∃ a as', as = a :: as' ∧ x_cls h ci a = true) ∧ cf mi en h as = some rs ∧ outs = x_map (x_back nx (cl - mc) (sl - ms) L S') rs := by
  obtain ⟨as, S', vs, stk', e1, e2, e3, e4, ho⟩ := x_take_den (P := P) (acc := []) (accv := []) ho jS trivial
  rw [List.append_nil] at ho
  obtain ⟨hc, hz⟩ := x_condS ho
  rw [Bool.and_eq_true, Bool.and_eq_true, Bool.and_eq_true] at hc
  obtain ⟨c1, c2, c3, c4⟩ := hc
  have hz : (match cf mi en h as with
    | some rs => x_kN (cl - mc) (fun cl => x_kN (sl - ms) (fun sl => some (x_map (x_back nx cl sl L S') rs)))
    | none => none) = some outs := hz
  cases hcf : cf mi en h as with
  | none => rw [hcf] at hz; cases hz
  | some rs =>
    rw [hcf] at hz
    have hz : x_kN (cl - mc) (fun cl => x_kN (sl - ms) (fun sl => some (x_map (x_back nx cl sl L S') rs))) = some outs := hz
    rw [x_kN_eq, x_kN_eq] at hz
    refine ⟨as, S', vs, stk', rs, e1, e2, e3, e4, Nat.le_of_ble_eq_true c1, Nat.le_of_ble_eq_true c2, Nat.le_of_ble_eq_true c3, fun ci hci => ?_, hcf, (Option.some.inj hz).symm⟩
    subst hci
    match as, c4 with
    | a :: as', c4 => exact ⟨a, as', rfl, c4⟩

theorem x_mem_map {α β : Type} {f : α → β} {a : α} : ∀ {l : List α}, a ∈ l → f a ∈ x_map f l
  | b :: l, h => by
    show f a ∈ f b :: x_map f l
    rcases List.mem_cons.mp h with h | h
    · rw [h]; exact List.mem_cons_self
    · exact List.mem_cons_of_mem _ (x_mem_map h)

theorem s_callV {index mi n : Nat} {C : String} {T : u_T} {N : Nat} (ci : Nat) (y : xY) (t : xT) (hM : M[mi]? = some (y, t)) (hd : decode μ.2.1 pc = .ok (.invokevirtual index, 3)) (hC : y.1.cls = C) (hc : vwCl[ci]? = some (C, T, N)) (hw1 : Cond.methodLink μ.1 index y.1 ∈ xTB) (hw2 : Cond.instanceMethod y.1 ∈ xTB) (hw3 : Cond.selects C y.1 y.1 ∈ xTB) (hcode : Cond.code y.1 y.2.1 y.2.2.1 y.2.2.2.1 ∈ xTB) (hini : Cond.initialized y.1.cls ∈ xTB) (hmh : y.1.cls ≠ "java/lang/invoke/MethodHandle" ∧ y.1.cls ≠ "java/lang/invoke/VarHandle" ∧ (parseMethodDescriptor y.1.desc).map (fun d => d.parameters.length) = some n) (hroom : y.2.2.2.2.frames + 1 ≤ μ.2.2.2.2.2.frames ∧ 8 + (y.2.2.1 + 11) + y.2.2.2.2.locals ≤ μ.2.2.2.2.2.locals) : xSim l P M μ pc (i_call (some ci) mi (n + 1) y.2.2.2.2.cells y.2.2.2.2.slots (pc + 3)) := by
  intro p e s m args below meth c R Q C cf hcf st outs ho H locs cells slots ls stk J K
  obtain ⟨hx, hb, hml, hown, hts, hr, hlk, hnm, hR⟩ := C
  obtain ⟨en, cl, sl, h, L, S⟩ := st
  obtain ⟨je, jc, js, jg, ⟨lv, jl, jd⟩, jS, jx, jo, jk⟩ := J
  obtain ⟨as, S', vs, stk', rs, e1, rfl, e3, e4, hsum, hmc, hms, hv, hrs, rfl⟩ := x_call_inv ho jS
  have hMet := hcf mi y t hM en h as rs hrs je vs e3
  have hlen := x_dens_len e3
  have hfit : cells + y.2.2.2.2.cells ≤ R.cells ∧ slots + y.2.2.2.2.slots ≤ R.slots := by have a1 := jc; have a2 := js; simp only at a1 a2; exact ⟨by omega, by omega⟩
  have hgood : ∀ w ∈ xWs y, w ∈ xTB := fun w hw => by
    rcases List.mem_cons.mp hw with h | h
    · rw [h]; exact hcode
    · exact h
  subst hR
  have hW8 : 2 * (F0 m pc ls (vs.reverse ++ stk')).monitorRoom + (stk'.map fun v => v.category).sum ≤ 8 := by rw [x_sum_den e4]; show 2 * 0 + _ ≤ 8; omega
  obtain ⟨a0, as', rfl, hcl⟩ : ∃ a0 as', as = a0 :: as' ∧ True := by
    cases as with
    | nil => simp at e1
    | cons a as' => exact ⟨a, as', rfl, trivial⟩
  obtain ⟨v0, vs', rfl, da0⟩ : ∃ v0 vs', vs = v0 :: vs' ∧ xden P a0 v0 := by
    cases vs with
    | nil => cases e3
    | cons v vs' => exact ⟨v, vs', rfl, e3.1⟩
  have hn : vs'.length = n := by simp at hlen e1; omega
  obtain ⟨a1, as1, ha, hcl⟩ := hv ci rfl
  cases ha
  obtain ⟨r0, rfl, -, cell, q1, q2, -, q3⟩ := x_cls_den hcl da0 jg jk hc
  subst hC
  have hgv : GoodIn xTB (wsV μ.1 index y.1.cls y.1 (xWs y)) := xTB_good (fun w hw => by
    rcases List.mem_append.mp (show w ∈ ([.methodLink μ.1 index y.1, .instanceMethod y.1, .selects y.1.cls y.1 y.1, .initialized y.1.cls] : List Cond) ++ xWs y from hw) with h | h
    · simp only [List.mem_cons, List.not_mem_nil, or_false] at h
      rcases h with rfl | rfl | rfl | rfl
      · exact hw1
      · exact hw2
      · exact hw3
      · exact hini
    · exact hgood w h)
  refine x_after (va_runV (As := vs') (rest := stk') ⟨hx, hb, hml, hown, hts⟩ hMet (cwV n hts hgv rfl rfl rfl ⟨rfl, hmh⟩ hroom) ⟨xPc_blind _ _ _, ⟨cell, q1, by rw [q2]; rfl, q3⟩, xPc_at jg jx jk⟩ rfl hn jl.1 (by simp) hW8 hd hfit) ?_
  intro r hrr ov H1 LL g1 g2 g3 g4 g5
  have hmem : x_back (pc + 3) (cl - y.2.2.2.2.cells) (sl - y.2.2.2.2.slots) L S' r ∈ x_map (x_back (pc + 3) (cl - y.2.2.2.2.cells) (sl - y.2.2.2.2.slots) L S') rs := x_mem_map hrr
  have k1 := K _ hmem H1 (locs ++ LL) (cells + y.2.2.2.2.cells) (slots + y.2.2.2.2.slots) ls (ov.toList ++ stk')
  refine k1 ⟨g1, by have := jc; simp only at this ⊢; omega, by have := js; simp only at this ⊢; omega, g3, ⟨lv, jl, jd⟩, ?_, jx.kept g4, fun q hq => (List.mem_append.mp hq).elim (jo q) (g5 q), jk⟩
  obtain ⟨r1, r2, r3⟩ := r
  cases r3 with
  | none => cases ov with
    | none => exact e4
    | some v => cases g2
  | some a => cases ov with
    | none => cases g2
    | some v => exact ⟨g2, e4⟩

theorem s_callI {index mi n : Nat} {r1 : vw_C} (ci : Nat) (y : xY) (t : xT) (hM : M[mi]? = some (y, t)) (hd : decode μ.2.1 pc = .ok (.invokespecial index, 3)) (hc : vwCl[ci]? = some r1) (hw1 : Cond.methodLink μ.1 index y.1 ∈ xTB) (hw2 : Cond.instanceMethod y.1 ∈ xTB) (hinit : y.1.name = "<init>") (hret : y.2.2.2.1 = none) (hcode : Cond.code y.1 y.2.1 y.2.2.1 y.2.2.2.1 ∈ xTB) (hini : Cond.initialized y.1.cls ∈ xTB) (hmh : y.1.cls ≠ "java/lang/invoke/MethodHandle" ∧ y.1.cls ≠ "java/lang/invoke/VarHandle" ∧ (parseMethodDescriptor y.1.desc).map (fun d => d.parameters.length) = some n) (hroom : y.2.2.2.2.frames + 1 ≤ μ.2.2.2.2.2.frames ∧ 8 + (y.2.2.1 + 11) + y.2.2.2.2.locals ≤ μ.2.2.2.2.2.locals) : xSim l P M μ pc (i_call (some ci) mi (n + 1) y.2.2.2.2.cells y.2.2.2.2.slots (pc + 3)) := by
  intro p e s m args below meth c R Q C cf hcf st outs ho H locs cells slots ls stk J K
  obtain ⟨hx, hb, hml, hown, hts, hr, hlk, hnm, hR⟩ := C
  obtain ⟨en, cl, sl, h, L, S⟩ := st
  obtain ⟨je, jc, js, jg, ⟨lv, jl, jd⟩, jS, jx, jo, jk⟩ := J
  obtain ⟨as, S', vs, stk', rs, e1, rfl, e3, e4, hsum, hmc, hms, hv, hrs, rfl⟩ := x_call_inv ho jS
  have hMet := hcf mi y t hM en h as rs hrs je vs e3
  have hlen := x_dens_len e3
  have hfit : cells + y.2.2.2.2.cells ≤ R.cells ∧ slots + y.2.2.2.2.slots ≤ R.slots := by have a1 := jc; have a2 := js; simp only at a1 a2; exact ⟨by omega, by omega⟩
  have hgood : ∀ w ∈ xWs y, w ∈ xTB := fun w hw => by
    rcases List.mem_cons.mp hw with h | h
    · rw [h]; exact hcode
    · exact h
  subst hR
  have hW8 : 2 * (F0 m pc ls (vs.reverse ++ stk')).monitorRoom + (stk'.map fun v => v.category).sum ≤ 8 := by rw [x_sum_den e4]; show 2 * 0 + _ ≤ 8; omega
  obtain ⟨a0, as', rfl, hcl⟩ : ∃ a0 as', as = a0 :: as' ∧ True := by
    cases as with
    | nil => simp at e1
    | cons a as' => exact ⟨a, as', rfl, trivial⟩
  obtain ⟨v0, vs', rfl, da0⟩ : ∃ v0 vs', vs = v0 :: vs' ∧ xden P a0 v0 := by
    cases vs with
    | nil => cases e3
    | cons v vs' => exact ⟨v, vs', rfl, e3.1⟩
  have hn : vs'.length = n := by simp at hlen e1; omega
  obtain ⟨a1, as1, ha, hcl⟩ := hv ci rfl
  cases ha
  obtain ⟨r0, rfl, -, cell, q1, q2, -, q3⟩ := x_cls_den hcl da0 jg jk hc
  have hMet' : Met l y.1 (Cond.code y.1 y.2.1 y.2.2.1 none :: xTB) y.2.2.2.2 (xPc P h (.ref (P.2.1 + r0) :: vs')) (xQc P rs) y.2.2.2.2.cells y.2.2.2.2.slots (fun z => P.2.1 ≤ z) := by
    have := hMet
    unfold xWs at this
    rw [hret] at this
    exact this
  have hgv : GoodIn xTB (Cond.code y.1 y.2.1 y.2.2.1 none :: xTB) := xTB_good (fun w hw => hgood w (by unfold xWs; rw [hret]; exact hw))
  refine x_after (va_runI (As := vs') (rest := stk') (b := P.2.1 + r0) ⟨hx, hb, hml, hown, hts⟩ hMet' (cwI n hts hgv rfl rfl rfl (hts _ hini) (hts _ hw1) (hts _ hw2) hinit hmh hroom) ⟨xPc_blind _ _ _, xPc_at jg jx jk⟩ rfl hn jl.1 (by simp) hW8 hd hfit) ?_
  intro r hrr ov H1 LL g1 g2 g3 g4 g5
  have hmem : x_back (pc + 3) (cl - y.2.2.2.2.cells) (sl - y.2.2.2.2.slots) L S' r ∈ x_map (x_back (pc + 3) (cl - y.2.2.2.2.cells) (sl - y.2.2.2.2.slots) L S') rs := x_mem_map hrr
  have k1 := K _ hmem H1 (locs ++ LL) (cells + y.2.2.2.2.cells) (slots + y.2.2.2.2.slots) ls (ov.toList ++ stk')
  refine k1 ⟨g1, by have := jc; simp only at this ⊢; omega, by have := js; simp only at this ⊢; omega, g3, ⟨lv, jl, jd⟩, ?_, jx.kept g4, fun q hq => (List.mem_append.mp hq).elim (jo q) (g5 q), jk⟩
  obtain ⟨r1, r2, r3⟩ := r
  cases r3 with
  | none => cases ov with
    | none => exact e4
    | some v => cases g2
  | some a => cases ov with
    | none => cases g2
    | some v => exact ⟨g2, e4⟩

theorem s_callIN {index mi n : Nat} {host : String} {r1 : vw_C} (ci : Nat) (y : xY) (t : xT) (hM : M[mi]? = some (y, t)) (hd : decode μ.2.1 pc = .ok (.invokespecial index, 3)) (hc : vwCl[ci]? = some r1) (hw1 : Cond.methodLinkNest μ.1 index y.1 host ∈ xNest) (hw2 : Cond.instanceMethod y.1 ∈ xTB) (hinit : y.1.name = "<init>") (hret : y.2.2.2.1 = none) (hcode : Cond.code y.1 y.2.1 y.2.2.1 y.2.2.2.1 ∈ xTB) (hini : Cond.initialized y.1.cls ∈ xTB) (hmh : y.1.cls ≠ "java/lang/invoke/MethodHandle" ∧ y.1.cls ≠ "java/lang/invoke/VarHandle" ∧ (parseMethodDescriptor y.1.desc).map (fun d => d.parameters.length) = some n) (hroom : y.2.2.2.2.frames + 1 ≤ μ.2.2.2.2.2.frames ∧ 8 + (y.2.2.1 + 11) + y.2.2.2.2.locals ≤ μ.2.2.2.2.2.locals) : xSim l P M μ pc (i_call (some ci) mi (n + 1) y.2.2.2.2.cells y.2.2.2.2.slots (pc + 3)) := by
  intro p e s m args below meth c R Q C cf hcf st outs ho H locs cells slots ls stk J K
  obtain ⟨hx, hb, hml, hown, hts, hr, hlk, hnm, hR⟩ := C
  obtain ⟨en, cl, sl, h, L, S⟩ := st
  obtain ⟨je, jc, js, jg, ⟨lv, jl, jd⟩, jS, jx, jo, jk⟩ := J
  obtain ⟨as, S', vs, stk', rs, e1, rfl, e3, e4, hsum, hmc, hms, hv, hrs, rfl⟩ := x_call_inv ho jS
  have hMet := hcf mi y t hM en h as rs hrs je vs e3
  have hlen := x_dens_len e3
  have hfit : cells + y.2.2.2.2.cells ≤ R.cells ∧ slots + y.2.2.2.2.slots ≤ R.slots := by have a1 := jc; have a2 := js; simp only at a1 a2; exact ⟨by omega, by omega⟩
  have hgood : ∀ w ∈ xWs y, w ∈ xTB := fun w hw => by
    rcases List.mem_cons.mp hw with h | h
    · rw [h]; exact hcode
    · exact h
  subst hR
  have hW8 : 2 * (F0 m pc ls (vs.reverse ++ stk')).monitorRoom + (stk'.map fun v => v.category).sum ≤ 8 := by rw [x_sum_den e4]; show 2 * 0 + _ ≤ 8; omega
  obtain ⟨a0, as', rfl, hcl⟩ : ∃ a0 as', as = a0 :: as' ∧ True := by
    cases as with
    | nil => simp at e1
    | cons a as' => exact ⟨a, as', rfl, trivial⟩
  obtain ⟨v0, vs', rfl, da0⟩ : ∃ v0 vs', vs = v0 :: vs' ∧ xden P a0 v0 := by
    cases vs with
    | nil => cases e3
    | cons v vs' => exact ⟨v, vs', rfl, e3.1⟩
  have hn : vs'.length = n := by simp at hlen e1; omega
  obtain ⟨a1, as1, ha, hcl⟩ := hv ci rfl
  cases ha
  obtain ⟨r0, rfl, -, cell, q1, q2, -, q3⟩ := x_cls_den hcl da0 jg jk hc
  have hMet' : Met l y.1 (Cond.code y.1 y.2.1 y.2.2.1 none :: xTB) y.2.2.2.2 (xPc P h (.ref (P.2.1 + r0) :: vs')) (xQc P rs) y.2.2.2.2.cells y.2.2.2.2.slots (fun z => P.2.1 ≤ z) := by
    have := hMet
    unfold xWs at this
    rw [hret] at this
    exact this
  have hgv : GoodIn xTB (Cond.code y.1 y.2.1 y.2.2.1 none :: xTB) := xTB_good (fun w hw => hgood w (by unfold xWs; rw [hret]; exact hw))
  refine x_after (va_runIN (As := vs') (rest := stk') (b := P.2.1 + r0) (host := host) ⟨hx, hb, hml, hown, hts⟩ hMet' ⟨va_cnB n hts hgv rfl rfl rfl (jx.1 _ hw1) (hts _ hini) hmh hroom, hinit, hts _ hw2⟩ ⟨xPc_blind _ _ _, xPc_at jg jx jk⟩ rfl hn jl.1 (by simp) hW8 hd hfit) ?_
  intro r hrr ov H1 LL g1 g2 g3 g4 g5
  have hmem : x_back (pc + 3) (cl - y.2.2.2.2.cells) (sl - y.2.2.2.2.slots) L S' r ∈ x_map (x_back (pc + 3) (cl - y.2.2.2.2.cells) (sl - y.2.2.2.2.slots) L S') rs := x_mem_map hrr
  have k1 := K _ hmem H1 (locs ++ LL) (cells + y.2.2.2.2.cells) (slots + y.2.2.2.2.slots) ls (ov.toList ++ stk')
  refine k1 ⟨g1, by have := jc; simp only at this ⊢; omega, by have := js; simp only at this ⊢; omega, g3, ⟨lv, jl, jd⟩, ?_, jx.kept g4, fun q hq => (List.mem_append.mp hq).elim (jo q) (g5 q), jk⟩
  obtain ⟨r1, r2, r3⟩ := r
  cases r3 with
  | none => cases ov with
    | none => exact e4
    | some v => cases g2
  | some a => cases ov with
    | none => cases g2
    | some v => exact ⟨g2, e4⟩

theorem s_callS {index mi n : Nat} (y : xY) (t : xT) (hM : M[mi]? = some (y, t)) (hd : decode μ.2.1 pc = .ok (.invokestatic index, 3)) (hw1 : Cond.methodLink μ.1 index y.1 ∈ xTB) (hw2 : Cond.static y.1 ∈ xTB) (hcode : Cond.code y.1 y.2.1 y.2.2.1 y.2.2.2.1 ∈ xTB) (hini : Cond.initialized y.1.cls ∈ xTB) (hmh : y.1.cls ≠ "java/lang/invoke/MethodHandle" ∧ y.1.cls ≠ "java/lang/invoke/VarHandle" ∧ (parseMethodDescriptor y.1.desc).map (fun d => d.parameters.length) = some n) (hroom : y.2.2.2.2.frames + 1 ≤ μ.2.2.2.2.2.frames ∧ 8 + (y.2.2.1 + 11) + y.2.2.2.2.locals ≤ μ.2.2.2.2.2.locals) : xSim l P M μ pc (i_call none mi (n) y.2.2.2.2.cells y.2.2.2.2.slots (pc + 3)) := by
  intro p e s m args below meth c R Q C cf hcf st outs ho H locs cells slots ls stk J K
  obtain ⟨hx, hb, hml, hown, hts, hr, hlk, hnm, hR⟩ := C
  obtain ⟨en, cl, sl, h, L, S⟩ := st
  obtain ⟨je, jc, js, jg, ⟨lv, jl, jd⟩, jS, jx, jo, jk⟩ := J
  obtain ⟨as, S', vs, stk', rs, e1, rfl, e3, e4, hsum, hmc, hms, hv, hrs, rfl⟩ := x_call_inv ho jS
  have hMet := hcf mi y t hM en h as rs hrs je vs e3
  have hlen := x_dens_len e3
  have hfit : cells + y.2.2.2.2.cells ≤ R.cells ∧ slots + y.2.2.2.2.slots ≤ R.slots := by have a1 := jc; have a2 := js; simp only at a1 a2; exact ⟨by omega, by omega⟩
  have hgood : ∀ w ∈ xWs y, w ∈ xTB := fun w hw => by
    rcases List.mem_cons.mp hw with h | h
    · rw [h]; exact hcode
    · exact h
  subst hR
  have hW8 : 2 * (F0 m pc ls (vs.reverse ++ stk')).monitorRoom + (stk'.map fun v => v.category).sum ≤ 8 := by rw [x_sum_den e4]; show 2 * 0 + _ ≤ 8; omega
  have hn : vs.length = n := by omega
  have hgv : GoodIn xTB (va_wsS μ.1 index y.1 (xWs y)) := xTB_good (fun w hw => by
    rcases List.mem_append.mp (show w ∈ ([.methodLink μ.1 index y.1, .static y.1, .initialized y.1.cls] : List Cond) ++ xWs y from hw) with h | h
    · simp only [List.mem_cons, List.not_mem_nil, or_false] at h
      rcases h with rfl | rfl | rfl
      · exact hw1
      · exact hw2
      · exact hini
    · exact hgood w h)
  refine x_after (va_runS (As := vs) (rest := stk') ⟨hx, hb, hml, hown, hts⟩ hMet (va_cwS n hts hgv rfl rfl rfl hmh hroom) ⟨xPc_blind _ _ _, xPc_at jg jx jk⟩ rfl hn jl.1 rfl hW8 hd hfit) ?_
  intro r hrr ov H1 LL g1 g2 g3 g4 g5
  have hmem : x_back (pc + 3) (cl - y.2.2.2.2.cells) (sl - y.2.2.2.2.slots) L S' r ∈ x_map (x_back (pc + 3) (cl - y.2.2.2.2.cells) (sl - y.2.2.2.2.slots) L S') rs := x_mem_map hrr
  have k1 := K _ hmem H1 (locs ++ LL) (cells + y.2.2.2.2.cells) (slots + y.2.2.2.2.slots) ls (ov.toList ++ stk')
  refine k1 ⟨g1, by have := jc; simp only at this ⊢; omega, by have := js; simp only at this ⊢; omega, g3, ⟨lv, jl, jd⟩, ?_, jx.kept g4, fun q hq => (List.mem_append.mp hq).elim (jo q) (g5 q), jk⟩
  obtain ⟨r1, r2, r3⟩ := r
  cases r3 with
  | none => cases ov with
    | none => exact e4
    | some v => cases g2
  | some a => cases ov with
    | none => cases g2
    | some v => exact ⟨g2, e4⟩

theorem s_ret0 (hd : decode μ.2.1 pc = .ok (.return_, 1)) (hret : μ.2.2.2.1 = none) : xSim l P M μ pc i_ret0 := by
  intro p e s m args below meth c R Q C cf hcf st outs ho H locs cells slots ls stk J K
  obtain ⟨hx, hb, hml, hown, hts, hr, hlk, hnm, hR⟩ := C
  obtain ⟨en, cl, sl, h, L, S⟩ := st
  obtain ⟨je, jc, js, jg, ⟨lv, jl, jd⟩, jS, jx, jo, jk⟩ := J
  match S, stk, jS, ho with
  | [], [], _, ho =>
    have ho : some [Sum.inl (en, h, (none : Option xV))] = some outs := ho
    have ho := Option.some.inj ho
    subst ho
    exact K _ (x_mem1 _) H locs cells slots pc ls none je (by have := jc; simp only at this; omega) (by have := js; simp only at this; omega) jg jx jo trivial ⟨hd, hret⟩
end STEPS5
/-! the run -/
theorem x_gath_mem {f : xO → Option (List xR)} : ∀ {os : List xO} {rs : List xR}, x_gath f os = some rs → ∀ o ∈ os, ∃ rs', f o = some rs' ∧ ∀ r ∈ rs', r ∈ rs
  | [], _, _, o, ho => by cases ho
  | [o1], rs, h, o, ho => by
    rw [List.mem_singleton.mp ho]
    exact ⟨rs, h, fun _ h => h⟩
  | o1 :: o2 :: os, rs, h, o, ho => by
    have h : x_app (f o1) (x_gath f (o2 :: os)) = some rs := h
    cases h1 : f o1 with
    | none => rw [h1] at h; cases h
    | some a =>
      cases h2 : x_gath f (o2 :: os) with
      | none => rw [h1, h2] at h; cases h
      | some b =>
        rw [h1, h2] at h
        have h := Option.some.inj h
        subst h
        rcases List.mem_cons.mp ho with ho | ho
        · rw [ho]
          exact ⟨a, h1, fun r hr => List.mem_append_left _ hr⟩
        · obtain ⟨rs', g1, g2⟩ := x_gath_mem h2 o ho
          exact ⟨rs', g1, fun r hr => List.mem_append_right _ (g2 r hr)⟩
abbrev xMu (y : xY) : xM := (y.1.cls, y.2.1, y.2.2.1, y.2.2.2.1, y.1.name, y.2.2.2.2)
def xTabOK (l : Launch) (P : xP) (M : List (xY × xT)) (μ : xM) (t : xT) : Prop := ∀ pc ri, x_at t pc = some ri → xSim l P M μ pc ri
/-- a list of steps, from a place on -/
def xAll (l : Launch) (P : xP) (M : List (xY × xT)) (μ : xM) : Nat → List (Option xI) → Prop
  | _, [] => True
  | b, none :: t => xAll l P M μ (b + 1) t
  | b, some ri :: t => xSim l P M μ b ri ∧ xAll l P M μ (b + 1) t
def xAlls (l : Launch) (P : xP) (M : List (xY × xT)) (μ : xM) : Nat → xT → Prop
  | _, [] => True
  | b, c :: t => xAll l P M μ b c ∧ xAlls l P M μ (b + 16) t
theorem xAll_get {l : Launch} {P : xP} {M : List (xY × xT)} {μ : xM} : ∀ {c : List (Option xI)} {b j : Nat} {ri : xI}, xAll l P M μ b c → c[j]? = some (some ri) → xSim l P M μ (b + j) ri
  | [], _, _, _, _, h => by simp at h
  | none :: t, b, 0, ri, ha, h => by cases h
  | some r :: t, b, 0, ri, ha, h => by cases h; exact ha.1
  | none :: t, b, j + 1, ri, ha, h => by
    have := xAll_get (j := j) (b := b + 1) (c := t) ha h
    rwa [show b + (j + 1) = b + 1 + j by omega]
  | some r :: t, b, j + 1, ri, ha, h => by
    have := xAll_get (j := j) (b := b + 1) (c := t) ha.2 h
    rwa [show b + (j + 1) = b + 1 + j by omega]
theorem xAlls_get {l : Launch} {P : xP} {M : List (xY × xT)} {μ : xM} : ∀ {t : xT} {b i j : Nat} {c : List (Option xI)} {ri : xI}, xAlls l P M μ b t → t[i]? = some c → c[j]? = some (some ri) → xSim l P M μ (b + 16 * i + j) ri
  | [], _, _, _, _, _, _, h, _ => by simp at h
  | c :: t, b, 0, j, c', ri, ha, h, hj => by cases h; exact xAll_get ha.1 hj
  | c :: t, b, i + 1, j, c', ri, ha, h, hj => by
    have := xAlls_get (i := i) (b := b + 16) (t := t) ha.2 h hj
    rwa [show b + 16 * (i + 1) + j = b + 16 + 16 * i + j by omega]
theorem xTabOK.of {l : Launch} {P : xP} {M : List (xY × xT)} {μ : xM} {t : xT} (h : xAlls l P M μ 0 t) : xTabOK l P M μ t := by
  intro pc ri hpc
  unfold x_at at hpc
  rw [x_nth_eq] at hpc
  match hc : t[Nat.div pc 16]?, hpc with
  | some c, hpc =>
    have hpc : (match x_nth c (Nat.mod pc 16) with
      | some r => r
      | none => none) = some ri := hpc
    rw [x_nth_eq] at hpc
    match hj : c[Nat.mod pc 16]?, hpc with
    | some (some r), hpc =>
      cases hpc
      have := xAlls_get h hc hj
      rwa [show 0 + 16 * Nat.div pc 16 + Nat.mod pc 16 = pc from by show 0 + 16 * (pc / 16) + pc % 16 = pc; omega] at this
theorem x_sl_len : ∀ vs : List Value, (lg_sl vs).length = (vs.map fun v => v.category).sum
  | [] => rfl
  | v :: vs => by
    have ih := x_sl_len vs
    unfold lg_sl at ih ⊢
    rw [List.flatMap_cons, List.length_append, ih, List.map_cons, List.sum_cons]
    congr 1
    rcases lv_cat v with h | h
    · rw [if_neg (by omega), h]; rfl
    · rw [if_pos h, h]; rfl
def xMok (l : Launch) (P : xP) (M : List (xY × xT)) : Prop := ∀ (mi : Nat) (y : xY) (t : xT), M[mi]? = some (y, t) → plainName y.1.cls = true ∧ xTabOK l P M (xMu y) t
set_option maxHeartbeats 4000000 in
theorem x_sound {l : Launch} {P : xP} {M : List (xY × xT)} (hM : xMok l P M) : ∀ n : Nat,
    (∀ (μ : xM) (t : xT), xTabOK l P M μ t → ∀ (p : Program) (e : Env) (s : State) (m : MethodId) (args : Array Value) (below : List Frame) (meth : Method) (c : Code) (R : Room) (Q : State → Prop), xCx μ p s m args meth c R → ∀ (pc : Nat) (st : xS) (rs : List xR), x_run M n t pc st = some rs → ∀ (H : Heap) (locs : List Loc) (cells slots : Nat) (ls : Array Slot) (stk : List Value), xJ P μ.2.2.1 R s st H locs cells slots ls stk → (∀ r ∈ rs, xKR P μ p l e R s m args below meth c Q r) → W p l e R s m args below meth c H locs cells slots Q (F0 m pc ls stk)) ∧ xMet l P M (x_in (x_run M n) M) := by
  have step : ∀ go : xT → Nat → xS → Option (List xR), (∀ (μ : xM) (t : xT), xTabOK l P M μ t → ∀ (p : Program) (e : Env) (s : State) (m : MethodId) (args : Array Value) (below : List Frame) (meth : Method) (c : Code) (R : Room) (Q : State → Prop), xCx μ p s m args meth c R → ∀ (pc : Nat) (st : xS) (rs : List xR), go t pc st = some rs → ∀ (H : Heap) (locs : List Loc) (cells slots : Nat) (ls : Array Slot) (stk : List Value), xJ P μ.2.2.1 R s st H locs cells slots ls stk → (∀ r ∈ rs, xKR P μ p l e R s m args below meth c Q r) → W p l e R s m args below meth c H locs cells slots Q (F0 m pc ls stk)) → xMet l P M (x_in go M) := by
    intro go hgo mi y t hm en h as rs ho je vs dvs
    have ho : (match x_nth M mi with
      | some (y, t) => cond (Nat.ble (x_sum as) y.2.2.1) (go t 0 (en, y.2.2.2.2.cells, y.2.2.2.2.slots, h, x_args 0 as, [])) none
      | none => none) = some rs := ho
    rw [x_nth_eq, hm] at ho
    obtain ⟨hsz, ho⟩ := x_condS (b := Nat.ble (x_sum as) y.2.2.1) (x := go t 0 (en, y.2.2.2.2.cells, y.2.2.2.2.slots, h, x_args 0 as, [])) ho
    have hsz := Nat.le_of_ble_eq_true hsz
    obtain ⟨hpl, htab⟩ := hM mi y t hm
    refine Met.ofW (cc := y.2.1) (maxL := y.2.2.1) (ret := y.2.2.2.1) hpl rfl ?_
    intro p e s m args below meth c s₁ B hml hv
    obtain ⟨rfl, hG, hX, hK⟩ := hv
    have hts := atoms_spec (ws := xWs y) B.pre
    have hlen : (lg_sl vs).length ≤ y.2.2.1 := by rw [x_sl_len, x_sum_den dvs]; exact hsz
    rw [lg_entry_eq]
    refine hgo (xMu y) t htab p e s m vs.toArray below meth c _ _ ⟨B.exec, B.bytes, hml, findClass_of_methodNamed B.named, fun w hw => hts w (List.mem_cons_of_mem _ hw), B.returns, B.notSynchronized, (name_of_methodNamed B.named B.method).1, rfl⟩ 0 _ rs ho s.heap [] 0 0 _ [] ⟨je, by show 0 + _ ≤ _; rw [Nat.zero_add]; exact Nat.le_refl _, by show 0 + _ ≤ _; rw [Nat.zero_add]; exact Nat.le_refl _, hG, ⟨_, lv_entry vs hlen, x_args_den dvs⟩, trivial, hX, (fun q h => absurd h List.not_mem_nil), hK⟩ ?_
    intro r hr H locs cells slots pc ls ov g1 g2 g3 g4 g5 g6 g7 g8
    refine W.widen (k := y.2.2.2.2.cells) (n := y.2.2.2.2.slots) g2 g3 ?_
    have hq : ∀ t : State, t.heap = H → s.WarmedH t.vm → xQc P rs vs.toArray s (.returned ov) t := fun t ht hW => ⟨r, hr, g1, ⟨ov, g7, rfl⟩, by rw [ht]; exact g4.moved hW.alike, fun q hq => by rw [ht]; exact g5.2.2.2.2.2 q hq⟩
    match ov, g8, hq with
    | none, g8, hq => exact W.vret B.exec B.bytes (B.returns.trans g8.2) hq g6 g8.1 (hlocks := B.notSynchronized)
    | some (.int x), ⟨g8, ty, h1, h2⟩, hq => exact W.zret B.exec B.bytes (B.returns.trans h1) h2 hq g6 g8 (hlocks := B.notSynchronized)
    | some (.long x), g8, hq => exact W.lret B.exec B.bytes (B.returns.trans g8.2) hq g6 g8.1 (hlocks := B.notSynchronized)
  intro n
  induction n with
  | zero => exact ⟨(fun μ t _ p e s m args below meth c R Q _ pc st rs h => (by cases h)), step (x_run M 0) (fun μ t _ p e s m args below meth c R Q _ pc st rs h => (by cases h))⟩
  | succ n ih =>
    have main : ∀ (μ : xM) (t : xT), xTabOK l P M μ t → ∀ (p : Program) (e : Env) (s : State) (m : MethodId) (args : Array Value) (below : List Frame) (meth : Method) (c : Code) (R : Room) (Q : State → Prop), xCx μ p s m args meth c R → ∀ (pc : Nat) (st : xS) (rs : List xR), x_run M (n + 1) t pc st = some rs → ∀ (H : Heap) (locs : List Loc) (cells slots : Nat) (ls : Array Slot) (stk : List Value), xJ P μ.2.2.1 R s st H locs cells slots ls stk → (∀ r ∈ rs, xKR P μ p l e R s m args below meth c Q r) → W p l e R s m args below meth c H locs cells slots Q (F0 m pc ls stk) := by
      intro μ t ht p e s m args below meth c R Q C pc st rs h H locs cells slots ls stk J K
      have h : x_step M (x_run M n) t pc st = some rs := h
      unfold x_step at h
      match hat : x_at t pc, h with
      | some ri, h =>
        have h : (match ri (x_in (x_run M n) M) st with
          | some os => x_gath (x_cont (x_run M n t)) os
          | none => none) = some rs := h
        match hri : ri (x_in (x_run M n) M) st, h with
        | some os, h =>
          refine ht pc ri hat p e s m args below meth c R Q C _ ih.2 st os hri H locs cells slots ls stk J (fun o ho => ?_)
          obtain ⟨rs', h1, h2⟩ := x_gath_mem h o ho
          match o, h1 with
          | .inl r, h1 =>
            have h1 : some [r] = some rs' := h1
            cases h1
            exact K r (h2 r (x_mem1 _))
          | .inr q, h1 =>
            intro H locs cells slots ls stk J
            exact ih.1 μ t ht p e s m args below meth c R Q C q.1 q.2 rs' h1 H locs cells slots ls stk J (fun r hr => K r (h2 r hr))
    exact ⟨main, step _ main⟩
end
section
/-! System.arraycopy; several steps at once -/
section COPY
variable {p : Program} {l : Launch} {e : Env} {R : Room} {s : State} {m : MethodId} {args : Array Value} {below : List Frame} {meth : Method} {c : Code} {H : Heap} {locs : List Loc} {cells slots : Nat} {Q : State → Prop}
variable {cc : ByteArray} {pc : Nat} {ls : Array Slot} {rest : List Value}
/-- the native copy, of arrays of values that mk makes -/
theorem x_copyW {α : Type} (mk : α → Value) (hexec : p.tables.exec = Jvm.exec) (hb : c.code = cc) (hml : c.maxLocals = ls.size) {own : String} {index : Nat} (hown : s.vm.findClass own = some m.cls) (hlink : (Cond.methodLink own index arraycopyName).before args s = true) (hnat : (Cond.native arraycopyName).before args s = true) (hstat : (Cond.static arraycopyName).before args s = true) (hini : (Cond.initialized "java/lang/System").before args s = true)
    {a0 a : Nat} {c0 c1 : ClassId} {n0 n1 : Nat} {f g : Nat → α} {ty : FieldType} (hc0 : H[a0]? = some (arrV c0 n0 (fun j => mk (f j)))) (hc1 : H[a]? = some (arrV c1 n1 (fun j => mk (g j)))) (ht0 : ArrOfT s c0 ty) (ht1 : ArrOfT s c1 ty) (hprim : refKind ty = false)
    {sp dp n : Int32} (h1 : ¬ sp < 0) (h2 : ¬ dp < 0) (h3 : ¬ n < 0) (h4 : sp.toNatClampNeg + n.toNatClampNeg ≤ n0) (h5 : dp.toNatClampNeg + n.toNatClampNeg ≤ n1) (hfit : ∀ x : α, fits ty (mk x) = true) (hnr : ∀ x : α, match mk x with
      | .ref _ => False
      | _ => True)
    (hframes : 1 ≤ R.frames) (hlocals : (rest.map fun v => v.category).sum + (nativeFrameWords "java/lang/System" "arraycopy" 5 + 11) ≤ R.locals) (hdg : decode cc pc = .ok (.invokestatic index, 3))
    (kk : ∀ (H1 : Heap) (L1 : List Loc), H1[a]? = some (arrV c1 n1 (fun j => mk (va_cpy f g sp.toNatClampNeg dp.toNatClampNeg n.toNatClampNeg j))) → H1.size = H.size → (∀ q : Nat, q ≠ a → H1[q]? = H[q]?) → (∀ q ∈ L1, q.base = a) → W p l e R s m args below meth c H1 (locs ++ L1) cells slots Q (F0 m (pc + 3) ls rest)) : W p l e R s m args below meth c H locs cells slots Q (F0 m pc ls (.int n :: .int dp :: .ref a :: .int sp :: .ref a0 :: rest)) := by
  have nn : ∀ z : Int32, ¬ z < 0 → z.toInt = (z.toNatClampNeg : Int) := by
    intro z hz
    have hz0 : (0 : Int) ≤ z.toInt := by
      have := Int32.not_lt.mp hz
      simpa using Int32.le_iff_toInt_le.mp this
    show z.toInt = ((z.toInt.toNat : Nat) : Int)
    omega
  intro T hT X
  obtain ⟨-, k0, hk0, cm0, hkk0⟩ := ht0 n0 (fun j => mk (f j))
  obtain ⟨-, k1, hk1, cm1, hkk1⟩ := ht1 n1 (fun j => mk (g j))
  obtain ⟨vm', X', step⟩ := X.arraycopy hexec hown hlink hnat hstat hini (src := a0) (dst := a) (cs := arrV c0 n0 (fun j => mk (f j))) (cd := arrV c1 n1 (fun j => mk (g j))) (srcPos := sp) (destPos := dp) (n := n) (by rw [hT]; exact hc0) (by rw [hT]; exact hc1)
    (fun _ h => by cases h) (fun _ h => by cases h) (fun h => by cases h) (fun h => by cases h) hk0 hk1 hkk0 hkk1 (by simp [hprim]) h1 h2 h3
    (by rw [nn sp h1, nn n h3, arrV_size]; omega)
    (by rw [nn dp h2, nn n h3, arrV_size]; omega)
    (fun vm₁ _ i hi => by
      have e : (arrV c0 n0 (fun j => mk (f j))).slots.getD (sp.toNatClampNeg + i) .null = mk (f (sp.toNatClampNeg + i)) := by
        rw [Array.getD_eq_getD_getElem?, arrV_read _ _ (by omega)]
        rfl
      refine ⟨?_, ?_⟩
      · rw [e]
        exact hfit _
      · rw [e]
        have := hnr (f (sp.toNatClampNeg + i))
        revert this
        cases mk (f (sp.toNatClampNeg + i)) <;> intro h <;> first | exact trivial | exact h.elim)
    (g := F0 m pc ls (.int n :: .int dp :: .ref a :: .int sp :: .ref a0 :: rest)) rfl (by rw [hml]) (rest := rest) rfl (by rw [hb]; exact hdg) hframes (by show 2 * 0 + _ + _ ≤ _; omega)
  have e1 : copied (arrV c0 n0 (fun j => mk (f j))) (arrV c1 n1 (fun j => mk (g j))) sp dp n = arrV c1 n1 (fun j => mk (va_cpy f g sp.toNatClampNeg dp.toNatClampNeg n.toNatClampNeg j)) := va_copied mk c0 c1 f g h4
  rw [e1] at X' step
  have hl : a < H.size := (Array.getElem?_eq_some_iff.mp hc1).1
  obtain ⟨t, a1, b1⟩ := kk (H.setIfInBounds a (arrV c1 n1 (fun j => mk (va_cpy f g sp.toNatClampNeg dp.toNatClampNeg n.toNatClampNeg j)))) _ (by simp [Array.getElem?_setIfInBounds, hl]) (by simp) (fun q hq => by simp [Array.getElem?_setIfInBounds, Ne.symm hq]) (fun q hq => by
    obtain ⟨z, -, hz⟩ := List.mem_map.mp hq
    rw [← hz]) _ (by rw [← hT]; rfl) X'
  exact ⟨t, step t a1, b1⟩
end COPY
section STEPS6
variable {l : Launch} {P : xP} {M : List (xY × xT)} {μ : xM} {pc : Nat}

end STEPS6
/-! several steps at once: no fork, no return -/
noncomputable def x_go (M : List (xY × xT)) (N : Nat) (k : Nat) : xT → Nat → xS → Option (Nat × xS) := Nat.rec (motive := fun _ => xT → Nat → xS → Option (Nat × xS)) (fun _ pc st => some (pc, st)) (fun _ ih t pc st => match x_at t pc with
  | some ri => match ri (x_in (x_run M N) M) st with
    | some [.inr q] => ih t q.1 q.2
    | _ => none
  | none => none) k
theorem x_go_sound {l : Launch} {P : xP} {M : List (xY × xT)} (hM : xMok l P M) (N : Nat) {μ : xM} {t : xT} (ht : xTabOK l P M μ t) {p : Program} {e : Env} {s : State} {m : MethodId} {args : Array Value} {below : List Frame} {meth : Method} {c : Code} {R : Room} {Q : State → Prop} (C : xCx μ p s m args meth c R) {pc' : Nat} {st' : xS} (kk : ∀ (H : Heap) (locs : List Loc) (cells slots : Nat) (ls : Array Slot) (stk : List Value), xJ P μ.2.2.1 R s st' H locs cells slots ls stk → W p l e R s m args below meth c H locs cells slots Q (F0 m pc' ls stk)) : ∀ (k pc : Nat) (st : xS), x_go M N k t pc st = some (pc', st') → ∀ (H : Heap) (locs : List Loc) (cells slots : Nat) (ls : Array Slot) (stk : List Value), xJ P μ.2.2.1 R s st H locs cells slots ls stk → W p l e R s m args below meth c H locs cells slots Q (F0 m pc ls stk) := by
  intro k
  induction k with
  | zero =>
    intro pc st h
    have h : some (pc, st) = some (pc', st') := h
    cases h
    exact kk
  | succ k ih =>
    intro pc st h H locs cells slots ls stk J
    have h : (match x_at t pc with
      | some ri => match ri (x_in (x_run M N) M) st with
        | some [.inr q] => x_go M N k t q.1 q.2
        | _ => none
      | none => none) = some (pc', st') := h
    match hat : x_at t pc, h with
    | some ri, h =>
      have h : (match ri (x_in (x_run M N) M) st with
        | some [.inr q] => x_go M N k t q.1 q.2
        | _ => none) = some (pc', st') := h
      match hri : ri (x_in (x_run M N) M) st, h with
      | some [.inr q], h =>
        refine ht pc ri hat p e s m args below meth c R Q C _ (x_sound hM N).2 st _ hri H locs cells slots ls stk J (fun o ho => ?_)
        rw [List.mem_singleton.mp ho]
        intro H locs cells slots ls stk J
        exact ih q.1 q.2 h H locs cells slots ls stk J
end
section
/-! THE CONCRETE MACHINE (z): what the calls do, as arithmetic on whole numbers over a heap of one shape -/
-- a value: (0, z) an int; (1, z) a long; (2, k) the k-th cell; (3, j) the j-th array from outside; (4, _) null
abbrev zV : Type := Nat × Int
abbrev zH : Type := Nat → Nat → zV
abbrev zL : Type := Nat → Option zV
abbrev zS : Type := zH × zL × List zV
abbrev zR : Type := zH × Option zV
-- what a step does: returns; goes on; or calls (the method, its arguments, then where it goes on, with what)
abbrev zO : Type := zR ⊕ ((Nat × zS) ⊕ (Nat × List zV × Nat × zS))
-- an instruction: kind, where it goes on, two numbers, a whole number, a switch's cases
abbrev zX : Type := Nat × Nat × Nat × Nat × Int × List (Int × Nat)
abbrev zC : Type := (FieldType × Nat) ⊕ (Nat × Nat)
-- the script: its length, its numbers
abbrev zD : Type := Nat × (Nat → Int)
def zShape : List zC := [
  .inr (11, 20), .inl ((.object "BreadMap$Tray"), 4), .inr (9, 3), .inl (.long, 60), .inr (9, 3), .inl (.long, 60), .inr (9, 3), .inl (.long, 60),
  .inr (9, 3), .inl (.long, 60), .inr (8, 11), .inl (.byte, 900), .inl (.int, 901), .inl (.int, 901), .inl (.int, 901), .inl (.int, 901),
  .inr (3, 3), .inr (6, 5), .inr (5, 6), .inl (.int, 60), .inl (.int, 60), .inl (.int, 60), .inl (.int, 60), .inl (.int, 3),
  .inr (2, 15), .inl (.int, 48), .inl (.int, 48), .inl (.int, 144), .inl (.long, 6), .inl (.int, 6), .inl (.int, 6), .inl (.int, 6),
  .inl (.int, 6), .inl (.int, 6), .inr (5, 6), .inl (.int, 60), .inl (.int, 60), .inl (.int, 60), .inl (.int, 60), .inr (2, 15),
  .inl (.int, 48), .inl (.int, 48), .inl (.int, 144), .inl (.long, 6), .inl (.int, 6), .inl (.int, 6), .inl (.int, 6), .inl (.int, 6),
  .inl (.int, 6), .inr (5, 6), .inl (.int, 60), .inl (.int, 60), .inl (.int, 60), .inl (.int, 60), .inl ((.object "BreadMap$Land"), 3), .inr (2, 15),
  .inl (.int, 48), .inl (.int, 48), .inl (.int, 144), .inl (.long, 6), .inl (.int, 6), .inl (.int, 6), .inl (.int, 6), .inl (.int, 6),
  .inl (.int, 6), .inr (5, 6), .inl (.int, 60), .inl (.int, 60), .inl (.int, 60), .inl (.int, 60), .inr (2, 15), .inl (.int, 48),
  .inl (.int, 48), .inl (.int, 144), .inl (.long, 6), .inl (.int, 6), .inl (.int, 6), .inl (.int, 6), .inl (.int, 6), .inl (.int, 6),
  .inr (5, 6), .inl (.int, 60), .inl (.int, 60), .inl (.int, 60), .inl (.int, 60), .inr (2, 15), .inl (.int, 48), .inl (.int, 48),
  .inl (.int, 144), .inl (.long, 6), .inl (.int, 6), .inl (.int, 6), .inl (.int, 6), .inl (.int, 6), .inl (.int, 6), .inr (5, 6),
  .inl (.int, 60), .inl (.int, 60), .inl (.int, 60), .inl (.int, 60), .inr (10, 9), .inl (.int, 48), .inl (.int, 48), .inl (.int, 64),
  .inl (.int, 48), .inr (1, 11), .inl (.int, 6), .inl (.long, 6), .inl (.int, 288), .inl (.long, 288), .inr (0, 9), .inl (.int, 48),
  .inl (.int, 96), .inl (.int, 96), .inr (4, 2), .inl (.long, 48), .inl (.long, 48), .inr (7, 12), .inl (.int, 60), .inl (.int, 48),
  .inl (.int, 4), .inr (12, 48), .inl (.int, 4), .inl (.int, 4), .inl (.long, 240), .inl (.byte, 900), .inl (.int, 2750), .inl (.int, 275),
  .inl (.long, 30), .inl (.boolean, 48), .inl (.int, 48), .inl (.int, 49), .inl (.int, 49), .inl (.int, 4), .inl (.long, 48), .inl (.long, 48),
  .inl (.int, 4)]
def zTx (j : Nat) : List Int := match j with
  | 1 => [0, -1, 1, -2, 2]
  | 2 => [2, 1, 4, 5, 3]
  | 3 => [119, 105, 100, 101, 32, 114, 111, 119, 32, 114, 105, 115, 101, 32, 98, 121, 32, 99, 111, 112, 105, 101, 115, 32, 99, 111, 109, 112, 97, 110, 121, 32, 97, 116, 32, 116, 111, 32, 98, 105, 116, 101, 32, 109, 111, 117, 108, 100, 32, 104, 111, 110, 101, 121, 32, 115, 116, 101, 97, 109, 32, 109, 111, 117, 115, 101, 32, 109, 97, 114, 99, 104, 32, 104, 111, 109, 101, 32, 119, 104, 101, 110, 32, 101, 97, 116, 101, 110, 32, 97, 114, 114, 105, 118, 101, 115, 32, 99, 114, 117, 109, 98, 115, 32, 108, 111, 111, 112, 32, 101, 110, 100, 32, 115, 116, 111, 112, 32]
  | 4 => [112, 114, 104, 119, 102]
  | _ => []
def zlen (D : zD) (j : Nat) : Nat := match j with
  | 0 => D.1
  | j => (zTx j).length
def zat (D : zD) (j i : Nat) : Int := match j with
  | 0 => D.2 i
  | j => (zTx j).getD i 0
def zkind (v : zV) : Nat := if v.1 = 3 then 2 else v.1
def zcat (v : zV) : Nat := if v.1 = 1 then 2 else 1
def zsum : List zV → Nat
  | [] => 0
  | v :: t => zcat v + zsum t
def zput1 (L : zL) (i : Nat) (v : zV) : zL := fun k => if k = i then some v else match L k with
  | some w => if k + 1 = i ∧ zcat w = 2 then none else some w
  | none => none
def zput2 (L : zL) (i : Nat) (v : zV) : zL := fun k => if k = i then some v else if k = i + 1 then none else match L k with
  | some w => if k + 1 = i ∧ zcat w = 2 then none else some w
  | none => none
-- types by number: 0 int, 1 long, 2 byte, 3 boolean, 4 references
def zcode (ty : FieldType) : Nat := match ty with
  | .int => 0
  | .long => 1
  | .byte => 2
  | .boolean => 3
  | .object _ => 4
  | _ => 9
def zfit (c : Nat) (v : zV) : Bool := match c with
  | 0 => decide (v.1 = 0)
  | 1 => decide (v.1 = 1)
  | 2 => decide (v.1 = 0) && (decide (-128 ≤ v.2) && decide (v.2 ≤ 127))
  | 3 => decide (v.1 = 0) && (decide (0 ≤ v.2) && decide (v.2 ≤ 1))
  | 4 => decide (zkind v = 2)
  | _ => false
def zset (h : zH) (k j : Nat) (v : zV) : zH := fun a b => if a = k ∧ b = j then v else h a b
def zf32 (b : Nat) : Int32 → Int32 → Int32 := match b with
  | 0 => fun x y => x + y
  | 1 => fun x y => x - y
  | 2 => fun x y => x * y
  | 3 => fun x y => x &&& y
  | 4 => fun x y => x ||| y
  | 5 => fun x y => x ^^^ y
  | 6 => fun x y => x <<< (y &&& 31)
  | 7 => fun x y => x >>> (y &&& 31)
  | _ => fun x y => (x.toUInt32 >>> (y.toUInt32 &&& Int32.toUInt32 31)).toInt32
def zd32 (b : Nat) : Int32 → Int32 → Int32 := match b with
  | 0 => fun x y => x / y
  | _ => fun x y => x - x / y * y
def zu32 (b : Nat) : Int32 → Int32 := match b with
  | 0 => fun x => -x
  | 1 => fun x => x.toInt8.toInt32
  | _ => fun x => x.toInt16.toInt32
def zf64 (b : Nat) : Int64 → Int64 → Int64 := match b with
  | 0 => fun x y => x + y
  | 1 => fun x y => x - y
  | 2 => fun x y => x * y
  | 3 => fun x y => x &&& y
  | 4 => fun x y => x ||| y
  | _ => fun x y => x ^^^ y
def zd64 (b : Nat) : Int64 → Int64 → Int64 := match b with
  | 0 => fun x y => x / y
  | _ => fun x y => x - x / y * y
def zs64 (b : Nat) : Int64 → Int32 → Int64 := match b with
  | 0 => fun x y => x <<< (y.toInt64 &&& 63)
  | _ => fun x y => (x.toUInt64 >>> (y.toInt64.toUInt64 &&& Int64.toUInt64 63)).toInt64
def zm32 (b : Nat) (x y : Int) : Int := match b with
  | 0 => if x < y then y else x
  | _ => if y < x then y else x
def zrel (b : Nat) (x y : Int) : Bool := match b with
  | 0 => decide (x < y)
  | 1 => decide (y < x)
  | _ => decide (x = y)
def znx (nx : Nat) (st : zS) : Option zO := some (.inr (.inl (nx, st)))
def z_push (nx t : Nat) (z : Int) (st : zS) : Option zO := znx nx (st.1, st.2.1, (t, z) :: st.2.2)
def z_load (nx i t : Nat) (st : zS) : Option zO := match st.2.1 i with
  | some v => if zkind v = t then znx nx (st.1, st.2.1, v :: st.2.2) else none
  | none => none
def z_store1 (nx i t : Nat) (st : zS) : Option zO := match st.2.2 with
  | v :: S => if zkind v = t ∧ t ≠ 1 then znx nx (st.1, zput1 st.2.1 i v, S) else none
  | _ => none
def z_store2 (nx i : Nat) (st : zS) : Option zO := match st.2.2 with
  | (1, z) :: S => znx nx (st.1, zput2 st.2.1 i (1, z), S)
  | _ => none
def z_iinc (nx i : Nat) (z : Int) (st : zS) : Option zO := match st.2.1 i with
  | some (0, x) => znx nx (st.1, zput1 st.2.1 i (0, (Int32.ofInt x + Int32.ofInt z).toInt), st.2.2)
  | _ => none
def z_un32 (nx b : Nat) (st : zS) : Option zO := match st.2.2 with
  | (0, x) :: S => znx nx (st.1, st.2.1, (0, (zu32 b (Int32.ofInt x)).toInt) :: S)
  | _ => none
def z_bin32 (nx b : Nat) (st : zS) : Option zO := match st.2.2 with
  | (0, y) :: (0, x) :: S => znx nx (st.1, st.2.1, (0, (zf32 b (Int32.ofInt x) (Int32.ofInt y)).toInt) :: S)
  | _ => none
def z_div32 (nx b : Nat) (st : zS) : Option zO := match st.2.2 with
  | (0, y) :: (0, x) :: S => if y = 0 then none else znx nx (st.1, st.2.1, (0, (zd32 b (Int32.ofInt x) (Int32.ofInt y)).toInt) :: S)
  | _ => none
def z_neg64 (nx : Nat) (st : zS) : Option zO := match st.2.2 with
  | (1, x) :: S => znx nx (st.1, st.2.1, (1, (-Int64.ofInt x).toInt) :: S)
  | _ => none
def z_bin64 (nx b : Nat) (st : zS) : Option zO := match st.2.2 with
  | (1, y) :: (1, x) :: S => znx nx (st.1, st.2.1, (1, (zf64 b (Int64.ofInt x) (Int64.ofInt y)).toInt) :: S)
  | _ => none
def z_div64 (nx b : Nat) (st : zS) : Option zO := match st.2.2 with
  | (1, y) :: (1, x) :: S => if y = 0 then none else znx nx (st.1, st.2.1, (1, (zd64 b (Int64.ofInt x) (Int64.ofInt y)).toInt) :: S)
  | _ => none
def z_sh64 (nx b : Nat) (st : zS) : Option zO := match st.2.2 with
  | (0, y) :: (1, x) :: S => znx nx (st.1, st.2.1, (1, (zs64 b (Int64.ofInt x) (Int32.ofInt y)).toInt) :: S)
  | _ => none
def z_i2l (nx : Nat) (st : zS) : Option zO := match st.2.2 with
  | (0, x) :: S => znx nx (st.1, st.2.1, (1, x) :: S)
  | _ => none
def z_l2i (nx : Nat) (st : zS) : Option zO := match st.2.2 with
  | (1, x) :: S => znx nx (st.1, st.2.1, (0, (Int64.ofInt x).toInt32.toInt) :: S)
  | _ => none
def z_lcmp (nx : Nat) (st : zS) : Option zO := match st.2.2 with
  | (1, y) :: (1, x) :: S => znx nx (st.1, st.2.1, (0, if y < x then 1 else if x = y then 0 else -1) :: S)
  | _ => none
-- b: 0 pop, 1 pop2 of a long, 2 dup, 3 dup2 of two, 4 dup2 of a long
def z_stk (nx b : Nat) (st : zS) : Option zO := match b, st.2.2 with
  | 0, v :: S => if zcat v = 1 then znx nx (st.1, st.2.1, S) else none
  | 1, v :: S => if zcat v = 2 then znx nx (st.1, st.2.1, S) else none
  | 2, v :: S => if zcat v = 1 then znx nx (st.1, st.2.1, v :: v :: S) else none
  | 3, v :: w :: S => if zcat v = 1 ∧ zcat w = 1 then znx nx (st.1, st.2.1, v :: w :: v :: w :: S) else none
  | 4, v :: S => if zcat v = 2 then znx nx (st.1, st.2.1, v :: v :: S) else none
  | _, _ => none
def z_if (nx a b : Nat) (st : zS) : Option zO := match st.2.2 with
  | (0, x) :: S => znx (if zrel b x 0 then a else nx) (st.1, st.2.1, S)
  | _ => none
def z_icmp (nx a b : Nat) (st : zS) : Option zO := match st.2.2 with
  | (0, y) :: (0, x) :: S => znx (if zrel b x y then a else nx) (st.1, st.2.1, S)
  | _ => none
def zfind (d : Nat) (z : Int) : List (Int × Nat) → Nat
  | [] => d
  | q :: cs => if z = q.1 then q.2 else zfind d z cs
def z_sw (nx : Nat) (cs : List (Int × Nat)) (st : zS) : Option zO := match st.2.2 with
  | (0, x) :: S => znx (zfind nx x cs) (st.1, st.2.1, S)
  | _ => none
def zisO (ci : Nat) (r : Int) : Bool := match zShape[r.toNat]? with
  | some (.inr q) => q.1 == ci
  | _ => false
def z_getf (nx ci k : Nat) (st : zS) : Option zO := match st.2.2 with
  | (2, r) :: S => if zisO ci r then znx nx (st.1, st.2.1, st.1 r.toNat k :: S) else none
  | _ => none
def z_putf (nx ci k : Nat) (c : Int) (st : zS) : Option zO := match st.2.2 with
  | v :: (2, r) :: S => if zisO ci r ∧ zfit c.toNat v then znx nx (zset st.1 r.toNat k v, st.2.1, S) else none
  | _ => none
def zarr (c : Nat) (r i : Int) : Bool := match zShape[r.toNat]? with
  | some (.inl q) => zcode q.1 == c && (decide (0 ≤ i) && decide (i < (q.2 : Int)))
  | _ => false
def z_ald (D : zD) (nx c : Nat) (st : zS) : Option zO := match st.2.2 with
  | (0, i) :: (2, r) :: S => if zarr c r i then znx nx (st.1, st.2.1, st.1 r.toNat i.toNat :: S) else none
  | (0, i) :: (3, j) :: S => if c = 0 ∧ 0 ≤ j ∧ j < 3 ∧ 0 ≤ i ∧ i < (zlen D j.toNat : Int) then znx nx (st.1, st.2.1, (0, zat D j.toNat i.toNat) :: S) else none
  | _ => none
def z_ast (nx c : Nat) (st : zS) : Option zO := match st.2.2 with
  | v :: (0, i) :: (2, r) :: S => if zarr c r i ∧ zfit c v ∧ c < 4 then znx nx (zset st.1 r.toNat i.toNat v, st.2.1, S) else none
  | _ => none
def z_alen (D : zD) (nx : Nat) (st : zS) : Option zO := match st.2.2 with
  | (2, r) :: S => match zShape[r.toNat]? with
    | some (.inl q) => znx nx (st.1, st.2.1, (0, (q.2 : Int)) :: S)
    | _ => none
  | (3, j) :: S => if 0 ≤ j ∧ j < 3 then znx nx (st.1, st.2.1, (0, (zlen D j.toNat : Int)) :: S) else none
  | _ => none
def z_slen (D : zD) (nx : Nat) (st : zS) : Option zO := match st.2.2 with
  | (3, j) :: S => if (j = 3 ∨ j = 4) ∧ zsum S ≤ 8 then znx nx (st.1, st.2.1, (0, (zlen D j.toNat : Int)) :: S) else none
  | _ => none
def z_char (D : zD) (nx : Nat) (st : zS) : Option zO := match st.2.2 with
  | (0, i) :: (3, j) :: S => if (j = 3 ∨ j = 4) ∧ 0 ≤ i ∧ i < (zlen D j.toNat : Int) ∧ zsum S ≤ 8 then znx nx (st.1, st.2.1, (0, zat D j.toNat i.toNat) :: S) else none
  | _ => none
-- b: 0 max, 1 min of ints; 2 min of longs; 3 abs of a long
def z_math (nx b : Nat) (st : zS) : Option zO := match b, st.2.2 with
  | 0, (0, y) :: (0, x) :: S => if zsum S ≤ 8 then znx nx (st.1, st.2.1, (0, zm32 0 x y) :: S) else none
  | 1, (0, y) :: (0, x) :: S => if zsum S ≤ 8 then znx nx (st.1, st.2.1, (0, zm32 1 x y) :: S) else none
  | 2, (1, y) :: (1, x) :: S => if zsum S ≤ 8 then znx nx (st.1, st.2.1, (1, zm32 1 x y) :: S) else none
  | 3, (1, x) :: S => if zsum S ≤ 8 then znx nx (st.1, st.2.1, (1, if 0 < x then x else (-Int64.ofInt x).toInt) :: S) else none
  | _, _ => none
def zcopy (h : zH) (r0 sp r1 dp n : Nat) : zH := fun a b => if a = r1 ∧ dp ≤ b ∧ b < dp + n then h r0 (sp + (b - dp)) else h a b
def zroom (c : Nat) (r i n : Int) : Bool := match zShape[r.toNat]? with
  | some (.inl q) => zcode q.1 == c && (decide (0 ≤ i) && (decide (0 ≤ n) && decide (i + n ≤ (q.2 : Int))))
  | _ => false
def z_copy (nx c : Nat) (st : zS) : Option zO := match st.2.2 with
  | (0, n) :: (0, dp) :: (2, r1) :: (0, sp) :: (2, r0) :: S => if zroom c r0 sp n ∧ zroom c r1 dp n ∧ zsum S ≤ 8 ∧ c < 2 then znx nx (zcopy st.1 r0.toNat sp.toNat r1.toNat dp.toNat n.toNat, st.2.1, S) else none
  | _ => none
def ztake : Nat → List zV → List zV → Option (List zV × List zV)
  | 0, S, acc => some (acc, S)
  | n + 1, v :: S, acc => ztake n S (v :: acc)
  | _ + 1, [], _ => none
-- c: the receiver's class, or less than 0; w: the callee's locals
def z_call (nx mi n : Nat) (c : Int) (w : Nat) (st : zS) : Option zO := match ztake n st.2.2 [] with
  | some (as, S) => if zsum S ≤ 8 ∧ zsum as ≤ w ∧ (0 ≤ c → (as.head?.any fun v => v.1 == 2 && zisO c.toNat v.2) = true) then some (.inr (.inr (mi, as, nx, (st.1, st.2.1, S)))) else none
  | none => none
-- b: 0 nothing, 1 an int (c its type), 2 a long
def z_ret (b c : Nat) (st : zS) : Option zO := match b, st.2.2 with
  | 0, [] => some (.inl (st.1, none))
  | 1, [v] => if zfit c v ∧ v.1 = 0 then some (.inl (st.1, some v)) else none
  | 2, [v] => if v.1 = 1 then some (.inl (st.1, some v)) else none
  | _, _ => none
def zi (D : zD) (i : zX) (st : zS) : Option zO := match i with
  | (0, nx, a, _, z, _) => z_push nx a z st
  | (1, nx, _, _, _, _) => znx nx st
  | (2, nx, a, b, _, _) => z_load nx a b st
  | (3, nx, a, b, _, _) => z_store1 nx a b st
  | (4, nx, a, _, _, _) => z_store2 nx a st
  | (5, nx, a, _, z, _) => z_iinc nx a z st
  | (6, nx, _, b, _, _) => z_un32 nx b st
  | (7, nx, _, b, _, _) => z_bin32 nx b st
  | (8, nx, _, b, _, _) => z_div32 nx b st
  | (9, nx, _, _, _, _) => z_neg64 nx st
  | (10, nx, _, b, _, _) => z_bin64 nx b st
  | (11, nx, _, b, _, _) => z_div64 nx b st
  | (12, nx, _, b, _, _) => z_sh64 nx b st
  | (13, nx, _, _, _, _) => z_i2l nx st
  | (14, nx, _, _, _, _) => z_l2i nx st
  | (15, nx, _, b, _, _) => z_stk nx b st
  | (16, nx, a, b, _, _) => z_if nx a b st
  | (17, nx, a, b, _, _) => z_icmp nx a b st
  | (18, nx, _, _, _, _) => z_lcmp nx st
  | (19, nx, _, _, _, cs) => z_sw nx cs st
  | (20, nx, a, b, _, _) => z_getf nx a b st
  | (21, nx, a, b, z, _) => z_putf nx a b z st
  | (22, nx, a, _, _, _) => z_ald D nx a st
  | (23, nx, a, _, _, _) => z_ast nx a st
  | (24, nx, _, _, _, _) => z_alen D nx st
  | (25, nx, _, _, _, _) => z_slen D nx st
  | (26, nx, _, _, _, _) => z_char D nx st
  | (27, nx, _, b, _, _) => z_math nx b st
  | (28, nx, a, _, _, _) => z_copy nx a st
  | (29, nx, a, b, z, cs) => z_call nx a b z (cs.head?.elim 0 (fun q => q.2)) st
  | (30, _, a, b, _, _) => z_ret b a st
  | _ => none
/-! runs: the least relation that the steps close; d: how deep calls may still go -/
abbrev zT : Type := Nat → Nat → Option zX
def zargs (i : Nat) : List zV → zL
  | [] => fun _ => none
  | v :: vs => fun k => if k = i then some v else zargs (if zcat v = 2 then i + 2 else i + 1) vs k
def zpush (v : Option zV) (S : List zV) : List zV := match v with
  | none => S
  | some v => v :: S
def zF (D : zD) (T : zT) (R : Nat → Nat → Nat → zS → zR → Prop) (d mi pc : Nat) (st : zS) (r : zR) : Prop :=
  ∃ i, T mi pc = some i ∧ match zi D i st with
    | none => False
    | some (.inl q) => r = q
    | some (.inr (.inl q)) => R d mi q.1 q.2 r
    | some (.inr (.inr q)) => ∃ d' r1, d = d' + 1 ∧ R d' q.1 0 (q.2.2.2.1, zargs 0 q.2.1, []) r1 ∧ R d mi q.2.2.1 (r1.1, q.2.2.2.2.1, zpush r1.2 q.2.2.2.2.2) r
def zRun (D : zD) (T : zT) (d mi pc : Nat) (st : zS) (r : zR) : Prop := ∀ R : Nat → Nat → Nat → zS → zR → Prop, (∀ d mi pc st r, zF D T R d mi pc st r → R d mi pc st r) → R d mi pc st r
theorem zF.mono {D : zD} {T : zT} {R R' : Nat → Nat → Nat → zS → zR → Prop} (h : ∀ d mi pc st r, R d mi pc st r → R' d mi pc st r) {d mi pc : Nat} {st : zS} {r : zR} (hF : zF D T R d mi pc st r) : zF D T R' d mi pc st r := by
  obtain ⟨i, hi, hF⟩ := hF
  refine ⟨i, hi, ?_⟩
  cases hz : zi D i st with
  | none => rw [hz] at hF; exact hF
  | some o =>
    rw [hz] at hF
    match o, hF with
    | .inl q, hF => exact hF
    | .inr (.inl q), hF => exact h _ _ _ _ _ hF
    | .inr (.inr q), ⟨d', r1, h1, h2, h3⟩ => exact ⟨d', r1, h1, h _ _ _ _ _ h2, h _ _ _ _ _ h3⟩
theorem zRun.intro {D : zD} {T : zT} {d mi pc : Nat} {st : zS} {r : zR} (h : zF D T (zRun D T) d mi pc st r) : zRun D T d mi pc st r := by
  intro R hR
  exact hR _ _ _ _ _ (h.mono fun d mi pc st r hq => hq R hR)
theorem zRun.step {D : zD} {T : zT} {d mi pc : Nat} {st : zS} {r : zR} {i : zX} {pc' : Nat} {st' : zS} (hi : T mi pc = some i) (hz : zi D i st = some (.inr (.inl (pc', st')))) (h : zRun D T d mi pc' st' r) : zRun D T d mi pc st r := zRun.intro ⟨i, hi, by rw [hz]; exact h⟩
theorem zRun.ret {D : zD} {T : zT} {d mi pc : Nat} {st : zS} {r : zR} {i : zX} (hi : T mi pc = some i) (hz : zi D i st = some (.inl r)) : zRun D T d mi pc st r := zRun.intro ⟨i, hi, by rw [hz]⟩
theorem zRun.call {D : zD} {T : zT} {d mi pc : Nat} {st : zS} {r r1 : zR} {i : zX} {mj nx : Nat} {as : List zV} {h : zH} {L : zL} {S : List zV} (hi : T mi pc = some i) (hz : zi D i st = some (.inr (.inr (mj, as, nx, (h, L, S))))) (h1 : zRun D T d mj 0 (h, zargs 0 as, []) r1) (h2 : zRun D T (d + 1) mi nx (r1.1, L, zpush r1.2 S) r) : zRun D T (d + 1) mi pc st r := zRun.intro ⟨i, hi, by rw [hz]; exact ⟨d, r1, rfl, h1, h2⟩⟩
theorem zRun.deeper {D : zD} {T : zT} {d mi pc : Nat} {st : zS} {r : zR} (h : zRun D T d mi pc st r) : ∀ d', d ≤ d' → zRun D T d' mi pc st r := by
  refine h (fun d mi pc st r => ∀ d', d ≤ d' → zRun D T d' mi pc st r) ?_
  intro d mi pc st r ⟨i, hi, hF⟩ d' hd
  refine zRun.intro ⟨i, hi, ?_⟩
  cases hz : zi D i st with
  | none => rw [hz] at hF; exact hF
  | some o =>
    rw [hz] at hF
    match o, hF with
    | .inl q, hF => exact hF
    | .inr (.inl q), hF => exact hF _ hd
    | .inr (.inr q), ⟨e, r1, h1, h2, h3⟩ =>
      obtain ⟨f, rfl⟩ : ∃ f, d' = f + 1 := ⟨d' - 1, by omega⟩
      exact ⟨f, r1, rfl, h2 _ (by omega), h3 _ hd⟩
end
section
/-! WHAT THE CONCRETE MACHINE'S STATES MEAN; what it is for a step to hold of the Java machine -/
-- the base; the arrays from outside; the classes' numbers and slots; the script's length and numbers
abbrev zP : Type := Nat × (Nat → Nat) × va_G × Nat × (Nat → Int32)
def zPD (P : zP) : zD := (P.2.2.2.1, fun i => (P.2.2.2.2 i).toInt)
def zden (P : zP) (a : zV) (v : Value) : Prop := match a with
  | (0, z) => ∃ x : Int32, v = .int x ∧ x.toInt = z
  | (1, z) => ∃ x : Int64, v = .long x ∧ x.toInt = z
  | (2, k) => v = .ref (P.1 + k.toNat)
  | (3, j) => v = .ref (P.2.1 j.toNat)
  | (4, _) => v = .null
  | _ => False
def zdens (P : zP) : List zV → List Value → Prop
  | [], [] => True
  | a :: as, v :: vs => zden P a v ∧ zdens P as vs
  | _, _ => False
def zldens (P : zP) (L : zL) (lv : List (Nat × Value)) : Prop := ∀ k w, L k = some w → ∃ V, (k, V) ∈ lv ∧ zden P w V
def zdenO (P : zP) (a : Option zV) (v : Option Value) : Prop := match a, v with
  | none, none => True
  | some a, some v => zden P a v
  | _, _ => False
def zarrD (P : zP) (ty : FieldType) (g : Nat → zV) (n : Nat) (X : (Nat → Int32) ⊕ (Nat → Int64) ⊕ (Nat → UInt32) ⊕ (Nat → UInt64) ⊕ (Nat → Option Nat)) : Prop := match X with
  | .inl f => (ty = .int ∨ ty = .byte ∨ ty = .boolean) ∧ ∀ j, j < n → zden P (g j) (.int (f j))
  | .inr (.inl f) => ty = .long ∧ ∀ j, j < n → zden P (g j) (.long (f j))
  | .inr (.inr (.inr (.inr f))) => (∃ C, ty = .object C) ∧ ∀ j, j < n → zden P (g j) (va_rf (f j))
  | _ => False
def zcell (P : zP) (U : State) (c : zC) (g : Nat → zV) (a : Nat) (H : Heap) : Prop := match c with
  | .inl (ty, n) => ∃ (cA : ClassId) (X : vp_A), H[a]? = some (vp_cell cA X) ∧ X.1 = n ∧ zarrD P ty g n X.2 ∧ ArrOfT U cA ty ∧ va_RA U cA ty
  | .inr (ci, n) => ∃ vs : List Value, (∀ j, j < n → ∃ v, vs[j]? = some v ∧ zden P (g j) v) ∧ va_at P.2.2.1 vwCl (a, .inr (ci, vs)) H
def zG (P : zP) (h : zH) (U : State) (H : Heap) : Prop := ∀ k c, zShape[k]? = some c → zcell P U c (h k) (P.1 + k) H
theorem zcell.moved {P : zP} {u U : State} {c : zC} {g : Nat → zV} {a : Nat} {H : Heap} (hvm : u.vm.Alike U.vm) (h : zcell P u c g a H) : zcell P U c g a H := by
  match c, h with
  | .inl (ty, n), ⟨cA, X, h1, h2, h3, h4, h5⟩ => exact ⟨cA, X, h1, h2, h3, arrOfT_moved hvm h4, h5.moved hvm⟩
  | .inr (ci, n), h => exact h
theorem zcell.kept {P : zP} {U : State} {c : zC} {g : Nat → zV} {a : Nat} {H H1 : Heap} (h : zcell P U c g a H) (hq : H1[a]? = H[a]?) : zcell P U c g a H1 := by
  match c, h with
  | .inl (ty, n), ⟨cA, X, h1, h2⟩ => exact ⟨cA, X, hq.trans h1, h2⟩
  | .inr (ci, n), ⟨vs, h1, h2⟩ => exact ⟨vs, h1, h2.kept hq⟩
theorem zG.moved {P : zP} {u U : State} {h : zH} {H : Heap} (hvm : u.vm.Alike U.vm) (g : zG P h u H) : zG P h U H := fun k c hk => (g k c hk).moved hvm
theorem zG.set {P : zP} {U : State} {h : zH} {H H1 : Heap} {r : Nat} {c : zC} {g' : Nat → zV} {h' : zH} (g : zG P h U H) (hr : zShape[r]? = some c) (hc : zcell P U c g' (P.1 + r) H1) (hq : ∀ q : Nat, q ≠ P.1 + r → H1[q]? = H[q]?) (e1 : h' r = g') (e2 : ∀ k, k ≠ r → h' k = h k) : zG P h' U H1 := by
  intro k c' hk
  by_cases e : k = r
  · subst e
    rw [hr] at hk
    cases hk
    rw [e1]
    exact hc
  · rw [e2 k e]
    exact (g k c' hk).kept (hq _ (by omega))
-- the two texts: their places; what lies there
def zLen : List Nat := [(zTx 3).length, (zTx 4).length]
def zByt : List (List Int32) := [(zTx 3).map Int32.ofInt, (zTx 4).map Int32.ofInt]
def zTexts : List (String × Nat × String) := [("BreadMap$Tape", 83, "wide row rise by copies company at to bite mould honey steam mouse march home when eaten arrives crumbs loop end stop "), ("BreadMap$Land", 85, "prhwf")]
def zXS (P : zP) (U : State) (H : Heap) : Prop := (∃ adV : Nat → Nat, vk_S 2 zLen zByt (fun i => P.2.1 (i + 3)) adV (fun z => P.1 ≤ z) U H) ∧ va_Z "java/lang/String" "COMPACT_STRINGS" "Z" (.int 1) (fun z => P.1 ≤ z) U H ∧ va_Zq "jdk/internal/util/Preconditions" "SIOOBE_FORMATTER" "Ljava/util/function/BiFunction;" (fun z => P.1 ≤ z) U H ∧ ∀ j q, zTexts[j]? = some q → vk_R q.1 q.2.1 q.2.2 (P.2.1 (j + 3)) U
-- what lies below the base, and what the tables say
def zX0 (P : zP) (U : State) (H : Heap) : Prop :=
  (∀ w ∈ xNest, va_Nw w U) ∧ (∀ q ∈ xStat, va_Z q.1 q.2.1 "[I" (.ref (P.2.1 q.2.2)) (fun z => P.1 ≤ z) U H ∧ va_T .int (P.2.1 q.2.2) 5 (fun j => .int ((xTab q.2.2).getD j 0)) (fun z => P.1 ≤ z) U H) ∧
  va_X (P.2.1 0) P.2.2.2.1 P.2.2.2.2 U H ∧ (P.2.1 0 < P.1 ∧ P.2.2.2.1 < 2147483648) ∧ zXS P U H ∧ ∀ q : Nat, q < P.1 → H[q]? = U.heap[q]?
theorem zXS.kept {P : zP} {U : State} {H H1 : Heap} (h : zXS P U H) (hq : ∀ q : Nat, q < P.1 → H1[q]? = H[q]?) : zXS P U H1 := by
  obtain ⟨⟨adV, h1⟩, h2, h3, h4⟩ := h
  have hq2 : ∀ a : Nat, a < H.size → ¬ P.1 ≤ a → H1[a]? = H[a]? := fun a _ ha => hq a (Nat.not_le.mp ha)
  exact ⟨⟨adV, h1.kept hq2⟩, h2.kept hq2, h3.kept hq2, h4⟩
theorem zXS.moved {P : zP} {s U : State} {H : Heap} (hW : s.WarmedH U.vm) (h : zXS P s H) : zXS P U H := by
  obtain ⟨⟨adV, h1⟩, h2, h3, h4⟩ := h
  exact ⟨⟨adV, h1.moved hW.alike⟩, h2.moved hW.alike, h3.moved hW.alike, fun j q hq => vk_R.warm hW (h4 j q hq)⟩
theorem zXS.same {P : zP} {s U : State} {H : Heap} (hv : s.vm = U.vm) (h : zXS P s H) : zXS P U H := by
  have ha : s.vm.Alike U.vm := hv ▸ Vm.Alike.refl s.vm
  obtain ⟨⟨adV, h1⟩, h2, h3, h4⟩ := h
  exact ⟨⟨adV, h1.moved ha⟩, h2.moved ha, h3.moved ha, fun j q hq => vk_R.same hv.symm (h4 j q hq)⟩
theorem zX0.kept {P : zP} {U : State} {H H1 : Heap} (h : zX0 P U H) (hq : ∀ q : Nat, q < P.1 → H1[q]? = H[q]?) : zX0 P U H1 := by
  obtain ⟨h1, h3, h4, h5, h7, h6⟩ := h
  refine ⟨h1, fun q hm => ⟨(h3 q hm).1.kept fun a _ ha => hq a (Nat.not_le.mp ha), (h3 q hm).2.kept fun a _ ha => hq a (Nat.not_le.mp ha)⟩, h4.kept (hq _ h5.1), h5, h7.kept hq, fun q hl => (hq q hl).trans (h6 q hl)⟩
theorem zX0.moved {P : zP} {s U : State} {H : Heap} (hW : s.WarmedH U.vm) (hU : U.heap = H) (h : zX0 P s H) : zX0 P U H := by
  obtain ⟨h1, h3, h4, h5, h7, h6⟩ := h
  refine ⟨fun w hw => ?_, fun q hm => ⟨(h3 q hm).1.moved hW.alike, (h3 q hm).2.moved hW.alike⟩, h4.moved hW.alike, h5, h7.moved hW, fun q _ => by rw [hU]⟩
  have hs := h1 w hw
  simp only [xNest, List.mem_cons, List.not_mem_nil, or_false] at hw
  rcases hw with rfl | rfl | rfl | rfl | rfl | rfl | rfl | rfl <;> exact va_Nw.warmM hW hs
theorem zX0.same {P : zP} {s U : State} {H : Heap} (hv : s.vm = U.vm) (hh : U.heap = s.heap) (h : zX0 P s H) : zX0 P U H := by
  have ha : s.vm.Alike U.vm := hv ▸ Vm.Alike.refl s.vm
  obtain ⟨h1, h3, h4, h5, h7, h6⟩ := h
  refine ⟨fun w hw => ?_, fun q hm => ⟨(h3 q hm).1.moved ha, (h3 q hm).2.moved ha⟩, h4.moved ha, h5, h7.same hv, fun q hl => by rw [hh]; exact h6 q hl⟩
  have hs := h1 w hw
  simp only [xNest, List.mem_cons, List.not_mem_nil, or_false] at hw
  rcases hw with rfl | rfl | rfl | rfl | rfl | rfl | rfl | rfl <;> exact va_Nw.same rfl hv hs
/-! values -/
theorem zden_cat {P : zP} {a : zV} {v : Value} (d : zden P a v) : v.category = zcat a := by
  match a, d with
  | (0, z), ⟨_, d, _⟩ => cases d; rfl
  | (1, z), ⟨_, d, _⟩ => cases d; rfl
  | (2, z), d => cases d; rfl
  | (3, z), d => cases d; rfl
  | (4, z), d => cases d; rfl
theorem zden_ofI {P : zP} (x : Int32) : zden P (0, x.toInt) (.int x) := ⟨x, rfl, rfl⟩
theorem zden_ofL {P : zP} (x : Int64) : zden P (1, x.toInt) (.long x) := ⟨x, rfl, rfl⟩
theorem zkind_ref {P : zP} {a : zV} {v : Value} (h : zkind a = 2) (d : zden P a v) : ∃ i : Nat, v = .ref i := by
  match a, h, d with
  | (0, _), h, _ => cases h
  | (1, _), h, _ => cases h
  | (2, _), _, d => exact ⟨_, d⟩
  | (3, _), _, d => exact ⟨_, d⟩
  | (4, _), h, _ => cases h
theorem zkind_int {P : zP} {a : zV} {v : Value} (h : zkind a = 0) (d : zden P a v) : ∃ x : Int32, v = .int x ∧ a = (0, x.toInt) := by
  match a, h, d with
  | (0, z), _, ⟨x, h1, h2⟩ => exact ⟨x, h1, by rw [h2]⟩
  | (1, _), h, _ => cases h
  | (2, _), h, _ => cases h
  | (3, _), h, _ => cases h
  | (4, _), h, _ => cases h
theorem zkind_long {P : zP} {a : zV} {v : Value} (h : zkind a = 1) (d : zden P a v) : ∃ x : Int64, v = .long x ∧ a = (1, x.toInt) := by
  match a, h, d with
  | (0, _), h, _ => cases h
  | (1, z), _, ⟨x, h1, h2⟩ => exact ⟨x, h1, by rw [h2]⟩
  | (2, _), h, _ => cases h
  | (3, _), h, _ => cases h
  | (4, _), h, _ => cases h
theorem zsum_den {P : zP} : ∀ {as : List zV} {vs : List Value}, zdens P as vs → (vs.map fun v => v.category).sum = zsum as
  | [], [], _ => rfl
  | a :: as, v :: vs, ⟨d, ds⟩ => by
    show (v.category :: vs.map fun v => v.category).sum = zcat a + zsum as
    rw [List.sum_cons, zsum_den ds, zden_cat d]
theorem zput1_den {P : zP} {i : Nat} {a : zV} {v : Value} {L : zL} {lv : List (Nat × Value)} (d : zden P a v) (ds : zldens P L lv) : zldens P (zput1 L i a) ((i, v) :: lv.filter (fun q => !(q.1 == i) && !(q.1 + 1 == i && q.2.category == 2))) := by
  intro k w h
  unfold zput1 at h
  by_cases hk : k = i
  · rw [if_pos hk] at h
    cases h
    exact ⟨v, by rw [hk]; exact List.mem_cons_self, d⟩
  · rw [if_neg hk] at h
    split at h
    · rename_i w0 hw
      split at h
      · cases h
      · rename_i hn
        cases h
        obtain ⟨V, h1, h2⟩ := ds k w hw
        refine ⟨V, List.mem_cons_of_mem _ (List.mem_filter.mpr ⟨h1, ?_⟩), h2⟩
        have hc := zden_cat h2
        have e1 : (k == i) = false := by simpa using hk
        show (!(k == i) && !(k + 1 == i && V.category == 2)) = true
        rw [e1, hc]
        cases hb : (k + 1 == i && zcat w == 2) with
        | false => rfl
        | true =>
          rw [Bool.and_eq_true, beq_iff_eq, beq_iff_eq] at hb
          exact absurd hb hn
    · cases h
theorem zput2_den {P : zP} {i : Nat} {a : zV} {v : Value} {L : zL} {lv : List (Nat × Value)} (d : zden P a v) (ds : zldens P L lv) : zldens P (zput2 L i a) ((i, v) :: lv.filter (fun q => !(q.1 == i) && (!(q.1 == i + 1) && !(q.1 + 1 == i && q.2.category == 2)))) := by
  intro k w h
  unfold zput2 at h
  by_cases hk : k = i
  · rw [if_pos hk] at h
    cases h
    exact ⟨v, by rw [hk]; exact List.mem_cons_self, d⟩
  · rw [if_neg hk] at h
    by_cases hk2 : k = i + 1
    · rw [if_pos hk2] at h
      cases h
    · rw [if_neg hk2] at h
      split at h
      · rename_i w0 hw
        split at h
        · cases h
        · rename_i hn
          cases h
          obtain ⟨V, h1, h2⟩ := ds k w hw
          refine ⟨V, List.mem_cons_of_mem _ (List.mem_filter.mpr ⟨h1, ?_⟩), h2⟩
          have hc := zden_cat h2
          have e1 : (k == i) = false := by simpa using hk
          have e2 : (k == i + 1) = false := by simpa using hk2
          show (!(k == i) && (!(k == i + 1) && !(k + 1 == i && V.category == 2))) = true
          rw [e1, e2, hc]
          cases hb : (k + 1 == i && zcat w == 2) with
          | false => rfl
          | true =>
            rw [Bool.and_eq_true, beq_iff_eq, beq_iff_eq] at hb
            exact absurd hb hn
      · cases h
theorem zdens_len {P : zP} : ∀ {as : List zV} {vs : List Value}, zdens P as vs → as.length = vs.length
  | [], [], _ => rfl
  | _ :: as, _ :: vs, ⟨_, d⟩ => by rw [List.length_cons, List.length_cons, zdens_len d]
theorem zdens_app {P : zP} : ∀ {as : List zV} {vs : List Value} {bs : List zV} {ws : List Value}, zdens P as vs → zdens P bs ws → zdens P (as ++ bs) (vs ++ ws)
  | [], [], _, _, _, h => h
  | _ :: as, _ :: vs, _, _, ⟨d, ds⟩, h => ⟨d, zdens_app ds h⟩
theorem ztake_den {P : zP} : ∀ {n : Nat} {S acc as S' : List zV} {stk accv : List Value}, ztake n S acc = some (as, S') → zdens P S stk → zdens P acc accv → ∃ (as0 : List zV) (vs stk' : List Value), as0.length = n ∧ stk = vs.reverse ++ stk' ∧ zdens P as0 vs ∧ zdens P S' stk' ∧ as = as0 ++ acc
  | 0, S, acc, as, S', stk, accv, h, d, da => by
    have h : some (acc, S) = some (as, S') := h
    cases h
    exact ⟨[], [], stk, rfl, rfl, trivial, d, rfl⟩
  | n + 1, v :: S, acc, as, S', w :: stk, accv, h, ⟨d0, d⟩, da => by
    have h : ztake n S (v :: acc) = some (as, S') := h
    obtain ⟨as0, vs, stk', e1, e2, e3, e4, e5⟩ := ztake_den (acc := v :: acc) (accv := w :: accv) h d ⟨d0, da⟩
    refine ⟨as0 ++ [v], vs ++ [w], stk', by simp [e1], by simp [e2], zdens_app e3 ⟨d0, trivial⟩, e4, by simpa using e5⟩
  | n + 1, [], acc, as, S', [], accv, h, d, da => by cases h
theorem zargs_den {P : zP} : ∀ {i : Nat} {as : List zV} {vs : List Value}, zdens P as vs → zldens P (zargs i as) (lv_args i vs)
  | _, [], [], _ => fun k w h => by cases h
  | i, a :: as, v :: vs, ⟨d, ds⟩ => by
    intro k w h
    have h : (if k = i then some a else zargs (if zcat a = 2 then i + 2 else i + 1) as k) = some w := h
    show ∃ V, (k, V) ∈ (i, v) :: lv_args (if v.category = 2 then i + 2 else i + 1) vs ∧ zden P w V
    by_cases hk : k = i
    · rw [if_pos hk] at h
      cases h
      exact ⟨v, by rw [hk]; exact List.mem_cons_self, d⟩
    · rw [if_neg hk] at h
      rw [zden_cat d]
      obtain ⟨V, h1, h2⟩ := zargs_den ds k w h
      exact ⟨V, List.mem_cons_of_mem _ h1, h2⟩
theorem zfit_den {P : zP} {c : Nat} {ty : FieldType} {a : zV} {v : Value} (hc : (c = 0 ∧ ty = .int) ∨ (c = 1 ∧ ty = .long) ∨ (c = 2 ∧ ty = .byte) ∨ (c = 3 ∧ ty = .boolean) ∨ (c = 4 ∧ fits ty (.ref 0) = true)) (h : zfit c a = true) (d : zden P a v) : fits ty v = true ∧ narrow ty v = v := by
  rcases hc with ⟨rfl, rfl⟩ | ⟨rfl, rfl⟩ | ⟨rfl, rfl⟩ | ⟨rfl, rfl⟩ | ⟨rfl, hf⟩
  · match a, h, d with
    | (0, z), _, ⟨x, d, _⟩ => cases d; exact ⟨rfl, rfl⟩
    | (n + 1, z), h, _ => simp [zfit] at h
  · match a, h, d with
    | (1, z), _, ⟨x, d, _⟩ => cases d; exact ⟨rfl, rfl⟩
    | (0, z), h, _ => simp [zfit] at h
    | (n + 2, z), h, _ => simp [zfit] at h
  · match a, h, d with
    | (0, z), h, ⟨x, d, hx⟩ =>
      cases d
      have h : (true && (decide (-128 ≤ z) && decide (z ≤ 127))) = true := h
      simp only [Bool.and_eq_true, decide_eq_true_eq, Bool.true_and] at h
      refine ⟨?_, ?_⟩
      · show (decide (-128 ≤ x) && decide (x ≤ 127)) = true
        rw [Bool.and_eq_true, decide_eq_true_eq, decide_eq_true_eq, Int32.le_iff_toInt_le, Int32.le_iff_toInt_le, hx]
        exact h
      show Value.int x.toInt8.toInt32 = .int x
      congr 1
      rw [← Int32.toInt_inj, Int8.toInt_toInt32, Int32.toInt_toInt8, hx]
      exact Int.bmod_eq_of_le (by omega) (by omega)
    | (n + 1, z), h, _ =>
      have h : (decide (n + 1 = 0) && (decide (-128 ≤ z) && decide (z ≤ 127))) = true := h
      simp at h
  · match a, h, d with
    | (0, z), h, ⟨x, d, hx⟩ =>
      cases d
      have h : (true && (decide (0 ≤ z) && decide (z ≤ 1))) = true := h
      simp only [Bool.and_eq_true, decide_eq_true_eq, Bool.true_and] at h
      have h01 : z = 0 ∨ z = 1 := by omega
      rcases h01 with e | e
      · have : x = 0 := by rw [← Int32.toInt_inj, hx, e]; rfl
        subst this
        exact ⟨rfl, rfl⟩
      · have : x = 1 := by rw [← Int32.toInt_inj, hx, e]; rfl
        subst this
        exact ⟨rfl, rfl⟩
    | (n + 1, z), h, _ =>
      have h : (decide (n + 1 = 0) && (decide (0 ≤ z) && decide (z ≤ 1))) = true := h
      simp at h
  · have h : decide (zkind a = 2) = true := h
    obtain ⟨i, rfl⟩ := zkind_ref (of_decide_eq_true h) d
    exact x_fitR hf
/-! steps -/
abbrev zM : Type := String × ByteArray × Nat × Option FieldType × String
abbrev zY : Type := MethodName × ByteArray × Nat × Option FieldType
def zCx (μ : zM) (p : Program) (s : State) (m : MethodId) (args : Array Value) (meth : Method) (c : Code) : Prop :=
  p.tables.exec = Jvm.exec ∧ c.code = μ.2.1 ∧ c.maxLocals = μ.2.2.1 ∧ s.vm.findClass μ.1 = some m.cls ∧ (∀ w ∈ xTB, w.before args s = true) ∧ meth.sig.returnType = μ.2.2.2.1 ∧ meth.locks = false
def zRoom (d : Nat) : Room := { frames := d + 8, cells := 0, slots := 0, locals := 60 * (d + 8) }
def zRm (d : Nat) (R : Room) : Prop := d + 8 ≤ R.frames ∧ 60 * (d + 8) ≤ R.locals
def zJ (P : zP) (nL : Nat) (R : Room) (s : State) (st : zS) (H : Heap) (locs : List Loc) (cells slots : Nat) (ls : Array Slot) (stk : List Value) : Prop :=
  (cells ≤ R.cells ∧ slots ≤ R.slots) ∧ zG P st.1 s H ∧ (∃ lv, lv_has ls nL lv ∧ zldens P st.2.1 lv) ∧ zdens P st.2.2 stk ∧ zX0 P s H ∧ (∀ q ∈ locs, P.1 ≤ q.base) ∧ va_K P.2.2.1 vwCl [] s
def zRet (μ : zM) (pc : Nat) (ov : Option Value) : Prop := match ov with
  | some (.int x) => decode μ.2.1 pc = .ok (.ireturn, 1) ∧ ∃ ty, μ.2.2.2.1 = some ty ∧ narrow ty (.int x) = .int x
  | some (.long _) => decode μ.2.1 pc = .ok (.lreturn, 1) ∧ μ.2.2.2.1 = some .long
  | none => decode μ.2.1 pc = .ok (.return_, 1) ∧ μ.2.2.2.1 = none
  | _ => False
def zKR (P : zP) (μ : zM) (p : Program) (l : Launch) (e : Env) (R : Room) (s : State) (m : MethodId) (args : Array Value) (below : List Frame) (meth : Method) (c : Code) (Q : State → Prop) (r : zR) : Prop :=
  ∀ (H : Heap) (locs : List Loc) (cells slots pc : Nat) (ls : Array Slot) (ov : Option Value), cells ≤ R.cells → slots ≤ R.slots → zG P r.1 s H → zX0 P s H → (∀ q ∈ locs, P.1 ≤ q.base) → zdenO P r.2 ov → zRet μ pc ov → W p l e R s m args below meth c H locs cells slots Q (F0 m pc ls ov.toList)
def zKG (P : zP) (μ : zM) (p : Program) (l : Launch) (e : Env) (R : Room) (s : State) (m : MethodId) (args : Array Value) (below : List Frame) (meth : Method) (c : Code) (Q : State → Prop) (pc : Nat) (st : zS) : Prop :=
  ∀ (H : Heap) (locs : List Loc) (cells slots : Nat) (ls : Array Slot) (stk : List Value), zJ P μ.2.2.1 R s st H locs cells slots ls stk → W p l e R s m args below meth c H locs cells slots Q (F0 m pc ls stk)
def zWs (y : zY) : List Cond := Cond.code y.1 y.2.1 y.2.2.1 y.2.2.2 :: xTB
def zPc (P : zP) (h : zH) (vs : List Value) : Array Value → State → Prop := fun a U => a = vs.toArray ∧ zG P h U U.heap ∧ zX0 P U U.heap ∧ va_K P.2.2.1 vwCl [] U
def zQc (P : zP) (r : zR) : Array Value → State → Outcome → State → Prop := fun _ st oc t => (∃ ov, zdenO P r.2 ov ∧ oc = .returned ov) ∧ zG P r.1 t t.heap ∧ ∀ q : Nat, q < P.1 → t.heap[q]? = st.heap[q]?
def zMet (l : Launch) (P : zP) (M : List zY) (d mi : Nat) (h : zH) (as : List zV) (r : zR) : Prop := ∀ y, M[mi]? = some y → zsum as ≤ y.2.2.1 → ∀ vs, zdens P as vs → Met l y.1 (zWs y) (zRoom d) (zPc P h vs) (zQc P r) 0 0 (fun z => P.1 ≤ z)
def zKO (M : List zY) (P : zP) (μ : zM) (p : Program) (l : Launch) (e : Env) (R : Room) (s : State) (m : MethodId) (args : Array Value) (below : List Frame) (meth : Method) (c : Code) (Q : State → Prop) (d : Nat) (o : zO) : Prop := match o with
  | .inl r => zKR P μ p l e R s m args below meth c Q r
  | .inr (.inl q) => zKG P μ p l e R s m args below meth c Q q.1 q.2
  | .inr (.inr q) => ∃ d' r1, d = d' + 1 ∧ zMet l P M d' q.1 q.2.2.2.1 q.2.1 r1 ∧ zKG P μ p l e R s m args below meth c Q q.2.2.1 (r1.1, q.2.2.2.2.1, zpush r1.2 q.2.2.2.2.2)
/-- a step holds of the machine -/
def zSim (l : Launch) (P : zP) (M : List zY) (μ : zM) (pc : Nat) (i : zX) : Prop :=
  ∀ (p : Program) (e : Env) (s : State) (m : MethodId) (args : Array Value) (below : List Frame) (meth : Method) (c : Code) (R : Room) (Q : State → Prop) (d : Nat), zCx μ p s m args meth c → zRm d R → ∀ (st : zS) (o : zO), zi (zPD P) i st = some o →
  ∀ (H : Heap) (locs : List Loc) (cells slots : Nat) (ls : Array Slot) (stk : List Value), zJ P μ.2.2.1 R s st H locs cells slots ls stk → zKO M P μ p l e R s m args below meth c Q d o → W p l e R s m args below meth c H locs cells slots Q (F0 m pc ls stk)
end
