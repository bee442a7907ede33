section
/-! THE STEPS, second part -/
section INV2
variable {P : xP} {en : xE} {cl sl nx : Nat} {h : xH} {L : xL} {S : List xV} {outs : List xO} {cf : xF} {stk : List Value}
theorem x_condS {b : Bool} {α : Type} {x : Option α} {r : α} (h : cond b x none = some r) : b = true ∧ x = some r := by
  cases b with
  | false => cases h
  | true => exact ⟨rfl, h⟩
end INV2
theorem x_fitR {ty : FieldType} {a b : Nat} (h : fits ty (.ref a) = true) : fits ty (.ref b) = true ∧ narrow ty (.ref b) = .ref b := by cases ty <;> first | exact ⟨h, rfl⟩ | cases h
theorem x_fit_den {P : xP} {ty : FieldType} {a : xV} {v : Value} (h : x_fit ty a = true) (d : xden P a v) : fits ty v = true ∧ narrow ty v = v := by
  have lit : ∀ w : Value, (fits ty w && decide (narrow ty w = w)) = true → fits ty w = true ∧ narrow ty w = w := fun w h => by
    rw [Bool.and_eq_true] at h
    exact ⟨h.1, of_decide_eq_true h.2⟩
  match a, h, d with
  | .inl (.ref k), h, d => cases d; exact x_fitR h
  | .inl (.int i), h, d => cases d; exact lit _ h
  | .inl (.long i), h, d => cases d; exact lit _ h
  | .inl (.float i), h, d => cases d; exact lit _ h
  | .inl (.double i), h, d => cases d; exact lit _ h
  | .inl .null, h, d => cases d; exact lit _ h
  | .inl (.retAddr i), h, d => cases d; exact lit _ h
  | .inr (0, k), h, d => cases d; have := of_decide_eq_true h; subst this; exact ⟨rfl, rfl⟩
  | .inr (1, k), h, d => cases d; have := of_decide_eq_true h; subst this; exact ⟨rfl, rfl⟩
  | .inr (2, k), h, ⟨_, d⟩ => cases d; have := of_decide_eq_true h; subst this; exact ⟨rfl, rfl⟩
  | .inr (3, k), h, ⟨_, d⟩ => cases d; have := of_decide_eq_true h; subst this; exact ⟨rfl, rfl⟩
section STEPS2
variable {l : Launch} {P : xP} {M : List (xY × xT)} {μ : xM} {pc : Nat}

theorem s_dup (hd : decode μ.2.1 pc = .ok (.dup, 1)) : xSim l P M μ pc (i_dup (pc + 1)) := by
  intro p e s m args below meth c R Q C cf hcf st outs ho H locs cells slots ls stk J K
  obtain ⟨hx, hb, hml, hown, hts, hr, hlk, hnm, hR⟩ := C
  obtain ⟨en, cl, sl, h, L, S⟩ := st
  obtain ⟨je, jc, js, jg, ⟨lv, jl, jd⟩, jS, jx, jo, jk⟩ := J
  match S, stk, jS, ho with
  | x :: S, v :: stk, ⟨dx, ds⟩, ho =>
    obtain ⟨hc, ho⟩ := x_condS (α := List xO) (b := Nat.beq (x_cat x) 1) (x := some [Sum.inr (pc + 1, en, cl, sl, h, L, x :: x :: S)]) ho
    have ho := Option.some.inj ho
    subst ho
    exact lv_dup hx hb hd ((x_cat_den dx).trans (Nat.eq_of_beq_eq_true hc)) (K _ (x_mem1 _) _ _ _ _ _ _ ⟨je, jc, js, jg, ⟨lv, jl, jd⟩, ⟨dx, dx, ds⟩, jx, jo, jk⟩)

theorem s_goto {off : Int} (tgt : Nat) (hd : decode μ.2.1 pc = .ok (.goto off, 3)) (ht : (pc : Int) + off = (tgt : Int)) : xSim l P M μ pc (i_jump tgt) := by
  intro p e s m args below meth c R Q C cf hcf st outs ho H locs cells slots ls stk J K
  obtain ⟨hx, hb, hml, hown, hts, hr, hlk, hnm, hR⟩ := C
  obtain ⟨en, cl, sl, h, L, S⟩ := st
  obtain ⟨je, jc, js, jg, ⟨lv, jl, jd⟩, jS, jx, jo, jk⟩ := J
  have ho := Option.some.inj ho
  subst ho
  exact lv_goto hx hb hd ht (K _ (x_mem1 _) _ _ _ _ _ _ ⟨je, jc, js, jg, ⟨lv, jl, jd⟩, jS, jx, jo, jk⟩)

theorem s_icmp_ge {off : Int} (tgt : Nat) (hd : decode μ.2.1 pc = .ok (.if_icmp .ge off, 3)) (ht : (pc : Int) + off = (tgt : Int)) : xSim l P M μ pc (i_icmp 0 (pc + 3) tgt) := by
  intro p e s m args below meth c R Q C cf hcf st outs ho H locs cells slots ls stk J K
  obtain ⟨hx, hb, hml, hown, hts, hr, hlk, hnm, hR⟩ := C
  obtain ⟨en, cl, sl, h, L, S⟩ := st
  obtain ⟨je, jc, js, jg, ⟨lv, jl, jd⟩, jS, jx, jo, jk⟩ := J
  match S, stk, jS, ho with
  | y :: x :: S, w :: v :: stk, ⟨dy, dx, ds⟩, ho =>
    have ho : x_br 0 en x y (fun en => .inr ((pc + 3), en, cl, sl, h, L, S)) (fun en => .inr (tgt, en, cl, sl, h, L, S)) = some outs := ho
    obtain ⟨a, z, rfl, hz, r1, r2⟩ := x_br_den ho je dx dy
    cases hz
    exact lv_icmp_ge hx hb hd ht (fun q => by
      obtain ⟨e', h1, h2⟩ := r2 (fun z => Int.not_lt.mpr (Int32.le_iff_toInt_le.mp q) z)
      exact K _ h2 _ _ _ _ _ _ ⟨h1, jc, js, jg, ⟨lv, jl, jd⟩, ds, jx, jo, jk⟩) (fun q => by
      obtain ⟨e', h1, h2⟩ := r1 (Int.not_le.mp (fun z => q (Int32.le_iff_toInt_le.mpr z)))
      exact K _ h2 _ _ _ _ _ _ ⟨h1, jc, js, jg, ⟨lv, jl, jd⟩, ds, jx, jo, jk⟩)

end STEPS2
end
section
/-! THE STEPS, third part: fields, arrays, what is made -/
theorem x_nth_lt {α : Type} {l : List α} {k : Nat} {a : α} (h : x_nth l k = some a) : l[k]? = some a ∧ k < l.length := by
  rw [x_nth_eq] at h
  exact ⟨h, (List.getElem?_eq_some_iff.mp h).1⟩
theorem va_P1 {D : va_G} {q : Nat × va_E} {H : Heap} (h : va_at D vwCl q H) : va_P D vwCl [q] H := by
  intro k x hk
  cases k with
  | zero => cases hk; exact h
  | succ k => simp at hk
theorem xlocs_put {B : Nat} {locs : List Loc} {a i : Nat} (h : ∀ q ∈ locs, B ≤ q.base) (ha : B ≤ a) : ∀ q ∈ locs ++ [(⟨a, i⟩ : Loc)], B ≤ q.base := by
  intro q hq
  rcases List.mem_append.mp hq with h1 | h1
  · exact h q h1
  · rw [List.mem_singleton.mp h1]; exact ha
section STEPS3
variable {l : Launch} {P : xP} {M : List (xY × xT)} {μ : xM} {pc : Nat}
theorem s_getf {C : String} {T : u_T} {N index : Nat} (ci k : Nat) (hd : decode μ.2.1 pc = .ok (.getfield index, 3)) (hc : vwCl[ci]? = some (C, T, N)) (hk : k < N) (hin : ∀ w ∈ u_ws C T N, w ∈ xTB) (hw : Cond.fieldLink μ.1 index (T k).1 (T k).2.1 (T k).2.2.1 ∈ xTB) : xSim l P M μ pc (i_getf ci k (pc + 3)) := by
  intro p e s m args below meth c R Q C cf hcf st outs ho H locs cells slots ls stk J K
  obtain ⟨hx, hb, hml, hown, hts, hr, hlk, hnm, hR⟩ := C
  obtain ⟨en, cl, sl, h, L, S⟩ := st
  obtain ⟨je, jc, js, jg, ⟨lv, jl, jd⟩, jS, jx, jo, jk⟩ := J
  match S, stk, jS, ho with
  | x :: S, v :: stk, ⟨dx, ds⟩, ho =>
    match x, dx, ho with
    | .inl (.ref r), dx, ho =>
      have dx : v = .ref (P.2.1 + r) := dx
      subst dx
      have ho : (match x_nth h r with
        | some (.inr (cj, fs)) => cond (Nat.beq ci cj) (match x_nth fs k with
          | some v => x_frc (x_nm en v) (fun v => some [Sum.inr (pc + 3, en, cl, sl, h, L, v :: S)])
          | none => none) none
        | _ => none) = some outs := ho
      match hn : x_nth h r, ho with
      | some (.inr (cj, fs)), ho =>
        obtain ⟨hcj, hz⟩ := x_condS ho
        clear ho
        have ho := hz
        clear hz
        have hcj := Nat.eq_of_beq_eq_true hcj
        subst hcj
        match hf : x_nth fs k, ho with
        | some a, ho =>
          have ho : x_frc (x_nm en a) (fun v => some [Sum.inr (pc + 3, en, cl, sl, h, L, v :: S)]) = some outs := ho
          rw [x_frc_eq] at ho
          have ho := Option.some.inj ho
          subst ho
          obtain ⟨vs, dvs, hat⟩ := jg.2 _ _ (x_nth_lt hn).1
          obtain ⟨v, hv, da⟩ := x_nth_dens dvs hf
          exact va_get hx hb hts hin hown jk (va_P1 hat) 0 rfl hc k hk (hts _ hw) (fun _ h9 => h9) hv hd (K _ (x_mem1 _) _ _ _ _ _ _ ⟨je, jc, js, jg, ⟨lv, jl, jd⟩, ⟨x_nm_den je da, ds⟩, jx, jo, jk⟩)

theorem s_putf {C : String} {T : u_T} {N index : Nat} (ci k : Nat) (ty0 : Nat → FieldType) (ty : FieldType) (hd : decode μ.2.1 pc = .ok (.putfield index, 3)) (hc : vwCl[ci]? = some (C, T, N)) (hk : k < N) (hin : ∀ w ∈ u_ws C T N, w ∈ xTB) (hw : Cond.fieldLink μ.1 index (T k).1 (T k).2.1 (T k).2.2.1 ∈ xTB) (hty0 : ∀ k, k < N → parseFieldDescriptor (T k).2.2.1 = some (ty0 k)) (hnames : ∀ a, a < N → ∀ b, b < N → a ≠ b → (T a).2.1 ≠ (T b).2.1) (ht : ty0 k = ty) (hfin : (T k).2.2.2 = false) : xSim l P M μ pc (i_putf ci k ty (pc + 3)) := by
  intro p e s m args below meth c R Q C cf hcf st outs ho H locs cells slots ls stk J K
  obtain ⟨hx, hb, hml, hown, hts, hr, hlk, hnm, hR⟩ := C
  obtain ⟨en, cl, sl, h, L, S⟩ := st
  obtain ⟨je, jc, js, jg, ⟨lv, jl, jd⟩, jS, jx, jo, jk⟩ := J
  match S, stk, jS, ho with
  | a :: x :: S, w :: v :: stk, ⟨da, dx, ds⟩, ho =>
    match x, dx, ho with
    | .inl (.ref r), dx, ho =>
      have dx : v = .ref (P.2.1 + r) := dx
      subst dx
      obtain ⟨hft, hz⟩ := x_condS (α := List xO) (b := x_fit ty a) (x := (match x_nth h r with
        | some (.inr (cj, fs)) => cond (Nat.beq ci cj) (x_set fs k a (fun fs => x_set h r (.inr (ci, fs)) (fun h => some [Sum.inr (pc + 3, en, cl, sl, h, L, S)]))) none
        | _ => none)) ho
      clear ho
      have ho := hz
      clear hz
      match hn : x_nth h r, ho with
      | some (.inr (cj, fs)), ho =>
        obtain ⟨hcj, hz⟩ := x_condS (α := List xO) (b := Nat.beq ci cj) (x := x_set fs k a (fun fs => x_set h r (.inr (ci, fs)) (fun h => some [Sum.inr (pc + 3, en, cl, sl, h, L, S)]))) ho
        clear ho
        have ho := hz
        clear hz
        have hcj := Nat.eq_of_beq_eq_true hcj
        subst hcj
        obtain ⟨hkl, ho⟩ := x_set_eq _ _ _ _ ho
        obtain ⟨hrl, ho⟩ := x_set_eq _ _ _ _ ho
        have ho := Option.some.inj ho
        subst ho
        obtain ⟨vs, dvs, r', h1, cell, q1, q2, q3, q4⟩ := jg.2 _ _ (x_nth_lt hn).1
        have hr' : r' = (C, T, N) := Option.some.inj (h1.symm.trans hc)
        subst hr'
        obtain ⟨hfit, hnr⟩ := x_fit_den hft da
        have hty : parseFieldDescriptor (T k).2.2.1 = some ty := by rw [hty0 k hk, ht]
        have hap := va_apart (own := μ.1) hts hin ty0 hty0 hnames jk hc
        obtain ⟨hS, hfc, kC, hkC, hkind⟩ := jk.1 ci _ hc
        obtain ⟨cf', kf, fi, f, hi, hsl⟩ := hS k hk
        have hlv : k < vs.length := by rw [← x_dens_len dvs]; exact hkl
        have hlay := hts _ (hin _ (u_in_lay hk))
        unfold u_lay at hlay
        rw [if_neg (by rw [hfin]; decide)] at hlay
        have hst := (u_facts hfc hkC (u_lays hts hin hk) hi).1
        have h6 := u_store hfc hkC hkind hlay hi hty hnr hfit
        refine W.putK hx hb (f := f) ⟨hown, hts _ hw, ⟨_, _, _, hi⟩, hst⟩ (by rw [q2]; exact h6) q1 q3 (by rw [hsl]; exact k2_hasslot (q4 k hk)) rfl rfl hd fun H' e1 e2 e3 => ?_
        rw [hsl] at e1 ⊢
        refine K _ (x_mem1 _) _ _ _ _ _ _ ⟨je, jc, js, jg.set hrl ⟨vs.set k w, x_dens_set da dvs, ⟨_, hc, t_OB.to (V := updV (vp_V vs) k w) ⟨_, e1, q2, q3, t_set q4 hap hk w⟩ (fun j _ => vp_updV_set hlv w j)⟩⟩ e2 e3, ⟨lv, jl, jd⟩, ds, jx.kept (fun q hq => e3 q (Nat.ne_of_lt (Nat.lt_of_lt_of_le hq (Nat.le_add_right _ _)))), xlocs_put jo (Nat.le_add_right _ _), jk⟩

theorem s_putfin {C : String} {T : u_T} {N index : Nat} (ci k : Nat) (ty0 : Nat → FieldType) (ty : FieldType) (hd : decode μ.2.1 pc = .ok (.putfield index, 3)) (hc : vwCl[ci]? = some (C, T, N)) (hk : k < N) (hin : ∀ w ∈ u_ws C T N, w ∈ xTB) (hw : Cond.fieldLink μ.1 index (T k).1 (T k).2.1 (T k).2.2.1 ∈ xTB) (hty0 : ∀ k, k < N → parseFieldDescriptor (T k).2.2.1 = some (ty0 k)) (hnames : ∀ a, a < N → ∀ b, b < N → a ≠ b → (T a).2.1 ≠ (T b).2.1) (ht : ty0 k = ty) (hfin : (T k).2.2.2 = true) (hin2 : μ.2.2.2.2.1 = "<init>") (hdecl : (T k).1 = μ.1) : xSim l P M μ pc (i_putf ci k ty (pc + 3)) := by
  intro p e s m args below meth c R Q C cf hcf st outs ho H locs cells slots ls stk J K
  obtain ⟨hx, hb, hml, hown, hts, hr, hlk, hnm, hR⟩ := C
  obtain ⟨en, cl, sl, h, L, S⟩ := st
  obtain ⟨je, jc, js, jg, ⟨lv, jl, jd⟩, jS, jx, jo, jk⟩ := J
  match S, stk, jS, ho with
  | a :: x :: S, w :: v :: stk, ⟨da, dx, ds⟩, ho =>
    match x, dx, ho with
    | .inl (.ref r), dx, ho =>
      have dx : v = .ref (P.2.1 + r) := dx
      subst dx
      obtain ⟨hft, hz⟩ := x_condS (α := List xO) (b := x_fit ty a) (x := (match x_nth h r with
        | some (.inr (cj, fs)) => cond (Nat.beq ci cj) (x_set fs k a (fun fs => x_set h r (.inr (ci, fs)) (fun h => some [Sum.inr (pc + 3, en, cl, sl, h, L, S)]))) none
        | _ => none)) ho
      clear ho
      have ho := hz
      clear hz
      match hn : x_nth h r, ho with
      | some (.inr (cj, fs)), ho =>
        obtain ⟨hcj, hz⟩ := x_condS (α := List xO) (b := Nat.beq ci cj) (x := x_set fs k a (fun fs => x_set h r (.inr (ci, fs)) (fun h => some [Sum.inr (pc + 3, en, cl, sl, h, L, S)]))) ho
        clear ho
        have ho := hz
        clear hz
        have hcj := Nat.eq_of_beq_eq_true hcj
        subst hcj
        obtain ⟨hkl, ho⟩ := x_set_eq _ _ _ _ ho
        obtain ⟨hrl, ho⟩ := x_set_eq _ _ _ _ ho
        have ho := Option.some.inj ho
        subst ho
        obtain ⟨vs, dvs, r', h1, cell, q1, q2, q3, q4⟩ := jg.2 _ _ (x_nth_lt hn).1
        have hr' : r' = (C, T, N) := Option.some.inj (h1.symm.trans hc)
        subst hr'
        obtain ⟨hfit, hnr⟩ := x_fit_den hft da
        have hty : parseFieldDescriptor (T k).2.2.1 = some ty := by rw [hty0 k hk, ht]
        have hap := va_apart (own := μ.1) hts hin ty0 hty0 hnames jk hc
        obtain ⟨hS, hfc, kC, hkC, hkind⟩ := jk.1 ci _ hc
        obtain ⟨cf', kf, fi, f, hi, hsl⟩ := hS k hk
        have hlv : k < vs.length := by rw [← x_dens_len dvs]; exact hkl
        have hlay := hts _ (hin _ (u_in_lay hk))
        unfold u_lay at hlay
        rw [if_pos hfin] at hlay
        have hst := (u_facts hfc hkC (u_lays hts hin hk) hi).1
        have hcf2 : m.cls = cf' := by
          obtain ⟨_, _, c', _, _, _, -, -, hf', -, -, -, hown2, -⟩ := Cond.laysFinal_spec hlay
          have e1 : c' = cf' := by have := hi.symm.trans hf'; simp at this; exact this.1.symm
          rw [hdecl] at hown2
          rw [← e1]; exact Option.some.inj (hown.symm.trans hown2)
        have h6 := u_fits hfc hkC hkind (Or.inr hlay) hi hty hnr hfit
        refine W.putFinK hx hb hown (hts _ hw) hi hst hcf2 (hnm.trans hin2) (by rw [q2]; exact h6) q1 q3 (by rw [hsl]; exact k2_hasslot (q4 k hk)) rfl rfl hd fun H' e1 e2 e3 => ?_
        rw [hsl] at e1 ⊢
        refine K _ (x_mem1 _) _ _ _ _ _ _ ⟨je, jc, js, jg.set hrl ⟨vs.set k w, x_dens_set da dvs, ⟨_, hc, t_OB.to (V := updV (vp_V vs) k w) ⟨_, e1, q2, q3, t_set q4 hap hk w⟩ (fun j _ => vp_updV_set hlv w j)⟩⟩ e2 e3, ⟨lv, jl, jd⟩, ds, jx.kept (fun q hq => e3 q (Nat.ne_of_lt (Nat.lt_of_lt_of_le hq (Nat.le_add_right _ _)))), xlocs_put jo (Nat.le_add_right _ _), jk⟩

theorem s_alen (hd : decode μ.2.1 pc = .ok (.arraylength, 1)) : xSim l P M μ pc (i_alen (pc + 1)) := by
  intro p e s m args below meth c R Q C cf hcf st outs ho H locs cells slots ls stk J K
  obtain ⟨hx, hb, hml, hown, hts, hr, hlk, hnm, hR⟩ := C
  obtain ⟨en, cl, sl, h, L, S⟩ := st
  obtain ⟨je, jc, js, jg, ⟨lv, jl, jd⟩, jS, jx, jo, jk⟩ := J
  match S, stk, jS, ho with
  | x :: S, v :: stk, ⟨dx, ds⟩, ho =>
    match x, dx, ho with
    | .inl (.ref r), dx, ho =>
      have dx : v = .ref (P.2.1 + r) := dx
      subst dx
      have ho : (match x_nth h r with
        | some (.inl (_, n, _, _)) => x_k32 (Int32.ofNat n) (fun r => some [Sum.inr (pc + 1, en, cl, sl, h, L, (Sum.inl (Value.int r) : xV) :: S)])
        | _ => none) = some outs := ho
      match hn : x_nth h r, ho with
      | some (.inl (tz, n, d, o)), ho =>
        have ho : x_k32 (Int32.ofNat n) (fun r => some [Sum.inr (pc + 1, en, cl, sl, h, L, (Sum.inl (Value.int r) : xV) :: S)]) = some outs := ho
        rw [x_k32_eq] at ho
        have ho := Option.some.inj ho
        subst ho
        obtain ⟨cA, ⟨n', X⟩, hcell, hn', hX, hAr, hRA⟩ := jg.2 _ _ (x_nth_lt hn).1
        have hn' : n' = n := hn'
        subst hn'
        have kk := K _ (x_mem1 _) H locs cells slots ls (Value.int (Int32.ofNat n') :: stk) ⟨je, jc, js, jg, ⟨lv, jl, jd⟩, ⟨rfl, ds⟩, jx, jo, jk⟩
        match X, hX, hcell with
        | .inl f, hX, hcell => exact W.alen (n := Int32.ofNat n') hx hb hcell (hAr n' (fun j => .int (f j))) (by rw [vp_cell_i, arrV_size] <;> rfl) rfl rfl hd kk
        | .inr (.inl f), hX, hcell => exact W.alen (n := Int32.ofNat n') hx hb hcell (hAr n' (fun j => .long (f j))) (by rw [vp_cell_l, arrV_size] <;> rfl) rfl rfl hd kk
        | .inr (.inr (.inr (.inr f))), hX, hcell => exact W.alen (n := Int32.ofNat n') hx hb hcell (hAr n' (fun j => va_rf (f j))) (by rw [vp_cell_q, arrV_size] <;> rfl) rfl rfl hd kk

end STEPS3
end
