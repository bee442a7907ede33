/-! ENGINE 2, steps: fields, answers -/
theorem y_nth_lt {α : Type} {l : List α} {k : Nat} {a : α} (h : x_nth l k = some a) : l[k]? = some a ∧ k < l.length := by
  rw [x_nth_eq] at h
  exact ⟨h, (List.getElem?_eq_some_iff.mp h).1⟩
theorem va_P1 {D : va_G} {q : Nat × va_E} {H : Heap} (h : va_at D vwCl q H) : va_P D vwCl [q] H := by
  intro k x hk
  cases k with
  | zero => cases hk; exact h
  | succ k => simp at hk
theorem xlocs_put {B : Nat} {locs : List Loc} {a i : Nat} (h : ∀ q ∈ locs, B ≤ q.base) (ha : B ≤ a) : ∀ q ∈ locs ++ [(⟨a, i⟩ : Loc)], B ≤ q.base := by
  intro q hq
  rcases List.mem_append.mp hq with h1 | h1
  · exact h q h1
  · rw [List.mem_singleton.mp h1]; exact ha
theorem y_nth_dens {P : yP} {ρ : Nat → Int} {n : Nat} {a : yV} : ∀ {k : Nat} {as : List yV} {vs : List Value}, ydens P ρ n as vs → x_nth as k = some a → ∃ v, vs[k]? = some v ∧ yden P ρ n a v
  | _, [], [], _, h => by rw [x_nth_eq] at h; simp at h
  | 0, b :: as, v :: vs, ⟨d, _⟩, h => by cases h; exact ⟨v, rfl, d⟩
  | k + 1, b :: as, v :: vs, ⟨_, d⟩, h => y_nth_dens (k := k) d h
theorem y_dens_len {P : yP} {ρ : Nat → Int} {n : Nat} : ∀ {as : List yV} {vs : List Value}, ydens P ρ n as vs → as.length = vs.length
  | [], [], _ => rfl
  | _ :: as, _ :: vs, ⟨_, d⟩ => by rw [List.length_cons, List.length_cons, y_dens_len d]
theorem y_dens_set {P : yP} {ρ : Nat → Int} {n : Nat} {a : yV} {w : Value} (dw : yden P ρ n a w) : ∀ {k : Nat} {as : List yV} {vs : List Value}, ydens P ρ n as vs → ydens P ρ n (as.set k a) (vs.set k w)
  | _, [], [], _ => trivial
  | 0, b :: as, v :: vs, ⟨_, d⟩ => ⟨dw, d⟩
  | k + 1, b :: as, v :: vs, ⟨d0, d⟩ => ⟨d0, y_dens_set dw (k := k) d⟩
noncomputable def y_fit (e : yE) (ty : FieldType) (v : yV) : Bool := match v with
  | .inl (.ref _) => fits ty (.ref 0)
  | .inl w => fits ty w && decide (narrow ty w = w)
  | .inr (0, i) => decide (ty = .int) || (decide (ty = .boolean) && (match x_nth e.1 i with
    | some q => decide (0 ≤ q.1) && decide (q.2 ≤ 1)
    | none => false))
  | .inr (1, _) => decide (ty = .long)
  | .inr _ => false
theorem y_fitR {ty : FieldType} {a b : Nat} (h : fits ty (.ref a) = true) : fits ty (.ref b) = true ∧ narrow ty (.ref b) = .ref b := by cases ty <;> first | exact ⟨h, rfl⟩ | cases h
theorem y_bool {x : Int32} (h1 : 0 ≤ x.toInt) (h2 : x.toInt ≤ 1) : x = 0 ∨ x = 1 := by
  rcases (show x.toInt = 0 ∨ x.toInt = 1 by omega) with h | h
  · exact Or.inl (Int32.toInt_inj.mp h)
  · exact Or.inr (Int32.toInt_inj.mp h)
theorem y_fit_den {P : yP} {ρ : Nat → Int} {n : Nat} {e : yE} {ty : FieldType} {a : yV} {v : Value} (h : y_fit e ty a = true) (je : yEnv ρ e) (d : yden P ρ n a v) : fits ty v = true ∧ narrow ty v = v := by
  have lit : ∀ w : Value, (fits ty w && decide (narrow ty w = w)) = true → fits ty w = true ∧ narrow ty w = w := fun w h => by
    rw [Bool.and_eq_true] at h
    exact ⟨h.1, of_decide_eq_true h.2⟩
  match a, h, d with
  | .inl (.ref k), h, d => cases d; exact y_fitR h
  | .inl (.int i), h, d => cases d; exact lit _ h
  | .inl (.long i), h, d => cases d; exact lit _ h
  | .inl (.float i), h, d => cases d; exact lit _ h
  | .inl (.double i), h, d => cases d; exact lit _ h
  | .inl .null, h, d => cases d; exact lit _ h
  | .inl (.retAddr i), h, d => cases d; exact lit _ h
  | .inr (1, k), h, ⟨_, d, _⟩ => cases d; have := of_decide_eq_true h; subst this; exact ⟨rfl, rfl⟩
  | .inr (0, i), h, ⟨d1, d, d3, d4⟩ =>
    subst d
    have h : (decide (ty = .int) || (decide (ty = .boolean) && (match x_nth e.1 i with
      | some q => decide (0 ≤ q.1) && decide (q.2 ≤ 1)
      | none => false))) = true := h
    rw [Bool.or_eq_true] at h
    rcases h with h | h
    · have := of_decide_eq_true h; subst this; exact ⟨rfl, rfl⟩
    · rw [Bool.and_eq_true] at h
      obtain ⟨h1, h2⟩ := h
      have := of_decide_eq_true h1
      subst this
      match hq : x_nth e.1 i, h2 with
      | some q, h2 =>
        have h2 : (decide (0 ≤ q.1) && decide (q.2 ≤ 1)) = true := h2
        rw [Bool.and_eq_true, decide_eq_true_eq, decide_eq_true_eq] at h2
        have hb := je.1 i q (by rw [← x_nth_eq]; exact hq)
        have hz : (Int32.ofInt (ρ i)).toInt = ρ i := Int32.toInt_ofInt_of_le (by omega) (by omega)
        rcases y_bool (x := Int32.ofInt (ρ i)) (by rw [hz]; have := hb.1; omega) (by rw [hz]; have := hb.2; omega) with hx | hx <;> rw [hx] <;> exact ⟨by decide, by decide⟩
noncomputable def y_getf (ci k nx : Nat) : yI := fun _ (e, cl, sl, h, L, S) => match S with
  | .inl (.ref r) :: S => match x_nth h r with
    | some (.inr (cj, fs)) => cond (Nat.beq ci cj) (match x_nth fs k with
      | some v => some [.inr (nx, e, cl, sl, h, L, y_nm e v :: S)]
      | none => none) none
    | _ => none
  | _ => none
noncomputable def y_putf (ci k : Nat) (ty : FieldType) (nx : Nat) : yI := fun _ (e, cl, sl, h, L, S) => match S with
  | v :: .inl (.ref r) :: S => cond (y_fit e ty v) (match x_nth h r with
    | some (.inr (cj, fs)) => cond (Nat.beq ci cj) (x_set fs k v (fun fs => x_set h r (.inr (ci, fs)) (fun h => some [.inr (nx, e, cl, sl, h, L, S)]))) none
    | _ => none) none
  | _ => none
section YSTEPS4
variable {l : Launch} {A : yQ} {CF : yF → Prop} {μ : xM} {pc : Nat}
theorem y_getf_s {C : String} {T : u_T} {N index : Nat} (ci k : Nat) (hd : decode μ.2.1 pc = .ok (.getfield index, 3)) (hc : vwCl[ci]? = some (C, T, N)) (hk : k < N) (hin : ∀ w ∈ u_ws C T N, w ∈ xTB) (hw : Cond.fieldLink μ.1 index (T k).1 (T k).2.1 (T k).2.2.1 ∈ xTB) : ySim l A CF μ pc (y_getf ci k (pc + 3)) := by
  intro p e s m args below meth c R Q C cf hcf st outs ho H locs cells slots ls stk J K
  obtain ⟨hx, hb, hml, hown, hts, hr, hlk, hnm, hR⟩ := C
  obtain ⟨en, cl, sl, h, L, S⟩ := st
  obtain ⟨ρ, ja, je, jc, js, jg, ⟨lv, jl, jd⟩, jS, jx, jo, jk⟩ := J
  match S, stk, jS, ho with
  | x :: S, v :: stk, ⟨dx, ds⟩, ho =>
    match x, dx, ho with
    | .inl (.ref r), dx, ho =>
      have dx : v = .ref (A.1.1 + r) := dx
      subst dx
      have ho : (match x_nth h r with
        | some (.inr (cj, fs)) => cond (Nat.beq ci cj) (match x_nth fs k with
          | some v => some [(Sum.inr (pc + 3, en, cl, sl, h, L, y_nm en v :: S) : yO)]
          | none => none) none
        | _ => none) = some outs := ho
      match hn : x_nth h r, ho with
      | some (.inr (cj, fs)), ho =>
        obtain ⟨hcj, hz⟩ := y_condS ho
        clear ho
        have hcj := Nat.eq_of_beq_eq_true hcj
        subst hcj
        match hf : x_nth fs k, hz with
        | some a, hz =>
          have hz := Option.some.inj hz
          subst hz
          obtain ⟨vs, dvs, hat⟩ := jg.2 _ _ (y_nth_lt hn).1
          obtain ⟨v, hv, da⟩ := y_nth_dens dvs hf
          exact va_get hx hb hts hin hown jk (va_P1 hat) 0 rfl hc k hk (hts _ hw) (fun _ h9 => h9) hv hd (K _ (x_mem1 _) _ _ _ _ _ _ ⟨ρ, ja, je, jc, js, jg, ⟨lv, jl, jd⟩, ⟨y_nm_den je da, ds⟩, jx, jo, jk⟩)

theorem y_putf_s {C : String} {T : u_T} {N index : Nat} (ci k : Nat) (ty0 : Nat → FieldType) (ty : FieldType) (hd : decode μ.2.1 pc = .ok (.putfield index, 3)) (hc : vwCl[ci]? = some (C, T, N)) (hk : k < N) (hin : ∀ w ∈ u_ws C T N, w ∈ xTB) (hw : Cond.fieldLink μ.1 index (T k).1 (T k).2.1 (T k).2.2.1 ∈ xTB) (hty0 : ∀ k, k < N → parseFieldDescriptor (T k).2.2.1 = some (ty0 k)) (hnames : ∀ a, a < N → ∀ b, b < N → a ≠ b → (T a).2.1 ≠ (T b).2.1) (ht : ty0 k = ty) (hfin : (T k).2.2.2 = false) : ySim l A CF μ pc (y_putf ci k ty (pc + 3)) := by
  intro p e s m args below meth c R Q C cf hcf st outs ho H locs cells slots ls stk J K
  obtain ⟨hx, hb, hml, hown, hts, hr, hlk, hnm, hR⟩ := C
  obtain ⟨en, cl, sl, h, L, S⟩ := st
  obtain ⟨ρ, ja, je, jc, js, jg, ⟨lv, jl, jd⟩, jS, jx, jo, jk⟩ := J
  match S, stk, jS, ho with
  | a :: x :: S, w :: v :: stk, ⟨da, dx, ds⟩, ho =>
    match x, dx, ho with
    | .inl (.ref r), dx, ho =>
      have dx : v = .ref (A.1.1 + r) := dx
      subst dx
      obtain ⟨hft, ho⟩ := y_condS (b := y_fit en ty a) (x := (match x_nth h r with
        | some (.inr (cj, fs)) => cond (Nat.beq ci cj) (x_set fs k a (fun fs => x_set h r (.inr (ci, fs)) (fun h => some [(Sum.inr (pc + 3, en, cl, sl, h, L, S) : yO)]))) none
        | _ => none)) ho
      match hn : x_nth h r, ho with
      | some (.inr (cj, fs)), ho =>
        obtain ⟨hcj, hz⟩ := y_condS (b := Nat.beq ci cj) (x := x_set fs k a (fun fs => x_set h r (.inr (ci, fs)) (fun h => some [(Sum.inr (pc + 3, en, cl, sl, h, L, S) : yO)]))) ho
        clear ho
        have hcj := Nat.eq_of_beq_eq_true hcj
        subst hcj
        obtain ⟨hkl, hz⟩ := x_set_eq _ _ _ _ hz
        obtain ⟨hrl, hz⟩ := x_set_eq _ _ _ _ hz
        have hz := Option.some.inj hz
        subst hz
        obtain ⟨vs, dvs, r', h1, cell, q1, q2, q3, q4⟩ := jg.2 _ _ (y_nth_lt hn).1
        have hr' : r' = (C, T, N) := Option.some.inj (h1.symm.trans hc)
        subst hr'
        obtain ⟨hfit, hnr⟩ := y_fit_den hft je da
        have hty : parseFieldDescriptor (T k).2.2.1 = some ty := by rw [hty0 k hk, ht]
        have hap := va_apart (own := μ.1) hts hin ty0 hty0 hnames jk hc
        obtain ⟨hS, hfc, kC, hkC, hkind⟩ := jk.1 ci _ hc
        obtain ⟨cf', kf, fi, f, hi, hsl⟩ := hS k hk
        have hlv : k < vs.length := by rw [← y_dens_len dvs]; exact hkl
        have hlay := hts _ (hin _ (u_in_lay hk))
        unfold u_lay at hlay
        rw [if_neg (by rw [hfin]; decide)] at hlay
        have hst := (u_facts hfc hkC (u_lays hts hin hk) hi).1
        have h6 := u_store hfc hkC hkind hlay hi hty hnr hfit
        refine W.putK hx hb (f := f) ⟨hown, hts _ hw, ⟨_, _, _, hi⟩, hst⟩ (by rw [q2]; exact h6) q1 q3 (by rw [hsl]; exact k2_hasslot (q4 k hk)) rfl rfl hd fun H' e1 e2 e3 => ?_
        rw [hsl] at e1 ⊢
        refine K _ (x_mem1 _) _ _ _ _ _ _ ⟨ρ, ja, je, jc, js, jg.set hrl ⟨vs.set k w, y_dens_set da dvs, ⟨_, hc, t_OB.to (V := updV (vp_V vs) k w) ⟨_, e1, q2, q3, t_set q4 hap hk w⟩ (fun j _ => vp_updV_set hlv w j)⟩⟩ e2 e3, ⟨lv, jl, jd⟩, ds, jx.kept (fun q hq => e3 q (Nat.ne_of_lt (Nat.lt_of_lt_of_le hq (Nat.le_add_right _ _)))), xlocs_put jo (Nat.le_add_right _ _), jk⟩

theorem y_putfin_s {C : String} {T : u_T} {N index : Nat} (ci k : Nat) (ty0 : Nat → FieldType) (ty : FieldType) (hd : decode μ.2.1 pc = .ok (.putfield index, 3)) (hc : vwCl[ci]? = some (C, T, N)) (hk : k < N) (hin : ∀ w ∈ u_ws C T N, w ∈ xTB) (hw : Cond.fieldLink μ.1 index (T k).1 (T k).2.1 (T k).2.2.1 ∈ xTB) (hty0 : ∀ k, k < N → parseFieldDescriptor (T k).2.2.1 = some (ty0 k)) (hnames : ∀ a, a < N → ∀ b, b < N → a ≠ b → (T a).2.1 ≠ (T b).2.1) (ht : ty0 k = ty) (hfin : (T k).2.2.2 = true) (hin2 : μ.2.2.2.2.1 = "<init>") (hdecl : (T k).1 = μ.1) : ySim l A CF μ pc (y_putf ci k ty (pc + 3)) := by
  intro p e s m args below meth c R Q C cf hcf st outs ho H locs cells slots ls stk J K
  obtain ⟨hx, hb, hml, hown, hts, hr, hlk, hnm, hR⟩ := C
  obtain ⟨en, cl, sl, h, L, S⟩ := st
  obtain ⟨ρ, ja, je, jc, js, jg, ⟨lv, jl, jd⟩, jS, jx, jo, jk⟩ := J
  match S, stk, jS, ho with
  | a :: x :: S, w :: v :: stk, ⟨da, dx, ds⟩, ho =>
    match x, dx, ho with
    | .inl (.ref r), dx, ho =>
      have dx : v = .ref (A.1.1 + r) := dx
      subst dx
      obtain ⟨hft, ho⟩ := y_condS (b := y_fit en ty a) (x := (match x_nth h r with
        | some (.inr (cj, fs)) => cond (Nat.beq ci cj) (x_set fs k a (fun fs => x_set h r (.inr (ci, fs)) (fun h => some [(Sum.inr (pc + 3, en, cl, sl, h, L, S) : yO)]))) none
        | _ => none)) ho
      match hn : x_nth h r, ho with
      | some (.inr (cj, fs)), ho =>
        obtain ⟨hcj, hz⟩ := y_condS (b := Nat.beq ci cj) (x := x_set fs k a (fun fs => x_set h r (.inr (ci, fs)) (fun h => some [(Sum.inr (pc + 3, en, cl, sl, h, L, S) : yO)]))) ho
        clear ho
        have hcj := Nat.eq_of_beq_eq_true hcj
        subst hcj
        obtain ⟨hkl, hz⟩ := x_set_eq _ _ _ _ hz
        obtain ⟨hrl, hz⟩ := x_set_eq _ _ _ _ hz
        have hz := Option.some.inj hz
        subst hz
        obtain ⟨vs, dvs, r', h1, cell, q1, q2, q3, q4⟩ := jg.2 _ _ (y_nth_lt hn).1
        have hr' : r' = (C, T, N) := Option.some.inj (h1.symm.trans hc)
        subst hr'
        obtain ⟨hfit, hnr⟩ := y_fit_den hft je da
        have hty : parseFieldDescriptor (T k).2.2.1 = some ty := by rw [hty0 k hk, ht]
        have hap := va_apart (own := μ.1) hts hin ty0 hty0 hnames jk hc
        obtain ⟨hS, hfc, kC, hkC, hkind⟩ := jk.1 ci _ hc
        obtain ⟨cf', kf, fi, f, hi, hsl⟩ := hS k hk
        have hlv : k < vs.length := by rw [← y_dens_len dvs]; exact hkl
        have hlay := hts _ (hin _ (u_in_lay hk))
        unfold u_lay at hlay
        rw [if_pos hfin] at hlay
        have hst := (u_facts hfc hkC (u_lays hts hin hk) hi).1
        have hcf2 : m.cls = cf' := by
          obtain ⟨_, _, c', _, _, _, -, -, hf', -, -, -, hown2, -⟩ := Cond.laysFinal_spec hlay
          have e1 : c' = cf' := by have := hi.symm.trans hf'; simp at this; exact this.1.symm
          rw [hdecl] at hown2
          rw [← e1]; exact Option.some.inj (hown.symm.trans hown2)
        have h6 := u_fits hfc hkC hkind (Or.inr hlay) hi hty hnr hfit
        refine W.putFinK hx hb hown (hts _ hw) hi hst hcf2 (hnm.trans hin2) (by rw [q2]; exact h6) q1 q3 (by rw [hsl]; exact k2_hasslot (q4 k hk)) rfl rfl hd fun H' e1 e2 e3 => ?_
        rw [hsl] at e1 ⊢
        refine K _ (x_mem1 _) _ _ _ _ _ _ ⟨ρ, ja, je, jc, js, jg.set hrl ⟨vs.set k w, y_dens_set da dvs, ⟨_, hc, t_OB.to (V := updV (vp_V vs) k w) ⟨_, e1, q2, q3, t_set q4 hap hk w⟩ (fun j _ => vp_updV_set hlv w j)⟩⟩ e2 e3, ⟨lv, jl, jd⟩, ds, jx.kept (fun q hq => e3 q (Nat.ne_of_lt (Nat.lt_of_lt_of_le hq (Nat.le_add_right _ _)))), xlocs_put jo (Nat.le_add_right _ _), jk⟩

end YSTEPS4
