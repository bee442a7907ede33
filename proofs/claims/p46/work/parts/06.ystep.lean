/-! ENGINE 2, steps: constants, loads, stores, arithmetic -/
noncomputable def y_fresh {β : Type} (e : yE) (q : yR) (ts : Nat → List (Nat × Nat × Int)) (f : yE → yV → Option β) : Option β := x_kZ q.1 (fun a => x_kZ q.2 (fun b => x_push e.1 (a, b) (fun l n => x_kN n (fun n => f (l, ts n ++ e.2) (.inr (0, n))))))
theorem y_fresh_eq {β : Type} (e : yE) (q : yR) (ts : Nat → List (Nat × Nat × Int)) (f : yE → yV → Option β) : y_fresh e q ts f = f (e.1 ++ [q], ts e.1.length ++ e.2) (.inr (0, e.1.length)) := by
  unfold y_fresh
  rw [x_kZ_eq, x_kZ_eq, x_push_eq, x_kN_eq]
noncomputable def y_push (v : yV) (nx : Nat) : yI := fun _ (e, cl, sl, h, L, S) => some [.inr (nx, e, cl, sl, h, L, v :: S)]
noncomputable def y_jump (nx : Nat) : yI := fun _ st => some [.inr (nx, st)]
noncomputable def y_bin32 (op : Int32 → Int32 → Int32) (bf : yR → yR → yR) (nx : Nat) : yI := fun _ (e, cl, sl, h, L, S) => match S with
  | y :: x :: S => match y, x with
    | .inl (.int b), .inl (.int a) => x_k32 (op a b) (fun r => some [.inr (nx, e, cl, sl, h, L, .inl (.int r) :: S)])
    | y, x => match y_rng e x, y_rng e y with
      | some q, some r => y_fresh e (bf q r) (fun _ => []) (fun e v => some [.inr (nx, e, cl, sl, h, L, v :: S)])
      | _, _ => none
  | _ => none
/-- what a step that answers one int leaves -/
def y_One (P : yP) (ρ : Nat → Int) (e : yE) (cl sl : Nat) (h : yH) (L : yL) (nx : Nat) (S : List yV) (w : Value) (outs : List yO) : Prop :=
  ∃ (ρ' : Nat → Int) (e' : yE) (v : yV), outs = [.inr (nx, e', cl, sl, h, L, v :: S)] ∧ e.1.length ≤ e'.1.length ∧ (∀ i, i < e.1.length → ρ' i = ρ i) ∧ yEnv ρ' e' ∧ yden P ρ' e'.1.length v w
theorem y_one_fresh {P : yP} {ρ : Nat → Int} {e : yE} {cl sl : Nat} {h : yH} {L : yL} {nx : Nat} {S : List yV} {outs : List yO} {q : yR} {x : Int32} {ts : Nat → List (Nat × Nat × Int)} (je : yEnv ρ e) (hx : y_in q x.toInt) (ht : ∀ t ∈ ts e.1.length, (t.1 < e.1.length + 1 ∧ t.2.1 < e.1.length + 1) ∧ (if t.1 = e.1.length then x.toInt else ρ t.1) ≤ (if t.2.1 = e.1.length then x.toInt else ρ t.2.1) + t.2.2) (ho : y_fresh e q ts (fun e v => some [Sum.inr (nx, e, cl, sl, h, L, v :: S)]) = some outs) : y_One P ρ e cl sl h L nx S (.int x) outs := by
  rw [y_fresh_eq] at ho
  exact ⟨_, _, _, (Option.some.inj ho).symm, by show _ ≤ (e.1 ++ [q]).length; simp, y_push_agree, je.push hx ht, y_new_den hx _⟩
theorem y_bin32_one {P : yP} {ρ : Nat → Int} {op : Int32 → Int32 → Int32} {bf : yR → yR → yR} {nx : Nat} {cf : yF} {e : yE} {cl sl : Nat} {h : yH} {L : yL} {S : List yV} {outs : List yO} {stk : List Value} (hbf : ∀ (q r : yR) (x y : Int32), y_in q x.toInt → y_in r y.toInt → y_in (bf q r) (op x y).toInt) (ho : y_bin32 op bf nx cf (e, cl, sl, h, L, S) = some outs) (je : yEnv ρ e) (d : ydens P ρ e.1.length S stk) : ∃ (b a : Int32) (S' : List yV) (stk' : List Value), stk = .int b :: .int a :: stk' ∧ ydens P ρ e.1.length S' stk' ∧ y_One P ρ e cl sl h L nx S' (.int (op a b)) outs := by
  match S, stk, d, ho with
  | y :: x :: S, w :: v :: stk, ⟨dy, dx, d⟩, ho =>
    have key : (match y_rng e x, y_rng e y with
      | some q, some r => y_fresh e (bf q r) (fun _ => []) (fun e v => some [(Sum.inr (nx, e, cl, sl, h, L, v :: S) : yO)])
      | _, _ => none) = some outs → ∃ (b a : Int32) (S' : List yV) (stk' : List Value), w :: v :: stk = .int b :: .int a :: stk' ∧ ydens P ρ e.1.length S' stk' ∧ y_One P ρ e cl sl h L nx S' (.int (op a b)) outs := by
      intro ho
      match hq : y_rng e x, hr : y_rng e y, ho with
      | some q, some r, ho =>
        obtain ⟨a, rfl, ha, -⟩ := y_rng_den hq je dx
        obtain ⟨b, rfl, hb, -⟩ := y_rng_den hr je dy
        exact ⟨b, a, S, stk, rfl, d, y_one_fresh je (hbf q r a b ha hb) (fun t ht => absurd ht List.not_mem_nil) ho⟩
    match y, x, dy, dx, ho, key with
    | .inl (.int b), .inl (.int a), dy, dx, ho, _ =>
      have dx : v = .int a := dx
      have dy : w = .int b := dy
      subst dx
      subst dy
      have ho : x_k32 (op a b) (fun r => some [Sum.inr (nx, e, cl, sl, h, L, (Sum.inl (Value.int r) : yV) :: S)]) = some outs := ho
      rw [x_k32_eq] at ho
      exact ⟨b, a, S, stk, rfl, d, ρ, e, .inl (.int (op a b)), (Option.some.inj ho).symm, Nat.le_refl _, fun _ _ => rfl, je, rfl⟩
    | .inl (.int b), .inr z, dy, dx, ho, key => exact key ho
    | .inr z, x, dy, dx, ho, key => exact key ho
    | .inl (.int b), .inl (.long _), dy, dx, ho, key => exact key ho
    | .inl (.long _), x, dy, dx, ho, key => exact key ho
    | .inl (.int b), .inl (.float _), dy, dx, ho, key => exact key ho
    | .inl (.float _), x, dy, dx, ho, key => exact key ho
    | .inl (.int b), .inl (.double _), dy, dx, ho, key => exact key ho
    | .inl (.double _), x, dy, dx, ho, key => exact key ho
    | .inl (.int b), .inl (.null), dy, dx, ho, key => exact key ho
    | .inl (.null), x, dy, dx, ho, key => exact key ho
    | .inl (.int b), .inl (.ref _), dy, dx, ho, key => exact key ho
    | .inl (.ref _), x, dy, dx, ho, key => exact key ho
    | .inl (.int b), .inl (.retAddr _), dy, dx, ho, key => exact key ho
    | .inl (.retAddr _), x, dy, dx, ho, key => exact key ho
section YSTEPS
variable {l : Launch} {A : yQ} {CF : yF → Prop} {μ : xM} {pc : Nat}

/-- a state with one more on its stack, behind a step that answers one -/
theorem yJ_one {nL : Nat} {R : Room} {s : State} {en : yE} {cl sl : Nat} {h : yH} {L : yL} {S : List yV} {ρ : Nat → Int} {H : Heap} {locs : List Loc} {cells slots : Nat} {ls : Array Slot} {stk : List Value} {lv : List (Nat × Value)} {w : Value} {nx : Nat} {outs : List yO} (ja : A.2.2.2 ≤ en.1.length ∧ ∀ i, i < A.2.2.2 → ρ i = A.2.2.1 i) (jc : cells + cl ≤ R.cells) (js : slots + sl ≤ R.slots) (jg : yHp A.1 ρ en.1.length h s H) (jl : lv_has ls nL lv) (jd : yldens A.1 ρ en.1.length L lv) (jS : ydens A.1 ρ en.1.length S stk) (jx : yX A.1 A.2.1 s H) (jo : ∀ q ∈ locs, A.1.1 ≤ q.base) (jk : va_K A.1.2.2 vwCl [] s) (g : y_One A.1 ρ en cl sl h L nx S w outs) : ∃ st', outs = [.inr (nx, st')] ∧ yJ A nL R s st' H locs cells slots ls (w :: stk) := by
  obtain ⟨ρ', e', v, rfl, g1, g2, g3, g4⟩ := g
  exact ⟨_, rfl, ρ', ⟨Nat.le_trans ja.1 g1, fun i hi => (g2 i (Nat.lt_of_lt_of_le hi ja.1)).trans (ja.2 i hi)⟩, g3, jc, js, jg.mono g1 g2, ⟨lv, jl, jd.mono g1 g2⟩, ⟨g4, jS.mono g1 g2⟩, jx, jo, jk⟩

theorem y_iconst {n : Int} (v : Int32) (hd : decode μ.2.1 pc = .ok (.iconst n, 1)) (hv : Int32.ofInt n = v) : ySim l A CF μ pc (y_push (.inl (.int v)) (pc + 1)) := by
  intro p e s m args below meth c R Q C cf hcf st outs ho H locs cells slots ls stk J K
  obtain ⟨hx, hb, hml, hown, hts, hr, hlk, hnm, hR⟩ := C
  obtain ⟨en, cl, sl, h, L, S⟩ := st
  obtain ⟨ρ, ja, je, jc, js, jg, ⟨lv, jl, jd⟩, jS, jx, jo, jk⟩ := J
  have ho := Option.some.inj ho
  subst ho
  exact lv_iconst hx hb hd hv (K _ (x_mem1 _) _ _ _ _ _ _ ⟨ρ, ja, je, jc, js, jg, ⟨lv, jl, jd⟩, ⟨rfl, jS⟩, jx, jo, jk⟩)

theorem y_bipush {n : Int} (v : Int32) (hd : decode μ.2.1 pc = .ok (.bipush n, 2)) (hv : (Int8.ofInt n).toInt32 = v) : ySim l A CF μ pc (y_push (.inl (.int v)) (pc + 2)) := by
  intro p e s m args below meth c R Q C cf hcf st outs ho H locs cells slots ls stk J K
  obtain ⟨hx, hb, hml, hown, hts, hr, hlk, hnm, hR⟩ := C
  obtain ⟨en, cl, sl, h, L, S⟩ := st
  obtain ⟨ρ, ja, je, jc, js, jg, ⟨lv, jl, jd⟩, jS, jx, jo, jk⟩ := J
  have ho := Option.some.inj ho
  subst ho
  exact lv_bipush hx hb hd hv (K _ (x_mem1 _) _ _ _ _ _ _ ⟨ρ, ja, je, jc, js, jg, ⟨lv, jl, jd⟩, ⟨rfl, jS⟩, jx, jo, jk⟩)

theorem y_sipush {n : Int} (v : Int32) (hd : decode μ.2.1 pc = .ok (.sipush n, 3)) (hv : (Int16.ofInt n).toInt32 = v) : ySim l A CF μ pc (y_push (.inl (.int v)) (pc + 3)) := by
  intro p e s m args below meth c R Q C cf hcf st outs ho H locs cells slots ls stk J K
  obtain ⟨hx, hb, hml, hown, hts, hr, hlk, hnm, hR⟩ := C
  obtain ⟨en, cl, sl, h, L, S⟩ := st
  obtain ⟨ρ, ja, je, jc, js, jg, ⟨lv, jl, jd⟩, jS, jx, jo, jk⟩ := J
  have ho := Option.some.inj ho
  subst ho
  exact lv_sipush hx hb hd hv (K _ (x_mem1 _) _ _ _ _ _ _ ⟨ρ, ja, je, jc, js, jg, ⟨lv, jl, jd⟩, ⟨rfl, jS⟩, jx, jo, jk⟩)

theorem y_lconst {n : Fin 2} (v : Int64) (hd : decode μ.2.1 pc = .ok (.lconst n, 1)) (hv : Int64.ofNat (n : Nat) = v) : ySim l A CF μ pc (y_push (.inl (.long v)) (pc + 1)) := by
  intro p e s m args below meth c R Q C cf hcf st outs ho H locs cells slots ls stk J K
  obtain ⟨hx, hb, hml, hown, hts, hr, hlk, hnm, hR⟩ := C
  obtain ⟨en, cl, sl, h, L, S⟩ := st
  obtain ⟨ρ, ja, je, jc, js, jg, ⟨lv, jl, jd⟩, jS, jx, jo, jk⟩ := J
  have ho := Option.some.inj ho
  subst ho
  exact lv_lconst hx hb hd hv (K _ (x_mem1 _) _ _ _ _ _ _ ⟨ρ, ja, je, jc, js, jg, ⟨lv, jl, jd⟩, ⟨rfl, jS⟩, jx, jo, jk⟩)

theorem y_ldc {i : Nat} (v : Int32) (hd : decode μ.2.1 pc = .ok (.ldc i, 2)) (hw : Cond.constant μ.1 i v ∈ xTB) : ySim l A CF μ pc (y_push (.inl (.int v)) (pc + 2)) := by
  intro p e s m args below meth c R Q C cf hcf st outs ho H locs cells slots ls stk J K
  obtain ⟨hx, hb, hml, hown, hts, hr, hlk, hnm, hR⟩ := C
  obtain ⟨en, cl, sl, h, L, S⟩ := st
  obtain ⟨ρ, ja, je, jc, js, jg, ⟨lv, jl, jd⟩, jS, jx, jo, jk⟩ := J
  have ho := Option.some.inj ho
  subst ho
  exact lv_ldc hx hb hown (hts _ hw) hd (K _ (x_mem1 _) _ _ _ _ _ _ ⟨ρ, ja, je, jc, js, jg, ⟨lv, jl, jd⟩, ⟨rfl, jS⟩, jx, jo, jk⟩)

theorem y_ldcw {i : Nat} (v : Int32) (hd : decode μ.2.1 pc = .ok (.ldc_w i, 3)) (hw : Cond.constant μ.1 i v ∈ xTB) : ySim l A CF μ pc (y_push (.inl (.int v)) (pc + 3)) := by
  intro p e s m args below meth c R Q C cf hcf st outs ho H locs cells slots ls stk J K
  obtain ⟨hx, hb, hml, hown, hts, hr, hlk, hnm, hR⟩ := C
  obtain ⟨en, cl, sl, h, L, S⟩ := st
  obtain ⟨ρ, ja, je, jc, js, jg, ⟨lv, jl, jd⟩, jS, jx, jo, jk⟩ := J
  have ho := Option.some.inj ho
  subst ho
  exact lv_ldcw hx hb hown (hts _ hw) hd (K _ (x_mem1 _) _ _ _ _ _ _ ⟨ρ, ja, je, jc, js, jg, ⟨lv, jl, jd⟩, ⟨rfl, jS⟩, jx, jo, jk⟩)

theorem y_ldc2 {i : Nat} (v : Int64) (hd : decode μ.2.1 pc = .ok (.ldc2_w i, 3)) (hw : Cond.constantLong μ.1 i v ∈ xTB) : ySim l A CF μ pc (y_push (.inl (.long v)) (pc + 3)) := by
  intro p e s m args below meth c R Q C cf hcf st outs ho H locs cells slots ls stk J K
  obtain ⟨hx, hb, hml, hown, hts, hr, hlk, hnm, hR⟩ := C
  obtain ⟨en, cl, sl, h, L, S⟩ := st
  obtain ⟨ρ, ja, je, jc, js, jg, ⟨lv, jl, jd⟩, jS, jx, jo, jk⟩ := J
  have ho := Option.some.inj ho
  subst ho
  exact lv_ldc2 hx hb hown (hts _ hw) hd (K _ (x_mem1 _) _ _ _ _ _ _ ⟨ρ, ja, je, jc, js, jg, ⟨lv, jl, jd⟩, ⟨rfl, jS⟩, jx, jo, jk⟩)

theorem y_iadd (hd : decode μ.2.1 pc = .ok (.iadd, 1)) : ySim l A CF μ pc (y_bin32 (fun x y => x + y) y_add (pc + 1)) := by
  intro p e s m args below meth c R Q C cf hcf st outs ho H locs cells slots ls stk J K
  obtain ⟨hx, hb, hml, hown, hts, hr, hlk, hnm, hR⟩ := C
  obtain ⟨en, cl, sl, h, L, S⟩ := st
  obtain ⟨ρ, ja, je, jc, js, jg, ⟨lv, jl, jd⟩, jS, jx, jo, jk⟩ := J
  obtain ⟨b, a, S', stk', rfl, ds, g⟩ := y_bin32_one (fun q r x y hx hy => y_add_in hx hy) ho je jS
  obtain ⟨st', rfl, J'⟩ := yJ_one ja jc js jg jl jd ds jx jo jk g
  exact lv_iadd hx hb hd (K _ (x_mem1 _) _ _ _ _ _ _ J')

theorem y_isub (hd : decode μ.2.1 pc = .ok (.isub, 1)) : ySim l A CF μ pc (y_bin32 (fun x y => x - y) y_sub (pc + 1)) := by
  intro p e s m args below meth c R Q C cf hcf st outs ho H locs cells slots ls stk J K
  obtain ⟨hx, hb, hml, hown, hts, hr, hlk, hnm, hR⟩ := C
  obtain ⟨en, cl, sl, h, L, S⟩ := st
  obtain ⟨ρ, ja, je, jc, js, jg, ⟨lv, jl, jd⟩, jS, jx, jo, jk⟩ := J
  obtain ⟨b, a, S', stk', rfl, ds, g⟩ := y_bin32_one (fun q r x y hx hy => y_sub_in hx hy) ho je jS
  obtain ⟨st', rfl, J'⟩ := yJ_one ja jc js jg jl jd ds jx jo jk g
  exact lv_isub hx hb hd (K _ (x_mem1 _) _ _ _ _ _ _ J')

theorem y_imul (hd : decode μ.2.1 pc = .ok (.imul, 1)) : ySim l A CF μ pc (y_bin32 (fun x y => x * y) y_mul (pc + 1)) := by
  intro p e s m args below meth c R Q C cf hcf st outs ho H locs cells slots ls stk J K
  obtain ⟨hx, hb, hml, hown, hts, hr, hlk, hnm, hR⟩ := C
  obtain ⟨en, cl, sl, h, L, S⟩ := st
  obtain ⟨ρ, ja, je, jc, js, jg, ⟨lv, jl, jd⟩, jS, jx, jo, jk⟩ := J
  obtain ⟨b, a, S', stk', rfl, ds, g⟩ := y_bin32_one (fun q r x y hx hy => y_mul_in hx hy) ho je jS
  obtain ⟨st', rfl, J'⟩ := yJ_one ja jc js jg jl jd ds jx jo jk g
  exact lv_imul hx hb hd (K _ (x_mem1 _) _ _ _ _ _ _ J')

theorem y_iand (hd : decode μ.2.1 pc = .ok (.iand, 1)) : ySim l A CF μ pc (y_bin32 (fun x y => x &&& y) y_and (pc + 1)) := by
  intro p e s m args below meth c R Q C cf hcf st outs ho H locs cells slots ls stk J K
  obtain ⟨hx, hb, hml, hown, hts, hr, hlk, hnm, hR⟩ := C
  obtain ⟨en, cl, sl, h, L, S⟩ := st
  obtain ⟨ρ, ja, je, jc, js, jg, ⟨lv, jl, jd⟩, jS, jx, jo, jk⟩ := J
  obtain ⟨b, a, S', stk', rfl, ds, g⟩ := y_bin32_one (fun q r x y hx hy => y_and_in hx hy) ho je jS
  obtain ⟨st', rfl, J'⟩ := yJ_one ja jc js jg jl jd ds jx jo jk g
  exact lv_iand hx hb hd (K _ (x_mem1 _) _ _ _ _ _ _ J')

theorem y_goto {off : Int} (tgt : Nat) (hd : decode μ.2.1 pc = .ok (.goto off, 3)) (ht : (pc : Int) + off = (tgt : Int)) : ySim l A CF μ pc (y_jump tgt) := by
  intro p e s m args below meth c R Q C cf hcf st outs ho H locs cells slots ls stk J K
  obtain ⟨hx, hb, hml, hown, hts, hr, hlk, hnm, hR⟩ := C
  obtain ⟨en, cl, sl, h, L, S⟩ := st
  obtain ⟨ρ, ja, je, jc, js, jg, ⟨lv, jl, jd⟩, jS, jx, jo, jk⟩ := J
  have ho := Option.some.inj ho
  subst ho
  exact lv_goto hx hb hd ht (K _ (x_mem1 _) _ _ _ _ _ _ ⟨ρ, ja, je, jc, js, jg, ⟨lv, jl, jd⟩, jS, jx, jo, jk⟩)
end YSTEPS
