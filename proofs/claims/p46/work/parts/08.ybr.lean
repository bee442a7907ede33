/-! ENGINE 2, steps: branches, what they tell of the unknowns -/
noncomputable def x_min (a b : Int) : Int := cond (decide (a ≤ b)) a b
noncomputable def x_max (a b : Int) : Int := cond (decide (a ≤ b)) b a
theorem x_le_min (z a b : Int) : z ≤ x_min a b ↔ z ≤ a ∧ z ≤ b := by
  unfold x_min
  by_cases h : a ≤ b
  · rw [decide_eq_true h]; show z ≤ a ↔ _; omega
  · rw [decide_eq_false h]; show z ≤ b ↔ _; omega
theorem x_max_le (z a b : Int) : x_max a b ≤ z ↔ a ≤ z ∧ b ≤ z := by
  unfold x_max
  by_cases h : a ≤ b
  · rw [decide_eq_true h]; show b ≤ z ↔ _; omega
  · rw [decide_eq_false h]; show a ≤ z ↔ _; omega
def x_rel (b : Nat) (x y : Int) : Prop := match b with
  | 0 => x < y
  | 1 => y < x
  | _ => x = y
noncomputable def y_setb {β : Type} (e : yE) (v : yV) (q : yR) (f : yE → Option β) : Option β := match v with
  | .inr (0, i) => x_kZ q.1 (fun a => x_kZ q.2 (fun b => x_set e.1 i (a, b) (fun l => f (l, e.2))))
  | _ => f e
theorem y_setb_den {β : Type} {ρ : Nat → Int} {e : yE} {v : yV} {q : yR} {f : yE → Option β} {r : β} (ho : y_setb e v q f = some r) : ∃ e' : yE, f e' = some r ∧ e'.1.length = e.1.length ∧ (yEnv ρ e → (∀ i, v = .inr (0, i) → y_in q (ρ i)) → yEnv ρ e') := by
  match v, ho with
  | .inl w, ho => exact ⟨e, ho, rfl, fun h _ => h⟩
  | .inr (n + 1, i), ho => exact ⟨e, ho, rfl, fun h _ => h⟩
  | .inr (0, i), ho =>
    have ho : x_kZ q.1 (fun a => x_kZ q.2 (fun b => x_set e.1 i (a, b) (fun l => f (l, e.2)))) = some r := ho
    rw [x_kZ_eq, x_kZ_eq] at ho
    obtain ⟨hl, ho⟩ := x_set_eq _ _ _ _ ho
    have hlen : (e.1.set i (q.1, q.2)).length = e.1.length := List.length_set
    refine ⟨_, ho, hlen, fun je hi => ⟨fun j t hj => ?_, fun t ht => ?_⟩⟩
    · have hj : (e.1.set i (q.1, q.2))[j]? = some t := hj
      by_cases hij : j = i
      · subst hij
        rw [List.getElem?_set_self hl] at hj
        cases hj
        exact hi j rfl
      · rw [List.getElem?_set_ne (Ne.symm hij)] at hj
        exact je.1 j t hj
    · obtain ⟨g1, g2⟩ := je.2 t ht
      exact ⟨by show t.1 < (e.1.set i (q.1, q.2)).length ∧ t.2.1 < (e.1.set i (q.1, q.2)).length; rw [hlen]; exact g1, g2⟩
noncomputable def y_dif (e : yE) (x y : yV) (c : Int) : yE := match x, y with
  | .inr (0, i), .inr (0, j) => (e.1, (i, j, -c) :: e.2)
  | _, _ => e
theorem y_dif_len (e : yE) (x y : yV) (c : Int) : (y_dif e x y c).1.length = e.1.length := by
  unfold y_dif
  split <;> rfl
theorem y_dif_den {P : yP} {ρ : Nat → Int} {n : Nat} {e : yE} {x y : yV} {c : Int} {a b : Int32} (je : yEnv ρ e) (hn : n = e.1.length) (dx : yden P ρ n x (.int a)) (dy : yden P ρ n y (.int b)) (h : a.toInt + c ≤ b.toInt) : yEnv ρ (y_dif e x y c) := by
  unfold y_dif
  split
  · rename_i i j
    obtain ⟨d1, d2, d3, d4⟩ := dx
    obtain ⟨f1, f2, f3, f4⟩ := dy
    have d2 := Value.int.inj d2
    have f2 := Value.int.inj f2
    have e1 : a.toInt = ρ i := by rw [d2]; exact Int32.toInt_ofInt_of_le (by omega) (by omega)
    have e2 : b.toInt = ρ j := by rw [f2]; exact Int32.toInt_ofInt_of_le (by omega) (by omega)
    refine ⟨je.1, fun t ht => ?_⟩
    rcases List.mem_cons.mp ht with ht | ht
    · subst ht
      refine ⟨⟨by show i < e.1.length; omega, by show j < e.1.length; omega⟩, ?_⟩
      show ρ i ≤ ρ j + -c
      omega
    · exact je.2 t ht
  · exact je
-- x and c are at most y
noncomputable def y_cmp {β : Type} (c : Int) (e : yE) (x y : yV) (f : yE → Option β) (no : Option β) : Option β := match y_rng e x, y_rng e y with
  | some q, some r => cond (decide (q.1 ≤ x_min q.2 (r.2 - c)) && decide (x_max r.1 (q.1 + c) ≤ r.2)) (y_setb e x (q.1, x_min q.2 (r.2 - c)) (fun e => y_setb e y (x_max r.1 (q.1 + c), r.2) (fun e => f (y_dif e x y c)))) no
  | _, _ => none
theorem y_cmp_den {β : Type} {P : yP} {ρ : Nat → Int} {n : Nat} {c : Int} {e : yE} {x y : yV} {f : yE → Option β} {no : Option β} {r : β} (ho : y_cmp c e x y f no = some r) (je : yEnv ρ e) (hn : n = e.1.length) {v w : Value} (dx : yden P ρ n x v) (dy : yden P ρ n y w) : ∃ a b : Int32, v = .int a ∧ w = .int b ∧ ((∃ e' : yE, f e' = some r ∧ e'.1.length = n ∧ (a.toInt + c ≤ b.toInt → yEnv ρ e')) ∨ (no = some r ∧ ¬ a.toInt + c ≤ b.toInt)) := by
  unfold y_cmp at ho
  match hq : y_rng e x, hr : y_rng e y, ho with
  | some q, some t, ho =>
    obtain ⟨a, rfl, ha, ia⟩ := y_rng_den hq je dx
    obtain ⟨b, rfl, hb, ib⟩ := y_rng_den hr je dy
    refine ⟨a, b, rfl, rfl, ?_⟩
    cases hc : (decide (q.1 ≤ x_min q.2 (t.2 - c)) && decide (x_max t.1 (q.1 + c) ≤ t.2)) with
    | false =>
      have ho : cond (decide (q.1 ≤ x_min q.2 (t.2 - c)) && decide (x_max t.1 (q.1 + c) ≤ t.2)) (y_setb e x (q.1, x_min q.2 (t.2 - c)) (fun e => y_setb e y (x_max t.1 (q.1 + c), t.2) (fun e => f (y_dif e x y c)))) no = some r := ho
      rw [hc] at ho
      refine Or.inr ⟨ho, fun h => ?_⟩
      obtain ⟨a1, a2⟩ := ha
      obtain ⟨b1, b2⟩ := hb
      have h1 : q.1 ≤ x_min q.2 (t.2 - c) := by rw [x_le_min]; omega
      have h2 : x_max t.1 (q.1 + c) ≤ t.2 := by rw [x_max_le]; omega
      rw [decide_eq_true h1, decide_eq_true h2] at hc
      cases hc
    | true =>
      have ho : cond (decide (q.1 ≤ x_min q.2 (t.2 - c)) && decide (x_max t.1 (q.1 + c) ≤ t.2)) (y_setb e x (q.1, x_min q.2 (t.2 - c)) (fun e => y_setb e y (x_max t.1 (q.1 + c), t.2) (fun e => f (y_dif e x y c)))) no = some r := ho
      rw [hc] at ho
      have ho : y_setb e x (q.1, x_min q.2 (t.2 - c)) (fun e => y_setb e y (x_max t.1 (q.1 + c), t.2) (fun e => f (y_dif e x y c))) = some r := ho
      obtain ⟨e1, ho, l1, k1⟩ := y_setb_den (ρ := ρ) ho
      obtain ⟨e2, ho, l2, k2⟩ := y_setb_den (ρ := ρ) ho
      refine Or.inl ⟨_, ho, by rw [y_dif_len, l2, l1, hn], fun h => ?_⟩
      obtain ⟨a1, a2⟩ := ha
      obtain ⟨b1, b2⟩ := hb
      refine y_dif_den (k2 (k1 je (fun i hi => ?_)) (fun i hi => ?_)) (by rw [l2, l1, hn]) dx dy h
      · rw [ia i hi]
        show q.1 ≤ _ ∧ _ ≤ x_min q.2 (t.2 - c)
        rw [x_le_min]; omega
      · rw [ib i hi]
        show x_max t.1 (q.1 + c) ≤ _ ∧ _ ≤ t.2
        rw [x_max_le]; omega
noncomputable def y_add1 (c : Int) (e : yE) (x y : yV) (o : yE → yO) (rest : List yO) : Option (List yO) := y_cmp c e x y (fun e => some (o e :: rest)) (some rest)
theorem y_add1_den {P : yP} {ρ : Nat → Int} {n : Nat} {c : Int} {e : yE} {x y : yV} {o : yE → yO} {rest outs : List yO} (ho : y_add1 c e x y o rest = some outs) (je : yEnv ρ e) (hn : n = e.1.length) {v w : Value} (dx : yden P ρ n x v) (dy : yden P ρ n y w) : ∃ a b : Int32, v = .int a ∧ w = .int b ∧ (∀ z ∈ rest, z ∈ outs) ∧ (a.toInt + c ≤ b.toInt → ∃ e', yEnv ρ e' ∧ e'.1.length = n ∧ o e' ∈ outs) := by
  obtain ⟨a, b, h1, h2, h3⟩ := y_cmp_den ho je hn dx dy
  refine ⟨a, b, h1, h2, ?_⟩
  rcases h3 with ⟨e', g1, g2, g3⟩ | ⟨g1, g2⟩
  · have g1 := Option.some.inj g1
    subst g1
    exact ⟨fun z hz => List.mem_cons_of_mem _ hz, fun h => ⟨e', g3 h, g2, List.mem_cons_self⟩⟩
  · have g1 := Option.some.inj g1
    subst g1
    exact ⟨fun z hz => hz, fun h => absurd h g2⟩
noncomputable def y_addq (e : yE) (x y : yV) (o : yE → yO) (rest : List yO) : Option (List yO) := y_cmp 0 e x y (fun e => y_cmp 0 e y x (fun e => some (o e :: rest)) (some rest)) (some rest)
theorem y_addq_den {P : yP} {ρ : Nat → Int} {n : Nat} {e : yE} {x y : yV} {o : yE → yO} {rest outs : List yO} (ho : y_addq e x y o rest = some outs) (je : yEnv ρ e) (hn : n = e.1.length) {v w : Value} (dx : yden P ρ n x v) (dy : yden P ρ n y w) : ∃ a b : Int32, v = .int a ∧ w = .int b ∧ (a.toInt = b.toInt → ∃ e', yEnv ρ e' ∧ e'.1.length = n ∧ o e' ∈ outs) := by
  obtain ⟨a, b, h1, h2, h3⟩ := y_cmp_den ho je hn dx dy
  subst h1
  subst h2
  refine ⟨a, b, rfl, rfl, fun hab => ?_⟩
  rcases h3 with ⟨e', g1, g2, g3⟩ | ⟨g1, g2⟩
  · obtain ⟨b', a', k1, k2, k3⟩ := y_cmp_den g1 (g3 (by omega)) g2.symm dy dx
    cases k1
    cases k2
    rcases k3 with ⟨e2, m1, m2, m3⟩ | ⟨m1, m2⟩
    · have m1 := Option.some.inj m1
      subst m1
      exact ⟨e2, m3 (by omega), m2, List.mem_cons_self⟩
    · exact absurd (by omega) m2
  · exact absurd (by omega) g2
noncomputable def y_br (b : Nat) (e : yE) (x y : yV) (oT oF : yE → yO) : Option (List yO) := match b with
  | 0 => match y_add1 0 e y x oF [] with
    | some r => y_add1 1 e x y oT r
    | none => none
  | 1 => match y_add1 0 e x y oF [] with
    | some r => y_add1 1 e y x oT r
    | none => none
  | _ => match y_add1 1 e x y oF [] with
    | some r => match y_add1 1 e y x oF r with
      | some r' => match y_addq e x y oT [] with
        | some r'' => some (r' ++ r'')
        | none => none
      | none => none
    | none => none
theorem y_br_den {P : yP} {ρ : Nat → Int} {b n : Nat} {e : yE} {x y : yV} {oT oF : yE → yO} {outs : List yO} {v w : Value} (ho : y_br b e x y oT oF = some outs) (je : yEnv ρ e) (hn : n = e.1.length) (dx : yden P ρ n x v) (dy : yden P ρ n y w) : ∃ a c : Int32, v = .int a ∧ w = .int c ∧ (x_rel b a.toInt c.toInt → ∃ e', yEnv ρ e' ∧ e'.1.length = n ∧ oT e' ∈ outs) ∧ (¬ x_rel b a.toInt c.toInt → ∃ e', yEnv ρ e' ∧ e'.1.length = n ∧ oF e' ∈ outs) := by
  match b, ho with
  | 0, ho =>
    have ho : (match y_add1 0 e y x oF [] with
      | some r => y_add1 1 e x y oT r
      | none => none) = some outs := ho
    match h1 : y_add1 0 e y x oF [], ho with
    | some r, ho =>
      obtain ⟨c, a, rfl, rfl, -, g1⟩ := y_add1_den h1 je hn dy dx
      obtain ⟨a', c', e1, e2, g2, g3⟩ := y_add1_den ho je hn dx dy
      cases e1
      cases e2
      refine ⟨a, c, rfl, rfl, fun h => g3 (by have h : a.toInt < c.toInt := h; omega), fun h => ?_⟩
      obtain ⟨e', k1, k2, k3⟩ := g1 (by have h : ¬ a.toInt < c.toInt := h; omega)
      exact ⟨e', k1, k2, g2 _ k3⟩
  | 1, ho =>
    have ho : (match y_add1 0 e x y oF [] with
      | some r => y_add1 1 e y x oT r
      | none => none) = some outs := ho
    match h1 : y_add1 0 e x y oF [], ho with
    | some r, ho =>
      obtain ⟨a, c, rfl, rfl, -, g1⟩ := y_add1_den h1 je hn dx dy
      obtain ⟨c', a', e1, e2, g2, g3⟩ := y_add1_den ho je hn dy dx
      cases e1
      cases e2
      refine ⟨a, c, rfl, rfl, fun h => g3 (by have h : c.toInt < a.toInt := h; omega), fun h => ?_⟩
      obtain ⟨e', k1, k2, k3⟩ := g1 (by have h : ¬ c.toInt < a.toInt := h; omega)
      exact ⟨e', k1, k2, g2 _ k3⟩
  | m + 2, ho =>
    have ho : (match y_add1 1 e x y oF [] with
      | some r => match y_add1 1 e y x oF r with
        | some r' => match y_addq e x y oT [] with
          | some r'' => some (r' ++ r'')
          | none => none
        | none => none
      | none => none) = some outs := ho
    match h1 : y_add1 1 e x y oF [], ho with
    | some r, ho =>
      have ho : (match y_add1 1 e y x oF r with
        | some r' => match y_addq e x y oT [] with
          | some r'' => some (r' ++ r'')
          | none => none
        | none => none) = some outs := ho
      match h2 : y_add1 1 e y x oF r, ho with
      | some r', ho =>
        have ho : (match y_addq e x y oT [] with
          | some r'' => some (r' ++ r'')
          | none => none) = some outs := ho
        match h3 : y_addq e x y oT [], ho with
        | some r'', ho =>
          have ho := Option.some.inj ho
          subst ho
          obtain ⟨a, c, rfl, rfl, -, g1⟩ := y_add1_den h1 je hn dx dy
          obtain ⟨c', a', e1, e2, g2, g3⟩ := y_add1_den h2 je hn dy dx
          cases e1
          cases e2
          obtain ⟨a', c', e1, e2, g4⟩ := y_addq_den h3 je hn dx dy
          cases e1
          cases e2
          refine ⟨a, c, rfl, rfl, fun h => ?_, fun h => ?_⟩
          · obtain ⟨e', k1, k2, k3⟩ := g4 h
            exact ⟨e', k1, k2, List.mem_append_right _ k3⟩
          · have h : ¬ a.toInt = c.toInt := h
            by_cases hlt : a.toInt < c.toInt
            · obtain ⟨e', k1, k2, k3⟩ := g1 (by omega)
              exact ⟨e', k1, k2, List.mem_append_left _ (g2 _ k3)⟩
            · obtain ⟨e', k1, k2, k3⟩ := g3 (by omega)
              exact ⟨e', k1, k2, List.mem_append_left _ k3⟩
noncomputable def y_if (b pT pF : Nat) : yI := fun _ (e, cl, sl, h, L, S) => match S with
  | x :: S => y_br b e x (.inl (.int 0)) (fun e => .inr (pT, e, cl, sl, h, L, S)) (fun e => .inr (pF, e, cl, sl, h, L, S))
  | [] => none
noncomputable def y_icmp (b pT pF : Nat) : yI := fun _ (e, cl, sl, h, L, S) => match S with
  | y :: x :: S => y_br b e x y (fun e => .inr (pT, e, cl, sl, h, L, S)) (fun e => .inr (pF, e, cl, sl, h, L, S))
  | _ => none
section YSTEPS3
variable {l : Launch} {A : yQ} {CF : yF → Prop} {μ : xM} {pc : Nat}
/-- a state whose unknowns are told more of -/
theorem yJ_told {nL : Nat} {R : Room} {s : State} {en e' : yE} {cl sl : Nat} {h : yH} {L : yL} {S : List yV} {ρ : Nat → Int} {H : Heap} {locs : List Loc} {cells slots : Nat} {ls : Array Slot} {stk : List Value} {lv : List (Nat × Value)} (ja : A.2.2.2 ≤ en.1.length ∧ ∀ i, i < A.2.2.2 → ρ i = A.2.2.1 i) (jc : cells + cl ≤ R.cells) (js : slots + sl ≤ R.slots) (jg : yHp A.1 ρ en.1.length h s H) (jl : lv_has ls nL lv) (jd : yldens A.1 ρ en.1.length L lv) (jS : ydens A.1 ρ en.1.length S stk) (jx : yX A.1 A.2.1 s H) (jo : ∀ q ∈ locs, A.1.1 ≤ q.base) (jk : va_K A.1.2.2 vwCl [] s) (h1 : yEnv ρ e') (h2 : e'.1.length = en.1.length) : yJ A nL R s (e', cl, sl, h, L, S) H locs cells slots ls stk :=
  ⟨ρ, by show A.2.2.2 ≤ e'.1.length ∧ _; rw [h2]; exact ja, h1, jc, js, by show yHp A.1 ρ e'.1.length _ _ _; rw [h2]; exact jg, ⟨lv, jl, by show yldens A.1 ρ e'.1.length _ _; rw [h2]; exact jd⟩, by show ydens A.1 ρ e'.1.length _ _; rw [h2]; exact jS, jx, jo, jk⟩

theorem y_icmp_eq {off : Int} (tgt : Nat) (hd : decode μ.2.1 pc = .ok (.if_icmp .eq off, 3)) (ht : (pc : Int) + off = (tgt : Int)) : ySim l A CF μ pc (y_icmp 2 tgt (pc + 3)) := by
  intro p e s m args below meth c R Q C cf hcf st outs ho H locs cells slots ls stk J K
  obtain ⟨hx, hb, hml, hown, hts, hr, hlk, hnm, hR⟩ := C
  obtain ⟨en, cl, sl, h, L, S⟩ := st
  obtain ⟨ρ, ja, je, jc, js, jg, ⟨lv, jl, jd⟩, jS, jx, jo, jk⟩ := J
  match S, stk, jS, ho with
  | y :: x :: S, w :: v :: stk, ⟨dy, dx, ds⟩, ho =>
    have ho : y_br 2 en x y (fun en => .inr (tgt, en, cl, sl, h, L, S)) (fun en => .inr ((pc + 3), en, cl, sl, h, L, S)) = some outs := ho
    obtain ⟨a, z, rfl, hz, r1, r2⟩ := y_br_den ho je rfl dx dy
    cases hz
    exact lv_icmp_eq hx hb hd ht (fun q => by
      obtain ⟨e', h1, h2, h3⟩ := r1 (congrArg Int32.toInt q)
      exact K _ h3 _ _ _ _ _ _ (yJ_told ja jc js jg jl jd ds jx jo jk h1 h2)) (fun q => by
      obtain ⟨e', h1, h2, h3⟩ := r2 (fun z => q (Int32.toInt_inj.mp z))
      exact K _ h3 _ _ _ _ _ _ (yJ_told ja jc js jg jl jd ds jx jo jk h1 h2))

theorem y_if_eq {off : Int} (tgt : Nat) (hd : decode μ.2.1 pc = .ok (.ifCond .eq off, 3)) (ht : (pc : Int) + off = (tgt : Int)) : ySim l A CF μ pc (y_if 2 tgt (pc + 3)) := by
  intro p e s m args below meth c R Q C cf hcf st outs ho H locs cells slots ls stk J K
  obtain ⟨hx, hb, hml, hown, hts, hr, hlk, hnm, hR⟩ := C
  obtain ⟨en, cl, sl, h, L, S⟩ := st
  obtain ⟨ρ, ja, je, jc, js, jg, ⟨lv, jl, jd⟩, jS, jx, jo, jk⟩ := J
  match S, stk, jS, ho with
  | x :: S, v :: stk, ⟨dx, ds⟩, ho =>
    have ho : y_br 2 en x (.inl (.int 0)) (fun en => .inr (tgt, en, cl, sl, h, L, S)) (fun en => .inr ((pc + 3), en, cl, sl, h, L, S)) = some outs := ho
    obtain ⟨a, z, rfl, hz, r1, r2⟩ := y_br_den ho je rfl dx (w := .int 0) (rfl : Value.int 0 = Value.int 0)
    cases hz
    exact lv_if_eq hx hb hd ht (fun q => by
      obtain ⟨e', h1, h2, h3⟩ := r1 (congrArg Int32.toInt q)
      exact K _ h3 _ _ _ _ _ _ (yJ_told ja jc js jg jl jd ds jx jo jk h1 h2)) (fun q => by
      obtain ⟨e', h1, h2, h3⟩ := r2 (fun z => q (Int32.toInt_inj.mp z))
      exact K _ h3 _ _ _ _ _ _ (yJ_told ja jc js jg jl jd ds jx jo jk h1 h2))

theorem y_icmp_ne {off : Int} (tgt : Nat) (hd : decode μ.2.1 pc = .ok (.if_icmp .ne off, 3)) (ht : (pc : Int) + off = (tgt : Int)) : ySim l A CF μ pc (y_icmp 2 (pc + 3) tgt) := by
  intro p e s m args below meth c R Q C cf hcf st outs ho H locs cells slots ls stk J K
  obtain ⟨hx, hb, hml, hown, hts, hr, hlk, hnm, hR⟩ := C
  obtain ⟨en, cl, sl, h, L, S⟩ := st
  obtain ⟨ρ, ja, je, jc, js, jg, ⟨lv, jl, jd⟩, jS, jx, jo, jk⟩ := J
  match S, stk, jS, ho with
  | y :: x :: S, w :: v :: stk, ⟨dy, dx, ds⟩, ho =>
    have ho : y_br 2 en x y (fun en => .inr ((pc + 3), en, cl, sl, h, L, S)) (fun en => .inr (tgt, en, cl, sl, h, L, S)) = some outs := ho
    obtain ⟨a, z, rfl, hz, r1, r2⟩ := y_br_den ho je rfl dx dy
    cases hz
    exact lv_icmp_ne hx hb hd ht (fun q => by
      obtain ⟨e', h1, h2, h3⟩ := r2 (fun z => q (Int32.toInt_inj.mp z))
      exact K _ h3 _ _ _ _ _ _ (yJ_told ja jc js jg jl jd ds jx jo jk h1 h2)) (fun q => by
      obtain ⟨e', h1, h2, h3⟩ := r1 (congrArg Int32.toInt q)
      exact K _ h3 _ _ _ _ _ _ (yJ_told ja jc js jg jl jd ds jx jo jk h1 h2))

theorem y_if_ne {off : Int} (tgt : Nat) (hd : decode μ.2.1 pc = .ok (.ifCond .ne off, 3)) (ht : (pc : Int) + off = (tgt : Int)) : ySim l A CF μ pc (y_if 2 (pc + 3) tgt) := by
  intro p e s m args below meth c R Q C cf hcf st outs ho H locs cells slots ls stk J K
  obtain ⟨hx, hb, hml, hown, hts, hr, hlk, hnm, hR⟩ := C
  obtain ⟨en, cl, sl, h, L, S⟩ := st
  obtain ⟨ρ, ja, je, jc, js, jg, ⟨lv, jl, jd⟩, jS, jx, jo, jk⟩ := J
  match S, stk, jS, ho with
  | x :: S, v :: stk, ⟨dx, ds⟩, ho =>
    have ho : y_br 2 en x (.inl (.int 0)) (fun en => .inr ((pc + 3), en, cl, sl, h, L, S)) (fun en => .inr (tgt, en, cl, sl, h, L, S)) = some outs := ho
    obtain ⟨a, z, rfl, hz, r1, r2⟩ := y_br_den ho je rfl dx (w := .int 0) (rfl : Value.int 0 = Value.int 0)
    cases hz
    exact lv_if_ne hx hb hd ht (fun q => by
      obtain ⟨e', h1, h2, h3⟩ := r2 (fun z => q (Int32.toInt_inj.mp z))
      exact K _ h3 _ _ _ _ _ _ (yJ_told ja jc js jg jl jd ds jx jo jk h1 h2)) (fun q => by
      obtain ⟨e', h1, h2, h3⟩ := r1 (congrArg Int32.toInt q)
      exact K _ h3 _ _ _ _ _ _ (yJ_told ja jc js jg jl jd ds jx jo jk h1 h2))

theorem y_icmp_lt {off : Int} (tgt : Nat) (hd : decode μ.2.1 pc = .ok (.if_icmp .lt off, 3)) (ht : (pc : Int) + off = (tgt : Int)) : ySim l A CF μ pc (y_icmp 0 tgt (pc + 3)) := by
  intro p e s m args below meth c R Q C cf hcf st outs ho H locs cells slots ls stk J K
  obtain ⟨hx, hb, hml, hown, hts, hr, hlk, hnm, hR⟩ := C
  obtain ⟨en, cl, sl, h, L, S⟩ := st
  obtain ⟨ρ, ja, je, jc, js, jg, ⟨lv, jl, jd⟩, jS, jx, jo, jk⟩ := J
  match S, stk, jS, ho with
  | y :: x :: S, w :: v :: stk, ⟨dy, dx, ds⟩, ho =>
    have ho : y_br 0 en x y (fun en => .inr (tgt, en, cl, sl, h, L, S)) (fun en => .inr ((pc + 3), en, cl, sl, h, L, S)) = some outs := ho
    obtain ⟨a, z, rfl, hz, r1, r2⟩ := y_br_den ho je rfl dx dy
    cases hz
    exact lv_icmp_lt hx hb hd ht (fun q => by
      obtain ⟨e', h1, h2, h3⟩ := r1 (Int32.lt_iff_toInt_lt.mp q)
      exact K _ h3 _ _ _ _ _ _ (yJ_told ja jc js jg jl jd ds jx jo jk h1 h2)) (fun q => by
      obtain ⟨e', h1, h2, h3⟩ := r2 (fun z => q (Int32.lt_iff_toInt_lt.mpr z))
      exact K _ h3 _ _ _ _ _ _ (yJ_told ja jc js jg jl jd ds jx jo jk h1 h2))

theorem y_if_lt {off : Int} (tgt : Nat) (hd : decode μ.2.1 pc = .ok (.ifCond .lt off, 3)) (ht : (pc : Int) + off = (tgt : Int)) : ySim l A CF μ pc (y_if 0 tgt (pc + 3)) := by
  intro p e s m args below meth c R Q C cf hcf st outs ho H locs cells slots ls stk J K
  obtain ⟨hx, hb, hml, hown, hts, hr, hlk, hnm, hR⟩ := C
  obtain ⟨en, cl, sl, h, L, S⟩ := st
  obtain ⟨ρ, ja, je, jc, js, jg, ⟨lv, jl, jd⟩, jS, jx, jo, jk⟩ := J
  match S, stk, jS, ho with
  | x :: S, v :: stk, ⟨dx, ds⟩, ho =>
    have ho : y_br 0 en x (.inl (.int 0)) (fun en => .inr (tgt, en, cl, sl, h, L, S)) (fun en => .inr ((pc + 3), en, cl, sl, h, L, S)) = some outs := ho
    obtain ⟨a, z, rfl, hz, r1, r2⟩ := y_br_den ho je rfl dx (w := .int 0) (rfl : Value.int 0 = Value.int 0)
    cases hz
    exact lv_if_lt hx hb hd ht (fun q => by
      obtain ⟨e', h1, h2, h3⟩ := r1 (Int32.lt_iff_toInt_lt.mp q)
      exact K _ h3 _ _ _ _ _ _ (yJ_told ja jc js jg jl jd ds jx jo jk h1 h2)) (fun q => by
      obtain ⟨e', h1, h2, h3⟩ := r2 (fun z => q (Int32.lt_iff_toInt_lt.mpr z))
      exact K _ h3 _ _ _ _ _ _ (yJ_told ja jc js jg jl jd ds jx jo jk h1 h2))

theorem y_icmp_ge {off : Int} (tgt : Nat) (hd : decode μ.2.1 pc = .ok (.if_icmp .ge off, 3)) (ht : (pc : Int) + off = (tgt : Int)) : ySim l A CF μ pc (y_icmp 0 (pc + 3) tgt) := by
  intro p e s m args below meth c R Q C cf hcf st outs ho H locs cells slots ls stk J K
  obtain ⟨hx, hb, hml, hown, hts, hr, hlk, hnm, hR⟩ := C
  obtain ⟨en, cl, sl, h, L, S⟩ := st
  obtain ⟨ρ, ja, je, jc, js, jg, ⟨lv, jl, jd⟩, jS, jx, jo, jk⟩ := J
  match S, stk, jS, ho with
  | y :: x :: S, w :: v :: stk, ⟨dy, dx, ds⟩, ho =>
    have ho : y_br 0 en x y (fun en => .inr ((pc + 3), en, cl, sl, h, L, S)) (fun en => .inr (tgt, en, cl, sl, h, L, S)) = some outs := ho
    obtain ⟨a, z, rfl, hz, r1, r2⟩ := y_br_den ho je rfl dx dy
    cases hz
    exact lv_icmp_ge hx hb hd ht (fun q => by
      obtain ⟨e', h1, h2, h3⟩ := r2 (fun z => Int.not_lt.mpr (Int32.le_iff_toInt_le.mp q) z)
      exact K _ h3 _ _ _ _ _ _ (yJ_told ja jc js jg jl jd ds jx jo jk h1 h2)) (fun q => by
      obtain ⟨e', h1, h2, h3⟩ := r1 (Int.not_le.mp (fun z => q (Int32.le_iff_toInt_le.mpr z)))
      exact K _ h3 _ _ _ _ _ _ (yJ_told ja jc js jg jl jd ds jx jo jk h1 h2))

theorem y_if_ge {off : Int} (tgt : Nat) (hd : decode μ.2.1 pc = .ok (.ifCond .ge off, 3)) (ht : (pc : Int) + off = (tgt : Int)) : ySim l A CF μ pc (y_if 0 (pc + 3) tgt) := by
  intro p e s m args below meth c R Q C cf hcf st outs ho H locs cells slots ls stk J K
  obtain ⟨hx, hb, hml, hown, hts, hr, hlk, hnm, hR⟩ := C
  obtain ⟨en, cl, sl, h, L, S⟩ := st
  obtain ⟨ρ, ja, je, jc, js, jg, ⟨lv, jl, jd⟩, jS, jx, jo, jk⟩ := J
  match S, stk, jS, ho with
  | x :: S, v :: stk, ⟨dx, ds⟩, ho =>
    have ho : y_br 0 en x (.inl (.int 0)) (fun en => .inr ((pc + 3), en, cl, sl, h, L, S)) (fun en => .inr (tgt, en, cl, sl, h, L, S)) = some outs := ho
    obtain ⟨a, z, rfl, hz, r1, r2⟩ := y_br_den ho je rfl dx (w := .int 0) (rfl : Value.int 0 = Value.int 0)
    cases hz
    exact lv_if_ge hx hb hd ht (fun q => by
      obtain ⟨e', h1, h2, h3⟩ := r2 (fun z => Int.not_lt.mpr (Int32.le_iff_toInt_le.mp q) z)
      exact K _ h3 _ _ _ _ _ _ (yJ_told ja jc js jg jl jd ds jx jo jk h1 h2)) (fun q => by
      obtain ⟨e', h1, h2, h3⟩ := r1 (Int.not_le.mp (fun z => q (Int32.le_iff_toInt_le.mpr z)))
      exact K _ h3 _ _ _ _ _ _ (yJ_told ja jc js jg jl jd ds jx jo jk h1 h2))

theorem y_icmp_gt {off : Int} (tgt : Nat) (hd : decode μ.2.1 pc = .ok (.if_icmp .gt off, 3)) (ht : (pc : Int) + off = (tgt : Int)) : ySim l A CF μ pc (y_icmp 1 tgt (pc + 3)) := by
  intro p e s m args below meth c R Q C cf hcf st outs ho H locs cells slots ls stk J K
  obtain ⟨hx, hb, hml, hown, hts, hr, hlk, hnm, hR⟩ := C
  obtain ⟨en, cl, sl, h, L, S⟩ := st
  obtain ⟨ρ, ja, je, jc, js, jg, ⟨lv, jl, jd⟩, jS, jx, jo, jk⟩ := J
  match S, stk, jS, ho with
  | y :: x :: S, w :: v :: stk, ⟨dy, dx, ds⟩, ho =>
    have ho : y_br 1 en x y (fun en => .inr (tgt, en, cl, sl, h, L, S)) (fun en => .inr ((pc + 3), en, cl, sl, h, L, S)) = some outs := ho
    obtain ⟨a, z, rfl, hz, r1, r2⟩ := y_br_den ho je rfl dx dy
    cases hz
    exact lv_icmp_gt hx hb hd ht (fun q => by
      obtain ⟨e', h1, h2, h3⟩ := r1 (Int32.lt_iff_toInt_lt.mp q)
      exact K _ h3 _ _ _ _ _ _ (yJ_told ja jc js jg jl jd ds jx jo jk h1 h2)) (fun q => by
      obtain ⟨e', h1, h2, h3⟩ := r2 (fun z => q (Int32.lt_iff_toInt_lt.mpr z))
      exact K _ h3 _ _ _ _ _ _ (yJ_told ja jc js jg jl jd ds jx jo jk h1 h2))

theorem y_if_gt {off : Int} (tgt : Nat) (hd : decode μ.2.1 pc = .ok (.ifCond .gt off, 3)) (ht : (pc : Int) + off = (tgt : Int)) : ySim l A CF μ pc (y_if 1 tgt (pc + 3)) := by
  intro p e s m args below meth c R Q C cf hcf st outs ho H locs cells slots ls stk J K
  obtain ⟨hx, hb, hml, hown, hts, hr, hlk, hnm, hR⟩ := C
  obtain ⟨en, cl, sl, h, L, S⟩ := st
  obtain ⟨ρ, ja, je, jc, js, jg, ⟨lv, jl, jd⟩, jS, jx, jo, jk⟩ := J
  match S, stk, jS, ho with
  | x :: S, v :: stk, ⟨dx, ds⟩, ho =>
    have ho : y_br 1 en x (.inl (.int 0)) (fun en => .inr (tgt, en, cl, sl, h, L, S)) (fun en => .inr ((pc + 3), en, cl, sl, h, L, S)) = some outs := ho
    obtain ⟨a, z, rfl, hz, r1, r2⟩ := y_br_den ho je rfl dx (w := .int 0) (rfl : Value.int 0 = Value.int 0)
    cases hz
    exact lv_if_gt hx hb hd ht (fun q => by
      obtain ⟨e', h1, h2, h3⟩ := r1 (Int32.lt_iff_toInt_lt.mp q)
      exact K _ h3 _ _ _ _ _ _ (yJ_told ja jc js jg jl jd ds jx jo jk h1 h2)) (fun q => by
      obtain ⟨e', h1, h2, h3⟩ := r2 (fun z => q (Int32.lt_iff_toInt_lt.mpr z))
      exact K _ h3 _ _ _ _ _ _ (yJ_told ja jc js jg jl jd ds jx jo jk h1 h2))

theorem y_icmp_le {off : Int} (tgt : Nat) (hd : decode μ.2.1 pc = .ok (.if_icmp .le off, 3)) (ht : (pc : Int) + off = (tgt : Int)) : ySim l A CF μ pc (y_icmp 1 (pc + 3) tgt) := by
  intro p e s m args below meth c R Q C cf hcf st outs ho H locs cells slots ls stk J K
  obtain ⟨hx, hb, hml, hown, hts, hr, hlk, hnm, hR⟩ := C
  obtain ⟨en, cl, sl, h, L, S⟩ := st
  obtain ⟨ρ, ja, je, jc, js, jg, ⟨lv, jl, jd⟩, jS, jx, jo, jk⟩ := J
  match S, stk, jS, ho with
  | y :: x :: S, w :: v :: stk, ⟨dy, dx, ds⟩, ho =>
    have ho : y_br 1 en x y (fun en => .inr ((pc + 3), en, cl, sl, h, L, S)) (fun en => .inr (tgt, en, cl, sl, h, L, S)) = some outs := ho
    obtain ⟨a, z, rfl, hz, r1, r2⟩ := y_br_den ho je rfl dx dy
    cases hz
    exact lv_icmp_le hx hb hd ht (fun q => by
      obtain ⟨e', h1, h2, h3⟩ := r2 (fun z => Int.not_lt.mpr (Int32.le_iff_toInt_le.mp q) z)
      exact K _ h3 _ _ _ _ _ _ (yJ_told ja jc js jg jl jd ds jx jo jk h1 h2)) (fun q => by
      obtain ⟨e', h1, h2, h3⟩ := r1 (Int.not_le.mp (fun z => q (Int32.le_iff_toInt_le.mpr z)))
      exact K _ h3 _ _ _ _ _ _ (yJ_told ja jc js jg jl jd ds jx jo jk h1 h2))

theorem y_if_le {off : Int} (tgt : Nat) (hd : decode μ.2.1 pc = .ok (.ifCond .le off, 3)) (ht : (pc : Int) + off = (tgt : Int)) : ySim l A CF μ pc (y_if 1 (pc + 3) tgt) := by
  intro p e s m args below meth c R Q C cf hcf st outs ho H locs cells slots ls stk J K
  obtain ⟨hx, hb, hml, hown, hts, hr, hlk, hnm, hR⟩ := C
  obtain ⟨en, cl, sl, h, L, S⟩ := st
  obtain ⟨ρ, ja, je, jc, js, jg, ⟨lv, jl, jd⟩, jS, jx, jo, jk⟩ := J
  match S, stk, jS, ho with
  | x :: S, v :: stk, ⟨dx, ds⟩, ho =>
    have ho : y_br 1 en x (.inl (.int 0)) (fun en => .inr ((pc + 3), en, cl, sl, h, L, S)) (fun en => .inr (tgt, en, cl, sl, h, L, S)) = some outs := ho
    obtain ⟨a, z, rfl, hz, r1, r2⟩ := y_br_den ho je rfl dx (w := .int 0) (rfl : Value.int 0 = Value.int 0)
    cases hz
    exact lv_if_le hx hb hd ht (fun q => by
      obtain ⟨e', h1, h2, h3⟩ := r2 (fun z => Int.not_lt.mpr (Int32.le_iff_toInt_le.mp q) z)
      exact K _ h3 _ _ _ _ _ _ (yJ_told ja jc js jg jl jd ds jx jo jk h1 h2)) (fun q => by
      obtain ⟨e', h1, h2, h3⟩ := r1 (Int.not_le.mp (fun z => q (Int32.le_iff_toInt_le.mpr z)))
      exact K _ h3 _ _ _ _ _ _ (yJ_told ja jc js jg jl jd ds jx jo jk h1 h2))

end YSTEPS3
