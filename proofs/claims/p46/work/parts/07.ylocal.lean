/-! ENGINE 2, steps: locals -/
noncomputable def y_nm (e : yE) (v : yV) : yV := match v with
  | .inr (0, i) => match x_nth e.1 i with
    | some q => cond (decide (q.1 = q.2)) (.inl (.int (Int32.ofInt q.1))) (.inr (0, i))
    | none => .inr (0, i)
  | v => v
theorem y_nm_den {P : yP} {ρ : Nat → Int} {n : Nat} {e : yE} {a : yV} {v : Value} (je : yEnv ρ e) (d : yden P ρ n a v) : yden P ρ n (y_nm e a) v := by
  match a, d with
  | .inl w, d => exact d
  | .inr (1, i), d => exact d
  | .inr (4, i), d => exact d
  | .inr (0, i), ⟨d1, d2, d3, d4⟩ =>
    show yden P ρ n (match x_nth e.1 i with
      | some q => cond (decide (q.1 = q.2)) (.inl (.int (Int32.ofInt q.1))) (.inr (0, i))
      | none => .inr (0, i)) v
    match hq : x_nth e.1 i with
    | none => exact ⟨d1, d2, d3, d4⟩
    | some q =>
      have hb := je.1 i q (by rw [← x_nth_eq]; exact hq)
      show yden P ρ n (cond (decide (q.1 = q.2)) (.inl (.int (Int32.ofInt q.1))) (.inr (0, i))) v
      by_cases h : q.1 = q.2
      · rw [decide_eq_true h]
        have hz : q.1 = ρ i := by have := hb.1; have := hb.2; omega
        show v = .int (Int32.ofInt q.1)
        rw [hz]; exact d2
      · rw [decide_eq_false h]
        exact ⟨d1, d2, d3, d4⟩
noncomputable def y_cat (v : yV) : Nat := match v with
  | .inl (.long _) => 2
  | .inl (.double _) => 2
  | .inr (1, _) => 2
  | _ => 1
theorem y_cat_den {P : yP} {ρ : Nat → Int} {n : Nat} {a : yV} {v : Value} (d : yden P ρ n a v) : v.category = y_cat a := by
  match a, d with
  | .inl (.int i), d => cases d; rfl
  | .inl (.long i), d => cases d; rfl
  | .inl (.float i), d => cases d; rfl
  | .inl (.double i), d => cases d; rfl
  | .inl .null, d => cases d; rfl
  | .inl (.ref i), d => cases d; rfl
  | .inl (.retAddr i), d => cases d; rfl
  | .inr (0, k), ⟨_, d, _⟩ => cases d; rfl
  | .inr (1, k), ⟨_, d, _⟩ => cases d; rfl
  | .inr (4, k), d => cases d; rfl
noncomputable def y_isI (v : yV) : Bool := match v with
  | .inl (.int _) => true
  | .inr (0, _) => true
  | _ => false
noncomputable def y_isL (v : yV) : Bool := match v with
  | .inl (.long _) => true
  | .inr (1, _) => true
  | _ => false
noncomputable def y_isA (v : yV) : Bool := match v with
  | .inl (.ref _) => true
  | .inr (4, _) => true
  | _ => false
theorem y_isI_den {P : yP} {ρ : Nat → Int} {n : Nat} {a : yV} {v : Value} (h : y_isI a = true) (d : yden P ρ n a v) : ∃ i : Int32, v = .int i := by
  match a, h, d with
  | .inl (.int i), _, d => exact ⟨i, d⟩
  | .inr (0, k), _, ⟨_, d, _⟩ => exact ⟨_, d⟩
theorem y_isL_den {P : yP} {ρ : Nat → Int} {n : Nat} {a : yV} {v : Value} (h : y_isL a = true) (d : yden P ρ n a v) : ∃ i : Int64, v = .long i := by
  match a, h, d with
  | .inl (.long i), _, d => exact ⟨i, d⟩
  | .inr (1, k), _, ⟨_, d, _⟩ => exact ⟨_, d⟩
theorem y_isA_den {P : yP} {ρ : Nat → Int} {n : Nat} {a : yV} {v : Value} (h : y_isA a = true) (d : yden P ρ n a v) : ∃ i : Nat, v = .ref i := by
  match a, h, d with
  | .inl (.ref i), _, d => exact ⟨_, d⟩
  | .inr (4, k), _, d => exact ⟨_, d⟩
noncomputable def y_get (L : yL) (i : Nat) : Option yV := List.rec (motive := fun _ => Option yV) none (fun q _ ih => cond (Nat.beq q.1 i) (some q.2) ih) L
noncomputable def y_keep1 (i : Nat) (q : Nat × yV) : Bool := !(q.1 == i) && !(q.1 + 1 == i && y_cat q.2 == 2)
noncomputable def y_keep2 (i : Nat) (q : Nat × yV) : Bool := !(q.1 == i) && (!(q.1 == i + 1) && !(q.1 + 1 == i && y_cat q.2 == 2))
noncomputable def y_lst (nx : Nat) (e : yE) (cl sl : Nat) (h : yH) (L : yL) (S : List yV) : Option (List yO) := x_spine L (fun L => some [.inr (nx, e, cl, sl, h, L, S)])
noncomputable def y_load (ok : yV → Bool) (i nx : Nat) : yI := fun _ (e, cl, sl, h, L, S) => match y_get L i with
  | some v => cond (ok (y_nm e v)) (some [.inr (nx, e, cl, sl, h, L, y_nm e v :: S)]) none
  | none => none
noncomputable def y_store1 (ok : yV → Bool) (nL i nx : Nat) : yI := fun _ (e, cl, sl, h, L, S) => match S with
  | v :: S => cond (ok v && Nat.blt i nL) (y_lst nx e cl sl h ((i, v) :: L.filter (y_keep1 i)) S) none
  | [] => none
noncomputable def y_store2 (nL i nx : Nat) : yI := fun _ (e, cl, sl, h, L, S) => match S with
  | v :: S => cond (y_isL v && Nat.blt (i + 1) nL) (y_lst nx e cl sl h ((i, v) :: L.filter (y_keep2 i)) S) none
  | [] => none
theorem y_get_den {P : yP} {ρ : Nat → Int} {n i : Nat} {a : yV} : ∀ {L : yL} {lv : List (Nat × Value)}, yldens P ρ n L lv → y_get L i = some a → ∃ v, yden P ρ n a v ∧ (i, v) ∈ lv
  | [], [], _, h => by cases h
  | q :: L, w :: lv, ⟨⟨e, d⟩, ds⟩, h => by
    change cond (Nat.beq q.1 i) (some q.2) (y_get L i) = some a at h
    cases hb : Nat.beq q.1 i with
    | true =>
      rw [hb] at h
      cases h
      have hi : q.1 = i := Nat.eq_of_beq_eq_true hb
      exact ⟨w.2, d, by rw [← hi, e]; exact List.mem_cons_self⟩
    | false =>
      rw [hb] at h
      obtain ⟨v, h1, h2⟩ := y_get_den ds h
      exact ⟨v, h1, List.mem_cons_of_mem _ h2⟩
theorem y_ldens_filter {P : yP} {ρ : Nat → Int} {n : Nat} {f : Nat × yV → Bool} {g : Nat × Value → Bool} (hfg : ∀ i a v, yden P ρ n a v → f (i, a) = g (i, v)) : ∀ {L : yL} {lv : List (Nat × Value)}, yldens P ρ n L lv → yldens P ρ n (L.filter f) (lv.filter g)
  | [], [], _ => trivial
  | q :: L, w :: lv, ⟨⟨e, d⟩, ds⟩ => by
    have hq : f q = g w := by
      have := hfg q.1 q.2 w.2 d
      rw [show (q.1, w.2) = w from by rw [e]] at this
      exact this
    rw [List.filter_cons, List.filter_cons, hq]
    cases g w with
    | true => exact ⟨⟨e, d⟩, y_ldens_filter hfg ds⟩
    | false => exact y_ldens_filter hfg ds
theorem y_keep1_den {P : yP} {ρ : Nat → Int} {n : Nat} (k i : Nat) (a : yV) (v : Value) (d : yden P ρ n a v) : y_keep1 k (i, a) = (!((i, v).1 == k) && !((i, v).1 + 1 == k && (i, v).2.category == 2)) := by
  show (!(i == k) && !(i + 1 == k && y_cat a == 2)) = (!(i == k) && !(i + 1 == k && v.category == 2))
  rw [y_cat_den d]
theorem y_keep2_den {P : yP} {ρ : Nat → Int} {n : Nat} (k i : Nat) (a : yV) (v : Value) (d : yden P ρ n a v) : y_keep2 k (i, a) = (!((i, v).1 == k) && (!((i, v).1 == k + 1) && !((i, v).1 + 1 == k && (i, v).2.category == 2))) := by
  show (!(i == k) && (!(i == k + 1) && !(i + 1 == k && y_cat a == 2))) = (!(i == k) && (!(i == k + 1) && !(i + 1 == k && v.category == 2)))
  rw [y_cat_den d]
theorem y_condS {b : Bool} {α : Type} {x : Option α} {r : α} (h : cond b x none = some r) : b = true ∧ x = some r := by
  cases b with
  | false => cases h
  | true => exact ⟨rfl, h⟩
theorem y_load_inv {P : yP} {ρ : Nat → Int} {n : Nat} {ok : yV → Bool} {i nx cl sl : Nat} {cf : yF} {en : yE} {h : yH} {L : yL} {S : List yV} {outs : List yO} {lv : List (Nat × Value)} (ho : y_load ok i nx cf (en, cl, sl, h, L, S) = some outs) (je : yEnv ρ en) (jd : yldens P ρ n L lv) : ∃ a v, (i, v) ∈ lv ∧ yden P ρ n a v ∧ ok a = true ∧ outs = [.inr (nx, en, cl, sl, h, L, a :: S)] := by
  have ho : (match y_get L i with
    | some v => cond (ok (y_nm en v)) (some [(Sum.inr (nx, en, cl, sl, h, L, y_nm en v :: S) : yO)]) none
    | none => none) = some outs := ho
  match hg : y_get L i, ho with
  | some a, ho =>
    obtain ⟨hk, hz⟩ := y_condS ho
    obtain ⟨v, h1, h2⟩ := y_get_den jd hg
    exact ⟨_, v, h2, y_nm_den je h1, hk, (Option.some.inj hz).symm⟩
theorem y_store1_inv {P : yP} {ρ : Nat → Int} {n : Nat} {ok : yV → Bool} {nL i nx cl sl : Nat} {cf : yF} {en : yE} {h : yH} {L : yL} {S : List yV} {outs : List yO} {stk : List Value} (ho : y_store1 ok nL i nx cf (en, cl, sl, h, L, S) = some outs) (jS : ydens P ρ n S stk) : ∃ a v S' stk', stk = v :: stk' ∧ yden P ρ n a v ∧ ydens P ρ n S' stk' ∧ ok a = true ∧ i < nL ∧ outs = [.inr (nx, en, cl, sl, h, (i, a) :: L.filter (y_keep1 i), S')] := by
  match S, stk, jS, ho with
  | a :: S, v :: stk, ⟨d, ds⟩, ho =>
    obtain ⟨hc, hz⟩ := y_condS (α := List yO) (b := ok a && Nat.blt i nL) (x := y_lst nx en cl sl h ((i, a) :: L.filter (y_keep1 i)) S) ho
    have hz : x_spine ((i, a) :: L.filter (y_keep1 i)) (fun L => some [(Sum.inr (nx, en, cl, sl, h, L, S) : yO)]) = some outs := hz
    rw [x_spine_eq] at hz
    rw [Bool.and_eq_true] at hc
    exact ⟨a, v, S, stk, rfl, d, ds, hc.1, Nat.le_of_ble_eq_true hc.2, (Option.some.inj hz).symm⟩
theorem y_store2_inv {P : yP} {ρ : Nat → Int} {n : Nat} {nL i nx cl sl : Nat} {cf : yF} {en : yE} {h : yH} {L : yL} {S : List yV} {outs : List yO} {stk : List Value} (ho : y_store2 nL i nx cf (en, cl, sl, h, L, S) = some outs) (jS : ydens P ρ n S stk) : ∃ a v S' stk', stk = v :: stk' ∧ yden P ρ n a v ∧ ydens P ρ n S' stk' ∧ y_isL a = true ∧ i + 1 < nL ∧ outs = [.inr (nx, en, cl, sl, h, (i, a) :: L.filter (y_keep2 i), S')] := by
  match S, stk, jS, ho with
  | a :: S, v :: stk, ⟨d, ds⟩, ho =>
    obtain ⟨hc, hz⟩ := y_condS (α := List yO) (b := y_isL a && Nat.blt (i + 1) nL) (x := y_lst nx en cl sl h ((i, a) :: L.filter (y_keep2 i)) S) ho
    have hz : x_spine ((i, a) :: L.filter (y_keep2 i)) (fun L => some [(Sum.inr (nx, en, cl, sl, h, L, S) : yO)]) = some outs := hz
    rw [x_spine_eq] at hz
    rw [Bool.and_eq_true] at hc
    exact ⟨a, v, S, stk, rfl, d, ds, hc.1, Nat.le_of_ble_eq_true hc.2, (Option.some.inj hz).symm⟩
section YSTEPS2
variable {l : Launch} {A : yQ} {CF : yF → Prop} {μ : xM} {pc : Nat}

theorem y_iload {i : Nat} (hd : decode μ.2.1 pc = .ok (.iload i, 2)) : ySim l A CF μ pc (y_load y_isI i (pc + 2)) := by
  intro p e s m args below meth c R Q C cf hcf st outs ho H locs cells slots ls stk J K
  obtain ⟨hx, hb, hml, hown, hts, hr, hlk, hnm, hR⟩ := C
  obtain ⟨en, cl, sl, h, L, S⟩ := st
  obtain ⟨ρ, ja, je, jc, js, jg, ⟨lv, jl, jd⟩, jS, jx, jo, jk⟩ := J
  obtain ⟨a, v, hm, dv, hok, rfl⟩ := y_load_inv ho je jd
  obtain ⟨x, rfl⟩ := y_isI_den hok dv
  exact lv_iload hx hb hd (jl.2.2 _ hm) (K _ (x_mem1 _) _ _ _ _ _ _ ⟨ρ, ja, je, jc, js, jg, ⟨lv, jl, jd⟩, ⟨dv, jS⟩, jx, jo, jk⟩)

theorem y_iload_n {k : Fin 4} {i : Nat} (hd : decode μ.2.1 pc = .ok (.iload_n k, 1)) (hi : (k : Nat) = i) : ySim l A CF μ pc (y_load y_isI i (pc + 1)) := by
  intro p e s m args below meth c R Q C cf hcf st outs ho H locs cells slots ls stk J K
  obtain ⟨hx, hb, hml, hown, hts, hr, hlk, hnm, hR⟩ := C
  obtain ⟨en, cl, sl, h, L, S⟩ := st
  obtain ⟨ρ, ja, je, jc, js, jg, ⟨lv, jl, jd⟩, jS, jx, jo, jk⟩ := J
  obtain ⟨a, v, hm, dv, hok, rfl⟩ := y_load_inv ho je jd
  obtain ⟨x, rfl⟩ := y_isI_den hok dv
  exact lv_iload_n hx hb hd hi (jl.2.2 _ hm) (K _ (x_mem1 _) _ _ _ _ _ _ ⟨ρ, ja, je, jc, js, jg, ⟨lv, jl, jd⟩, ⟨dv, jS⟩, jx, jo, jk⟩)

theorem y_lload {i : Nat} (hd : decode μ.2.1 pc = .ok (.lload i, 2)) : ySim l A CF μ pc (y_load y_isL i (pc + 2)) := by
  intro p e s m args below meth c R Q C cf hcf st outs ho H locs cells slots ls stk J K
  obtain ⟨hx, hb, hml, hown, hts, hr, hlk, hnm, hR⟩ := C
  obtain ⟨en, cl, sl, h, L, S⟩ := st
  obtain ⟨ρ, ja, je, jc, js, jg, ⟨lv, jl, jd⟩, jS, jx, jo, jk⟩ := J
  obtain ⟨a, v, hm, dv, hok, rfl⟩ := y_load_inv ho je jd
  obtain ⟨x, rfl⟩ := y_isL_den hok dv
  exact lv_lload hx hb hd (jl.2.2 _ hm) (K _ (x_mem1 _) _ _ _ _ _ _ ⟨ρ, ja, je, jc, js, jg, ⟨lv, jl, jd⟩, ⟨dv, jS⟩, jx, jo, jk⟩)

theorem y_lload_n {k : Fin 4} {i : Nat} (hd : decode μ.2.1 pc = .ok (.lload_n k, 1)) (hi : (k : Nat) = i) : ySim l A CF μ pc (y_load y_isL i (pc + 1)) := by
  intro p e s m args below meth c R Q C cf hcf st outs ho H locs cells slots ls stk J K
  obtain ⟨hx, hb, hml, hown, hts, hr, hlk, hnm, hR⟩ := C
  obtain ⟨en, cl, sl, h, L, S⟩ := st
  obtain ⟨ρ, ja, je, jc, js, jg, ⟨lv, jl, jd⟩, jS, jx, jo, jk⟩ := J
  obtain ⟨a, v, hm, dv, hok, rfl⟩ := y_load_inv ho je jd
  obtain ⟨x, rfl⟩ := y_isL_den hok dv
  exact lv_lload_n hx hb hd hi (jl.2.2 _ hm) (K _ (x_mem1 _) _ _ _ _ _ _ ⟨ρ, ja, je, jc, js, jg, ⟨lv, jl, jd⟩, ⟨dv, jS⟩, jx, jo, jk⟩)

theorem y_aload {i : Nat} (hd : decode μ.2.1 pc = .ok (.aload i, 2)) : ySim l A CF μ pc (y_load y_isA i (pc + 2)) := by
  intro p e s m args below meth c R Q C cf hcf st outs ho H locs cells slots ls stk J K
  obtain ⟨hx, hb, hml, hown, hts, hr, hlk, hnm, hR⟩ := C
  obtain ⟨en, cl, sl, h, L, S⟩ := st
  obtain ⟨ρ, ja, je, jc, js, jg, ⟨lv, jl, jd⟩, jS, jx, jo, jk⟩ := J
  obtain ⟨a, v, hm, dv, hok, rfl⟩ := y_load_inv ho je jd
  obtain ⟨x, rfl⟩ := y_isA_den hok dv
  exact lv_aload hx hb hd (jl.2.2 _ hm) (K _ (x_mem1 _) _ _ _ _ _ _ ⟨ρ, ja, je, jc, js, jg, ⟨lv, jl, jd⟩, ⟨dv, jS⟩, jx, jo, jk⟩)

theorem y_aload_n {k : Fin 4} {i : Nat} (hd : decode μ.2.1 pc = .ok (.aload_n k, 1)) (hi : (k : Nat) = i) : ySim l A CF μ pc (y_load y_isA i (pc + 1)) := by
  intro p e s m args below meth c R Q C cf hcf st outs ho H locs cells slots ls stk J K
  obtain ⟨hx, hb, hml, hown, hts, hr, hlk, hnm, hR⟩ := C
  obtain ⟨en, cl, sl, h, L, S⟩ := st
  obtain ⟨ρ, ja, je, jc, js, jg, ⟨lv, jl, jd⟩, jS, jx, jo, jk⟩ := J
  obtain ⟨a, v, hm, dv, hok, rfl⟩ := y_load_inv ho je jd
  obtain ⟨x, rfl⟩ := y_isA_den hok dv
  exact lv_aload_n hx hb hd hi (jl.2.2 _ hm) (K _ (x_mem1 _) _ _ _ _ _ _ ⟨ρ, ja, je, jc, js, jg, ⟨lv, jl, jd⟩, ⟨dv, jS⟩, jx, jo, jk⟩)

theorem y_istore {i : Nat} (hd : decode μ.2.1 pc = .ok (.istore i, 2)) : ySim l A CF μ pc (y_store1 y_isI μ.2.2.1 i (pc + 2)) := by
  intro p e s m args below meth c R Q C cf hcf st outs ho H locs cells slots ls stk J K
  obtain ⟨hx, hb, hml, hown, hts, hr, hlk, hnm, hR⟩ := C
  obtain ⟨en, cl, sl, h, L, S⟩ := st
  obtain ⟨ρ, ja, je, jc, js, jg, ⟨lv, jl, jd⟩, jS, jx, jo, jk⟩ := J
  obtain ⟨a, v, S, stk, rfl, dv, ds, hok, hn, rfl⟩ := y_store1_inv ho jS
  obtain ⟨x, rfl⟩ := y_isI_den hok dv
  exact lv_istore hx hb hd jl hn rfl (fun ls hl => K _ (x_mem1 _) _ _ _ _ _ _ ⟨ρ, ja, je, jc, js, jg, ⟨_, hl, ⟨⟨rfl, dv⟩, y_ldens_filter (y_keep1_den i) jd⟩⟩, ds, jx, jo, jk⟩)

theorem y_istore_n {k : Fin 4} {i : Nat} (hd : decode μ.2.1 pc = .ok (.istore_n k, 1)) (hi : (k : Nat) = i) : ySim l A CF μ pc (y_store1 y_isI μ.2.2.1 i (pc + 1)) := by
  intro p e s m args below meth c R Q C cf hcf st outs ho H locs cells slots ls stk J K
  obtain ⟨hx, hb, hml, hown, hts, hr, hlk, hnm, hR⟩ := C
  obtain ⟨en, cl, sl, h, L, S⟩ := st
  obtain ⟨ρ, ja, je, jc, js, jg, ⟨lv, jl, jd⟩, jS, jx, jo, jk⟩ := J
  obtain ⟨a, v, S, stk, rfl, dv, ds, hok, hn, rfl⟩ := y_store1_inv ho jS
  obtain ⟨x, rfl⟩ := y_isI_den hok dv
  exact lv_istore_n hx hb hd hi jl hn rfl (fun ls hl => K _ (x_mem1 _) _ _ _ _ _ _ ⟨ρ, ja, je, jc, js, jg, ⟨_, hl, ⟨⟨rfl, dv⟩, y_ldens_filter (y_keep1_den i) jd⟩⟩, ds, jx, jo, jk⟩)

theorem y_astore {i : Nat} (hd : decode μ.2.1 pc = .ok (.astore i, 2)) : ySim l A CF μ pc (y_store1 y_isA μ.2.2.1 i (pc + 2)) := by
  intro p e s m args below meth c R Q C cf hcf st outs ho H locs cells slots ls stk J K
  obtain ⟨hx, hb, hml, hown, hts, hr, hlk, hnm, hR⟩ := C
  obtain ⟨en, cl, sl, h, L, S⟩ := st
  obtain ⟨ρ, ja, je, jc, js, jg, ⟨lv, jl, jd⟩, jS, jx, jo, jk⟩ := J
  obtain ⟨a, v, S, stk, rfl, dv, ds, hok, hn, rfl⟩ := y_store1_inv ho jS
  obtain ⟨x, rfl⟩ := y_isA_den hok dv
  exact lv_astore hx hb hd jl hn rfl (fun ls hl => K _ (x_mem1 _) _ _ _ _ _ _ ⟨ρ, ja, je, jc, js, jg, ⟨_, hl, ⟨⟨rfl, dv⟩, y_ldens_filter (y_keep1_den i) jd⟩⟩, ds, jx, jo, jk⟩)

theorem y_astore_n {k : Fin 4} {i : Nat} (hd : decode μ.2.1 pc = .ok (.astore_n k, 1)) (hi : (k : Nat) = i) : ySim l A CF μ pc (y_store1 y_isA μ.2.2.1 i (pc + 1)) := by
  intro p e s m args below meth c R Q C cf hcf st outs ho H locs cells slots ls stk J K
  obtain ⟨hx, hb, hml, hown, hts, hr, hlk, hnm, hR⟩ := C
  obtain ⟨en, cl, sl, h, L, S⟩ := st
  obtain ⟨ρ, ja, je, jc, js, jg, ⟨lv, jl, jd⟩, jS, jx, jo, jk⟩ := J
  obtain ⟨a, v, S, stk, rfl, dv, ds, hok, hn, rfl⟩ := y_store1_inv ho jS
  obtain ⟨x, rfl⟩ := y_isA_den hok dv
  exact lv_astore_n hx hb hd hi jl hn rfl (fun ls hl => K _ (x_mem1 _) _ _ _ _ _ _ ⟨ρ, ja, je, jc, js, jg, ⟨_, hl, ⟨⟨rfl, dv⟩, y_ldens_filter (y_keep1_den i) jd⟩⟩, ds, jx, jo, jk⟩)

theorem y_lstore {i : Nat} (hd : decode μ.2.1 pc = .ok (.lstore i, 2)) : ySim l A CF μ pc (y_store2 μ.2.2.1 i (pc + 2)) := by
  intro p e s m args below meth c R Q C cf hcf st outs ho H locs cells slots ls stk J K
  obtain ⟨hx, hb, hml, hown, hts, hr, hlk, hnm, hR⟩ := C
  obtain ⟨en, cl, sl, h, L, S⟩ := st
  obtain ⟨ρ, ja, je, jc, js, jg, ⟨lv, jl, jd⟩, jS, jx, jo, jk⟩ := J
  obtain ⟨a, v, S, stk, rfl, dv, ds, hok, hn, rfl⟩ := y_store2_inv ho jS
  obtain ⟨x, rfl⟩ := y_isL_den hok dv
  exact lv_lstore hx hb hd jl hn rfl (fun ls hl => K _ (x_mem1 _) _ _ _ _ _ _ ⟨ρ, ja, je, jc, js, jg, ⟨_, hl, ⟨⟨rfl, dv⟩, y_ldens_filter (y_keep2_den i) jd⟩⟩, ds, jx, jo, jk⟩)

theorem y_lstore_n {k : Fin 4} {i : Nat} (hd : decode μ.2.1 pc = .ok (.lstore_n k, 1)) (hi : (k : Nat) = i) : ySim l A CF μ pc (y_store2 μ.2.2.1 i (pc + 1)) := by
  intro p e s m args below meth c R Q C cf hcf st outs ho H locs cells slots ls stk J K
  obtain ⟨hx, hb, hml, hown, hts, hr, hlk, hnm, hR⟩ := C
  obtain ⟨en, cl, sl, h, L, S⟩ := st
  obtain ⟨ρ, ja, je, jc, js, jg, ⟨lv, jl, jd⟩, jS, jx, jo, jk⟩ := J
  obtain ⟨a, v, S, stk, rfl, dv, ds, hok, hn, rfl⟩ := y_store2_inv ho jS
  obtain ⟨x, rfl⟩ := y_isL_den hok dv
  exact lv_lstore_n hx hb hd hi jl hn rfl (fun ls hl => K _ (x_mem1 _) _ _ _ _ _ _ ⟨ρ, ja, je, jc, js, jg, ⟨_, hl, ⟨⟨rfl, dv⟩, y_ldens_filter (y_keep2_den i) jd⟩⟩, ds, jx, jo, jk⟩)

end YSTEPS2
