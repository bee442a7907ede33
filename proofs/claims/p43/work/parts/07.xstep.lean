/-! THE STEPS, one by one -/
def x_isA (v : xV) : Bool := match v with
  | .inl (.ref _) => true
  | .inr (4, _) => true
  | _ => false
theorem x_isA_den {P : xP} {a : xV} {v : Value} (h : x_isA a = true) (d : xden P a v) : ∃ i : Nat, v = .ref i := by
  match a, h, d with
  | .inl (.ref i), _, d => exact ⟨_, d⟩
  | .inr (4, k), _, d => exact ⟨_, d⟩
theorem x_load {P : xP} {ok : xV → Bool} {i nx cl sl : Nat} {cf : xF} {en : xE} {h : xH} {L : xL} {S : List xV} {outs : List xO} {lv : List (Nat × Value)} (ho : i_load ok i nx cf (en, cl, sl, h, L, S) = some outs) (je : xEnv P en) (jd : xldens P L lv) : ∃ a v, (i, v) ∈ lv ∧ xden P a v ∧ ok a = true ∧ outs = [.inr (nx, en, cl, sl, h, L, a :: S)] := by
  have ho : (match x_get L i with
    | some v => x_frc (x_nm en v) (fun v => cond (ok v) (some [Sum.inr (nx, en, cl, sl, h, L, v :: S)]) none)
    | none => none) = some outs := ho
  cases hg : x_get L i with
  | none => rw [hg] at ho; cases ho
  | some a =>
    rw [hg] at ho
    have ho : x_frc (x_nm en a) (fun v => cond (ok v) (some [Sum.inr (nx, en, cl, sl, h, L, v :: S)]) none) = some outs := ho
    rw [x_frc_eq] at ho
    obtain ⟨v, h1, h2⟩ := x_get_den jd hg
    cases hk : ok (x_nm en a) with
    | false => rw [hk] at ho; cases ho
    | true =>
      rw [hk] at ho
      exact ⟨_, v, h2, x_nm_den je h1, hk, (Option.some.inj ho).symm⟩
theorem x_store1 {P : xP} {ok : xV → Bool} {nL i nx cl sl : Nat} {cf : xF} {en : xE} {h : xH} {L : xL} {S : List xV} {outs : List xO} {stk : List Value} (ho : i_store1 ok nL i nx cf (en, cl, sl, h, L, S) = some outs) (jS : xdens P S stk) : ∃ a v S' stk', stk = v :: stk' ∧ xden P a v ∧ xdens P S' stk' ∧ ok a = true ∧ i < nL ∧ outs = [.inr (nx, en, cl, sl, h, (i, a) :: L.filter (x_keep1 i), S')] := by
  match S, stk, jS, ho with
  | a :: S, v :: stk, ⟨d, ds⟩, ho =>
    have ho : cond (ok a && Nat.blt i nL) (x_lst nx en cl sl h ((i, a) :: L.filter (x_keep1 i)) S) none = some outs := ho
    cases hc : (ok a && Nat.blt i nL) with
    | false => rw [hc] at ho; cases ho
    | true =>
      rw [hc] at ho
      have ho : x_spine ((i, a) :: L.filter (x_keep1 i)) (fun L => some [Sum.inr (nx, en, cl, sl, h, L, S)]) = some outs := ho
      rw [x_spine_eq] at ho
      rw [Bool.and_eq_true] at hc
      exact ⟨a, v, S, stk, rfl, d, ds, hc.1, Nat.le_of_ble_eq_true hc.2, (Option.some.inj ho).symm⟩
section STEPS
variable {l : Launch} {P : xP} {M : List (xY × xT)} {μ : xM} {pc : Nat}

theorem s_iconst {n : Int} (v : Int32) (hd : decode μ.2.1 pc = .ok (.iconst n, 1)) (hv : Int32.ofInt n = v) : xSim l P M μ pc (i_push (.inl (.int v)) (pc + 1)) := by
  intro p e s m args below meth c R Q C cf hcf st outs ho H locs cells slots ls stk J K
  obtain ⟨hx, hb, hml, hown, hts, hr, hlk, hnm, hR⟩ := C
  obtain ⟨en, cl, sl, h, L, S⟩ := st
  obtain ⟨je, jc, js, jg, ⟨lv, jl, jd⟩, jS, jx, jo, jk⟩ := J
  have ho := Option.some.inj ho
  subst ho
  exact lv_iconst hx hb hd hv (K _ (x_mem1 _) _ _ _ _ _ _ ⟨je, jc, js, jg, ⟨lv, jl, jd⟩, ⟨rfl, jS⟩, jx, jo, jk⟩)

theorem s_bipush {n : Int} (v : Int32) (hd : decode μ.2.1 pc = .ok (.bipush n, 2)) (hv : (Int8.ofInt n).toInt32 = v) : xSim l P M μ pc (i_push (.inl (.int v)) (pc + 2)) := by
  intro p e s m args below meth c R Q C cf hcf st outs ho H locs cells slots ls stk J K
  obtain ⟨hx, hb, hml, hown, hts, hr, hlk, hnm, hR⟩ := C
  obtain ⟨en, cl, sl, h, L, S⟩ := st
  obtain ⟨je, jc, js, jg, ⟨lv, jl, jd⟩, jS, jx, jo, jk⟩ := J
  have ho := Option.some.inj ho
  subst ho
  exact lv_bipush hx hb hd hv (K _ (x_mem1 _) _ _ _ _ _ _ ⟨je, jc, js, jg, ⟨lv, jl, jd⟩, ⟨rfl, jS⟩, jx, jo, jk⟩)

theorem s_sipush {n : Int} (v : Int32) (hd : decode μ.2.1 pc = .ok (.sipush n, 3)) (hv : (Int16.ofInt n).toInt32 = v) : xSim l P M μ pc (i_push (.inl (.int v)) (pc + 3)) := by
  intro p e s m args below meth c R Q C cf hcf st outs ho H locs cells slots ls stk J K
  obtain ⟨hx, hb, hml, hown, hts, hr, hlk, hnm, hR⟩ := C
  obtain ⟨en, cl, sl, h, L, S⟩ := st
  obtain ⟨je, jc, js, jg, ⟨lv, jl, jd⟩, jS, jx, jo, jk⟩ := J
  have ho := Option.some.inj ho
  subst ho
  exact lv_sipush hx hb hd hv (K _ (x_mem1 _) _ _ _ _ _ _ ⟨je, jc, js, jg, ⟨lv, jl, jd⟩, ⟨rfl, jS⟩, jx, jo, jk⟩)

theorem s_lconst {n : Fin 2} (v : Int64) (hd : decode μ.2.1 pc = .ok (.lconst n, 1)) (hv : Int64.ofNat (n : Nat) = v) : xSim l P M μ pc (i_push (.inl (.long v)) (pc + 1)) := by
  intro p e s m args below meth c R Q C cf hcf st outs ho H locs cells slots ls stk J K
  obtain ⟨hx, hb, hml, hown, hts, hr, hlk, hnm, hR⟩ := C
  obtain ⟨en, cl, sl, h, L, S⟩ := st
  obtain ⟨je, jc, js, jg, ⟨lv, jl, jd⟩, jS, jx, jo, jk⟩ := J
  have ho := Option.some.inj ho
  subst ho
  exact lv_lconst hx hb hd hv (K _ (x_mem1 _) _ _ _ _ _ _ ⟨je, jc, js, jg, ⟨lv, jl, jd⟩, ⟨rfl, jS⟩, jx, jo, jk⟩)

theorem s_iload_n {k : Fin 4} {i : Nat} (hd : decode μ.2.1 pc = .ok (.iload_n k, 1)) (hi : (k : Nat) = i) : xSim l P M μ pc (i_load x_isI i (pc + 1)) := by
  intro p e s m args below meth c R Q C cf hcf st outs ho H locs cells slots ls stk J K
  obtain ⟨hx, hb, hml, hown, hts, hr, hlk, hnm, hR⟩ := C
  obtain ⟨en, cl, sl, h, L, S⟩ := st
  obtain ⟨je, jc, js, jg, ⟨lv, jl, jd⟩, jS, jx, jo, jk⟩ := J
  obtain ⟨a, v, hm, dv, hok, rfl⟩ := x_load ho je jd
  obtain ⟨x, rfl⟩ := x_isI_den hok dv
  exact lv_iload_n hx hb hd hi (jl.2.2 _ hm) (K _ (x_mem1 _) _ _ _ _ _ _ ⟨je, jc, js, jg, ⟨lv, jl, jd⟩, ⟨dv, jS⟩, jx, jo, jk⟩)

theorem s_aload_n {k : Fin 4} {i : Nat} (hd : decode μ.2.1 pc = .ok (.aload_n k, 1)) (hi : (k : Nat) = i) : xSim l P M μ pc (i_load x_isA i (pc + 1)) := by
  intro p e s m args below meth c R Q C cf hcf st outs ho H locs cells slots ls stk J K
  obtain ⟨hx, hb, hml, hown, hts, hr, hlk, hnm, hR⟩ := C
  obtain ⟨en, cl, sl, h, L, S⟩ := st
  obtain ⟨je, jc, js, jg, ⟨lv, jl, jd⟩, jS, jx, jo, jk⟩ := J
  obtain ⟨a, v, hm, dv, hok, rfl⟩ := x_load ho je jd
  obtain ⟨x, rfl⟩ := x_isA_den hok dv
  exact lv_aload_n hx hb hd hi (jl.2.2 _ hm) (K _ (x_mem1 _) _ _ _ _ _ _ ⟨je, jc, js, jg, ⟨lv, jl, jd⟩, ⟨dv, jS⟩, jx, jo, jk⟩)

theorem s_istore_n {k : Fin 4} {i : Nat} (hd : decode μ.2.1 pc = .ok (.istore_n k, 1)) (hi : (k : Nat) = i) : xSim l P M μ pc (i_store1 x_isI μ.2.2.1 i (pc + 1)) := by
  intro p e s m args below meth c R Q C cf hcf st outs ho H locs cells slots ls stk J K
  obtain ⟨hx, hb, hml, hown, hts, hr, hlk, hnm, hR⟩ := C
  obtain ⟨en, cl, sl, h, L, S⟩ := st
  obtain ⟨je, jc, js, jg, ⟨lv, jl, jd⟩, jS, jx, jo, jk⟩ := J
  obtain ⟨a, v, S, stk, rfl, dv, ds, hok, hn, rfl⟩ := x_store1 ho jS
  obtain ⟨x, rfl⟩ := x_isI_den hok dv
  exact lv_istore_n hx hb hd hi jl hn rfl (fun ls hl => K _ (x_mem1 _) _ _ _ _ _ _ ⟨je, jc, js, jg, ⟨_, hl, ⟨⟨rfl, dv⟩, x_ldens_filter (x_keep1_den i) jd⟩⟩, ds, jx, jo, jk⟩)

theorem s_astore_n {k : Fin 4} {i : Nat} (hd : decode μ.2.1 pc = .ok (.astore_n k, 1)) (hi : (k : Nat) = i) : xSim l P M μ pc (i_store1 x_isA μ.2.2.1 i (pc + 1)) := by
  intro p e s m args below meth c R Q C cf hcf st outs ho H locs cells slots ls stk J K
  obtain ⟨hx, hb, hml, hown, hts, hr, hlk, hnm, hR⟩ := C
  obtain ⟨en, cl, sl, h, L, S⟩ := st
  obtain ⟨je, jc, js, jg, ⟨lv, jl, jd⟩, jS, jx, jo, jk⟩ := J
  obtain ⟨a, v, S, stk, rfl, dv, ds, hok, hn, rfl⟩ := x_store1 ho jS
  obtain ⟨x, rfl⟩ := x_isA_den hok dv
  exact lv_astore_n hx hb hd hi jl hn rfl (fun ls hl => K _ (x_mem1 _) _ _ _ _ _ _ ⟨je, jc, js, jg, ⟨_, hl, ⟨⟨rfl, dv⟩, x_ldens_filter (x_keep1_den i) jd⟩⟩, ds, jx, jo, jk⟩)

theorem s_iinc {n : Int} {i : Nat} (z : Int32) (hd : decode μ.2.1 pc = .ok (.iinc i n, 3)) (hz : Int32.ofInt n = z) : xSim l P M μ pc (i_iinc μ.2.2.1 i z (pc + 3)) := by
  intro p e s m args below meth c R Q C cf hcf st outs ho H locs cells slots ls stk J K
  obtain ⟨hx, hb, hml, hown, hts, hr, hlk, hnm, hR⟩ := C
  obtain ⟨en, cl, sl, h, L, S⟩ := st
  obtain ⟨je, jc, js, jg, ⟨lv, jl, jd⟩, jS, jx, jo, jk⟩ := J
  have ho : (match x_get L i with
    | some (.inl (.int x)) => cond (Nat.blt i μ.2.2.1) (x_k32 (x + z) (fun r => x_lst (pc + 3) en cl sl h ((i, .inl (.int r)) :: L.filter (x_keep1 i)) S)) none
    | _ => none) = some outs := ho
  cases hg : x_get L i with
  | none => rw [hg] at ho; cases ho
  | some a =>
    rw [hg] at ho
    match a, hg, ho with
    | .inl (.int x), hg, ho =>
      have ho : cond (Nat.blt i μ.2.2.1) (x_k32 (x + z) (fun r => x_lst (pc + 3) en cl sl h ((i, .inl (.int r)) :: L.filter (x_keep1 i)) S)) none = some outs := ho
      cases hc : Nat.blt i μ.2.2.1 with
      | false => rw [hc] at ho; cases ho
      | true =>
        rw [hc] at ho
        have ho : x_k32 (x + z) (fun r => x_lst (pc + 3) en cl sl h ((i, .inl (.int r)) :: L.filter (x_keep1 i)) S) = some outs := ho
        rw [x_k32_eq] at ho
        have ho : x_spine ((i, .inl (.int (x + z))) :: L.filter (x_keep1 i)) (fun L => some [Sum.inr (pc + 3, en, cl, sl, h, L, S)]) = some outs := ho
        rw [x_spine_eq] at ho
        have ho := Option.some.inj ho
        subst ho
        obtain ⟨v, dv, hm⟩ := x_get_den jd hg
        have dv : v = .int x := dv
        subst dv
        obtain ⟨k, hk⟩ := List.getElem?_of_mem hm
        exact lv_iinc hx hb hd jl hk (by rw [hz]) (Nat.le_of_ble_eq_true hc) rfl (fun ls hl => K _ (x_mem1 _) _ _ _ _ _ _ ⟨je, jc, js, jg, ⟨_, hl, ⟨⟨rfl, rfl⟩, x_ldens_filter (x_keep1_den i) jd⟩⟩, jS, jx, jo, jk⟩)

end STEPS
