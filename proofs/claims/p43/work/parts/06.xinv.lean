/-! comparing -/
theorem x_le_min (z a b : Int) : z ≤ x_min a b ↔ z ≤ a ∧ z ≤ b := by
  unfold x_min
  by_cases h : a ≤ b
  · rw [decide_eq_true h]; show z ≤ a ↔ _; omega
  · rw [decide_eq_false h]; show z ≤ b ↔ _; omega
theorem x_max_le (z a b : Int) : x_max a b ≤ z ↔ a ≤ z ∧ b ≤ z := by
  unfold x_max
  by_cases h : a ≤ b
  · rw [decide_eq_true h]; show b ≤ z ↔ _; omega
  · rw [decide_eq_false h]; show a ≤ z ↔ _; omega
def x_rel (b : Nat) (x y : Int) : Prop := match b with
  | 0 => x < y
  | 1 => y < x
  | _ => x = y
theorem x_lit_rel (b : Nat) (x y : Int) : x_lit b x y = true ↔ x_rel b x y := by
  match b with
  | 0 => exact decide_eq_true_iff
  | 1 => exact decide_eq_true_iff
  | _ + 2 => exact decide_eq_true_iff
theorem x_yes_in {b : Nat} {q : Int × Int} {x y : Int} (h : q.1 ≤ x ∧ x ≤ q.2) (hr : x_rel b x y) : (x_yes b q y).1 ≤ x ∧ x ≤ (x_yes b q y).2 := by
  match b, hr with
  | 0, hr =>
    have hr : x < y := hr
    show q.1 ≤ x ∧ x ≤ x_min q.2 (y - 1)
    rw [x_le_min]; omega
  | 1, hr =>
    have hr : y < x := hr
    show x_max q.1 (y + 1) ≤ x ∧ x ≤ q.2
    rw [x_max_le]; omega
  | _ + 2, hr =>
    have hr : x = y := hr
    show x_max q.1 y ≤ x ∧ x ≤ x_min q.2 y
    rw [x_max_le, x_le_min]; omega
theorem x_no_in {b : Nat} {q : Int × Int} {x y : Int} (h : q.1 ≤ x ∧ x ≤ q.2) (hr : ¬ x_rel b x y) : ((x_no1 b q y).1 ≤ x ∧ x ≤ (x_no1 b q y).2) ∨ ((x_no2 b q y).1 ≤ x ∧ x ≤ (x_no2 b q y).2) := by
  match b, hr with
  | 0, hr =>
    have hr : ¬ x < y := hr
    refine Or.inl ?_
    show x_max q.1 y ≤ x ∧ x ≤ q.2
    rw [x_max_le]; omega
  | 1, hr =>
    have hr : ¬ y < x := hr
    refine Or.inl ?_
    show q.1 ≤ x ∧ x ≤ x_min q.2 y
    rw [x_le_min]; omega
  | _ + 2, hr =>
    have hr : ¬ x = y := hr
    by_cases h1 : x < y
    · refine Or.inl ?_
      show q.1 ≤ x ∧ x ≤ x_min q.2 (y - 1)
      rw [x_le_min]; omega
    · refine Or.inr ?_
      show x_max q.1 (y + 1) ≤ x ∧ x ≤ q.2
      rw [x_max_le]; omega
theorem x_flip_rel (b : Nat) (x y : Int) : x_rel (x_flip b) x y ↔ x_rel b y x := by
  match b with
  | 0 => exact Iff.rfl
  | 1 => exact Iff.rfl
  | _ + 2 => exact eq_comm
theorem x_put_den {P : xP} {e : xE} {k : Nat} {q : Int × Int} {o : xE → xO} {rest outs : List xO} (ho : x_put e k q o rest = some outs) (je : xEnv P e) : (∀ z ∈ rest, z ∈ outs) ∧ (q.1 ≤ (P.1 k).toInt ∧ (P.1 k).toInt ≤ q.2 → ∃ e', xEnv P e' ∧ o e' ∈ outs) := by
  unfold x_put at ho
  by_cases h : q.1 ≤ q.2
  · rw [decide_eq_true h] at ho
    have ho : x_kZ q.1 (fun a => x_kZ q.2 (fun b => x_set e k (a, b) (fun e' => some (o e' :: rest)))) = some outs := ho
    rw [x_kZ_eq, x_kZ_eq] at ho
    obtain ⟨hk, ho⟩ := x_set_eq _ _ _ _ ho
    have ho := Option.some.inj ho
    subst ho
    refine ⟨fun z hz => List.mem_cons_of_mem _ hz, fun hq => ⟨_, ⟨je.1, fun j r hj => ?_⟩, List.mem_cons_self⟩⟩
    by_cases e1 : j = k
    · subst e1
      rw [List.getElem?_set_self hk] at hj
      cases hj
      exact hq
    · rw [List.getElem?_set_ne (Ne.symm e1)] at hj
      exact je.2 j r hj
  · rw [decide_eq_false h] at ho
    have ho : some rest = some outs := ho
    cases ho
    exact ⟨fun z hz => hz, fun hq => absurd (Int.le_trans hq.1 hq.2) h⟩
theorem x_fork_den {P : xP} {b : Nat} {e : xE} {k : Nat} {y : Int} {oT oF : xE → xO} {outs : List xO} (ho : x_fork b e k y oT oF = some outs) (je : xEnv P e) : (x_rel b (P.1 k).toInt y → ∃ e', xEnv P e' ∧ oT e' ∈ outs) ∧ (¬ x_rel b (P.1 k).toInt y → ∃ e', xEnv P e' ∧ oF e' ∈ outs) := by
  unfold x_fork at ho
  cases h1 : x_put e k (x_no1 b (x_env e k) y) oF [] with
  | none => rw [h1] at ho; cases ho
  | some r =>
    rw [h1] at ho
    have ho : (match x_put e k (x_no2 b (x_env e k) y) oF r with
      | some r => x_put e k (x_yes b (x_env e k) y) oT r
      | none => none) = some outs := ho
    cases h2 : x_put e k (x_no2 b (x_env e k) y) oF r with
    | none => rw [h2] at ho; cases ho
    | some r2 =>
      rw [h2] at ho
      have ho : x_put e k (x_yes b (x_env e k) y) oT r2 = some outs := ho
      obtain ⟨a1, a2⟩ := x_put_den h1 je
      obtain ⟨b1, b2⟩ := x_put_den h2 je
      obtain ⟨c1, c2⟩ := x_put_den ho je
      refine ⟨fun hr => c2 (x_yes_in (x_env_den je k) hr), fun hr => ?_⟩
      rcases x_no_in (x_env_den je k) hr with q | q
      · obtain ⟨e', d1, d2⟩ := a2 q
        exact ⟨e', d1, c1 _ (b1 _ d2)⟩
      · obtain ⟨e', d1, d2⟩ := b2 q
        exact ⟨e', d1, c1 _ d2⟩
theorem x_br_den {P : xP} {b : Nat} {e : xE} {x y : xV} {oT oF : xE → xO} {outs : List xO} {v w : Value} (ho : x_br b e x y oT oF = some outs) (je : xEnv P e) (dx : xden P x v) (dy : xden P y w) : ∃ a c : Int32, v = .int a ∧ w = .int c ∧ (x_rel b a.toInt c.toInt → ∃ e', xEnv P e' ∧ oT e' ∈ outs) ∧ (¬ x_rel b a.toInt c.toInt → ∃ e', xEnv P e' ∧ oF e' ∈ outs) := by
  match x, y, dx, dy, ho with
  | .inl (.int a), .inl (.int c), dx, dy, ho =>
    have ho : cond (x_lit b a.toInt c.toInt) (some [oT e]) (some [oF e]) = some outs := ho
    refine ⟨a, c, dx, dy, fun hr => ?_, fun hr => ?_⟩
    · rw [(x_lit_rel _ _ _).mpr hr] at ho
      have ho : some [oT e] = some outs := ho
      cases ho
      exact ⟨e, je, x_mem1 _⟩
    · rw [Bool.eq_false_iff.mpr (fun h => hr ((x_lit_rel _ _ _).mp h))] at ho
      have ho : some [oF e] = some outs := ho
      cases ho
      exact ⟨e, je, x_mem1 _⟩
  | .inr (0, k), .inl (.int c), dx, dy, ho =>
    have ho : x_fork b e k c.toInt oT oF = some outs := ho
    exact ⟨P.1 k, c, dx, dy, x_fork_den ho je⟩
  | .inl (.int c), .inr (0, k), dx, dy, ho =>
    have ho : x_fork (x_flip b) e k c.toInt oT oF = some outs := ho
    obtain ⟨h1, h2⟩ := x_fork_den ho je
    exact ⟨c, P.1 k, dx, dy, fun hr => h1 ((x_flip_rel _ _ _).mpr hr), fun hr => h2 (fun q => hr ((x_flip_rel _ _ _).mp q))⟩
-- a switch: the target of a number
/-! arrays' contents -/
theorem x_eqv_eq {v d : xV} (h : x_eqv v d = true) : v = d := by
  match v, d, h with
  | .inl (.int a), .inl (.int b), h =>
    have h := Nat.eq_of_beq_eq_true h
    rw [← x_i32 a, h, x_i32 b]
  | .inl (.long a), .inl (.long b), h =>
    have h := Nat.eq_of_beq_eq_true h
    rw [← x_i64 a, h, x_i64 b]
theorem x_upd_lk {j : Nat} {v d : xV} (k : Nat) : ∀ o : List (Nat × xV), x_lk (x_upd o j v d) d k = if k = j then v else x_lk o d k
  | [] => by
    show x_lk (cond (x_eqv v d) [] [(j, v)]) d k = if k = j then v else d
    cases h : x_eqv v d with
    | true =>
      have := x_eqv_eq h
      subst this
      show v = _
      split <;> rfl
    | false =>
      show cond (Nat.beq j k) v d = _
      cases hb : Nat.beq j k with
      | true => rw [if_pos (Nat.eq_of_beq_eq_true hb).symm]; rfl
      | false => rw [if_neg (fun q => Nat.ne_of_beq_eq_false hb q.symm)]; rfl
  | q :: t => by
    show x_lk (cond (Nat.beq q.1 j) ((j, v) :: t) (q :: x_upd t j v d)) d k = if k = j then v else cond (Nat.beq q.1 k) q.2 (x_lk t d k)
    cases hj : Nat.beq q.1 j with
    | true =>
      have hj := Nat.eq_of_beq_eq_true hj
      show cond (Nat.beq j k) v (x_lk t d k) = _
      cases hb : Nat.beq j k with
      | true => rw [if_pos (Nat.eq_of_beq_eq_true hb).symm]; rfl
      | false =>
        rw [if_neg (fun q => Nat.ne_of_beq_eq_false hb q.symm), hj, hb]; rfl
    | false =>
      have hj := Nat.ne_of_beq_eq_false hj
      show cond (Nat.beq q.1 k) q.2 (x_lk (x_upd t j v d) d k) = _
      cases hb : Nat.beq q.1 k with
      | true =>
        rw [if_neg (fun z => hj ((Nat.eq_of_beq_eq_true hb).trans z))]; rfl
      | false => exact x_upd_lk k t
theorem x_idx_den {β : Type} {i : Int32} {n : Nat} {f : Nat → Option β} {r : β} (h : x_idx i n f = some r) : vp_in i n ∧ i.toNatClampNeg < n ∧ ¬ i < 0 ∧ f i.toNatClampNeg = some r := by
  unfold x_idx at h
  cases h1 : (Nat.ble n 2147483647 && Nat.blt i.toBitVec.toNat n) with
  | false => rw [h1] at h; cases h
  | true =>
    rw [h1] at h
    have h : x_kN i.toBitVec.toNat f = some r := h
    rw [x_kN_eq] at h
    rw [Bool.and_eq_true] at h1
    have a1 := Nat.le_of_ble_eq_true h1.1
    have a2 : i.toBitVec.toNat < n := Nat.le_of_ble_eq_true h1.2
    have e1 : i.toInt = (i.toBitVec.toNat : Int) := by
      show i.toBitVec.toInt = _
      rw [BitVec.toInt_eq_toNat_of_lt (by omega)]
    have e2 : i.toNatClampNeg = i.toBitVec.toNat := by
      show i.toInt.toNat = _
      rw [e1]; rfl
    have e3 : ¬ i < 0 := by
      rw [Int32.lt_iff_toInt_lt, e1, Int32.toInt_zero]; omega
    rw [e2]
    exact ⟨fun q => q.elim e3 (by rw [e2]; omega), a2, e3, h⟩
theorem x_nth_dens {P : xP} {a : xV} : ∀ {k : Nat} {as : List xV} {vs : List Value}, xdens P as vs → x_nth as k = some a → ∃ v, vs[k]? = some v ∧ xden P a v
  | _, [], [], _, h => by rw [x_nth_eq] at h; simp at h
  | 0, b :: as, v :: vs, ⟨d, _⟩, h => by cases h; exact ⟨v, rfl, d⟩
  | k + 1, b :: as, v :: vs, ⟨_, d⟩, h => x_nth_dens (k := k) d h
theorem x_dens_len {P : xP} : ∀ {as : List xV} {vs : List Value}, xdens P as vs → as.length = vs.length
  | [], [], _ => rfl
  | _ :: as, _ :: vs, ⟨_, d⟩ => by rw [List.length_cons, List.length_cons, x_dens_len d]
theorem x_dens_set {P : xP} {a : xV} {w : Value} (dw : xden P a w) : ∀ {k : Nat} {as : List xV} {vs : List Value}, xdens P as vs → xdens P (as.set k a) (vs.set k w)
  | _, [], [], _ => trivial
  | 0, b :: as, v :: vs, ⟨_, d⟩ => ⟨dw, d⟩
  | k + 1, b :: as, v :: vs, ⟨d0, d⟩ => ⟨d0, x_dens_set dw (k := k) d⟩
theorem x_dens_app {P : xP} : ∀ {as : List xV} {vs : List Value} {bs : List xV} {ws : List Value}, xdens P as vs → xdens P bs ws → xdens P (as ++ bs) (vs ++ ws)
  | [], [], _, _, _, h => h
  | _ :: as, _ :: vs, _, _, ⟨d, ds⟩, h => ⟨d, x_dens_app ds h⟩
-- arguments off the stack
theorem x_take_den {P : xP} {outs : List xO} {f : List xV → List xV → Option (List xO)} : ∀ {n : Nat} {S acc : List xV} {stk accv : List Value}, x_take n S f acc = some outs → xdens P S stk → xdens P acc accv → ∃ (as S' : List xV) (vs stk' : List Value), as.length = n ∧ stk = vs.reverse ++ stk' ∧ xdens P as vs ∧ xdens P S' stk' ∧ f (as ++ acc) S' = some outs
  | 0, S, acc, stk, accv, h, d, da => ⟨[], S, [], stk, rfl, rfl, trivial, d, h⟩
  | n + 1, v :: S, acc, w :: stk, accv, h, ⟨d0, d⟩, da => by
    have h : x_take n S f (v :: acc) = some outs := h
    obtain ⟨as, S', vs, stk', e1, e2, e3, e4, e5⟩ := x_take_den (acc := v :: acc) (accv := w :: accv) h d ⟨d0, da⟩
    refine ⟨as ++ [v], S', vs ++ [w], stk', by simp [e1], by simp [e2], x_dens_app e3 ⟨d0, trivial⟩, e4, by simpa using e5⟩
  | n + 1, [], acc, [], accv, h, d, da => by cases h
theorem x_args_den {P : xP} : ∀ {i : Nat} {as : List xV} {vs : List Value}, xdens P as vs → xldens P (x_args i as) (lv_args i vs)
  | _, [], [], _ => trivial
  | i, a :: as, v :: vs, ⟨d, ds⟩ => by
    show xldens P ((i, a) :: x_args (cond (Nat.beq (x_cat a) 2) (i + 2) (i + 1)) as) ((i, v) :: lv_args (if v.category = 2 then i + 2 else i + 1) vs)
    refine ⟨⟨rfl, d⟩, ?_⟩
    have e : cond (Nat.beq (x_cat a) 2) (i + 2) (i + 1) = if v.category = 2 then i + 2 else i + 1 := by
      rw [x_cat_den d]
      cases hb : Nat.beq (x_cat a) 2 with
      | true => rw [if_pos (Nat.eq_of_beq_eq_true hb)]; rfl
      | false => rw [if_neg (Nat.ne_of_beq_eq_false hb)]; rfl
    rw [e]
    exact x_args_den ds
