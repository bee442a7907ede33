theorem x_sto_int {P : xP} {ty : FieldType} {a : xV} {w : Value} {f : xV → Option (List xO)} {outs : List xO} (hty : ty = .int ∨ ty = .byte ∨ ty = .boolean) (ho : x_sto ty a f = some outs) (d : xden P a w) : ∃ (x : Int32) (a' : xV), w = .int x ∧ f a' = some outs ∧ xden P a' (.int (vp_nar ty x)) := by
  match a, d, ho with
  | .inl (.int i), d, ho =>
    obtain ⟨hc, ho⟩ := x_condS (α := List xO) (b := fits ty (.int i) && decide (narrow ty (.int i) = .int i)) (x := f (.inl (.int i))) ho
    rw [Bool.and_eq_true] at hc
    refine ⟨i, _, d, ho, ?_⟩
    have h := of_decide_eq_true hc.2
    show Value.int (vp_nar ty i) = .int i
    unfold vp_nar
    rw [h]
  | .inl (.long i), d, ho =>
    obtain ⟨hc, ho⟩ := x_condS (α := List xO) (b := decide (ty = .long)) (x := f (.inl (.long i))) ho
    have h := of_decide_eq_true hc
    subst h
    rcases hty with h | h | h <;> cases h
  | .inr (1, k), d, ho =>
    obtain ⟨hc, ho⟩ := x_condS (α := List xO) (b := decide (ty = .long)) (x := f (.inr (1, k))) ho
    have h := of_decide_eq_true hc
    subst h
    rcases hty with h | h | h <;> cases h
  | .inr (3, k), d, ho =>
    obtain ⟨hc, ho⟩ := x_condS (α := List xO) (b := decide (ty = .long)) (x := f (.inr (3, k))) ho
    have h := of_decide_eq_true hc
    subst h
    rcases hty with h | h | h <;> cases h
  | .inr (0, k), d, ho =>
    have ho : cond (decide (ty = .int)) (f (.inr (0, k))) (cond (decide (ty = .byte)) (f (.inr (2, 0))) none) = some outs := ho
    by_cases hi : ty = .int
    · rw [decide_eq_true hi] at ho
      subst hi
      exact ⟨_, _, d, ho, rfl⟩
    · rw [decide_eq_false hi] at ho
      obtain ⟨hc, ho⟩ := x_condS (α := List xO) (b := decide (ty = .byte)) (x := f (.inr (2, 0))) ho
      exact ⟨_, .inr (2, 0), d, ho, ⟨_, rfl⟩⟩
  | .inr (2, k), ⟨x, d⟩, ho =>
    have ho : cond (decide (ty = .int)) (f (.inr (2, k))) (cond (decide (ty = .byte)) (f (.inr (2, 0))) none) = some outs := ho
    by_cases hi : ty = .int
    · rw [decide_eq_true hi] at ho
      subst hi
      exact ⟨_, .inr (2, k), d, ho, ⟨_, rfl⟩⟩
    · rw [decide_eq_false hi] at ho
      obtain ⟨hc, ho⟩ := x_condS (α := List xO) (b := decide (ty = .byte)) (x := f (.inr (2, 0))) ho
      exact ⟨_, .inr (2, 0), d, ho, ⟨_, rfl⟩⟩
