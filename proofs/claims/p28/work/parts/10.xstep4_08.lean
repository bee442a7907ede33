section STEPS4
variable {l : Launch} {P : xP} {M : List (xY × xT)} {μ : xM} {pc : Nat}
theorem x_newa_inv {ty : FieldType} {d : xV} {nx : Nat} {cf : xF} {en : xE} {cl sl : Nat} {h : xH} {L : xL} {S : List xV} {outs : List xO} {stk : List Value} (ho : i_newa ty d nx cf (en, cl, sl, h, L, S) = some outs) (jS : xdens P S stk) : ∃ (i : Int32) (S' : List xV) (stk' : List Value), stk = .int i :: stk' ∧ xdens P S' stk' ∧ ¬ i < 0 ∧ i.toNatClampNeg < 1000000 ∧ 1 ≤ cl ∧ i.toNatClampNeg ≤ sl ∧ outs = [.inr (nx, en, cl - 1, sl - i.toNatClampNeg, h ++ [.inl (ty, i.toNatClampNeg, d, [])], L, .inl (.ref h.length) :: S')] := by
  match S, stk, jS, ho with
  | x :: S, v :: stk, ⟨dx, ds⟩, ho =>
    match x, dx, ho with
    | .inl (.int i), dx, ho =>
      have dx : v = .int i := dx
      subst dx
      have ho : x_idx i 1000000 (fun N => cond (Nat.ble 1 cl && Nat.ble N sl) (x_kN (cl - 1) (fun cl => x_kN (sl - N) (fun sl => x_push h (.inl (ty, N, d, [])) (fun h r => x_kN r (fun r => some [Sum.inr (nx, en, cl, sl, h, L, (Sum.inl (Value.ref r) : xV) :: S)]))))) none) = some outs := ho
      obtain ⟨hin, hlt, h0, ho⟩ := x_idx_den ho
      obtain ⟨hb, hz⟩ := x_condS ho
      rw [x_kN_eq, x_kN_eq, x_push_eq, x_kN_eq] at hz
      rw [Bool.and_eq_true] at hb
      exact ⟨i, S, stk, rfl, ds, h0, hlt, Nat.le_of_ble_eq_true hb.1, Nat.le_of_ble_eq_true hb.2, (Option.some.inj hz).symm⟩
end STEPS4
