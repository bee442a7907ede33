section STEPS4
variable {l : Launch} {P : xP} {M : List (xY × xT)} {μ : xM} {pc : Nat}
theorem x_cls_den {h : xH} {ci : Nat} {a : xV} {v : Value} {s : State} {H : Heap} {r0 : vw_C} (hc : x_cls h ci a = true) (d : xden P a v) (jg : xG P h s H) (jk : va_K P.2.2.2.1 vwCl [] s) (hr : vwCl[ci]? = some r0) : ∃ r : Nat, v = .ref (P.2.1 + r) ∧ a = .inl (.ref r) ∧ ∃ cell : Cell, H[P.2.1 + r]? = some cell ∧ cell.vm = .none ∧ cell.cls = P.2.2.2.1.1 ci ∧ s.vm.findClass r0.1 = some cell.cls := by
  match a, d, hc with
  | .inl (.ref r), d, hc =>
    have hc : (match x_nth h r with
      | some (.inr (cj, _)) => Nat.beq ci cj
      | _ => false) = true := hc
    match hn : x_nth h r, hc with
    | some (.inr (cj, fs)), hc =>
      have hc := Nat.eq_of_beq_eq_true hc
      subst hc
      obtain ⟨vs, dvs, r', h1, cell, q1, q2, q3, q4⟩ := jg.2 _ _ (x_nth_lt hn).1
      exact ⟨r, d, rfl, cell, q1, q3, q2, by rw [q2]; exact (jk.1 ci _ hr).2.1⟩
end STEPS4
