section STEPS4
variable {l : Launch} {P : xP} {M : List (xY × xT)} {μ : xM} {pc : Nat}
theorem x_dens_lit : ∀ {vs : List Value}, vs.all (fun v => match v with | .ref _ => false | _ => true) = true → xdens P (vs.map Sum.inl) vs
  | [], _ => trivial
  | v :: vs, h => by
    rw [List.all_cons, Bool.and_eq_true] at h
    refine ⟨?_, x_dens_lit h.2⟩
    cases v <;> first | rfl | cases h.1
end STEPS4
