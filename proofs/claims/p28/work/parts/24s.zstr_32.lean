theorem t_hasAll_in : ∀ {ws : List Cond} {ps : List (Nat × Nat)}, t_hasAll ws ps = true → ∀ w ∈ ws, w ∈ xTB
  | [], _, _, w, hw => absurd hw List.not_mem_nil
  | _ :: _, [], h, _, _ => by cases h
  | w :: ws, q :: ps, h, w', hw => by
    have h : (((match x_nth (tTb q.1) q.2 with
      | some v => decide (v = w)
      | none => false) && goodWord w) && t_hasAll ws ps) = true := h
    rw [Bool.and_eq_true, Bool.and_eq_true, x_nth_eq] at h
    obtain ⟨⟨h1, h2⟩, h3⟩ := h
    rcases List.mem_cons.mp hw with e | e
    · subst e
      split at h1
      · rename_i v hv
        have := of_decide_eq_true h1
        subst this
        exact xTB_in (tTb_in (List.mem_of_getElem? hv)) h2
      · cases h1
    · exact t_hasAll_in h3 w' e
theorem t_wlen : ∀ w ∈ ([Cond.instanceMethod yJ0_length_8abf5, Cond.selects RJ0 yJ0_length_8abf5 yJ0_length_8abf5, Cond.initialized RJ0] : List Cond) ++ wsJ0_length_8abf5, w ∈ xTB := t_hasAll_in (ps := [(3, 155), (3, 156), (1, 17), (3, 157), (9, 224), (3, 158), (3, 159), (3, 160), (1, 17), (3, 161), (3, 162), (9, 225)]) (by decide +kernel)
theorem t_wchr : ∀ w ∈ ([Cond.instanceMethod yJ0_charAt_5068e, Cond.selects RJ0 yJ0_charAt_5068e yJ0_charAt_5068e, Cond.initialized RJ0] : List Cond) ++ wsJ0_charAt_5068e, w ∈ xTB := t_hasAll_in (ps := [(3, 165), (3, 166), (1, 17), (3, 167), (9, 224), (3, 168), (3, 169), (3, 170), (1, 17), (3, 171), (3, 162), (9, 225), (3, 172), (3, 173), (1, 18), (3, 174), (3, 175), (3, 176), (3, 177), (3, 178), (3, 180), (3, 181), (1, 19), (3, 182), (3, 183), (3, 184), (1, 20), (3, 185), (3, 186), (3, 187), (3, 188), (3, 189), (3, 190), (3, 191), (3, 192), (3, 193), (3, 194), (3, 195), (3, 196), (3, 198), (3, 200)]) (by decide +kernel)
