/-! HINTS BEYOND LOCALS: kind 1 splits a place of the overlay (cell, index, then bounds); kind 2 tightens a value of the stack by facts -/
noncomputable def a_tight (i : Nat) (v : aV) (lo hi : Int) (st : aS) : Option (List aS) := cond (a_leq st.1 (0, 0, lo) v 0 && a_leq st.1 v (0, 0, hi) 0) (match a_get st.1.2.1 i with
  | some w => x_kZ (a_max w.1 (lo - v.2.2)) (fun l => x_kZ (a_min w.2 (hi - v.2.2)) (fun u => some [((st.1.1, (i, l, u) :: st.1.2.1, st.1.2.2), st.2)]))
  | none => x_kZ (lo - v.2.2) (fun l => x_kZ (hi - v.2.2) (fun u => some [((st.1.1, (i, l, u) :: st.1.2.1, st.1.2.2), st.2)]))) none
noncomputable def aLmS : aLm := fun k w bs st => match k with
  | 0 => match bs with
    | r :: o :: bs => match a_oget st.1.2.2.2.1 r.toNat 0 o with
      | some v => cond (Nat.beq v.1 0) (a_splitR v st.2.1 st.2.2 bs st.1) none
      | none => none
    | _ => none
  | 1 => match bs with
    | [lo, hi] => match x_nth st.2.2 w with
      | some (t, i + 1, o) => a_tight i (t, i + 1, o) lo hi st
      | some (t, 0, o) => some [st]
      | _ => none
    | _ => none
  | _ => none
theorem aRl_nth {ρ : Nat → Int} {n : Nat} : ∀ {S : List aV} {Z : List zV} {w : Nat} {v : aV}, aRl ρ n S Z → S[w]? = some v → ∃ z, aR ρ n v z
  | [], _, _, _, _, h => by cases h
  | _ :: _, [], _, _, hR, _ => hR.elim
  | a :: S, z :: Z, 0, v, ⟨h1, _⟩, h => by
    cases h
    exact ⟨z, h1⟩
  | a :: S, z :: Z, w + 1, v, ⟨_, h2⟩, h => aRl_nth h2 (by rw [List.getElem?_cons_succ] at h; exact h)
theorem aLmS_ok (X : aX) : aLmOK X aLmS := by
  intro k w bs st l hr ρ z g
  match k, hr with
  | 0, hr =>
    match bs, hr with
    | r :: o :: bs, hr =>
      have hr : (match a_oget st.1.2.2.2.1 r.toNat 0 o with
        | some v => cond (Nat.beq v.1 0) (a_splitR v st.2.1 st.2.2 bs st.1) none
        | none => none) = some l := hr
      split at hr
      · rename_i v hv
        obtain ⟨-, h2⟩ := a_oget_ok g.1.2.2.1 hv
        rcases x_condT hr with ⟨-, hr⟩ | ⟨-, hr⟩
        · obtain ⟨st', k1, k2, k3⟩ := a_splitR_ok (X := X) (z := z) hr g h2
          exact ⟨st', k1, ρ, aAg.refl _ _, Nat.le_of_eq k2.symm, k3⟩
        · cases hr
      · cases hr
    | [], hr => cases hr
    | [_], hr => cases hr
  | 1, hr =>
    match bs, hr with
    | [lo, hi], hr =>
      have hr : (match x_nth st.2.2 w with
        | some (t, i + 1, o) => a_tight i (t, i + 1, o) lo hi st
        | some (t, 0, o) => some [st]
        | _ => none) = some l := hr
      split at hr
      · rename_i t i o hv
        rw [x_nth_eq] at hv
        obtain ⟨zv, h1, -⟩ := aRl_nth g.2.2 hv
        unfold a_tight at hr
        rcases x_condT hr with ⟨hc, hr⟩ | ⟨-, hr⟩
        · rw [Bool.and_eq_true] at hc
          have d1 := a_leq_ok g.1 hc.1
          have d2 := a_leq_ok g.1 hc.2
          have d1 : lo ≤ ρ i + o + 0 := d1
          have d2 : ρ i + o ≤ hi + 0 := d2
          have fin : ∀ l u : Int, l ≤ ρ i → ρ i ≤ u → ∃ st' ∈ [((st.1.1, (i, l, u) :: st.1.2.1, st.1.2.2), st.2)], ∃ ρ', aAg ρ ρ' st.1.1 ∧ st.1.1 ≤ st'.1.1 ∧ aStD X ρ' st' z := fun l u hl hu => by
            refine ⟨_, List.mem_cons_self, ρ, aAg.refl _ _, Nat.le_refl _, g.1.bound (fun x hx => ?_), g.2.1, g.2.2⟩
            rcases List.mem_cons.mp hx with e | e
            · rw [e]
              exact ⟨h1, hl, hu⟩
            · exact g.1.1.1 x e
          split at hr
          · rename_i w hw
            obtain ⟨-, w1, w2⟩ := a_get_ok g.1.1.1 hw
            rw [x_kZ_eq, x_kZ_eq] at hr
            cases hr
            have m1 := a_max_ok w.1 (lo - o)
            have m2 := a_min_ok w.2 (hi - o)
            exact fin (a_max w.1 (lo - o)) (a_min w.2 (hi - o)) (by omega) (by omega)
          · rw [x_kZ_eq, x_kZ_eq] at hr
            cases hr
            exact fin _ _ (by show lo - o ≤ ρ i; omega) (by show ρ i ≤ hi - o; omega)
        · cases hr
      · cases hr
        exact ⟨_, List.mem_cons_self, ρ, aAg.refl _ _, Nat.le_refl _, g⟩
      · cases hr
    | [], hr => cases hr
    | [_], hr => cases hr
    | _ :: _ :: _ :: _, hr => cases hr
  | _ + 2, hr => cases hr
