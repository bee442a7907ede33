/-! WHAT CODE CAN'T DO: fields that nothing writes, kinds of answers; over the tables -/
theorem vP_and {D : zD} {T : zT} {N mi pc : Nat} {h : zH} {l : List (Option zV)} {S : List zV} {Q Q' : zR → Prop} (k : vP D T N mi pc h l S Q) (k' : vP D T N mi pc h l S Q') : vP D T N mi pc h l S (fun r => Q r ∧ Q' r) := fun hv n r hn he => ⟨k hv n r hn he, k' hv n r hn he⟩
def fw1 (inS : Nat → Nat → Bool) (ci k mi p0 pc : Nat) (o : Option zX) : Bool := match o with
  | some i => Nat.blt pc p0 || fwS inS ci k mi i
  | none => true
def fwR (inS : Nat → Nat → Bool) (ci k mi p0 : Nat) : List (Option zX) → Nat → Bool
  | [], _ => true
  | o :: l, pc => fw1 inS ci k mi p0 pc o && fwR inS ci k mi p0 l (pc + 1)
theorem fwR_ok {inS : Nat → Nat → Bool} {ci k mi p0 : Nat} {i : zX} : ∀ {l : List (Option zX)} {pc j : Nat}, fwR inS ci k mi p0 l pc = true → l[j]? = some (some i) → p0 ≤ pc + j → fwS inS ci k mi i = true
  | [], _, _, _, hj, _ => by simp at hj
  | o :: l, pc, 0, h, hj, hp => by
    have h : (fw1 inS ci k mi p0 pc o && fwR inS ci k mi p0 l (pc + 1)) = true := h
    rw [Bool.and_eq_true] at h
    have hj : o = some i := by simpa using hj
    subst hj
    have h1 : (Nat.blt pc p0 || fwS inS ci k mi i) = true := h.1
    rw [Bool.or_eq_true] at h1
    rcases h1 with e | e
    · have : pc + 1 ≤ p0 := Nat.le_of_ble_eq_true e
      omega
    · exact e
  | o :: l, pc, j + 1, h, hj, hp => by
    have h : (fw1 inS ci k mi p0 pc o && fwR inS ci k mi p0 l (pc + 1)) = true := h
    rw [Bool.and_eq_true] at h
    exact fwR_ok h.2 (by simpa using hj) (by omega)
def fwT (inS : Nat → Nat → Bool) (ci k mi p0 : Nat) : List (List (Option zX)) → Nat → Bool
  | [], _ => true
  | l :: t, b => fwR inS ci k mi p0 l (16 * b) && fwT inS ci k mi p0 t (b + 1)
theorem fwT_ok {inS : Nat → Nat → Bool} {ci k mi p0 : Nat} {l : List (Option zX)} : ∀ {t : List (List (Option zX))} {b c : Nat}, fwT inS ci k mi p0 t b = true → t[c]? = some l → fwR inS ci k mi p0 l (16 * (b + c)) = true
  | [], _, _, _, hc => by simp at hc
  | l' :: t, b, 0, h, hc => by
    have h : (fwR inS ci k mi p0 l' (16 * b) && fwT inS ci k mi p0 t (b + 1)) = true := h
    rw [Bool.and_eq_true] at h
    have hc : l' = l := by simpa using hc
    rw [← hc]
    exact h.1
  | l' :: t, b, c + 1, h, hc => by
    have h : (fwR inS ci k mi p0 l' (16 * b) && fwT inS ci k mi p0 t (b + 1)) = true := h
    rw [Bool.and_eq_true] at h
    have := fwT_ok (c := c) h.2 (by simpa using hc)
    rw [show b + 1 + c = b + (c + 1) by omega] at this
    exact this
/-- these methods, each from a place on -/
def inS (S : List (Nat × Nat)) (mi pc : Nat) : Bool := S.any fun q => q.1 == mi && Nat.ble q.2 pc
noncomputable def fwC (S : List (Nat × Nat)) (ci k : Nat) : Bool := S.all fun q => match x_nth zMT q.1 with
  | some t => fwT (inS S) ci k q.1 q.2 t 0
  | none => false
theorem fwOK_of {S : List (Nat × Nat)} {ci k : Nat} (h : fwC S ci k = true) : fwOK (inS S) ci k TLw := by
  intro mi pc i hS hi
  obtain ⟨q, hq, hb⟩ := List.any_eq_true.mp hS
  rw [Bool.and_eq_true] at hb
  have e1 : q.1 = mi := eq_of_beq hb.1
  have e2 := Nat.le_of_ble_eq_true hb.2
  have hc := List.all_eq_true.mp h q hq
  have hne : mi ≠ 341 := fun e => by
    have hc : (match x_nth zMT q.1 with
      | some t => fwT (inS S) ci k q.1 q.2 t 0
      | none => false) = true := hc
    rw [e1, e, show x_nth zMT 341 = none from rfl] at hc
    cases hc
  unfold TLw at hi
  rw [if_neg hne] at hi
  have hi : (match x_nth zMT mi with
    | some t => z_at t pc
    | none => none) = some i := hi
  have hc : (match x_nth zMT q.1 with
    | some t => fwT (inS S) ci k q.1 q.2 t 0
    | none => false) = true := hc
  rw [e1] at hc
  cases ht : x_nth zMT mi with
  | none => rw [ht] at hi; cases hi
  | some t =>
    rw [ht] at hi hc
    have hc : fwT (inS S) ci k mi q.2 t 0 = true := hc
    have hi : z_at t pc = some i := hi
    unfold z_at at hi
    rw [x_nth_eq] at hi
    cases hl : t[Nat.div pc 16]? with
    | none => rw [hl] at hi; cases hi
    | some l =>
      rw [hl] at hi
      have hi : (match x_nth l (Nat.mod pc 16) with
        | some r => r
        | none => none) = some i := hi
      rw [x_nth_eq] at hi
      cases ho : l[Nat.mod pc 16]? with
      | none => rw [ho] at hi; cases hi
      | some o =>
        rw [ho] at hi
        have hi : o = some i := hi
        rw [hi] at ho
        have h1 := fwT_ok hc hl
        rw [Nat.zero_add] at h1
        refine fwR_ok h1 ho ?_
        have : 16 * (pc / 16) + pc % 16 = pc := Nat.div_add_mod pc 16
        show q.2 ≤ 16 * (pc / 16) + pc % 16
        omega
/-! answers by their kinds -/
def rtK (b : Nat) (v : Option zV) : Prop := match b with
  | 0 => v = none
  | 1 => ∃ z, v = some (0, z)
  | _ => ∃ z, v = some (1, z)
def rtT (b : Nat) (t : List (List (Option zX))) : Bool := t.all fun l => l.all fun o => match o with
  | some (30, _, _, b', _, _) => b' == b
  | _ => true
theorem zEv_rt {D : zD} {T : zT} {mi b : Nat} (hR : ∀ pc nx a b' z cs, T mi pc = some (30, nx, a, b', z, cs) → b' = b) (h2 : b ≤ 2) : ∀ {n pc : Nat} {st : zS} {r : zR}, zEv D T n mi pc st = some r → rtK b r.2 := by
  intro n
  induction n with
  | zero => intro pc st r h; cases h
  | succ n ih =>
    intro pc st r h
    cases hi : T mi pc with
    | none =>
      have h : zEvA D T (zEv D T n) mi pc st = some r := h
      unfold zEvA at h
      rw [hi] at h
      cases h
    | some i =>
      rw [zEv_s hi] at h
      by_cases e : i.1 = 30
      · obtain ⟨op, nx, a, b', z, cs⟩ := i
        have e : op = 30 := e
        subst e
        have hb := hR _ _ _ _ _ _ hi
        subst hb
        have h : zEvB (zEv D T n) mi (z_ret b' a st) = some r := h
        unfold z_ret at h
        split at h
        · cases h; rfl
        · split at h
          · rename_i hc
            cases h
            exact ⟨_, by rw [← hc.2]⟩
          · cases h
        · split at h
          · rename_i hc
            cases h
            exact ⟨_, by rw [← hc]⟩
          · cases h
        · cases h
      · cases hz : zi D i st with
        | none => rw [hz] at h; cases h
        | some o =>
          rw [hz] at h
          match o, h, hz with
          | .inl q, h, hz => exact absurd (zi_inl hz) e
          | .inr (.inl q), h, hz => exact ih h
          | .inr (.inr q), h, hz =>
            have h : (match zEv D T n q.1 0 (q.2.2.2.1, zargs 0 q.2.1, []) with
              | none => none
              | some r1 => zEv D T n mi q.2.2.1 (r1.1, q.2.2.2.2.1, zpush r1.2 q.2.2.2.2.2)) = some r := h
            cases hc : zEv D T n q.1 0 (q.2.2.2.1, zargs 0 q.2.1, []) with
            | none => rw [hc] at h; cases h
            | some r1 => rw [hc] at h; exact ih h
theorem vP_rt {D : zD} {mi b : Nat} (t : List (List (Option zX))) (ht : x_nth zMT mi = some t) (hb : rtT b t = true) (h2 : b ≤ 2) {N pc : Nat} {h : zH} {l : List (Option zV)} {S : List zV} : vP D TLw N mi pc h l S (fun r => rtK b r.2) := by
  intro _ n r _ he
  refine zEv_rt (fun pc nx a b' z cs hi => ?_) h2 he
  have hne : mi ≠ 341 := fun e => by
    rw [e, show x_nth zMT 341 = none from rfl] at ht
    cases ht
  unfold TLw at hi
  rw [if_neg hne] at hi
  have hi : (match x_nth zMT mi with
    | some t => z_at t pc
    | none => none) = some (30, nx, a, b', z, cs) := hi
  rw [ht] at hi
  have hi : z_at t pc = some (30, nx, a, b', z, cs) := hi
  unfold z_at at hi
  rw [x_nth_eq] at hi
  cases hl : t[Nat.div pc 16]? with
  | none => rw [hl] at hi; cases hi
  | some l =>
    rw [hl] at hi
    have hi : (match x_nth l (Nat.mod pc 16) with
      | some r => r
      | none => none) = some (30, nx, a, b', z, cs) := hi
    rw [x_nth_eq] at hi
    cases ho : l[Nat.mod pc 16]? with
    | none => rw [ho] at hi; cases hi
    | some o =>
      rw [ho] at hi
      have hi : o = some (30, nx, a, b', z, cs) := hi
      have h1 := List.all_eq_true.mp hb l (List.mem_of_getElem? hl)
      have h2 := List.all_eq_true.mp h1 o (List.mem_of_getElem? ho)
      rw [hi] at h2
      exact eq_of_beq h2
