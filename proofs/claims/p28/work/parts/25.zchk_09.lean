noncomputable def z_at (t : List (List (Option zX))) (pc : Nat) : Option zX := match x_nth t (Nat.div pc 16) with
  | some l => match x_nth l (Nat.mod pc 16) with
    | some r => r
    | none => none
  | none => none
theorem zAll_get {l : Launch} {P : zP} {M : List zY} {μ : zM} : ∀ {c : List (Option zX)} {b j : Nat} {i : zX}, zAll l P M μ b c → c[j]? = some (some i) → zSim l P M μ (b + j) i
  | [], _, _, _, _, h => by simp at h
  | none :: t, b, 0, i, ha, h => by cases h
  | some r :: t, b, 0, i, ha, h => by cases h; exact ha.1
  | none :: t, b, j + 1, i, ha, h => by
    have := zAll_get (j := j) (b := b + 1) (c := t) ha h
    rwa [show b + (j + 1) = b + 1 + j by omega]
  | some r :: t, b, j + 1, i, ha, h => by
    have := zAll_get (j := j) (b := b + 1) (c := t) ha.2 h
    rwa [show b + (j + 1) = b + 1 + j by omega]
theorem zAlls_get {l : Launch} {P : zP} {M : List zY} {μ : zM} : ∀ {t : List (List (Option zX))} {b i j : Nat} {c : List (Option zX)} {x : zX}, zAlls l P M μ b t → t[i]? = some c → c[j]? = some (some x) → zSim l P M μ (b + 16 * i + j) x
  | [], _, _, _, _, _, _, h, _ => by simp at h
  | c :: t, b, 0, j, c', x, ha, h, hj => by cases h; exact zAll_get ha.1 hj
  | c :: t, b, i + 1, j, c', x, ha, h, hj => by
    have := zAlls_get (i := i) (b := b + 16) (t := t) ha.2 h hj
    rwa [show b + 16 * (i + 1) + j = b + 16 + 16 * i + j by omega]
theorem zTab_of {l : Launch} {P : zP} {M : List zY} {μ : zM} {t : List (List (Option zX))} (h : zAlls l P M μ 0 t) : ∀ pc i, z_at t pc = some i → zSim l P M μ pc i := by
  intro pc x hpc
  unfold z_at at hpc
  rw [x_nth_eq] at hpc
  match hc : t[Nat.div pc 16]?, hpc with
  | some c, hpc =>
    have hpc : (match x_nth c (Nat.mod pc 16) with
      | some r => r
      | none => none) = some x := hpc
    rw [x_nth_eq] at hpc
    match hj : c[Nat.mod pc 16]?, hpc with
    | some (some r), hpc =>
      cases hpc
      have := zAlls_get h hc hj
      rwa [show 0 + 16 * Nat.div pc 16 + Nat.mod pc 16 = pc from by show 0 + 16 * (pc / 16) + pc % 16 = pc; omega] at this
