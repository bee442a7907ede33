theorem aq_nlo_e : @aq_nlo = @a_nlo := by
  delta aq_nlo
  simp only [a_ltZ_q]
  try simp only [a_cqx]
  rfl
noncomputable def aq_memF (j : Nat) (l : List Nat) : Bool := List.rec (motive := fun _ => Bool) false (fun a _ ih => (Bool.rec (motive := fun _ => Bool) (ih) true (Nat.beq a j))) l
theorem aq_memF_e : @aq_memF = @a_memF := by
  delta aq_memF
  simp only [a_aq, a_oq, a_nq]
  rfl
noncomputable def aq_leK {β : Type} (q : aQ) (x y : aV) (c : Int) (f : aQ → Option (List β)) : Option (List β) := (Bool.rec (motive := fun _ => _) ((Bool.rec (motive := fun _ => _) (aq_rngK q.2.1 x (fun lx hx => aq_rngK q.2.1 y (fun ly hy => (Bool.rec (motive := fun _ => _) (some []) (aq_nhi q.2.1 x lx hx (hy + c) (fun E => aq_nlo E y ly hy (lx - c) (fun E => (Bool.rec (motive := fun _ => _) (x_kZ (c + y.2.2 - x.2.2) (fun b => x_spine (a_tm 1 x ++ a_tm (-1) y) (fun ts => f (q.1, E, (ts, b) :: q.2.2.1, q.2.2.2)))) (f (q.1, E, q.2.2)) ((Bool.rec (motive := fun _ => Bool) (((Bool.rec (motive := fun _ => Bool) (Nat.beq x.2.1 y.2.1) true (a_isC y)))) true (a_isC x))))))) ((a_leZ (lx) (hy + c))))))) (some []) ((Bool.rec (motive := fun _ => Bool) false (aq_leq q y x (-c - 1)) (aq_memF 360 q.2.2.2.2))))) ((Bool.rec (motive := fun _ => _) (some []) (f q) ((a_leZ (x.2.2) (y.2.2 + c))))) (Nat.beq x.2.1 y.2.1))
theorem aq_leK_e : @aq_leK = @a_leK := by
  delta aq_leK
  simp only [aq_rngK_e, aq_leq_e, aq_nhi_e, aq_nlo_e, aq_memF_e, a_leZ_q, a_aq, a_oq, a_nq]
  try simp only [a_cqx]
  rfl
noncomputable def aq_neK {β : Type} (q : aQ) (x y : aV) (f : aQ → Option (List β)) : Option (List β) := (Bool.rec (motive := fun _ => _) ((Bool.rec (motive := fun _ => _) (aq_rngK q.2.1 x (fun lx hx => aq_rngK q.2.1 y (fun ly hy => (Bool.rec (motive := fun _ => _) ((Bool.rec (motive := fun _ => _) (f q) ((Bool.rec (motive := fun _ => _) ((Bool.rec (motive := fun _ => _) (f q) (aq_leK q y x (-1) f) ((a_eqZ (hy) (lx))))) (aq_leK q x y (-1) f) ((a_eqZ (ly) (lx))))) ((a_eqZ (lx) (hx))))) ((Bool.rec (motive := fun _ => _) ((Bool.rec (motive := fun _ => _) (f q) (aq_leK q x y (-1) f) ((a_eqZ (hx) (ly))))) (aq_leK q y x (-1) f) ((a_eqZ (lx) (ly))))) ((a_eqZ (ly) (hy))))))) ((Bool.rec (motive := fun _ => _) (a_app (aq_leK q x y (-1) f) (aq_leK q y x (-1) f)) (some []) ((Bool.rec (motive := fun _ => Bool) false (aq_leq q y x 0) (aq_leq q x y 0))))) (aq_memF 360 q.2.2.2.2))) ((Bool.rec (motive := fun _ => _) (f q) (some []) ((a_eqZ (x.2.2) (y.2.2))))) (Nat.beq x.2.1 y.2.1))
theorem aq_neK_e : @aq_neK = @a_neK := by
  delta aq_neK
  simp only [aq_rngK_e, aq_leq_e, aq_memF_e, aq_leK_e, a_eqZ_q, a_aq, a_oq, a_nq]
  try simp only [a_cqx]
  rfl
noncomputable def aq_br {β : Type} (b : Nat) (q : aQ) (x y : aV) (T F : aQ → Option (List β)) : Option (List β) := match b with
  | 0 => a_app (aq_leK q x y (-1) T) (aq_leK q y x 0 F)
  | 1 => a_app (aq_leK q y x (-1) T) (aq_leK q x y 0 F)
  | _ => a_app (aq_leK q x y 0 (fun q => aq_leK q y x 0 T)) (aq_neK q x y F)
theorem aq_br_e : @aq_br = @a_br := by
  delta aq_br
  simp only [aq_leK_e, aq_neK_e]
  rfl
noncomputable def aq_oget (O : aO) (r s : Nat) (o : Int) : Option aV := List.rec (motive := fun _ => Option aV) none (fun e _ ih => (Bool.rec (motive := fun _ => _) ih (some e.2) ((Bool.rec (motive := fun _ => Bool) false (((Bool.rec (motive := fun _ => Bool) false ((a_eqZ (e.1.2.2) (o))) (Nat.beq e.1.2.1 s)))) (Nat.beq e.1.1 r))))) O
theorem aq_oget_e : @aq_oget = @a_oget := by
  delta aq_oget
  simp only [a_eqZ_q, a_aq, a_oq, a_nq]
  try simp only [a_cqx]
  rfl
noncomputable def aq_join (a b : aT) : aT := (Bool.rec (motive := fun _ => _) (9, 0, 0, []) (a.1, aq_min a.2.1 b.2.1, aq_max a.2.2.1 b.2.2.1, a.2.2.2 ++ b.2.2.2) (Nat.beq a.1 b.1))
theorem aq_join_e : @aq_join = @a_join := by
  delta aq_join
  simp only [aq_min_e, aq_max_e]
  try simp only [a_cqx]
  rfl
noncomputable def aq_memI (z : Int) (l : List Int) : Bool := List.rec (motive := fun _ => Bool) false (fun a _ ih => (Bool.rec (motive := fun _ => Bool) (ih) true ((a_eqZ (a) (z))))) l
theorem aq_memI_e : @aq_memI = @a_memI := by
  delta aq_memI
  simp only [a_eqZ_q, a_aq, a_oq, a_nq]
  rfl
noncomputable def aq_acc (t : aT) (v : aV) (lo hi : Int) : Bool := match t.1 with
  | 0 => (Bool.rec (motive := fun _ => Bool) false (((Bool.rec (motive := fun _ => Bool) false ((a_leZ (hi) (t.2.2.1))) ((a_leZ (t.2.1) (lo)))))) (Nat.beq v.1 0))
  | 1 => (Bool.rec (motive := fun _ => Bool) false (((Bool.rec (motive := fun _ => Bool) false ((a_leZ (hi) (t.2.2.1))) ((a_leZ (t.2.1) (lo)))))) (Nat.beq v.1 1))
  | 2 => (Bool.rec (motive := fun _ => Bool) false (((Bool.rec (motive := fun _ => Bool) (((Bool.rec (motive := fun _ => Bool) false (((Bool.rec (motive := fun _ => Bool) false (aq_memI (-1) t.2.2.2) ((a_eqZ (lo) (0)))))) (Nat.beq v.1 4)))) true (((Bool.rec (motive := fun _ => Bool) false (((Bool.rec (motive := fun _ => Bool) false (aq_memI lo t.2.2.2) ((a_leZ (0) (lo)))))) (Nat.beq v.1 2))))))) ((a_eqZ (lo) (hi))))
  | _ => false
theorem aq_acc_e : @aq_acc = @a_acc := by
  delta aq_acc
  simp only [aq_memI_e, a_leZ_q, a_eqZ_q, a_aq, a_oq, a_nq]
  rfl
noncomputable def aq_uniN (lo hi : Nat) (l : List (Nat × aT)) : Nat → Option aT := List.rec (motive := fun _ => Nat → Option aT) (fun p => (Bool.rec (motive := fun _ => _) (some (9, 0, 0, [])) none (Nat.blt hi p))) (fun s _ ih p => x_kN (p + s.1) (fun p' => (Bool.rec (motive := fun _ => _) ((Bool.rec (motive := fun _ => _) (match ih p' with
  | some b => some (aq_join s.2 b)
  | none => some s.2) none (Nat.blt hi p))) (ih p') (Nat.ble p' lo)))) l
theorem aq_uniN_e : @aq_uniN = @a_uniN := by
  delta aq_uniN
  simp only [aq_join_e]
  try simp only [a_cqx]
  rfl
noncomputable def aq_joinO (a b : Option aT) : Option aT := match a with
  | some x => match b with
    | some y => some (aq_join x y)
    | none => some x
  | none => b
