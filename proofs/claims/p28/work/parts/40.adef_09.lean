theorem aq_negK_e : @aq_negK = @a_negK := by
  delta aq_negK
  simp only [aq_rngK_e, aq_in_e]
  try simp only [a_cqx]
  rfl
noncomputable def aq_cutK {β : Type} (lo hi : Int) (q : aQ) (x : aV) (f : aQ → aV → Option β) : Option β := aq_rngK q.2.1 x (fun lx hx => (Bool.rec (motive := fun _ => _) (a_newK 0 lo hi q f) (f q (0, x.2.1, x.2.2)) ((Bool.rec (motive := fun _ => Bool) false ((a_leZ (hx) (hi))) ((a_leZ (lo) (lx)))))))
theorem aq_cutK_e : @aq_cutK = @a_cutK := by
  delta aq_cutK
  simp only [aq_rngK_e, a_leZ_q, a_aq, a_oq, a_nq]
  try simp only [a_cqx]
  rfl
noncomputable def aq_nrmK {β : Type} (E : aB) (v : aV) (f : aV → Option β) : Option β := aq_rngK E v (fun lo hi => (Bool.rec (motive := fun _ => _) (x_kN v.2.1 (fun s => x_kZ v.2.2 (fun o => f (v.1, s, o)))) (f (v.1, 0, lo)) ((a_eqZ (lo) (hi)))))
theorem aq_nrmK_e : @aq_nrmK = @a_nrmK := by
  delta aq_nrmK
  simp only [aq_rngK_e, a_eqZ_q]
  try simp only [a_cqx]
  rfl
noncomputable def aq_ins (c : Int) (i : Nat) (l : List (Int × Nat)) : List (Int × Nat) := List.rec (motive := fun _ => List (Int × Nat)) [(c, i)] (fun p t ih => (Bool.rec (motive := fun _ => _) (p :: ih) ((Bool.rec (motive := fun _ => _) ((p.1 + c, i) :: t) t ((a_eqZ (p.1 + c) (0))))) (Nat.beq p.2 i))) l
theorem aq_ins_e : @aq_ins = @a_ins := by
  delta aq_ins
  simp only [a_eqZ_q]
  try simp only [a_cqx]
  rfl
noncomputable def aq_less (ts : List (Int × Nat)) (fs : List (Int × Nat)) : List (Int × Nat) := List.rec (motive := fun _ => List (Int × Nat)) ts (fun p _ ih => aq_ins (-p.1) p.2 ih) fs
theorem aq_less_e : @aq_less = @a_less := by
  delta aq_less
  simp only [aq_ins_e]
  rfl
noncomputable def aq_sup (E : aB) (ts : List (Int × Nat)) : Option Int := List.rec (motive := fun _ => Option Int) (some 0) (fun p _ ih => match aq_get E p.2 with
  | some q => match ih with
    | some s => some ((Bool.rec (motive := fun _ => _) (p.1 * q.1 + s) (p.1 * q.2 + s) ((a_leZ ((0 : Int)) (p.1)))) : Int)
    | none => none
  | none => none) ts
theorem aq_sup_e : @aq_sup = @a_sup := by
  delta aq_sup
  simp only [aq_get_e, a_leZ_q]
  try simp only [a_cqx]
  rfl
noncomputable def aq_hasT (ts : List (Int × Nat)) (fs : List (Int × Nat)) : Bool := List.rec (motive := fun _ => Bool) false (fun p _ ih => (Bool.rec (motive := fun _ => Bool) (ih) true (List.rec (motive := fun _ => Bool) false (fun r _ ih2 => (Bool.rec (motive := fun _ => Bool) (ih2) true (((Bool.rec (motive := fun _ => Bool) false ((a_eqZ (p.1) (r.1))) (Nat.beq p.2 r.2)))))) ts))) fs
theorem aq_hasT_e : @aq_hasT = @a_hasT := by
  delta aq_hasT
  simp only [a_eqZ_q, a_aq, a_oq, a_nq]
  rfl
noncomputable def aq_ent (E : aB) (Fs : List aF) (n : Nat) : List (Int × Nat) → Int → Bool := Nat.rec (motive := fun _ => List (Int × Nat) → Int → Bool) (fun ts b => match aq_sup E ts with
  | some s => (a_leZ (s) (b))
  | none => false) (fun _ ih ts b => (Bool.rec (motive := fun _ => Bool) (List.rec (motive := fun _ => Bool) false (fun x _ ih2 => (Bool.rec (motive := fun _ => Bool) (ih2) true (((Bool.rec (motive := fun _ => Bool) false (ih (aq_less ts x.1) (b - x.2)) (aq_hasT ts x.1)))))) Fs) true ((match aq_sup E ts with
  | some s => (a_leZ (s) (b))
  | none => false)))) n
theorem aq_ent_e : @aq_ent = @a_ent := by
  delta aq_ent
  simp only [aq_less_e, aq_sup_e, aq_hasT_e, a_leZ_q, a_aq, a_oq, a_nq]
  rfl
noncomputable def aq_leq (q : aQ) (x y : aV) (c : Int) : Bool := aq_ent q.2.1 q.2.2.1 3 (aq_less (a_tm 1 x) (a_tm 1 y)) (y.2.2 + c - x.2.2)
theorem aq_leq_e : @aq_leq = @a_leq := by
  delta aq_leq
  simp only [aq_less_e, aq_ent_e]
  rfl
noncomputable def aq_nhi {β : Type} (E : aB) (x : aV) (lx hx b : Int) (f : aB → Option β) : Option β := Nat.rec (motive := fun _ => Option β) (f E) (fun i _ => (Bool.rec (motive := fun _ => _) (f E) (x_kZ (lx - x.2.2) (fun l => x_kZ (b - x.2.2) (fun u => f ((i, l, u) :: E)))) ((a_ltZ (b) (hx))))) x.2.1
theorem aq_nhi_e : @aq_nhi = @a_nhi := by
  delta aq_nhi
  simp only [a_ltZ_q]
  try simp only [a_cqx]
  rfl
noncomputable def aq_nlo {β : Type} (E : aB) (x : aV) (lx hx b : Int) (f : aB → Option β) : Option β := Nat.rec (motive := fun _ => Option β) (f E) (fun i _ => (Bool.rec (motive := fun _ => _) (f E) (x_kZ (b - x.2.2) (fun l => x_kZ (hx - x.2.2) (fun u => f ((i, l, u) :: E)))) ((a_ltZ (lx) (b))))) x.2.1
