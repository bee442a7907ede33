theorem aq_wrK_e : @aq_wrK = @a_wrK := by
  delta aq_wrK
  simp only [aq_rngK_e, aq_accsF_e, aq_mod_e, aq_flt_e, aq_fkeep_e, aq_okeep_e, aq_soft_e, a_aq, a_oq, a_nq]
  try simp only [a_cqx]
  rfl
noncomputable def aq_lget (L : aL) (i : Nat) : Option aV := List.rec (motive := fun _ => Option aV) none (fun q _ ih => (Bool.rec (motive := fun _ => _) ih (some q.2) (Nat.beq q.1 i))) L
theorem aq_lget_e : @aq_lget = @a_lget := by
  delta aq_lget
  try simp only [a_cqx]
  rfl
noncomputable def aq_kind (v : aV) : Nat := (Bool.rec (motive := fun _ => _) v.1 2 (Nat.beq v.1 3))
theorem aq_kind_e : @aq_kind = @a_kind := by
  delta aq_kind
  try simp only [a_cqx]
  rfl
noncomputable def aq_keep1 (i : Nat) (q : Nat × aV) : Bool := (Bool.rec (motive := fun _ => Bool) false ((Bool.rec (motive := fun _ => Bool) true false (((Bool.rec (motive := fun _ => Bool) false (Nat.beq q.2.1 1) (Nat.beq (q.1 + 1) i)))))) ((Bool.rec (motive := fun _ => Bool) true false ((Nat.beq q.1 i)))))
theorem aq_keep1_e : @aq_keep1 = @a_keep1 := by
  delta aq_keep1
  simp only [a_aq, a_oq, a_nq]
  rfl
noncomputable def aq_keep2 (i : Nat) (q : Nat × aV) : Bool := (Bool.rec (motive := fun _ => Bool) false (((Bool.rec (motive := fun _ => Bool) false ((Bool.rec (motive := fun _ => Bool) true false (((Bool.rec (motive := fun _ => Bool) false (Nat.beq q.2.1 1) (Nat.beq (q.1 + 1) i)))))) ((Bool.rec (motive := fun _ => Bool) true false ((Nat.beq q.1 (i + 1)))))))) ((Bool.rec (motive := fun _ => Bool) true false ((Nat.beq q.1 i)))))
theorem aq_keep2_e : @aq_keep2 = @a_keep2 := by
  delta aq_keep2
  simp only [a_aq, a_oq, a_nq]
  rfl
noncomputable def aq_cat (v : aV) : Nat := (Bool.rec (motive := fun _ => _) 1 2 (Nat.beq v.1 1))
theorem aq_cat_e : @aq_cat = @a_cat := by
  delta aq_cat
  try simp only [a_cqx]
  rfl
noncomputable def aq_sum (l : List aV) : Nat := List.rec (motive := fun _ => Nat) 0 (fun v _ ih => aq_cat v + ih) l
theorem aq_sum_e : @aq_sum = @a_sum := by
  delta aq_sum
  simp only [aq_cat_e]
  rfl
noncomputable def aq_load (nx i t : Nat) (q : aQ) (L : aL) (S : List aV) : Option (List aOut) := match aq_lget L i with
  | some v => (Bool.rec (motive := fun _ => _) none (aq_nrmK q.2.1 v (a_push nx L S q)) (Nat.beq (aq_kind v) t))
  | none => none
theorem aq_load_e : @aq_load = @a_load := by
  delta aq_load
  simp only [aq_nrmK_e, aq_lget_e, aq_kind_e]
  try simp only [a_cqx]
  rfl
noncomputable def aq_st1 (nx i : Nat) (v : aV) (q : aQ) (L : aL) (S : List aV) : Option (List aOut) := x_spine (aq_flt (aq_keep1 i) L) (fun L => some [.inr (.inl (nx, q, (i, v) :: L, S))])
theorem aq_st1_e : @aq_st1 = @a_st1 := by
  delta aq_st1
  simp only [aq_flt_e, aq_keep1_e]
  rfl
noncomputable def aq_store1 (nx i t : Nat) (q : aQ) (L : aL) (S : List aV) : Option (List aOut) := match S with
  | v :: S => (Bool.rec (motive := fun _ => _) none (aq_st1 nx i v q L S) ((Bool.rec (motive := fun _ => Bool) false ((Bool.rec (motive := fun _ => Bool) true false ((Nat.beq t 1)))) (Nat.beq (aq_kind v) t))))
  | _ => none
theorem aq_store1_e : @aq_store1 = @a_store1 := by
  delta aq_store1
  simp only [aq_kind_e, aq_st1_e, a_aq, a_oq, a_nq]
  try simp only [a_cqx]
  rfl
noncomputable def aq_store2 (nx i : Nat) (q : aQ) (L : aL) (S : List aV) : Option (List aOut) := match S with
  | v :: S => (Bool.rec (motive := fun _ => _) none (x_spine (aq_flt (aq_keep2 i) L) (fun L => some [.inr (.inl (nx, q, (i, v) :: L, S))])) (Nat.beq v.1 1))
  | _ => none
