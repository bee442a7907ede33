theorem aq_store2_e : @aq_store2 = @a_store2 := by
  delta aq_store2
  simp only [aq_flt_e, aq_keep2_e]
  try simp only [a_cqx]
  rfl
noncomputable def aq_iinc (nx i : Nat) (z : Int) (q : aQ) (L : aL) (S : List aV) : Option (List aOut) := match aq_lget L i with
  | some v => (Bool.rec (motive := fun _ => _) none (aq_shiftK 0 q v z (fun q v => aq_st1 nx i v q L S)) (Nat.beq v.1 0))
  | _ => none
theorem aq_iinc_e : @aq_iinc = @a_iinc := by
  delta aq_iinc
  simp only [aq_shiftK_e, aq_lget_e, aq_st1_e]
  try simp only [a_cqx]
  rfl
noncomputable def aq_two (t : Nat) (S : List aV) (f : aV → aV → List aV → Option (List aOut)) : Option (List aOut) := match S with
  | y :: x :: S => (Bool.rec (motive := fun _ => _) none (f x y S) ((Bool.rec (motive := fun _ => Bool) false (Nat.beq x.1 t) (Nat.beq y.1 t))))
  | _ => none
theorem aq_two_e : @aq_two = @a_two := by
  delta aq_two
  simp only [a_aq, a_oq, a_nq]
  try simp only [a_cqx]
  rfl
noncomputable def aq_one (t : Nat) (S : List aV) (f : aV → List aV → Option (List aOut)) : Option (List aOut) := match S with
  | x :: S => (Bool.rec (motive := fun _ => _) none (f x S) (Nat.beq x.1 t))
  | _ => none
theorem aq_one_e : @aq_one = @a_one := by
  delta aq_one
  try simp only [a_cqx]
  rfl
noncomputable def aq_un32 (nx b : Nat) (q : aQ) (L : aL) (S : List aV) : Option (List aOut) := aq_one 0 S (fun x S => match b with
  | 0 => aq_negK 0 q x (a_push nx L S)
  | 1 => aq_cutK (-128) 127 q x (a_push nx L S)
  | _ => aq_cutK (-32768) 32767 q x (a_push nx L S))
theorem aq_un32_e : @aq_un32 = @a_un32 := by
  delta aq_un32
  simp only [aq_negK_e, aq_cutK_e, aq_one_e]
  rfl
noncomputable def aq_bin32 (nx b : Nat) (q : aQ) (L : aL) (S : List aV) : Option (List aOut) := aq_two 0 S (fun x y S => match b with
  | 0 => aq_addK 0 q x y (a_push nx L S)
  | 1 => aq_subK 0 q x y (a_push nx L S)
  | 2 => aq_mulK 0 q x y (a_push nx L S)
  | 3 => aq_andK 0 q x y (a_push nx L S)
  | 7 => aq_shrK q x y (a_push nx L S)
  | _ => a_anyK 0 q (a_push nx L S))
theorem aq_bin32_e : @aq_bin32 = @a_bin32 := by
  delta aq_bin32
  simp only [aq_addK_e, aq_subK_e, aq_mulK_e, aq_andK_e, aq_shrK_e, aq_two_e]
  rfl
noncomputable def aq_div32 (nx b : Nat) (q : aQ) (L : aL) (S : List aV) : Option (List aOut) := aq_two 0 S (fun x y S => match b with
  | 0 => aq_divK 0 q x y (a_push nx L S)
  | _ => aq_rem32K q x y (a_push nx L S))
theorem aq_div32_e : @aq_div32 = @a_div32 := by
  delta aq_div32
  simp only [aq_divK_e, aq_rem32K_e, aq_two_e]
  rfl
noncomputable def aq_neg64 (nx : Nat) (q : aQ) (L : aL) (S : List aV) : Option (List aOut) := aq_one 1 S (fun x S => aq_negK 1 q x (a_push nx L S))
theorem aq_neg64_e : @aq_neg64 = @a_neg64 := by
  delta aq_neg64
  simp only [aq_negK_e, aq_one_e]
  rfl
noncomputable def aq_bin64 (nx b : Nat) (q : aQ) (L : aL) (S : List aV) : Option (List aOut) := aq_two 1 S (fun x y S => match b with
  | 0 => aq_addK 1 q x y (a_push nx L S)
  | 1 => aq_subK 1 q x y (a_push nx L S)
  | 2 => aq_mulK 1 q x y (a_push nx L S)
  | 3 => aq_andK 1 q x y (a_push nx L S)
  | _ => a_anyK 1 q (a_push nx L S))
theorem aq_bin64_e : @aq_bin64 = @a_bin64 := by
  delta aq_bin64
  simp only [aq_addK_e, aq_subK_e, aq_mulK_e, aq_andK_e, aq_two_e]
  rfl
noncomputable def aq_div64 (nx b : Nat) (q : aQ) (L : aL) (S : List aV) : Option (List aOut) := aq_two 1 S (fun x y S => match b with
  | 0 => aq_divK 1 q x y (a_push nx L S)
  | _ => aq_rem64K q x y (a_push nx L S))
theorem aq_div64_e : @aq_div64 = @a_div64 := by
  delta aq_div64
  simp only [aq_divK_e, aq_rem64K_e, aq_two_e]
  rfl
noncomputable def aq_sh64 (nx : Nat) (q : aQ) (L : aL) (S : List aV) : Option (List aOut) := match S with
  | y :: x :: S => (Bool.rec (motive := fun _ => _) none (a_anyK 1 q (a_push nx L S)) ((Bool.rec (motive := fun _ => Bool) false (Nat.beq x.1 1) (Nat.beq y.1 0))))
  | _ => none
