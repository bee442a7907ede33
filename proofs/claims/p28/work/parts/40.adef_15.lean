theorem aq_sh64_e : @aq_sh64 = @a_sh64 := by
  delta aq_sh64
  simp only [a_aq, a_oq, a_nq]
  try simp only [a_cqx]
  rfl
noncomputable def aq_i2l (nx : Nat) (q : aQ) (L : aL) (S : List aV) : Option (List aOut) := aq_one 0 S (fun x S => a_push nx L S q (1, x.2))
theorem aq_i2l_e : @aq_i2l = @a_i2l := by
  delta aq_i2l
  simp only [aq_one_e]
  rfl
noncomputable def aq_l2i (nx : Nat) (q : aQ) (L : aL) (S : List aV) : Option (List aOut) := aq_one 1 S (fun x S => aq_rngK q.2.1 x (fun lo hi => (Bool.rec (motive := fun _ => _) (a_anyK 0 q (a_push nx L S)) (a_push nx L S q (0, x.2)) (aq_in 0 lo hi))))
theorem aq_l2i_e : @aq_l2i = @a_l2i := by
  delta aq_l2i
  simp only [aq_rngK_e, aq_in_e, aq_one_e]
  try simp only [a_cqx]
  rfl
noncomputable def aq_stk (nx b : Nat) (q : aQ) (L : aL) (S : List aV) : Option (List aOut) := match S with
  | v :: S => match b with
    | 0 => (Bool.rec (motive := fun _ => _) none (some [.inr (.inl (nx, q, L, S))]) (Nat.beq (aq_cat v) 1))
    | 1 => (Bool.rec (motive := fun _ => _) none (some [.inr (.inl (nx, q, L, S))]) (Nat.beq (aq_cat v) 2))
    | 2 => (Bool.rec (motive := fun _ => _) none (some [.inr (.inl (nx, q, L, v :: v :: S))]) (Nat.beq (aq_cat v) 1))
    | 3 => match S with
      | w :: S => (Bool.rec (motive := fun _ => _) none (some [.inr (.inl (nx, q, L, v :: w :: v :: w :: S))]) ((Bool.rec (motive := fun _ => Bool) false (Nat.beq (aq_cat w) 1) (Nat.beq (aq_cat v) 1))))
      | [] => none
    | 4 => (Bool.rec (motive := fun _ => _) none (some [.inr (.inl (nx, q, L, v :: v :: S))]) (Nat.beq (aq_cat v) 2))
    | _ => none
  | [] => none
theorem aq_stk_e : @aq_stk = @a_stk := by
  delta aq_stk
  simp only [aq_cat_e, a_aq, a_oq, a_nq]
  try simp only [a_cqx]
  rfl
noncomputable def aq_if (nx a b : Nat) (q : aQ) (L : aL) (S : List aV) : Option (List aOut) := aq_one 0 S (fun x S => aq_br b q x (0, 0, 0) (a_go a L S) (a_go nx L S))
theorem aq_if_e : @aq_if = @a_if := by
  delta aq_if
  simp only [aq_br_e, aq_one_e]
  rfl
noncomputable def aq_icmp (nx a b : Nat) (q : aQ) (L : aL) (S : List aV) : Option (List aOut) := aq_two 0 S (fun x y S => aq_br b q x y (a_go a L S) (a_go nx L S))
theorem aq_icmp_e : @aq_icmp = @a_icmp := by
  delta aq_icmp
  simp only [aq_br_e, aq_two_e]
  rfl
noncomputable def aq_lcmp (nx : Nat) (q : aQ) (L : aL) (S : List aV) : Option (List aOut) := aq_two 1 S (fun x y S => aq_br 0 q x y (a_go nx L ((0, 0, -1) :: S)) (fun q => aq_br 1 q x y (a_go nx L ((0, 0, 1) :: S)) (a_go nx L ((0, 0, 0) :: S))))
theorem aq_lcmp_e : @aq_lcmp = @a_lcmp := by
  delta aq_lcmp
  simp only [aq_br_e, aq_two_e]
  rfl
noncomputable def aq_swR (nx : Nat) (L : aL) (S : List aV) (x : aV) (cs : List (Int × Nat)) : aQ → Option (List aOut) := List.rec (motive := fun _ => aQ → Option (List aOut)) (fun q => a_go nx L S q) (fun c _ ih q => aq_br 0 q x (0, 0, c.1) ih (fun q => aq_br 1 q x (0, 0, c.1) ih (fun q => a_go c.2 L S q))) cs
theorem aq_swR_e : @aq_swR = @a_swR := by
  delta aq_swR
  simp only [aq_br_e]
  rfl
noncomputable def aq_sw (nx : Nat) (cs : List (Int × Nat)) (q : aQ) (L : aL) (S : List aV) : Option (List aOut) := aq_one 0 S (fun x S => aq_swR nx L S x cs q)
theorem aq_sw_e : @aq_sw = @a_sw := by
  delta aq_sw
  simp only [aq_one_e, aq_swR_e]
  rfl
noncomputable def aq_getf (G : aG) (nx ci k : Nat) (q : aQ) (L : aL) (S : List aV) : Option (List aOut) := aq_one 2 S (fun x S => (Bool.rec (motive := fun _ => _) none (match aq_oget q.2.2.2.1 x.2.2.toNat 0 (Int.ofNat k) with
  | some v => aq_nrmK q.2.1 v (a_push nx L S q)
  | none => match a_at G.1 x.2.2.toNat with
    | some l => match aq_uniF (Int.ofNat k) (Int.ofNat k) l with
      | some t => x_kN x.2.2.toNat (fun r => aq_readK t q (r, 0, Int.ofNat k) (a_push nx L S))
      | none => none
    | none => none) ((Bool.rec (motive := fun _ => Bool) false (((Bool.rec (motive := fun _ => Bool) false (a_isO ci x.2.2) ((a_leZ (0) (x.2.2)))))) (a_isC x)))))
theorem aq_getf_e : @aq_getf = @a_getf := by
  delta aq_getf
  simp only [aq_nrmK_e, aq_oget_e, aq_uniF_e, aq_readK_e, aq_one_e, a_leZ_q, a_aq, a_oq, a_nq]
  try simp only [a_cqx]
  rfl
noncomputable def aq_fitc (c : Nat) (v : aV) (lo hi : Int) : Bool := match c with
  | 0 => Nat.beq v.1 0
  | 1 => Nat.beq v.1 1
  | 2 => (Bool.rec (motive := fun _ => Bool) false (((Bool.rec (motive := fun _ => Bool) false ((a_leZ (hi) (127))) ((a_leZ (-128) (lo)))))) (Nat.beq v.1 0))
  | 3 => (Bool.rec (motive := fun _ => Bool) false (((Bool.rec (motive := fun _ => Bool) false ((a_leZ (hi) (1))) ((a_leZ (0) (lo)))))) (Nat.beq v.1 0))
  | 4 => Nat.beq (aq_kind v) 2
  | _ => false
