noncomputable def a_two (t : Nat) (S : List aV) (f : aV → aV → List aV → Option (List aOut)) : Option (List aOut) := match S with
  | y :: x :: S => cond (Nat.beq y.1 t && Nat.beq x.1 t) (f x y S) none
  | _ => none
noncomputable def a_one (t : Nat) (S : List aV) (f : aV → List aV → Option (List aOut)) : Option (List aOut) := match S with
  | x :: S => cond (Nat.beq x.1 t) (f x S) none
  | _ => none
noncomputable def a_un32 (nx b : Nat) (q : aQ) (L : aL) (S : List aV) : Option (List aOut) := a_one 0 S (fun x S => match b with
  | 0 => a_negK 0 q x (a_push nx L S)
  | 1 => a_cutK (-128) 127 q x (a_push nx L S)
  | _ => a_cutK (-32768) 32767 q x (a_push nx L S))
noncomputable def a_bin32 (nx b : Nat) (q : aQ) (L : aL) (S : List aV) : Option (List aOut) := a_two 0 S (fun x y S => match b with
  | 0 => a_addK 0 q x y (a_push nx L S)
  | 1 => a_subK 0 q x y (a_push nx L S)
  | 2 => a_mulK 0 q x y (a_push nx L S)
  | 3 => a_andK 0 q x y (a_push nx L S)
  | 7 => a_shrK q x y (a_push nx L S)
  | _ => a_anyK 0 q (a_push nx L S))
noncomputable def a_div32 (nx b : Nat) (q : aQ) (L : aL) (S : List aV) : Option (List aOut) := a_two 0 S (fun x y S => match b with
  | 0 => a_divK 0 q x y (a_push nx L S)
  | _ => a_rem32K q x y (a_push nx L S))
noncomputable def a_neg64 (nx : Nat) (q : aQ) (L : aL) (S : List aV) : Option (List aOut) := a_one 1 S (fun x S => a_negK 1 q x (a_push nx L S))
noncomputable def a_bin64 (nx b : Nat) (q : aQ) (L : aL) (S : List aV) : Option (List aOut) := a_two 1 S (fun x y S => match b with
  | 0 => a_addK 1 q x y (a_push nx L S)
  | 1 => a_subK 1 q x y (a_push nx L S)
  | 2 => a_mulK 1 q x y (a_push nx L S)
  | 3 => a_andK 1 q x y (a_push nx L S)
  | _ => a_anyK 1 q (a_push nx L S))
noncomputable def a_div64 (nx b : Nat) (q : aQ) (L : aL) (S : List aV) : Option (List aOut) := a_two 1 S (fun x y S => match b with
  | 0 => a_divK 1 q x y (a_push nx L S)
  | _ => a_rem64K q x y (a_push nx L S))
noncomputable def a_sh64 (nx : Nat) (q : aQ) (L : aL) (S : List aV) : Option (List aOut) := match S with
  | y :: x :: S => cond (Nat.beq y.1 0 && Nat.beq x.1 1) (a_anyK 1 q (a_push nx L S)) none
  | _ => none
noncomputable def a_i2l (nx : Nat) (q : aQ) (L : aL) (S : List aV) : Option (List aOut) := a_one 0 S (fun x S => a_push nx L S q (1, x.2))
noncomputable def a_l2i (nx : Nat) (q : aQ) (L : aL) (S : List aV) : Option (List aOut) := a_one 1 S (fun x S => a_rngK q.2.1 x (fun lo hi => cond (a_in 0 lo hi) (a_push nx L S q (0, x.2)) (a_anyK 0 q (a_push nx L S))))
noncomputable def a_stk (nx b : Nat) (q : aQ) (L : aL) (S : List aV) : Option (List aOut) := match S with
  | v :: S => match b with
    | 0 => cond (Nat.beq (a_cat v) 1) (some [.inr (.inl (nx, q, L, S))]) none
    | 1 => cond (Nat.beq (a_cat v) 2) (some [.inr (.inl (nx, q, L, S))]) none
    | 2 => cond (Nat.beq (a_cat v) 1) (some [.inr (.inl (nx, q, L, v :: v :: S))]) none
    | 3 => match S with
      | w :: S => cond (Nat.beq (a_cat v) 1 && Nat.beq (a_cat w) 1) (some [.inr (.inl (nx, q, L, v :: w :: v :: w :: S))]) none
      | [] => none
    | 4 => cond (Nat.beq (a_cat v) 2) (some [.inr (.inl (nx, q, L, v :: v :: S))]) none
    | _ => none
  | [] => none
noncomputable def a_go (nx : Nat) (L : aL) (S : List aV) (q : aQ) : Option (List aOut) := some [.inr (.inl (nx, q, L, S))]
noncomputable def a_if (nx a b : Nat) (q : aQ) (L : aL) (S : List aV) : Option (List aOut) := a_one 0 S (fun x S => a_br b q x (0, 0, 0) (a_go a L S) (a_go nx L S))
noncomputable def a_icmp (nx a b : Nat) (q : aQ) (L : aL) (S : List aV) : Option (List aOut) := a_two 0 S (fun x y S => a_br b q x y (a_go a L S) (a_go nx L S))
noncomputable def a_lcmp (nx : Nat) (q : aQ) (L : aL) (S : List aV) : Option (List aOut) := a_two 1 S (fun x y S => a_br 0 q x y (a_go nx L ((0, 0, -1) :: S)) (fun q => a_br 1 q x y (a_go nx L ((0, 0, 1) :: S)) (a_go nx L ((0, 0, 0) :: S))))
noncomputable def a_swR (nx : Nat) (L : aL) (S : List aV) (x : aV) (cs : List (Int × Nat)) : aQ → Option (List aOut) := List.rec (motive := fun _ => aQ → Option (List aOut)) (fun q => a_go nx L S q) (fun c _ ih q => a_br 0 q x (0, 0, c.1) ih (fun q => a_br 1 q x (0, 0, c.1) ih (fun q => a_go c.2 L S q))) cs
noncomputable def a_sw (nx : Nat) (cs : List (Int × Nat)) (q : aQ) (L : aL) (S : List aV) : Option (List aOut) := a_one 0 S (fun x S => a_swR nx L S x cs q)
noncomputable def a_getf (G : aG) (nx ci k : Nat) (q : aQ) (L : aL) (S : List aV) : Option (List aOut) := a_one 2 S (fun x S => cond (a_isC x && (@decide (0 ≤ x.2.2) (a_decLe _ _) && a_isO ci x.2.2)) (match a_oget q.2.2.2.1 x.2.2.toNat 0 (Int.ofNat k) with
  | some v => a_nrmK q.2.1 v (a_push nx L S q)
  | none => match a_at G.1 x.2.2.toNat with
    | some l => match a_uniF (Int.ofNat k) (Int.ofNat k) l with
      | some t => x_kN x.2.2.toNat (fun r => a_readK t q (r, 0, Int.ofNat k) (a_push nx L S))
      | none => none
    | none => none) none)
noncomputable def a_fitc (c : Nat) (v : aV) (lo hi : Int) : Bool := match c with
  | 0 => Nat.beq v.1 0
  | 1 => Nat.beq v.1 1
  | 2 => Nat.beq v.1 0 && (@decide (-128 ≤ lo) (a_decLe _ _) && @decide (hi ≤ 127) (a_decLe _ _))
  | 3 => Nat.beq v.1 0 && (@decide (0 ≤ lo) (a_decLe _ _) && @decide (hi ≤ 1) (a_decLe _ _))
  | 4 => Nat.beq (a_kind v) 2
  | _ => false
