noncomputable def a_anyO (p : (Nat × Nat × Int) × aV → Bool) (O : aO) : Bool := List.rec (motive := fun _ => Bool) false (fun e _ ih => p e || ih) O
noncomputable def a_sameV (v w : aV) : Bool := Nat.beq v.1 w.1 && (Nat.beq v.2.1 w.2.1 && @decide (v.2.2 = w.2.2) (a_decEqZ _ _))
noncomputable def a_soI (B : Nat) (lo hi : Int) : Bool := (@decide (Int.ofNat (B + 245) ≤ lo) (a_decLe _ _) && @decide (hi ≤ Int.ofNat (B + 250)) (a_decLe _ _)) || (@decide (Int.ofNat (B + 257) ≤ lo) (a_decLe _ _) && @decide (hi ≤ Int.ofNat (B + 262)) (a_decLe _ _))
noncomputable def a_soA (q : aQ) (B : Nat) (vh : Int) : Bool := match a_oget q.2.2.2.1 126 0 (Int.ofNat B), a_oget q.2.2.2.1 126 0 (Int.ofNat (B + 1)) with
  | some c, some d => (match a_rngK q.2.1 c (fun cl _ => a_rngK q.2.1 d (fun dl _ => some (@decide (0 ≤ cl) (a_decLe _ _) && (@decide (0 ≤ dl) (a_decLe _ _) && @decide (vh < cl * dl) (a_decLt _ _))))) with
    | some b => b
    | none => false)
  | _, _ => false
noncomputable def a_soB (q : aQ) (B : Nat) (v : aV) : Bool := a_anyO (fun e => Nat.beq e.1.1 126 && (a_sameV e.2 v && (match a_rngK q.2.1 (0, e.1.2) (fun l h => some (a_soI B l h)) with
  | some b => b
  | none => false))) q.2.2.2.1
noncomputable def a_soC (q : aQ) (B : Nat) (v : aV) : Bool := Nat.beq B 0 && (a_memF 351 q.2.2.2.2 && (match a_oget q.2.2.2.1 121 0 31 with
  | some w => a_anyO (fun e => Nat.beq e.1.1 132 && (a_sameV e.2 v && ((match a_rngK q.2.1 (0, e.1.2) (fun _ h => some (@decide (h < 49) (a_decLt _ _))) with
    | some b => b
    | none => false) && a_leq q (0, e.1.2) w (-1)))) q.2.2.2.1
  | none => false))
noncomputable def a_soft (q : aQ) (r : Nat) (lo hi : Int) (v : aV) (vh : Int) (j : Nat) : Bool := Nat.blt 344 j && (Nat.blt j 350 && (Nat.beq r 126 && (Nat.beq v.1 0 && a_bN (550 * (j - 345)) (fun B => a_soI B lo hi && (a_soA q B vh || (a_soB q B v || a_soC q B v))))))
noncomputable def a_wrK {β : Type} (G : aG) (m : aM) (q : aQ) (r s : Nat) (o lo hi : Int) (v : aV) (l : aTc) (f : aQ → Option β) : Option β := a_rngK q.2.1 v (fun vl vh => cond (a_accsF lo hi v vl vh l && a_mod m r lo hi) (x_spine (a_flt (a_okeep q.2.1 r s o lo hi) q.2.2.2.1) (fun O => x_spine (a_flt (fun j => a_fkeep G.2.1 r lo hi j || a_soft q r lo hi v vh j) q.2.2.2.2) (fun fl => f (q.1, q.2.1, q.2.2.1, ((r, s, o), v) :: O, fl)))) none)
noncomputable def a_push (nx : Nat) (L : aL) (S : List aV) (q : aQ) (v : aV) : Option (List aOut) := some [.inr (.inl (nx, q, L, v :: S))]
noncomputable def a_lget (L : aL) (i : Nat) : Option aV := List.rec (motive := fun _ => Option aV) none (fun q _ ih => cond (Nat.beq q.1 i) (some q.2) ih) L
noncomputable def a_kind (v : aV) : Nat := cond (Nat.beq v.1 3) 2 v.1
noncomputable def a_keep1 (i : Nat) (q : Nat × aV) : Bool := !(Nat.beq q.1 i) && !(Nat.beq (q.1 + 1) i && Nat.beq q.2.1 1)
noncomputable def a_keep2 (i : Nat) (q : Nat × aV) : Bool := !(Nat.beq q.1 i) && (!(Nat.beq q.1 (i + 1)) && !(Nat.beq (q.1 + 1) i && Nat.beq q.2.1 1))
noncomputable def a_cat (v : aV) : Nat := cond (Nat.beq v.1 1) 2 1
noncomputable def a_sum (l : List aV) : Nat := List.rec (motive := fun _ => Nat) 0 (fun v _ ih => a_cat v + ih) l
noncomputable def a_load (nx i t : Nat) (q : aQ) (L : aL) (S : List aV) : Option (List aOut) := match a_lget L i with
  | some v => cond (Nat.beq (a_kind v) t) (a_nrmK q.2.1 v (a_push nx L S q)) none
  | none => none
noncomputable def a_st1 (nx i : Nat) (v : aV) (q : aQ) (L : aL) (S : List aV) : Option (List aOut) := x_spine (a_flt (a_keep1 i) L) (fun L => some [.inr (.inl (nx, q, (i, v) :: L, S))])
noncomputable def a_store1 (nx i t : Nat) (q : aQ) (L : aL) (S : List aV) : Option (List aOut) := match S with
  | v :: S => cond (Nat.beq (a_kind v) t && !(Nat.beq t 1)) (a_st1 nx i v q L S) none
  | _ => none
noncomputable def a_store2 (nx i : Nat) (q : aQ) (L : aL) (S : List aV) : Option (List aOut) := match S with
  | v :: S => cond (Nat.beq v.1 1) (x_spine (a_flt (a_keep2 i) L) (fun L => some [.inr (.inl (nx, q, (i, v) :: L, S))])) none
  | _ => none
noncomputable def a_iinc (nx i : Nat) (z : Int) (q : aQ) (L : aL) (S : List aV) : Option (List aOut) := match a_lget L i with
  | some v => cond (Nat.beq v.1 0) (a_shiftK 0 q v z (fun q v => a_st1 nx i v q L S)) none
  | _ => none
