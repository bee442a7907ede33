theorem aq_fitc_e : @aq_fitc = @a_fitc := by
  delta aq_fitc
  simp only [aq_kind_e, a_leZ_q, a_aq, a_oq, a_nq]
  rfl
noncomputable def aq_putf (G : aG) (m : aM) (nx ci k : Nat) (c : Int) (q : aQ) (L : aL) (S : List aV) : Option (List aOut) := match S with
  | v :: x :: S => (Bool.rec (motive := fun _ => _) none (aq_rngK q.2.1 v (fun lo hi => (Bool.rec (motive := fun _ => _) none (match a_at G.1 x.2.2.toNat with
    | some l => x_kN x.2.2.toNat (fun r => aq_wrK G m q r 0 (Int.ofNat k) (Int.ofNat k) (Int.ofNat k) v l (a_go nx L S))
    | none => none) (aq_fitc c.toNat v lo hi)))) ((Bool.rec (motive := fun _ => Bool) false (((Bool.rec (motive := fun _ => Bool) false (((Bool.rec (motive := fun _ => Bool) false (a_isO ci x.2.2) ((a_leZ (0) (x.2.2)))))) (a_isC x)))) (Nat.beq x.1 2))))
  | _ => none
theorem aq_putf_e : @aq_putf = @a_putf := by
  delta aq_putf
  simp only [aq_rngK_e, aq_wrK_e, aq_fitc_e, a_leZ_q, a_aq, a_oq, a_nq]
  try simp only [a_cqx]
  rfl
noncomputable def aq_arr (c : Nat) (r lo hi : Int) : Bool := match a_shp r.toNat with
  | some (.inl q) => (Bool.rec (motive := fun _ => Bool) false (((Bool.rec (motive := fun _ => Bool) false ((a_ltZ (hi) (Int.ofNat q.2))) ((a_leZ (0) (lo)))))) (Nat.beq (zcode q.1) c))
  | _ => false
theorem aq_arr_e : @aq_arr = @a_arr := by
  delta aq_arr
  simp only [a_leZ_q, a_ltZ_q, a_aq, a_oq, a_nq]
  rfl
noncomputable def aq_idxK {β : Type} (i : aV) (lo hi : Int) (f : Nat → Int → Option β) : Option β := (Bool.rec (motive := fun _ => _) (x_kN i.2.1 (fun s => x_kZ i.2.2 (fun o => f s o))) (f 0 lo) ((a_eqZ (lo) (hi))))
theorem aq_idxK_e : @aq_idxK = @a_idxK := by
  delta aq_idxK
  simp only [a_eqZ_q]
  try simp only [a_cqx]
  rfl
noncomputable def aq_minL (l : List Int) : Option (Int × Int) := List.rec (motive := fun _ => Option (Int × Int)) none (fun a _ ih => match ih with
  | some q => some (aq_min a q.1, aq_max a q.2)
  | none => some (a, a)) l
theorem aq_minL_e : @aq_minL = @a_minL := by
  delta aq_minL
  simp only [aq_min_e, aq_max_e]
  rfl
noncomputable def aq_ald (G : aG) (nx c : Nat) (q : aQ) (L : aL) (S : List aV) : Option (List aOut) := match S with
  | i :: x :: S => (Bool.rec (motive := fun _ => _) none ((Bool.rec (motive := fun _ => _) ((Bool.rec (motive := fun _ => _) none ((Bool.rec (motive := fun _ => _) ((Bool.rec (motive := fun _ => _) none (aq_rngK q.2.1 i (fun lo hi => (Bool.rec (motive := fun _ => _) none ((Bool.rec (motive := fun _ => _) (match aq_minL (zTx x.2.2.toNat) with
        | some w => a_newK 0 w.1 w.2 q (a_push nx L S)
        | none => none) (x_kZ ((zTx x.2.2.toNat).getD lo.toNat 0) (fun z => a_push nx L S q (0, 0, z))) ((a_eqZ (lo) (hi))))) ((Bool.rec (motive := fun _ => Bool) false ((a_ltZ (hi) (Int.ofNat (zTx x.2.2.toNat).length))) ((a_leZ (0) (lo)))))))) ((Bool.rec (motive := fun _ => Bool) false ((a_ltZ (x.2.2) (3))) ((a_ltZ (0) (x.2.2))))))) ((Bool.rec (motive := fun _ => _) none (x_kN i.2.1 (fun s => x_kZ i.2.2 (fun o => match aq_oget q.2.2.2.1 1000 s o with
      | some v => aq_nrmK q.2.1 v (a_push nx L S q)
      | none => a_anyK 0 q (fun q v => a_push nx L S (a_addO q ((1000, s, o), v)) v)))) ((Bool.rec (motive := fun _ => Bool) false (((Bool.rec (motive := fun _ => Bool) false (aq_leq q i (0, 1, 0) (-1)) (aq_leq q (0, 0, 0) i 0)))) (G.2.2))))) ((a_eqZ (x.2.2) (0))))) ((Bool.rec (motive := fun _ => Bool) false (Nat.beq c 0) (Nat.beq x.1 3))))) (aq_rngK q.2.1 i (fun lo hi => (Bool.rec (motive := fun _ => _) none (aq_idxK i lo hi (fun s o => match aq_oget q.2.2.2.1 x.2.2.toNat s o with
      | some v => aq_nrmK q.2.1 v (a_push nx L S q)
      | none => match a_at G.1 x.2.2.toNat with
        | some l => match aq_uniF lo hi l with
          | some t => x_kN x.2.2.toNat (fun r => aq_readK t q (r, s, o) (a_push nx L S))
          | none => none
        | none => none)) ((Bool.rec (motive := fun _ => Bool) false (aq_arr c x.2.2 lo hi) ((a_leZ (0) (x.2.2)))))))) (Nat.beq x.1 2))) ((Bool.rec (motive := fun _ => Bool) false (a_isC x) (Nat.beq i.1 0))))
  | _ => none
theorem aq_ald_e : @aq_ald = @a_ald := by
  delta aq_ald
  simp only [aq_rngK_e, aq_nrmK_e, aq_leq_e, aq_oget_e, aq_uniF_e, aq_readK_e, aq_arr_e, aq_idxK_e, aq_minL_e, a_leZ_q, a_ltZ_q, a_eqZ_q, a_aq, a_oq, a_nq]
  try simp only [a_cqx]
  rfl
noncomputable def aq_ast (G : aG) (m : aM) (nx c : Nat) (q : aQ) (L : aL) (S : List aV) : Option (List aOut) := match S with
  | v :: i :: x :: S => (Bool.rec (motive := fun _ => _) none (aq_rngK q.2.1 i (fun lo hi => aq_rngK q.2.1 v (fun vl vh => (Bool.rec (motive := fun _ => _) none (match a_at G.1 x.2.2.toNat with
      | some l => aq_idxK i lo hi (fun s o => x_kN x.2.2.toNat (fun r => aq_wrK G m q r s o lo hi v l (a_go nx L S)))
      | none => none) ((Bool.rec (motive := fun _ => Bool) false (aq_fitc c v vl vh) (aq_arr c x.2.2 lo hi))))))) ((Bool.rec (motive := fun _ => Bool) false (((Bool.rec (motive := fun _ => Bool) false (((Bool.rec (motive := fun _ => Bool) false (((Bool.rec (motive := fun _ => Bool) false (Nat.blt c 4) ((a_leZ (0) (x.2.2)))))) (a_isC x)))) (Nat.beq x.1 2)))) (Nat.beq i.1 0))))
  | _ => none
theorem aq_ast_e : @aq_ast = @a_ast := by
  delta aq_ast
  simp only [aq_rngK_e, aq_wrK_e, aq_fitc_e, aq_arr_e, aq_idxK_e, a_leZ_q, a_aq, a_oq, a_nq]
  try simp only [a_cqx]
  rfl
noncomputable def aq_alen (G : aG) (nx : Nat) (q : aQ) (L : aL) (S : List aV) : Option (List aOut) := match S with
  | x :: S => (Bool.rec (motive := fun _ => _) none ((Bool.rec (motive := fun _ => _) ((Bool.rec (motive := fun _ => _) none ((Bool.rec (motive := fun _ => _) ((Bool.rec (motive := fun _ => _) none (a_push nx L S q (0, 0, 5)) ((Bool.rec (motive := fun _ => Bool) false ((a_ltZ (x.2.2) (3))) ((a_ltZ (0) (x.2.2))))))) ((Bool.rec (motive := fun _ => _) none (a_push nx L S q (0, 1, 0)) G.2.2)) ((a_eqZ (x.2.2) (0))))) (Nat.beq x.1 3))) (match a_shp x.2.2.toNat with
      | some (.inl w) => x_kN w.2 (fun n => a_push nx L S q (0, 0, Int.ofNat n))
      | _ => none) (Nat.beq x.1 2))) (a_isC x))
  | _ => none
theorem aq_alen_e : @aq_alen = @a_alen := by
  delta aq_alen
  simp only [a_ltZ_q, a_eqZ_q, a_aq, a_oq, a_nq]
  try simp only [a_cqx]
  rfl
noncomputable def aq_slen (nx : Nat) (q : aQ) (L : aL) (S : List aV) : Option (List aOut) := match S with
  | x :: S => (Bool.rec (motive := fun _ => _) none ((Bool.rec (motive := fun _ => _) ((Bool.rec (motive := fun _ => _) none (a_push nx L S q (0, 0, 5)) ((a_eqZ (x.2.2) (4))))) (a_push nx L S q (0, 0, Int.ofNat (zTx 3).length)) ((a_eqZ (x.2.2) (3))))) ((Bool.rec (motive := fun _ => Bool) false (((Bool.rec (motive := fun _ => Bool) false (Nat.ble (aq_sum S) 8) (a_isC x)))) (Nat.beq x.1 3))))
  | _ => none
theorem aq_slen_e : @aq_slen = @a_slen := by
  delta aq_slen
  simp only [aq_sum_e, a_eqZ_q, a_aq, a_oq, a_nq]
  try simp only [a_cqx]
  rfl
noncomputable def aq_char (nx : Nat) (q : aQ) (L : aL) (S : List aV) : Option (List aOut) := match S with
  | i :: x :: S => (Bool.rec (motive := fun _ => _) none (aq_rngK q.2.1 i (fun lo hi => (Bool.rec (motive := fun _ => _) none (a_newK 0 32 122 q (a_push nx L S)) ((Bool.rec (motive := fun _ => Bool) false ((a_ltZ (hi) (Int.ofNat (zTx x.2.2.toNat).length))) ((a_leZ (0) (lo)))))))) ((Bool.rec (motive := fun _ => Bool) false (((Bool.rec (motive := fun _ => Bool) false (((Bool.rec (motive := fun _ => Bool) false (((Bool.rec (motive := fun _ => Bool) false (((Bool.rec (motive := fun _ => Bool) ((a_eqZ (x.2.2) (4))) true ((a_eqZ (x.2.2) (3)))))) (Nat.ble (aq_sum S) 8)))) (a_isC x)))) (Nat.beq x.1 3)))) (Nat.beq i.1 0))))
  | _ => none
theorem aq_char_e : @aq_char = @a_char := by
  delta aq_char
  simp only [aq_rngK_e, aq_sum_e, a_leZ_q, a_ltZ_q, a_eqZ_q, a_aq, a_oq, a_nq]
  try simp only [a_cqx]
  rfl
noncomputable def aq_math (nx b : Nat) (q : aQ) (L : aL) (S : List aV) : Option (List aOut) := match b with
  | 0 => aq_two 0 S (fun x y S => (Bool.rec (motive := fun _ => _) none (aq_rngK q.2.1 x (fun lx hx => aq_rngK q.2.1 y (fun ly hy => a_newK 0 (aq_max lx ly) (aq_max hx hy) q (a_push nx L S)))) (Nat.ble (aq_sum S) 8)))
  | 1 => aq_two 0 S (fun x y S => (Bool.rec (motive := fun _ => _) none (aq_rngK q.2.1 x (fun lx hx => aq_rngK q.2.1 y (fun ly hy => a_newK 0 (aq_min lx ly) (aq_min hx hy) q (a_push nx L S)))) (Nat.ble (aq_sum S) 8)))
  | 2 => aq_two 1 S (fun x y S => (Bool.rec (motive := fun _ => _) none (aq_rngK q.2.1 x (fun lx hx => aq_rngK q.2.1 y (fun ly hy => a_newK 1 (aq_min lx ly) (aq_min hx hy) q (a_push nx L S)))) (Nat.ble (aq_sum S) 8)))
  | 3 => aq_one 1 S (fun x S => (Bool.rec (motive := fun _ => _) none (aq_rngK q.2.1 x (fun lx hx => (Bool.rec (motive := fun _ => _) ((Bool.rec (motive := fun _ => _) ((Bool.rec (motive := fun _ => _) none (a_anyK 1 q (a_push nx L S)) (aq_in 1 lx hx))) (a_newK 1 0 (aq_max (-lx) hx) q (a_push nx L S)) ((Bool.rec (motive := fun _ => Bool) false ((a_leZ (hx) (a_hi 1))) ((a_ltZ (a_lo 1) (lx))))))) (a_push nx L S q x) ((a_leZ (0) (lx)))))) (Nat.ble (aq_sum S) 8)))
  | _ => none
