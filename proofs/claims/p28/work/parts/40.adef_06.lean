noncomputable def a_putf (G : aG) (m : aM) (nx ci k : Nat) (c : Int) (q : aQ) (L : aL) (S : List aV) : Option (List aOut) := match S with
  | v :: x :: S => cond (Nat.beq x.1 2 && (a_isC x && (@decide (0 ≤ x.2.2) (a_decLe _ _) && a_isO ci x.2.2))) (a_rngK q.2.1 v (fun lo hi => cond (a_fitc c.toNat v lo hi) (match a_at G.1 x.2.2.toNat with
    | some l => x_kN x.2.2.toNat (fun r => a_wrK G m q r 0 (Int.ofNat k) (Int.ofNat k) (Int.ofNat k) v l (a_go nx L S))
    | none => none) none)) none
  | _ => none
noncomputable def a_arr (c : Nat) (r lo hi : Int) : Bool := match a_shp r.toNat with
  | some (.inl q) => Nat.beq (zcode q.1) c && (@decide (0 ≤ lo) (a_decLe _ _) && @decide (hi < Int.ofNat q.2) (a_decLt _ _))
  | _ => false
noncomputable def a_idxK {β : Type} (i : aV) (lo hi : Int) (f : Nat → Int → Option β) : Option β := cond (@decide (lo = hi) (a_decEqZ _ _)) (f 0 lo) (x_kN i.2.1 (fun s => x_kZ i.2.2 (fun o => f s o)))
noncomputable def a_minL (l : List Int) : Option (Int × Int) := List.rec (motive := fun _ => Option (Int × Int)) none (fun a _ ih => match ih with
  | some q => some (a_min a q.1, a_max a q.2)
  | none => some (a, a)) l
noncomputable def a_ald (G : aG) (nx c : Nat) (q : aQ) (L : aL) (S : List aV) : Option (List aOut) := match S with
  | i :: x :: S => cond (Nat.beq i.1 0 && a_isC x) (cond (Nat.beq x.1 2) (a_rngK q.2.1 i (fun lo hi => cond (@decide (0 ≤ x.2.2) (a_decLe _ _) && a_arr c x.2.2 lo hi) (a_idxK i lo hi (fun s o => match a_oget q.2.2.2.1 x.2.2.toNat s o with
      | some v => a_nrmK q.2.1 v (a_push nx L S q)
      | none => match a_at G.1 x.2.2.toNat with
        | some l => match a_uniF lo hi l with
          | some t => x_kN x.2.2.toNat (fun r => a_readK t q (r, s, o) (a_push nx L S))
          | none => none
        | none => none)) none)) (cond (Nat.beq x.1 3 && Nat.beq c 0) (cond (@decide (x.2.2 = 0) (a_decEqZ _ _)) (cond (G.2.2 && (a_leq q (0, 0, 0) i 0 && a_leq q i (0, 1, 0) (-1))) (x_kN i.2.1 (fun s => x_kZ i.2.2 (fun o => match a_oget q.2.2.2.1 1000 s o with
      | some v => a_nrmK q.2.1 v (a_push nx L S q)
      | none => a_anyK 0 q (fun q v => a_push nx L S (a_addO q ((1000, s, o), v)) v)))) none) (cond (@decide (0 < x.2.2) (a_decLt _ _) && @decide (x.2.2 < 3) (a_decLt _ _)) (a_rngK q.2.1 i (fun lo hi => cond (@decide (0 ≤ lo) (a_decLe _ _) && @decide (hi < Int.ofNat (zTx x.2.2.toNat).length) (a_decLt _ _)) (cond (@decide (lo = hi) (a_decEqZ _ _)) (x_kZ ((zTx x.2.2.toNat).getD lo.toNat 0) (fun z => a_push nx L S q (0, 0, z))) (match a_minL (zTx x.2.2.toNat) with
        | some w => a_newK 0 w.1 w.2 q (a_push nx L S)
        | none => none)) none)) none)) none)) none
  | _ => none
noncomputable def a_ast (G : aG) (m : aM) (nx c : Nat) (q : aQ) (L : aL) (S : List aV) : Option (List aOut) := match S with
  | v :: i :: x :: S => cond (Nat.beq i.1 0 && (Nat.beq x.1 2 && (a_isC x && (@decide (0 ≤ x.2.2) (a_decLe _ _) && Nat.blt c 4)))) (a_rngK q.2.1 i (fun lo hi => a_rngK q.2.1 v (fun vl vh => cond (a_arr c x.2.2 lo hi && a_fitc c v vl vh) (match a_at G.1 x.2.2.toNat with
      | some l => a_idxK i lo hi (fun s o => x_kN x.2.2.toNat (fun r => a_wrK G m q r s o lo hi v l (a_go nx L S)))
      | none => none) none))) none
  | _ => none
noncomputable def a_alen (G : aG) (nx : Nat) (q : aQ) (L : aL) (S : List aV) : Option (List aOut) := match S with
  | x :: S => cond (a_isC x) (cond (Nat.beq x.1 2) (match a_shp x.2.2.toNat with
      | some (.inl w) => x_kN w.2 (fun n => a_push nx L S q (0, 0, Int.ofNat n))
      | _ => none) (cond (Nat.beq x.1 3) (cond (@decide (x.2.2 = 0) (a_decEqZ _ _)) (cond G.2.2 (a_push nx L S q (0, 1, 0)) none) (cond (@decide (0 < x.2.2) (a_decLt _ _) && @decide (x.2.2 < 3) (a_decLt _ _)) (a_push nx L S q (0, 0, 5)) none)) none)) none
  | _ => none
noncomputable def a_slen (nx : Nat) (q : aQ) (L : aL) (S : List aV) : Option (List aOut) := match S with
  | x :: S => cond (Nat.beq x.1 3 && (a_isC x && Nat.ble (a_sum S) 8)) (cond (@decide (x.2.2 = 3) (a_decEqZ _ _)) (a_push nx L S q (0, 0, Int.ofNat (zTx 3).length)) (cond (@decide (x.2.2 = 4) (a_decEqZ _ _)) (a_push nx L S q (0, 0, 5)) none)) none
  | _ => none
noncomputable def a_char (nx : Nat) (q : aQ) (L : aL) (S : List aV) : Option (List aOut) := match S with
  | i :: x :: S => cond (Nat.beq i.1 0 && (Nat.beq x.1 3 && (a_isC x && (Nat.ble (a_sum S) 8 && (@decide (x.2.2 = 3) (a_decEqZ _ _) || @decide (x.2.2 = 4) (a_decEqZ _ _)))))) (a_rngK q.2.1 i (fun lo hi => cond (@decide (0 ≤ lo) (a_decLe _ _) && @decide (hi < Int.ofNat (zTx x.2.2.toNat).length) (a_decLt _ _)) (a_newK 0 32 122 q (a_push nx L S)) none)) none
  | _ => none
noncomputable def a_math (nx b : Nat) (q : aQ) (L : aL) (S : List aV) : Option (List aOut) := match b with
  | 0 => a_two 0 S (fun x y S => cond (Nat.ble (a_sum S) 8) (a_rngK q.2.1 x (fun lx hx => a_rngK q.2.1 y (fun ly hy => a_newK 0 (a_max lx ly) (a_max hx hy) q (a_push nx L S)))) none)
  | 1 => a_two 0 S (fun x y S => cond (Nat.ble (a_sum S) 8) (a_rngK q.2.1 x (fun lx hx => a_rngK q.2.1 y (fun ly hy => a_newK 0 (a_min lx ly) (a_min hx hy) q (a_push nx L S)))) none)
  | 2 => a_two 1 S (fun x y S => cond (Nat.ble (a_sum S) 8) (a_rngK q.2.1 x (fun lx hx => a_rngK q.2.1 y (fun ly hy => a_newK 1 (a_min lx ly) (a_min hx hy) q (a_push nx L S)))) none)
  | 3 => a_one 1 S (fun x S => cond (Nat.ble (a_sum S) 8) (a_rngK q.2.1 x (fun lx hx => cond (@decide (0 ≤ lx) (a_decLe _ _)) (a_push nx L S q x) (cond (@decide (a_lo 1 < lx) (a_decLt _ _) && @decide (hx ≤ a_hi 1) (a_decLe _ _)) (a_newK 1 0 (a_max (-lx) hx) q (a_push nx L S)) (cond (a_in 1 lx hx) (a_anyK 1 q (a_push nx L S)) none)))) none)
  | _ => none
noncomputable def a_carry (r0 r1 : Nat) (sl dl nl : Int) (O : aO) : aO := List.rec (motive := fun _ => aO) [] (fun e _ ih => cond (Nat.beq e.1.1 r0 && (Nat.beq e.1.2.1 0 && (@decide (sl ≤ e.1.2.2) (a_decLe _ _) && @decide (e.1.2.2 < sl + nl) (a_decLt _ _)))) (((r1, 0, e.1.2.2 - sl + dl), e.2) :: ih) ih) O
noncomputable def a_carryK {β : Type} (r0 r1 : Nat) (sl dl nl : Int) (O : aO) (f : aO → Option β) : Option β := List.rec (motive := fun _ => (aO → Option β) → Option β) (fun f => f []) (fun e _ ih f => ih (fun l => cond (Nat.beq e.1.1 r0 && (Nat.beq e.1.2.1 0 && (@decide (sl ≤ e.1.2.2) (a_decLe _ _) && @decide (e.1.2.2 < sl + nl) (a_decLt _ _)))) (x_kZ (e.1.2.2 - sl + dl) (fun o => f (((r1, 0, o), e.2) :: l))) (f l))) O f
noncomputable def a_copy (G : aG) (m : aM) (nx c : Nat) (q : aQ) (L : aL) (S : List aV) : Option (List aOut) := match S with
  | n :: dp :: x1 :: sp :: x0 :: S => cond (Nat.beq n.1 0 && (Nat.beq dp.1 0 && (Nat.beq sp.1 0 && (Nat.beq x1.1 2 && (Nat.beq x0.1 2 && (a_isC x1 && (a_isC x0 && (Nat.ble (a_sum S) 8 && (Nat.blt c 2 && (@decide (0 ≤ x1.2.2) (a_decLe _ _) && @decide (0 ≤ x0.2.2) (a_decLe _ _)))))))))))
    (a_rngK q.2.1 n (fun nl nh => a_rngK q.2.1 dp (fun dl dh => a_rngK q.2.1 sp (fun sl sh => match a_shp x0.2.2.toNat, a_shp x1.2.2.toNat with
      | some (.inl w0), some (.inl w1) => cond (Nat.beq (zcode w0.1) c && (Nat.beq (zcode w1.1) c && (@decide (0 ≤ nl) (a_decLe _ _) && (@decide (0 ≤ dl) (a_decLe _ _) && (@decide (0 ≤ sl) (a_decLe _ _) && ((@decide (sh + nh ≤ Int.ofNat w0.2) (a_decLe _ _) || a_ent q.2.1 q.2.2.1 3 (a_less (a_tm 1 n) (a_tm (-1) sp)) (Int.ofNat w0.2 - n.2.2 - sp.2.2)) && (@decide (dh + nh ≤ Int.ofNat w1.2) (a_decLe _ _) || a_ent q.2.1 q.2.2.1 3 (a_less (a_tm 1 n) (a_tm (-1) dp)) (Int.ofNat w1.2 - n.2.2 - dp.2.2))))))))
        (cond (Nat.beq x0.2.2.toNat x1.2.2.toNat && (@decide (sl = sh) (a_decEqZ _ _) && (@decide (dl = dh) (a_decEqZ _ _) && @decide (sl = dl) (a_decEqZ _ _)))) (some [.inr (.inl (nx, q, L, S))]) (match a_at G.1 x0.2.2.toNat, a_at G.1 x1.2.2.toNat with
        | some l0, some l1 => x_kZ (a_min (dh + nh) (Int.ofNat w1.2) - 1) (fun hi => x_kN x1.2.2.toNat (fun r => match a_uniF sl (a_min (sh + nh) (Int.ofNat w0.2) - 1) l0 with
          | some t => cond (Nat.blt t.1 2 && (a_accsF dl hi (t.1, 0, 0) t.2.1 t.2.2.1 l1 && a_mod m r dl hi)) (x_spine (a_flt (a_okeepR q.2.1 r dl hi) q.2.2.2.1) (fun O => x_spine (a_flt (a_fkeep G.2.1 r dl hi) q.2.2.2.2) (fun fl => cond (@decide (nl = nh) (a_decEqZ _ _) && (@decide (dl = dh) (a_decEqZ _ _) && @decide (sl = sh) (a_decEqZ _ _))) (a_carryK x0.2.2.toNat x1.2.2.toNat sl dl nl q.2.2.2.1 (fun C => x_spine (C ++ O) (fun O => some [.inr (.inl (nx, (q.1, q.2.1, q.2.2.1, O, fl), L, S))]))) (some [.inr (.inl (nx, (q.1, q.2.1, q.2.2.1, O, fl), L, S))])))) none
          | none => none))
        | _, _ => none)) none
      | _, _ => none)))) none
  | _ => none
noncomputable def a_take (n : Nat) : List aV → List aV → Option (List aV × List aV) := Nat.rec (motive := fun _ => List aV → List aV → Option (List aV × List aV)) (fun S acc => some (acc, S)) (fun _ ih S acc => match S with
  | v :: S => ih S (v :: acc)
  | [] => none) n
noncomputable def a_call (nx mi n : Nat) (c : Int) (w : Nat) (q : aQ) (L : aL) (S : List aV) : Option (List aOut) := match a_take n S [] with
  | some (as, S) => cond (Nat.ble (a_sum S) 8 && (Nat.ble (a_sum as) w && (@decide (c < 0) (a_decLt _ _) || (match as with
    | v :: _ => Nat.beq v.1 2 && (a_isC v && a_isO c.toNat v.2.2)
    | [] => false)))) (some [.inr (.inr (mi, as, nx, q, L, S))]) none
  | none => none
noncomputable def a_ret (b c : Nat) (q : aQ) (S : List aV) : Option (List aOut) := match b, S with
  | 0, [] => some [.inl (q, none)]
  | 1, [v] => a_rngK q.2.1 v (fun lo hi => cond (a_fitc c v lo hi && Nat.beq v.1 0) (some [.inl (q, some v)]) none)
  | 2, [v] => cond (Nat.beq v.1 1) (some [.inl (q, some v)]) none
  | _, _ => none
noncomputable def aiR (G : aG) (m : aM) (i : zX) (q : aQ) (L : aL) (S : List aV) : Option (List aOut) := match i with
  | (0, nx, a, _, z, _) => a_push nx L S q (a, 0, z)
  | (1, nx, _, _, _, _) => a_go nx L S q
  | (2, nx, a, b, _, _) => a_load nx a b q L S
  | (3, nx, a, b, _, _) => a_store1 nx a b q L S
  | (4, nx, a, _, _, _) => a_store2 nx a q L S
  | (5, nx, a, _, z, _) => a_iinc nx a z q L S
  | (6, nx, _, b, _, _) => a_un32 nx b q L S
  | (7, nx, _, b, _, _) => a_bin32 nx b q L S
  | (8, nx, _, b, _, _) => a_div32 nx b q L S
  | (9, nx, _, _, _, _) => a_neg64 nx q L S
  | (10, nx, _, b, _, _) => a_bin64 nx b q L S
  | (11, nx, _, b, _, _) => a_div64 nx b q L S
  | (12, nx, _, _, _, _) => a_sh64 nx q L S
  | (13, nx, _, _, _, _) => a_i2l nx q L S
  | (14, nx, _, _, _, _) => a_l2i nx q L S
  | (15, nx, _, b, _, _) => a_stk nx b q L S
  | (16, nx, a, b, _, _) => a_if nx a b q L S
  | (17, nx, a, b, _, _) => a_icmp nx a b q L S
  | (18, nx, _, _, _, _) => a_lcmp nx q L S
  | (19, nx, _, _, _, cs) => a_sw nx cs q L S
  | (20, nx, a, b, _, _) => a_getf G nx a b q L S
  | (21, nx, a, b, z, _) => a_putf G m nx a b z q L S
  | (22, nx, a, _, _, _) => a_ald G nx a q L S
  | (23, nx, a, _, _, _) => a_ast G m nx a q L S
  | (24, nx, _, _, _, _) => a_alen G nx q L S
  | (25, nx, _, _, _, _) => a_slen nx q L S
  | (26, nx, _, _, _, _) => a_char nx q L S
  | (27, nx, _, b, _, _) => a_math nx b q L S
  | (28, nx, a, _, _, _) => a_copy G m nx a q L S
  | (29, nx, a, b, z, cs) => a_call nx a b z (cs.head?.elim 0 (fun q => q.2)) q L S
  | (30, _, a, b, _, _) => a_ret b a q S
  | _ => none
noncomputable def ai3 (G : aG) (m : aM) (i : zX) (q : aQ) (L : aL) (S : List aV) : Option (List aOut) := cond (Nat.beq i.1 17) (a_icmp i.2.1 i.2.2.1 i.2.2.2.1 q L S) (cond (Nat.beq i.1 22) (a_ald G i.2.1 i.2.2.1 q L S) (cond (Nat.beq i.1 16) (a_if i.2.1 i.2.2.1 i.2.2.2.1 q L S) (aiR G m i q L S)))
noncomputable def ai2 (G : aG) (m : aM) (i : zX) (q : aQ) (L : aL) (S : List aV) : Option (List aOut) := cond (Nat.beq i.1 30) (a_ret i.2.2.2.1 i.2.2.1 q S) (cond (Nat.beq i.1 23) (a_ast G m i.2.1 i.2.2.1 q L S) (cond (Nat.beq i.1 1) (a_go i.2.1 L S q) (ai3 G m i q L S)))
noncomputable def ai1 (G : aG) (m : aM) (i : zX) (q : aQ) (L : aL) (S : List aV) : Option (List aOut) := cond (Nat.beq i.1 20) (a_getf G i.2.1 i.2.2.1 i.2.2.2.1 q L S) (cond (Nat.beq i.1 7) (a_bin32 i.2.1 i.2.2.2.1 q L S) (ai2 G m i q L S))
