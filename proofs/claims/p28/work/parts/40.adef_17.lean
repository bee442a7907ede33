theorem aq_math_e : @aq_math = @a_math := by
  delta aq_math
  simp only [aq_min_e, aq_max_e, aq_rngK_e, aq_in_e, aq_sum_e, aq_two_e, aq_one_e, a_leZ_q, a_ltZ_q, a_aq, a_oq, a_nq]
  try simp only [a_cqx]
  rfl
noncomputable def aq_carryK {β : Type} (r0 r1 : Nat) (sl dl nl : Int) (O : aO) (f : aO → Option β) : Option β := List.rec (motive := fun _ => (aO → Option β) → Option β) (fun f => f []) (fun e _ ih f => ih (fun l => (Bool.rec (motive := fun _ => _) (f l) (x_kZ (e.1.2.2 - sl + dl) (fun o => f (((r1, 0, o), e.2) :: l))) ((Bool.rec (motive := fun _ => Bool) false (((Bool.rec (motive := fun _ => Bool) false (((Bool.rec (motive := fun _ => Bool) false ((a_ltZ (e.1.2.2) (sl + nl))) ((a_leZ (sl) (e.1.2.2)))))) (Nat.beq e.1.2.1 0)))) (Nat.beq e.1.1 r0)))))) O f
theorem aq_carryK_e : @aq_carryK = @a_carryK := by
  delta aq_carryK
  simp only [a_leZ_q, a_ltZ_q, a_aq, a_oq, a_nq]
  try simp only [a_cqx]
  rfl
noncomputable def aq_copy (G : aG) (m : aM) (nx c : Nat) (q : aQ) (L : aL) (S : List aV) : Option (List aOut) := match S with
  | n :: dp :: x1 :: sp :: x0 :: S => (Bool.rec (motive := fun _ => _) none (aq_rngK q.2.1 n (fun nl nh => aq_rngK q.2.1 dp (fun dl dh => aq_rngK q.2.1 sp (fun sl sh => match a_shp x0.2.2.toNat, a_shp x1.2.2.toNat with
      | some (.inl w0), some (.inl w1) => (Bool.rec (motive := fun _ => _) none ((Bool.rec (motive := fun _ => _) (match a_at G.1 x0.2.2.toNat, a_at G.1 x1.2.2.toNat with
        | some l0, some l1 => x_kZ (aq_min (dh + nh) (Int.ofNat w1.2) - 1) (fun hi => x_kN x1.2.2.toNat (fun r => match aq_uniF sl (aq_min (sh + nh) (Int.ofNat w0.2) - 1) l0 with
          | some t => (Bool.rec (motive := fun _ => _) none (x_spine (aq_flt (aq_okeepR q.2.1 r dl hi) q.2.2.2.1) (fun O => x_spine (aq_flt (aq_fkeep G.2.1 r dl hi) q.2.2.2.2) (fun fl => (Bool.rec (motive := fun _ => _) (some [.inr (.inl (nx, (q.1, q.2.1, q.2.2.1, O, fl), L, S))]) (aq_carryK x0.2.2.toNat x1.2.2.toNat sl dl nl q.2.2.2.1 (fun C => x_spine (C ++ O) (fun O => some [.inr (.inl (nx, (q.1, q.2.1, q.2.2.1, O, fl), L, S))]))) ((Bool.rec (motive := fun _ => Bool) false (((Bool.rec (motive := fun _ => Bool) false ((a_eqZ (sl) (sh))) ((a_eqZ (dl) (dh)))))) ((a_eqZ (nl) (nh))))))))) ((Bool.rec (motive := fun _ => Bool) false (((Bool.rec (motive := fun _ => Bool) false (aq_mod m r dl hi) (aq_accsF dl hi (t.1, 0, 0) t.2.1 t.2.2.1 l1)))) (Nat.blt t.1 2))))
          | none => none))
        | _, _ => none) (some [.inr (.inl (nx, q, L, S))]) ((Bool.rec (motive := fun _ => Bool) false (((Bool.rec (motive := fun _ => Bool) false (((Bool.rec (motive := fun _ => Bool) false ((a_eqZ (sl) (dl))) ((a_eqZ (dl) (dh)))))) ((a_eqZ (sl) (sh)))))) (Nat.beq x0.2.2.toNat x1.2.2.toNat))))) ((Bool.rec (motive := fun _ => Bool) false (((Bool.rec (motive := fun _ => Bool) false (((Bool.rec (motive := fun _ => Bool) false (((Bool.rec (motive := fun _ => Bool) false (((Bool.rec (motive := fun _ => Bool) false (((Bool.rec (motive := fun _ => Bool) false (((Bool.rec (motive := fun _ => Bool) (aq_ent q.2.1 q.2.2.1 3 (aq_less (a_tm 1 n) (a_tm (-1) dp)) (Int.ofNat w1.2 - n.2.2 - dp.2.2)) true ((a_leZ (dh + nh) (Int.ofNat w1.2)))))) (((Bool.rec (motive := fun _ => Bool) (aq_ent q.2.1 q.2.2.1 3 (aq_less (a_tm 1 n) (a_tm (-1) sp)) (Int.ofNat w0.2 - n.2.2 - sp.2.2)) true ((a_leZ (sh + nh) (Int.ofNat w0.2))))))))) ((a_leZ (0) (sl)))))) ((a_leZ (0) (dl)))))) ((a_leZ (0) (nl)))))) (Nat.beq (zcode w1.1) c)))) (Nat.beq (zcode w0.1) c))))
      | _, _ => none)))) ((Bool.rec (motive := fun _ => Bool) false (((Bool.rec (motive := fun _ => Bool) false (((Bool.rec (motive := fun _ => Bool) false (((Bool.rec (motive := fun _ => Bool) false (((Bool.rec (motive := fun _ => Bool) false (((Bool.rec (motive := fun _ => Bool) false (((Bool.rec (motive := fun _ => Bool) false (((Bool.rec (motive := fun _ => Bool) false (((Bool.rec (motive := fun _ => Bool) false (((Bool.rec (motive := fun _ => Bool) false ((a_leZ (0) (x0.2.2))) ((a_leZ (0) (x1.2.2)))))) (Nat.blt c 2)))) (Nat.ble (aq_sum S) 8)))) (a_isC x0)))) (a_isC x1)))) (Nat.beq x0.1 2)))) (Nat.beq x1.1 2)))) (Nat.beq sp.1 0)))) (Nat.beq dp.1 0)))) (Nat.beq n.1 0))))
  | _ => none
theorem aq_copy_e : @aq_copy = @a_copy := by
  delta aq_copy
  simp only [aq_min_e, aq_rngK_e, aq_less_e, aq_ent_e, aq_uniF_e, aq_accsF_e, aq_mod_e, aq_flt_e, aq_fkeep_e, aq_okeepR_e, aq_sum_e, aq_carryK_e, a_leZ_q, a_eqZ_q, a_aq, a_oq, a_nq]
  try simp only [a_cqx]
  rfl
noncomputable def aq_call (nx mi n : Nat) (c : Int) (w : Nat) (q : aQ) (L : aL) (S : List aV) : Option (List aOut) := match a_take n S [] with
  | some (as, S) => (Bool.rec (motive := fun _ => _) none (some [.inr (.inr (mi, as, nx, q, L, S))]) ((Bool.rec (motive := fun _ => Bool) false (((Bool.rec (motive := fun _ => Bool) false (((Bool.rec (motive := fun _ => Bool) ((match as with
    | v :: _ => (Bool.rec (motive := fun _ => Bool) false (((Bool.rec (motive := fun _ => Bool) false (a_isO c.toNat v.2.2) (a_isC v)))) (Nat.beq v.1 2))
    | [] => false)) true ((a_ltZ (c) (0)))))) (Nat.ble (aq_sum as) w)))) (Nat.ble (aq_sum S) 8))))
  | none => none
theorem aq_call_e : @aq_call = @a_call := by
  delta aq_call
  simp only [aq_sum_e, a_ltZ_q, a_aq, a_oq, a_nq]
  try simp only [a_cqx]
  rfl
noncomputable def aq_ret (b c : Nat) (q : aQ) (S : List aV) : Option (List aOut) := match b, S with
  | 0, [] => some [.inl (q, none)]
  | 1, [v] => aq_rngK q.2.1 v (fun lo hi => (Bool.rec (motive := fun _ => _) none (some [.inl (q, some v)]) ((Bool.rec (motive := fun _ => Bool) false (Nat.beq v.1 0) (aq_fitc c v lo hi)))))
  | 2, [v] => (Bool.rec (motive := fun _ => _) none (some [.inl (q, some v)]) (Nat.beq v.1 1))
  | _, _ => none
theorem aq_ret_e : @aq_ret = @a_ret := by
  delta aq_ret
  simp only [aq_rngK_e, aq_fitc_e, a_aq, a_oq, a_nq]
  try simp only [a_cqx]
  rfl
noncomputable def aqiR (G : aG) (m : aM) (i : zX) (q : aQ) (L : aL) (S : List aV) : Option (List aOut) := match i with
  | (0, nx, a, _, z, _) => a_push nx L S q (a, 0, z)
  | (1, nx, _, _, _, _) => a_go nx L S q
  | (2, nx, a, b, _, _) => aq_load nx a b q L S
  | (3, nx, a, b, _, _) => aq_store1 nx a b q L S
  | (4, nx, a, _, _, _) => aq_store2 nx a q L S
  | (5, nx, a, _, z, _) => aq_iinc nx a z q L S
  | (6, nx, _, b, _, _) => aq_un32 nx b q L S
  | (7, nx, _, b, _, _) => aq_bin32 nx b q L S
  | (8, nx, _, b, _, _) => aq_div32 nx b q L S
  | (9, nx, _, _, _, _) => aq_neg64 nx q L S
  | (10, nx, _, b, _, _) => aq_bin64 nx b q L S
  | (11, nx, _, b, _, _) => aq_div64 nx b q L S
  | (12, nx, _, _, _, _) => aq_sh64 nx q L S
  | (13, nx, _, _, _, _) => aq_i2l nx q L S
  | (14, nx, _, _, _, _) => aq_l2i nx q L S
  | (15, nx, _, b, _, _) => aq_stk nx b q L S
  | (16, nx, a, b, _, _) => aq_if nx a b q L S
  | (17, nx, a, b, _, _) => aq_icmp nx a b q L S
  | (18, nx, _, _, _, _) => aq_lcmp nx q L S
  | (19, nx, _, _, _, cs) => aq_sw nx cs q L S
  | (20, nx, a, b, _, _) => aq_getf G nx a b q L S
  | (21, nx, a, b, z, _) => aq_putf G m nx a b z q L S
  | (22, nx, a, _, _, _) => aq_ald G nx a q L S
  | (23, nx, a, _, _, _) => aq_ast G m nx a q L S
  | (24, nx, _, _, _, _) => aq_alen G nx q L S
  | (25, nx, _, _, _, _) => aq_slen nx q L S
  | (26, nx, _, _, _, _) => aq_char nx q L S
  | (27, nx, _, b, _, _) => aq_math nx b q L S
  | (28, nx, a, _, _, _) => aq_copy G m nx a q L S
  | (29, nx, a, b, z, cs) => aq_call nx a b z (cs.head?.elim 0 (fun q => q.2)) q L S
  | (30, _, a, b, _, _) => aq_ret b a q S
  | _ => none
theorem aqiR_e : @aqiR = @aiR := by
  delta aqiR
  simp only [aq_load_e, aq_store1_e, aq_store2_e, aq_iinc_e, aq_un32_e, aq_bin32_e, aq_div32_e, aq_neg64_e, aq_bin64_e, aq_div64_e, aq_sh64_e, aq_i2l_e, aq_l2i_e, aq_stk_e, aq_if_e, aq_icmp_e, aq_lcmp_e, aq_sw_e, aq_getf_e, aq_putf_e, aq_ald_e, aq_ast_e, aq_alen_e, aq_slen_e, aq_char_e, aq_math_e, aq_copy_e, aq_call_e, aq_ret_e]
  rfl
noncomputable def aqi3 (G : aG) (m : aM) (i : zX) (q : aQ) (L : aL) (S : List aV) : Option (List aOut) := (Bool.rec (motive := fun _ => _) ((Bool.rec (motive := fun _ => _) ((Bool.rec (motive := fun _ => _) (aqiR G m i q L S) (aq_if i.2.1 i.2.2.1 i.2.2.2.1 q L S) (Nat.beq i.1 16))) (aq_ald G i.2.1 i.2.2.1 q L S) (Nat.beq i.1 22))) (aq_icmp i.2.1 i.2.2.1 i.2.2.2.1 q L S) (Nat.beq i.1 17))
theorem aqi3_e : @aqi3 = @ai3 := by
  delta aqi3
  simp only [aq_if_e, aq_icmp_e, aq_ald_e, aqiR_e]
  try simp only [a_cqx]
  rfl
noncomputable def aqi2 (G : aG) (m : aM) (i : zX) (q : aQ) (L : aL) (S : List aV) : Option (List aOut) := (Bool.rec (motive := fun _ => _) ((Bool.rec (motive := fun _ => _) ((Bool.rec (motive := fun _ => _) (aqi3 G m i q L S) (a_go i.2.1 L S q) (Nat.beq i.1 1))) (aq_ast G m i.2.1 i.2.2.1 q L S) (Nat.beq i.1 23))) (aq_ret i.2.2.2.1 i.2.2.1 q S) (Nat.beq i.1 30))
theorem aqi2_e : @aqi2 = @ai2 := by
  delta aqi2
  simp only [aq_ast_e, aq_ret_e, aqi3_e]
  try simp only [a_cqx]
  rfl
noncomputable def aqi1 (G : aG) (m : aM) (i : zX) (q : aQ) (L : aL) (S : List aV) : Option (List aOut) := (Bool.rec (motive := fun _ => _) ((Bool.rec (motive := fun _ => _) (aqi2 G m i q L S) (aq_bin32 i.2.1 i.2.2.2.1 q L S) (Nat.beq i.1 7))) (aq_getf G i.2.1 i.2.2.1 i.2.2.2.1 q L S) (Nat.beq i.1 20))
theorem aqi1_e : @aqi1 = @ai1 := by
  delta aqi1
  simp only [aq_bin32_e, aq_getf_e, aqi2_e]
  try simp only [a_cqx]
  rfl
noncomputable def aqi (G : aG) (m : aM) (i : zX) (q : aQ) (L : aL) (S : List aV) : Option (List aOut) := (Bool.rec (motive := fun _ => _) ((Bool.rec (motive := fun _ => _) (aqi1 G m i q L S) (a_push i.2.1 L S q (i.2.2.1, 0, i.2.2.2.2.1)) (Nat.beq i.1 0))) (aq_load i.2.1 i.2.2.1 i.2.2.2.1 q L S) (Nat.beq i.1 2))
theorem aqi_e : @aqi = @ai := by
  delta aqi
  simp only [aq_load_e, aqi1_e]
  try simp only [a_cqx]
  rfl
