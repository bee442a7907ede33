theorem aq_okeep_e : @aq_okeep = @a_okeep := by
  delta aq_okeep
  simp only [aq_rngK_e, a_ltZ_q, a_eqZ_q, a_aq, a_oq, a_nq]
  rfl
noncomputable def aq_okeepR (E : aB) (r : Nat) (lo hi : Int) (e : (Nat × Nat × Int) × aV) : Bool := (Bool.rec (motive := fun _ => Bool) ((match aq_rngK E (0, e.1.2) (fun l h => some ((Bool.rec (motive := fun _ => Bool) ((a_ltZ (hi) (l))) true ((a_ltZ (h) (lo)))))) with
  | some b => b
  | none => false)) true ((Bool.rec (motive := fun _ => Bool) true false ((Nat.beq e.1.1 r)))))
theorem aq_okeepR_e : @aq_okeepR = @a_okeepR := by
  delta aq_okeepR
  simp only [aq_rngK_e, a_ltZ_q, a_aq, a_oq, a_nq]
  rfl
noncomputable def aq_readK (t : aT) (q : aQ) (k : Nat × Nat × Int) (f : aQ → aV → Option (List aOut)) : Option (List aOut) := match t.1 with
  | 0 => a_newK 0 t.2.1 t.2.2.1 q (fun q v => f (a_addO q (k, v)) v)
  | 1 => a_newK 1 t.2.1 t.2.2.1 q (fun q v => f (a_addO q (k, v)) v)
  | 2 => List.rec (motive := fun _ => Option (List aOut)) (some []) (fun z _ ih => a_app ((Bool.rec (motive := fun _ => _) (f (a_addO q (k, (2, 0, z))) (2, 0, z)) (f (a_addO q (k, (4, 0, 0))) (4, 0, 0)) ((a_eqZ (z) (-1))))) ih) t.2.2.2
  | _ => none
theorem aq_readK_e : @aq_readK = @a_readK := by
  delta aq_readK
  simp only [a_eqZ_q]
  try simp only [a_cqx]
  rfl
noncomputable def aq_anyO (p : (Nat × Nat × Int) × aV → Bool) (O : aO) : Bool := List.rec (motive := fun _ => Bool) false (fun e _ ih => (Bool.rec (motive := fun _ => Bool) (ih) true (p e))) O
theorem aq_anyO_e : @aq_anyO = @a_anyO := by
  delta aq_anyO
  simp only [a_aq, a_oq, a_nq]
  rfl
noncomputable def aq_sameV (v w : aV) : Bool := (Bool.rec (motive := fun _ => Bool) false (((Bool.rec (motive := fun _ => Bool) false ((a_eqZ (v.2.2) (w.2.2))) (Nat.beq v.2.1 w.2.1)))) (Nat.beq v.1 w.1))
theorem aq_sameV_e : @aq_sameV = @a_sameV := by
  delta aq_sameV
  simp only [a_eqZ_q, a_aq, a_oq, a_nq]
  rfl
noncomputable def aq_soI (B : Nat) (lo hi : Int) : Bool := (Bool.rec (motive := fun _ => Bool) (((Bool.rec (motive := fun _ => Bool) false ((a_leZ (hi) (Int.ofNat (B + 262)))) ((a_leZ (Int.ofNat (B + 257)) (lo)))))) true (((Bool.rec (motive := fun _ => Bool) false ((a_leZ (hi) (Int.ofNat (B + 250)))) ((a_leZ (Int.ofNat (B + 245)) (lo)))))))
theorem aq_soI_e : @aq_soI = @a_soI := by
  delta aq_soI
  simp only [a_leZ_q, a_aq, a_oq, a_nq]
  rfl
noncomputable def aq_soA (q : aQ) (B : Nat) (vh : Int) : Bool := match aq_oget q.2.2.2.1 126 0 (Int.ofNat B), aq_oget q.2.2.2.1 126 0 (Int.ofNat (B + 1)) with
  | some c, some d => (match aq_rngK q.2.1 c (fun cl _ => aq_rngK q.2.1 d (fun dl _ => some ((Bool.rec (motive := fun _ => Bool) false (((Bool.rec (motive := fun _ => Bool) false ((a_ltZ (vh) (cl * dl))) ((a_leZ (0) (dl)))))) ((a_leZ (0) (cl))))))) with
    | some b => b
    | none => false)
  | _, _ => false
theorem aq_soA_e : @aq_soA = @a_soA := by
  delta aq_soA
  simp only [aq_rngK_e, aq_oget_e, a_leZ_q, a_ltZ_q, a_aq, a_oq, a_nq]
  rfl
noncomputable def aq_soB (q : aQ) (B : Nat) (v : aV) : Bool := aq_anyO (fun e => (Bool.rec (motive := fun _ => Bool) false (((Bool.rec (motive := fun _ => Bool) false ((match aq_rngK q.2.1 (0, e.1.2) (fun l h => some (aq_soI B l h)) with
  | some b => b
  | none => false)) (aq_sameV e.2 v)))) (Nat.beq e.1.1 126))) q.2.2.2.1
theorem aq_soB_e : @aq_soB = @a_soB := by
  delta aq_soB
  simp only [aq_rngK_e, aq_anyO_e, aq_sameV_e, aq_soI_e, a_aq, a_oq, a_nq]
  rfl
noncomputable def aq_soC (q : aQ) (B : Nat) (v : aV) : Bool := (Bool.rec (motive := fun _ => Bool) false (((Bool.rec (motive := fun _ => Bool) false ((match aq_oget q.2.2.2.1 121 0 31 with
  | some w => aq_anyO (fun e => (Bool.rec (motive := fun _ => Bool) false (((Bool.rec (motive := fun _ => Bool) false (((Bool.rec (motive := fun _ => Bool) false (aq_leq q (0, e.1.2) w (-1)) ((match aq_rngK q.2.1 (0, e.1.2) (fun _ h => some ((a_ltZ (h) (49)))) with
    | some b => b
    | none => false))))) (aq_sameV e.2 v)))) (Nat.beq e.1.1 132))) q.2.2.2.1
  | none => false)) (aq_memF 351 q.2.2.2.2)))) (Nat.beq B 0))
theorem aq_soC_e : @aq_soC = @a_soC := by
  delta aq_soC
  simp only [aq_rngK_e, aq_leq_e, aq_memF_e, aq_oget_e, aq_anyO_e, aq_sameV_e, a_ltZ_q, a_aq, a_oq, a_nq]
  rfl
noncomputable def aq_soft (q : aQ) (r : Nat) (lo hi : Int) (v : aV) (vh : Int) (j : Nat) : Bool := (Bool.rec (motive := fun _ => Bool) false (((Bool.rec (motive := fun _ => Bool) false (((Bool.rec (motive := fun _ => Bool) false (((Bool.rec (motive := fun _ => Bool) false (a_bN (550 * (j - 345)) (fun B => (Bool.rec (motive := fun _ => Bool) false (((Bool.rec (motive := fun _ => Bool) (((Bool.rec (motive := fun _ => Bool) (aq_soC q B v) true (aq_soB q B v)))) true (aq_soA q B vh)))) (aq_soI B lo hi)))) (Nat.beq v.1 0)))) (Nat.beq r 126)))) (Nat.blt j 350)))) (Nat.blt 344 j))
theorem aq_soft_e : @aq_soft = @a_soft := by
  delta aq_soft
  simp only [aq_soI_e, aq_soA_e, aq_soB_e, aq_soC_e, a_aq, a_oq, a_nq]
  rfl
noncomputable def aq_wrK {β : Type} (G : aG) (m : aM) (q : aQ) (r s : Nat) (o lo hi : Int) (v : aV) (l : aTc) (f : aQ → Option β) : Option β := aq_rngK q.2.1 v (fun vl vh => (Bool.rec (motive := fun _ => _) none (x_spine (aq_flt (aq_okeep q.2.1 r s o lo hi) q.2.2.2.1) (fun O => x_spine (aq_flt (fun j => (Bool.rec (motive := fun _ => Bool) (aq_soft q r lo hi v vh j) true (aq_fkeep G.2.1 r lo hi j))) q.2.2.2.2) (fun fl => f (q.1, q.2.1, q.2.2.1, ((r, s, o), v) :: O, fl)))) ((Bool.rec (motive := fun _ => Bool) false (aq_mod m r lo hi) (aq_accsF lo hi v vl vh l)))))
