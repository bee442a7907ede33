theorem aq_joinO_e : @aq_joinO = @a_joinO := by
  delta aq_joinO
  simp only [aq_join_e]
  rfl
noncomputable def aq_uniC (lo hi : Nat) (l : aTc) : Nat → Option aT := List.rec (motive := fun _ => Nat → Option aT) (fun p => (Bool.rec (motive := fun _ => _) (some (9, 0, 0, [])) none (Nat.blt hi p))) (fun s _ ih p => x_kN (p + s.1) (fun p' => (Bool.rec (motive := fun _ => _) ((Bool.rec (motive := fun _ => _) ((Bool.rec (motive := fun _ => _) (aq_joinO (x_kN (p' - 1) (fun u => aq_uniN lo u s.2 p)) (ih p')) (aq_uniN lo hi s.2 p) (Nat.blt hi p'))) none (Nat.blt hi p))) (ih p') (Nat.ble p' lo)))) l
theorem aq_uniC_e : @aq_uniC = @a_uniC := by
  delta aq_uniC
  simp only [aq_uniN_e, aq_joinO_e]
  try simp only [a_cqx]
  rfl
noncomputable def aq_uniF (lo hi : Int) (l : aTc) : Option aT := (Bool.rec (motive := fun _ => _) none (x_kN lo.toNat (fun lo => x_kN hi.toNat (fun hi => aq_uniC lo hi l 0))) ((Bool.rec (motive := fun _ => Bool) false ((a_leZ (0) (hi))) ((a_leZ (0) (lo))))))
theorem aq_uniF_e : @aq_uniF = @a_uniF := by
  delta aq_uniF
  simp only [aq_uniC_e, a_leZ_q, a_aq, a_oq, a_nq]
  try simp only [a_cqx]
  rfl
noncomputable def aq_accsN (lo hi : Nat) (v : aV) (vl vh : Int) (l : List (Nat × aT)) : Nat → Bool := List.rec (motive := fun _ => Nat → Bool) (fun _ => true) (fun s _ ih p => (Bool.rec (motive := fun _ => _) (a_bN (p + s.1) (fun p' => (Bool.rec (motive := fun _ => Bool) false (ih p') (((Bool.rec (motive := fun _ => Bool) (aq_acc s.2 v vl vh) true (Nat.ble p' lo))))))) true (Nat.blt hi p))) l
theorem aq_accsN_e : @aq_accsN = @a_accsN := by
  delta aq_accsN
  simp only [aq_acc_e, a_aq, a_oq, a_nq]
  try simp only [a_cqx]
  rfl
noncomputable def aq_accsC (lo hi : Nat) (v : aV) (vl vh : Int) (l : aTc) : Nat → Bool := List.rec (motive := fun _ => Nat → Bool) (fun _ => true) (fun s _ ih p => (Bool.rec (motive := fun _ => _) (a_bN (p + s.1) (fun p' => (Bool.rec (motive := fun _ => Bool) false (ih p') (((Bool.rec (motive := fun _ => Bool) (aq_accsN lo hi v vl vh s.2 p) true (Nat.ble p' lo))))))) true (Nat.blt hi p))) l
theorem aq_accsC_e : @aq_accsC = @a_accsC := by
  delta aq_accsC
  simp only [aq_accsN_e, a_aq, a_oq, a_nq]
  try simp only [a_cqx]
  rfl
noncomputable def aq_accsF (lo hi : Int) (v : aV) (vl vh : Int) (l : aTc) : Bool := cond ((a_leZ (0) (hi))) (cond ((a_leZ (0) (lo))) (a_bN lo.toNat (fun lo => a_bN hi.toNat (fun hi => aq_accsC lo hi v vl vh l 0))) false) true
theorem aq_accsF_e : @aq_accsF = @a_accsF := by
  delta aq_accsF
  simp only [aq_accsC_e, a_leZ_q]
  rfl
noncomputable def aq_mod (m : aM) (r : Nat) (lo hi : Int) : Bool := List.rec (motive := fun _ => Bool) false (fun q _ ih => (Bool.rec (motive := fun _ => Bool) (ih) true (((Bool.rec (motive := fun _ => Bool) false (((Bool.rec (motive := fun _ => Bool) false ((a_leZ (hi) (Int.ofNat q.2.2))) ((a_leZ (Int.ofNat q.2.1) (lo)))))) (Nat.beq q.1 r)))))) m
theorem aq_mod_e : @aq_mod = @a_mod := by
  delta aq_mod
  simp only [a_leZ_q, a_aq, a_oq, a_nq]
  rfl
noncomputable def aq_hits (m : aM) (r : Nat) (lo hi : Int) : Bool := List.rec (motive := fun _ => Bool) false (fun q _ ih => (Bool.rec (motive := fun _ => Bool) (ih) true (((Bool.rec (motive := fun _ => Bool) false (((Bool.rec (motive := fun _ => Bool) false ((a_leZ (Int.ofNat q.2.1) (hi))) ((a_leZ (lo) (Int.ofNat q.2.2)))))) (Nat.beq q.1 r)))))) m
theorem aq_hits_e : @aq_hits = @a_hits := by
  delta aq_hits
  simp only [a_leZ_q, a_aq, a_oq, a_nq]
  rfl
noncomputable def aq_flt {α : Type} (f : α → Bool) (l : List α) : List α := List.rec (motive := fun _ => List α) [] (fun a _ ih => (Bool.rec (motive := fun _ => _) ih (a :: ih) (f a))) l
theorem aq_flt_e : @aq_flt = @a_flt := by
  delta aq_flt
  try simp only [a_cqx]
  rfl
noncomputable def aq_fkeep (sup : List (List aM)) (r : Nat) (lo hi : Int) (j : Nat) : Bool := match a_at sup j with
  | some m => (Bool.rec (motive := fun _ => Bool) true false ((aq_hits m r lo hi)))
  | none => false
theorem aq_fkeep_e : @aq_fkeep = @a_fkeep := by
  delta aq_fkeep
  simp only [aq_hits_e, a_aq, a_oq, a_nq]
  rfl
noncomputable def aq_okeep (E : aB) (r s : Nat) (o lo hi : Int) (e : (Nat × Nat × Int) × aV) : Bool := (Bool.rec (motive := fun _ => Bool) (((Bool.rec (motive := fun _ => Bool) ((match aq_rngK E (0, e.1.2) (fun l h => some ((Bool.rec (motive := fun _ => Bool) ((a_ltZ (hi) (l))) true ((a_ltZ (h) (lo)))))) with
  | some b => b
  | none => false)) true (((Bool.rec (motive := fun _ => Bool) false ((Bool.rec (motive := fun _ => Bool) true false (((a_eqZ (e.1.2.2) (o)))))) (Nat.beq e.1.2.1 s))))))) true ((Bool.rec (motive := fun _ => Bool) true false ((Nat.beq e.1.1 r)))))
