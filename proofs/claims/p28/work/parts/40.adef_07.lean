noncomputable def ai (G : aG) (m : aM) (i : zX) (q : aQ) (L : aL) (S : List aV) : Option (List aOut) := cond (Nat.beq i.1 2) (a_load i.2.1 i.2.2.1 i.2.2.2.1 q L S) (cond (Nat.beq i.1 0) (a_push i.2.1 L S q (i.2.2.1, 0, i.2.2.2.2.1)) (ai1 G m i q L S))
theorem a_cqx {α : Type} (b : Bool) (x y : α) : (Bool.rec (motive := fun _ => α) y x b) = cond b x y := by cases b <;> rfl
theorem a_aq (a b : Bool) : (Bool.rec (motive := fun _ => Bool) false b a) = (a && b) := by cases a <;> rfl
theorem a_oq (a b : Bool) : (Bool.rec (motive := fun _ => Bool) b true a) = (a || b) := by cases a <;> rfl
theorem a_nq (a : Bool) : (Bool.rec (motive := fun _ => Bool) true false a) = !a := by cases a <;> rfl
noncomputable def a_ltZ (a b : Int) : Bool := Bool.rec (motive := fun _ => Bool) true false (a_leZ b a)
theorem a_leZ_q (a b : Int) : a_leZ a b = @decide (a ≤ b) (a_decLe a b) := by
  cases e : a_leZ a b with
  | true => exact (@decide_eq_true _ (a_decLe a b) (a_leZ_true e)).symm
  | false => exact (@decide_eq_false _ (a_decLe a b) (a_leZ_false e)).symm
theorem a_eqZ_q (a b : Int) : a_eqZ a b = @decide (a = b) (a_decEqZ a b) := by
  cases e : a_eqZ a b with
  | true => exact (@decide_eq_true _ (a_decEqZ a b) (a_eqZ_true e)).symm
  | false => exact (@decide_eq_false _ (a_decEqZ a b) (fun c => by rw [c, a_eqZ_self] at e; cases e)).symm
theorem a_ltZ_q (a b : Int) : a_ltZ a b = @decide (a < b) (a_decLt a b) := by
  unfold a_ltZ
  cases e : a_leZ b a with
  | true => exact (@decide_eq_false _ (a_decLt a b) (fun c => absurd (a_leZ_true e) (Int.not_le.mpr c))).symm
  | false => exact (@decide_eq_true _ (a_decLt a b) (Int.not_le.mp (a_leZ_false e))).symm
noncomputable def aq_min (a b : Int) : Int := (Bool.rec (motive := fun _ => _) b a ((a_leZ (a) (b))))
theorem aq_min_e : @aq_min = @a_min := by
  delta aq_min
  simp only [a_leZ_q]
  try simp only [a_cqx]
  rfl
noncomputable def aq_max (a b : Int) : Int := (Bool.rec (motive := fun _ => _) a b ((a_leZ (a) (b))))
theorem aq_max_e : @aq_max = @a_max := by
  delta aq_max
  simp only [a_leZ_q]
  try simp only [a_cqx]
  rfl
noncomputable def aq_get (E : aB) (i : Nat) : Option (Int × Int) := List.rec (motive := fun _ => Option (Int × Int)) none (fun q _ ih => (Bool.rec (motive := fun _ => _) ih (some q.2) (Nat.beq q.1 i))) E
theorem aq_get_e : @aq_get = @a_get := by
  delta aq_get
  try simp only [a_cqx]
  rfl
noncomputable def aq_rngK {β : Type} (E : aB) (v : aV) (f : Int → Int → Option β) : Option β := Nat.rec (motive := fun _ => Option β) (f v.2.2 v.2.2) (fun i _ => match aq_get E i with
  | some q => x_kZ (q.1 + v.2.2) (fun lo => x_kZ (q.2 + v.2.2) (fun hi => f lo hi))
  | none => none) v.2.1
theorem aq_rngK_e : @aq_rngK = @a_rngK := by
  delta aq_rngK
  simp only [aq_get_e]
  rfl
noncomputable def aq_in (t : Nat) (lo hi : Int) : Bool := (Bool.rec (motive := fun _ => Bool) false ((a_leZ (hi) (a_hi t))) ((a_leZ (a_lo t) (lo))))
theorem aq_in_e : @aq_in = @a_in := by
  delta aq_in
  simp only [a_leZ_q, a_aq, a_oq, a_nq]
  rfl
noncomputable def aq_shiftK {β : Type} (t : Nat) (q : aQ) (x : aV) (c : Int) (f : aQ → aV → Option β) : Option β := aq_rngK q.2.1 x (fun lo hi => (Bool.rec (motive := fun _ => _) (a_anyK t q f) (x_kZ (x.2.2 + c) (fun o => f q (t, x.2.1, o))) (aq_in t (lo + c) (hi + c))))
