theorem aq_shiftK_e : @aq_shiftK = @a_shiftK := by
  delta aq_shiftK
  simp only [aq_rngK_e, aq_in_e]
  try simp only [a_cqx]
  rfl
noncomputable def aq_addK {β : Type} (t : Nat) (q : aQ) (x y : aV) (f : aQ → aV → Option β) : Option β := (Bool.rec (motive := fun _ => _) ((Bool.rec (motive := fun _ => _) (aq_rngK q.2.1 x (fun lx hx => aq_rngK q.2.1 y (fun ly hy => (Bool.rec (motive := fun _ => _) (a_anyK t q f) (a_linK t (lx + ly) (hx + hy) q (a_tm 1 x ++ a_tm 1 y) (a_tm (-1) x ++ a_tm (-1) y) (x.2.2 + y.2.2) f) (aq_in t (lx + ly) (hx + hy)))))) (aq_shiftK t q y x.2.2 f) (a_isC x))) (aq_shiftK t q x y.2.2 f) (a_isC y))
theorem aq_addK_e : @aq_addK = @a_addK := by
  delta aq_addK
  simp only [aq_rngK_e, aq_in_e, aq_shiftK_e]
  try simp only [a_cqx]
  rfl
noncomputable def aq_subK {β : Type} (t : Nat) (q : aQ) (x y : aV) (f : aQ → aV → Option β) : Option β := (Bool.rec (motive := fun _ => _) ((Bool.rec (motive := fun _ => _) (aq_rngK q.2.1 x (fun lx hx => aq_rngK q.2.1 y (fun ly hy => (Bool.rec (motive := fun _ => _) (a_anyK t q f) (a_linK t (lx - hy) (hx - ly) q (a_tm 1 x ++ a_tm (-1) y) (a_tm (-1) x ++ a_tm 1 y) (x.2.2 - y.2.2) f) (aq_in t (lx - hy) (hx - ly)))))) (aq_shiftK t q (t, 0, x.2.2) (-y.2.2) f) (Nat.beq x.2.1 y.2.1))) (aq_shiftK t q x (-y.2.2) f) (a_isC y))
theorem aq_subK_e : @aq_subK = @a_subK := by
  delta aq_subK
  simp only [aq_rngK_e, aq_in_e, aq_shiftK_e]
  try simp only [a_cqx]
  rfl
noncomputable def aq_scaleK {β : Type} (t : Nat) (q : aQ) (x : aV) (c : Int) (f : aQ → aV → Option β) : Option β := (Bool.rec (motive := fun _ => _) (aq_rngK q.2.1 x (fun lo hi => (Bool.rec (motive := fun _ => _) (a_anyK t q f) (x_kZ (-c) (fun nc => a_linK t (lo * c) (hi * c) q (a_tm c x) (a_tm nc x) (c * x.2.2) f)) ((Bool.rec (motive := fun _ => Bool) false (aq_in t (lo * c) (hi * c)) ((a_leZ (0) (c)))))))) (x_kZ (x.2.2 * c) (fun w => f q (t, 0, w))) ((Bool.rec (motive := fun _ => Bool) false (aq_in t (x.2.2 * c) (x.2.2 * c)) (a_isC x))))
theorem aq_scaleK_e : @aq_scaleK = @a_scaleK := by
  delta aq_scaleK
  simp only [aq_rngK_e, aq_in_e, a_leZ_q, a_aq, a_oq, a_nq]
  try simp only [a_cqx]
  rfl
noncomputable def aq_mulK {β : Type} (t : Nat) (q : aQ) (x y : aV) (f : aQ → aV → Option β) : Option β := (Bool.rec (motive := fun _ => _) ((Bool.rec (motive := fun _ => _) (aq_rngK q.2.1 x (fun lx hx => aq_rngK q.2.1 y (fun ly hy => (Bool.rec (motive := fun _ => _) (a_anyK t q f) (a_newK t (lx * ly) (hx * hy) q f) ((Bool.rec (motive := fun _ => Bool) false (((Bool.rec (motive := fun _ => Bool) false (aq_in t 0 (hx * hy)) ((a_leZ (0) (ly)))))) ((a_leZ (0) (lx))))))))) (aq_scaleK t q y x.2.2 f) (a_isC x))) (aq_scaleK t q x y.2.2 f) (a_isC y))
theorem aq_mulK_e : @aq_mulK = @a_mulK := by
  delta aq_mulK
  simp only [aq_rngK_e, aq_in_e, aq_scaleK_e, a_leZ_q, a_aq, a_oq, a_nq]
  try simp only [a_cqx]
  rfl
noncomputable def aq_andK {β : Type} (t : Nat) (q : aQ) (x y : aV) (f : aQ → aV → Option β) : Option β := aq_rngK q.2.1 x (fun lx hx => aq_rngK q.2.1 y (fun ly hy => (Bool.rec (motive := fun _ => _) (a_anyK t q f) ((Bool.rec (motive := fun _ => _) ((Bool.rec (motive := fun _ => _) (a_anyK t q f) (a_newK t 0 hx q f) ((a_leZ (0) (lx))))) ((Bool.rec (motive := fun _ => _) (a_newK t 0 hy q f) ((Bool.rec (motive := fun _ => _) (a_newK t 0 (aq_min hx hy) q f) (x_kN (Nat.land lx.toNat ly.toNat) (fun w => f q (t, 0, Int.ofNat w))) ((Bool.rec (motive := fun _ => Bool) false ((a_eqZ (ly) (hy))) ((a_eqZ (lx) (hx))))))) ((a_leZ (0) (lx))))) ((a_leZ (0) (ly))))) ((Bool.rec (motive := fun _ => Bool) false (aq_in t ly hy) (aq_in t lx hx))))))
theorem aq_andK_e : @aq_andK = @a_andK := by
  delta aq_andK
  simp only [aq_min_e, aq_rngK_e, aq_in_e, a_leZ_q, a_eqZ_q, a_aq, a_oq, a_nq]
  try simp only [a_cqx]
  rfl
noncomputable def aq_shrK {β : Type} (q : aQ) (x y : aV) (f : aQ → aV → Option β) : Option β := aq_rngK q.2.1 x (fun lx hx => (Bool.rec (motive := fun _ => _) (a_anyK 0 q f) (a_newK 0 (lx / Int.ofNat (Nat.pow 2 y.2.2.toNat)) (hx / Int.ofNat (Nat.pow 2 y.2.2.toNat)) q f) ((Bool.rec (motive := fun _ => Bool) false (((Bool.rec (motive := fun _ => Bool) false (((Bool.rec (motive := fun _ => Bool) false (((Bool.rec (motive := fun _ => Bool) false (aq_in 0 lx hx) ((a_leZ (0) (lx)))))) ((a_ltZ (y.2.2) (32)))))) ((a_leZ (0) (y.2.2)))))) (a_isC y)))))
theorem aq_shrK_e : @aq_shrK = @a_shrK := by
  delta aq_shrK
  simp only [aq_rngK_e, aq_in_e, a_leZ_q, a_ltZ_q, a_aq, a_oq, a_nq]
  try simp only [a_cqx]
  rfl
noncomputable def aq_divK {β : Type} (t : Nat) (q : aQ) (x y : aV) (f : aQ → aV → Option β) : Option β := aq_rngK q.2.1 x (fun lx hx => aq_rngK q.2.1 y (fun ly hy => (Bool.rec (motive := fun _ => _) ((Bool.rec (motive := fun _ => _) none (a_anyK t q f) ((Bool.rec (motive := fun _ => Bool) ((a_leZ (hy) (-1))) true ((a_leZ (1) (ly))))))) (a_newK t (lx / hy) (hx / ly) q f) ((Bool.rec (motive := fun _ => Bool) false (((Bool.rec (motive := fun _ => Bool) false (((Bool.rec (motive := fun _ => Bool) false (aq_in t ly hy) (aq_in t lx hx)))) ((a_leZ (0) (lx)))))) ((a_leZ (1) (ly))))))))
theorem aq_divK_e : @aq_divK = @a_divK := by
  delta aq_divK
  simp only [aq_rngK_e, aq_in_e, a_leZ_q, a_aq, a_oq, a_nq]
  try simp only [a_cqx]
  rfl
noncomputable def aq_rem32K {β : Type} (q : aQ) (x y : aV) (f : aQ → aV → Option β) : Option β := aq_rngK q.2.1 x (fun lx hx => aq_rngK q.2.1 y (fun ly hy => (Bool.rec (motive := fun _ => _) ((Bool.rec (motive := fun _ => _) none (a_anyK 0 q f) ((Bool.rec (motive := fun _ => Bool) ((a_leZ (hy) (-1))) true ((a_leZ (1) (ly))))))) ((Bool.rec (motive := fun _ => _) (a_newK 0 (1 - hy) (hy - 1) q f) ((Bool.rec (motive := fun _ => _) (a_newK 0 0 (aq_min hx (hy - 1)) q f) (x_kZ (lx % ly) (fun w => f q (0, 0, w))) ((Bool.rec (motive := fun _ => Bool) false ((a_eqZ (ly) (hy))) ((a_eqZ (lx) (hx))))))) ((a_leZ (0) (lx))))) ((Bool.rec (motive := fun _ => Bool) false (((Bool.rec (motive := fun _ => Bool) false (aq_in 0 ly hy) (aq_in 0 lx hx)))) ((a_leZ (1) (ly))))))))
theorem aq_rem32K_e : @aq_rem32K = @a_rem32K := by
  delta aq_rem32K
  simp only [aq_min_e, aq_rngK_e, aq_in_e, a_leZ_q, a_eqZ_q, a_aq, a_oq, a_nq]
  try simp only [a_cqx]
  rfl
noncomputable def aq_rem64K {β : Type} (q : aQ) (x y : aV) (f : aQ → aV → Option β) : Option β := aq_rngK q.2.1 x (fun lx hx => aq_rngK q.2.1 y (fun ly hy => (Bool.rec (motive := fun _ => _) none ((Bool.rec (motive := fun _ => _) ((Bool.rec (motive := fun _ => _) none (x_spine (a_tm 1 y) (fun ty => x_kZ (-y.2.2 - 1) (fun b => a_newK 1 ((Bool.rec (motive := fun _ => _) (ly + 1) 0 ((a_leZ (0) (lx))))) ((Bool.rec (motive := fun _ => _) (-ly - 1) 0 ((a_leZ (hx) (0))))) q (fun q' v => f (a_fact (a_fact q' ((1, q.1) :: ty, b)) ((-1, q.1) :: ty, b)) v)))) ((a_leZ (hy) (-1))))) (x_spine (a_tm (-1) y) (fun ty => x_kZ (y.2.2 - 1) (fun b => a_newK 1 ((Bool.rec (motive := fun _ => _) (1 - hy) 0 ((a_leZ (0) (lx))))) ((Bool.rec (motive := fun _ => _) (hy - 1) 0 ((a_leZ (hx) (0))))) q (fun q' v => f (a_fact (a_fact q' ((1, q.1) :: ty, b)) ((-1, q.1) :: ty, b)) v)))) ((a_leZ (1) (ly))))) ((Bool.rec (motive := fun _ => Bool) false (aq_in 1 ly hy) (aq_in 1 lx hx))))))
theorem aq_rem64K_e : @aq_rem64K = @a_rem64K := by
  delta aq_rem64K
  simp only [aq_rngK_e, aq_in_e, a_leZ_q, a_aq, a_oq, a_nq]
  try simp only [a_cqx]
  rfl
noncomputable def aq_negK {β : Type} (t : Nat) (q : aQ) (x : aV) (f : aQ → aV → Option β) : Option β := aq_rngK q.2.1 x (fun lx hx => (Bool.rec (motive := fun _ => _) (a_anyK t q f) (a_newK t (-hx) (-lx) q f) (aq_in t (-hx) (-lx))))
