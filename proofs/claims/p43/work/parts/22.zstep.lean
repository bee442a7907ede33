/-! THE CONCRETE MACHINE'S STEPS HOLD: what is found on the stack -/
section ZINV
variable {P : zP} {h : zH} {L : zL} {S : List zV} {o : zO} {stk : List Value} {nx : Nat}
theorem zv_un32 {b : Nat} (ho : z_un32 nx b (h, L, S) = some o) (jS : zdens P S stk) : ∃ (x : Int32) (S' : List zV) (stk' : List Value), stk = .int x :: stk' ∧ zdens P S' stk' ∧ o = .inr (.inl (nx, h, L, (0, (zu32 b x).toInt) :: S')) := by
  unfold z_un32 at ho
  split at ho
  · rename_i x S' hS
    dsimp only at hS
    subst hS
    match stk, jS with
    | _ :: stk, ⟨⟨a, rfl, e⟩, ds⟩ =>
      rw [← e, Int32.ofInt_toInt] at ho
      exact ⟨a, S', stk, rfl, ds, (Option.some.inj ho).symm⟩
  · cases ho
theorem zv_bin32 {b : Nat} (ho : z_bin32 nx b (h, L, S) = some o) (jS : zdens P S stk) : ∃ (y x : Int32) (S' : List zV) (stk' : List Value), stk = .int y :: .int x :: stk' ∧ zdens P S' stk' ∧ o = .inr (.inl (nx, h, L, (0, (zf32 b x y).toInt) :: S')) := by
  unfold z_bin32 at ho
  split at ho
  · rename_i y x S' hS
    dsimp only at hS
    subst hS
    match stk, jS with
    | _ :: _ :: stk, ⟨⟨a, rfl, e⟩, ⟨c, rfl, e2⟩, ds⟩ =>
      rw [← e, ← e2, Int32.ofInt_toInt, Int32.ofInt_toInt] at ho
      exact ⟨a, c, S', stk, rfl, ds, (Option.some.inj ho).symm⟩
  · cases ho
theorem zv_bin64 {b : Nat} (ho : z_bin64 nx b (h, L, S) = some o) (jS : zdens P S stk) : ∃ (y x : Int64) (S' : List zV) (stk' : List Value), stk = .long y :: .long x :: stk' ∧ zdens P S' stk' ∧ o = .inr (.inl (nx, h, L, (1, (zf64 b x y).toInt) :: S')) := by
  unfold z_bin64 at ho
  split at ho
  · rename_i y x S' hS
    dsimp only at hS
    subst hS
    match stk, jS with
    | _ :: _ :: stk, ⟨⟨a, rfl, e⟩, ⟨c, rfl, e2⟩, ds⟩ =>
      rw [← e, ← e2, Int64.ofInt_toInt, Int64.ofInt_toInt] at ho
      exact ⟨a, c, S', stk, rfl, ds, (Option.some.inj ho).symm⟩
  · cases ho
theorem zv_div32 {b : Nat} (ho : z_div32 nx b (h, L, S) = some o) (jS : zdens P S stk) : ∃ (y x : Int32) (S' : List zV) (stk' : List Value), ¬ y = 0 ∧ stk = .int y :: .int x :: stk' ∧ zdens P S' stk' ∧ o = .inr (.inl (nx, h, L, (0, (zd32 b x y).toInt) :: S')) := by
  unfold z_div32 at ho
  split at ho
  · rename_i y x S' hS
    dsimp only at hS
    subst hS
    match stk, jS with
    | _ :: _ :: stk, ⟨⟨a, rfl, e⟩, ⟨c, rfl, e2⟩, ds⟩ =>
      rw [← e, ← e2, Int32.ofInt_toInt, Int32.ofInt_toInt] at ho
      split at ho
      · cases ho
      · rename_i hne
        exact ⟨a, c, S', stk, fun q => hne (by rw [q]; rfl), rfl, ds, (Option.some.inj ho).symm⟩
  · cases ho
theorem zv_div64 {b : Nat} (ho : z_div64 nx b (h, L, S) = some o) (jS : zdens P S stk) : ∃ (y x : Int64) (S' : List zV) (stk' : List Value), ¬ y = 0 ∧ stk = .long y :: .long x :: stk' ∧ zdens P S' stk' ∧ o = .inr (.inl (nx, h, L, (1, (zd64 b x y).toInt) :: S')) := by
  unfold z_div64 at ho
  split at ho
  · rename_i y x S' hS
    dsimp only at hS
    subst hS
    match stk, jS with
    | _ :: _ :: stk, ⟨⟨a, rfl, e⟩, ⟨c, rfl, e2⟩, ds⟩ =>
      rw [← e, ← e2, Int64.ofInt_toInt, Int64.ofInt_toInt] at ho
      split at ho
      · cases ho
      · rename_i hne
        exact ⟨a, c, S', stk, fun q => hne (by rw [q]; rfl), rfl, ds, (Option.some.inj ho).symm⟩
  · cases ho
theorem zv_neg64 (ho : z_neg64 nx (h, L, S) = some o) (jS : zdens P S stk) : ∃ (x : Int64) (S' : List zV) (stk' : List Value), stk = .long x :: stk' ∧ zdens P S' stk' ∧ o = .inr (.inl (nx, h, L, (1, (-x).toInt) :: S')) := by
  unfold z_neg64 at ho
  split at ho
  · rename_i x S' hS
    dsimp only at hS
    subst hS
    match stk, jS with
    | _ :: stk, ⟨⟨a, rfl, e⟩, ds⟩ =>
      rw [← e, Int64.ofInt_toInt] at ho
      exact ⟨a, S', stk, rfl, ds, (Option.some.inj ho).symm⟩
  · cases ho
theorem zv_sh64 {b : Nat} (ho : z_sh64 nx b (h, L, S) = some o) (jS : zdens P S stk) : ∃ (y : Int32) (x : Int64) (S' : List zV) (stk' : List Value), stk = .int y :: .long x :: stk' ∧ zdens P S' stk' ∧ o = .inr (.inl (nx, h, L, (1, (zs64 b x y).toInt) :: S')) := by
  unfold z_sh64 at ho
  split at ho
  · rename_i y x S' hS
    dsimp only at hS
    subst hS
    match stk, jS with
    | _ :: _ :: stk, ⟨⟨a, rfl, e⟩, ⟨c, rfl, e2⟩, ds⟩ =>
      rw [← e, ← e2, Int32.ofInt_toInt, Int64.ofInt_toInt] at ho
      exact ⟨a, c, S', stk, rfl, ds, (Option.some.inj ho).symm⟩
  · cases ho
theorem zv_i2l (ho : z_i2l nx (h, L, S) = some o) (jS : zdens P S stk) : ∃ (x : Int32) (S' : List zV) (stk' : List Value), stk = .int x :: stk' ∧ zdens P S' stk' ∧ o = .inr (.inl (nx, h, L, (1, x.toInt64.toInt) :: S')) := by
  unfold z_i2l at ho
  split at ho
  · rename_i x S' hS
    dsimp only at hS
    subst hS
    match stk, jS with
    | _ :: stk, ⟨⟨a, rfl, e⟩, ds⟩ =>
      rw [← e] at ho
      exact ⟨a, S', stk, rfl, ds, by rw [Int32.toInt_toInt64]; exact (Option.some.inj ho).symm⟩
  · cases ho
theorem zv_l2i (ho : z_l2i nx (h, L, S) = some o) (jS : zdens P S stk) : ∃ (x : Int64) (S' : List zV) (stk' : List Value), stk = .long x :: stk' ∧ zdens P S' stk' ∧ o = .inr (.inl (nx, h, L, (0, x.toInt32.toInt) :: S')) := by
  unfold z_l2i at ho
  split at ho
  · rename_i x S' hS
    dsimp only at hS
    subst hS
    match stk, jS with
    | _ :: stk, ⟨⟨a, rfl, e⟩, ds⟩ =>
      rw [← e, Int64.ofInt_toInt] at ho
      exact ⟨a, S', stk, rfl, ds, (Option.some.inj ho).symm⟩
  · cases ho
theorem zv_lcmp (ho : z_lcmp nx (h, L, S) = some o) (jS : zdens P S stk) : ∃ (y x : Int64) (S' : List zV) (stk' : List Value), stk = .long y :: .long x :: stk' ∧ zdens P S' stk' ∧ o = .inr (.inl (nx, h, L, (0, (lg_cmp x y).toInt) :: S')) := by
  unfold z_lcmp at ho
  split at ho
  · rename_i y x S' hS
    dsimp only at hS
    subst hS
    match stk, jS with
    | _ :: _ :: stk, ⟨⟨a, rfl, e⟩, ⟨c, rfl, e2⟩, ds⟩ =>
      refine ⟨a, c, S', stk, rfl, ds, ?_⟩
      rw [← Option.some.inj ho, ← e, ← e2]
      congr 5
      unfold lg_cmp
      by_cases h1 : c > a
      · rw [if_pos h1, if_pos (by rwa [gt_iff_lt, Int64.lt_iff_toInt_lt] at h1)]
        rfl
      · rw [if_neg h1, if_neg (by rwa [gt_iff_lt, Int64.lt_iff_toInt_lt] at h1)]
        by_cases h2 : c = a
        · rw [if_pos h2, if_pos (by rw [h2])]
          rfl
        · rw [if_neg h2, if_neg (fun q => h2 (Int64.toInt_inj.mp q))]
          rfl
  · cases ho
theorem zv_if {a b : Nat} (ho : z_if nx a b (h, L, S) = some o) (jS : zdens P S stk) : ∃ (x : Int32) (S' : List zV) (stk' : List Value), stk = .int x :: stk' ∧ zdens P S' stk' ∧ o = .inr (.inl (if zrel b x.toInt 0 then a else nx, h, L, S')) := by
  unfold z_if at ho
  split at ho
  · rename_i x S' hS
    dsimp only at hS
    subst hS
    match stk, jS with
    | _ :: stk, ⟨⟨a, rfl, e⟩, ds⟩ =>
      rw [← e] at ho
      exact ⟨a, S', stk, rfl, ds, (Option.some.inj ho).symm⟩
  · cases ho
theorem zv_icmp {a b : Nat} (ho : z_icmp nx a b (h, L, S) = some o) (jS : zdens P S stk) : ∃ (y x : Int32) (S' : List zV) (stk' : List Value), stk = .int y :: .int x :: stk' ∧ zdens P S' stk' ∧ o = .inr (.inl (if zrel b x.toInt y.toInt then a else nx, h, L, S')) := by
  unfold z_icmp at ho
  split at ho
  · rename_i y x S' hS
    dsimp only at hS
    subst hS
    match stk, jS with
    | _ :: _ :: stk, ⟨⟨a, rfl, e⟩, ⟨c, rfl, e2⟩, ds⟩ =>
      rw [← e, ← e2] at ho
      exact ⟨a, c, S', stk, rfl, ds, (Option.some.inj ho).symm⟩
  · cases ho
theorem zv_sw {cs : List (Int × Nat)} (ho : z_sw nx cs (h, L, S) = some o) (jS : zdens P S stk) : ∃ (x : Int32) (S' : List zV) (stk' : List Value), stk = .int x :: stk' ∧ zdens P S' stk' ∧ o = .inr (.inl (zfind nx x.toInt cs, h, L, S')) := by
  unfold z_sw at ho
  split at ho
  · rename_i x S' hS
    dsimp only at hS
    subst hS
    match stk, jS with
    | _ :: stk, ⟨⟨a, rfl, e⟩, ds⟩ =>
      rw [← e] at ho
      exact ⟨a, S', stk, rfl, ds, (Option.some.inj ho).symm⟩
  · cases ho
theorem zv_load {i t : Nat} {lv : List (Nat × Value)} (ho : z_load nx i t (h, L, S) = some o) (jd : zldens P L lv) : ∃ a v, (i, v) ∈ lv ∧ zden P a v ∧ zkind a = t ∧ o = .inr (.inl (nx, h, L, a :: S)) := by
  unfold z_load at ho
  split at ho
  · rename_i a hg
    split at ho
    · rename_i hk
      obtain ⟨v, h2, h1⟩ := jd _ _ hg
      exact ⟨a, v, h2, h1, hk, (Option.some.inj ho).symm⟩
    · cases ho
  · cases ho
theorem zv_store1 {i t : Nat} (ho : z_store1 nx i t (h, L, S) = some o) (jS : zdens P S stk) : ∃ a v S' stk', stk = v :: stk' ∧ zden P a v ∧ zdens P S' stk' ∧ zkind a = t ∧ o = .inr (.inl (nx, h, zput1 L i a, S')) := by
  unfold z_store1 at ho
  split at ho
  · rename_i a S' hS
    dsimp only at hS
    subst hS
    match stk, jS with
    | v :: stk, ⟨d, ds⟩ =>
      split at ho
      · rename_i hk
        exact ⟨a, v, S', stk, rfl, d, ds, hk.1, (Option.some.inj ho).symm⟩
      · cases ho
  · cases ho
theorem zv_store2 {i : Nat} (ho : z_store2 nx i (h, L, S) = some o) (jS : zdens P S stk) : ∃ (x : Int64) (S' : List zV) (stk' : List Value), stk = .long x :: stk' ∧ zdens P S' stk' ∧ o = .inr (.inl (nx, h, zput2 L i (1, x.toInt), S')) := by
  unfold z_store2 at ho
  split at ho
  · rename_i z S' hS
    dsimp only at hS
    subst hS
    match stk, jS with
    | _ :: stk, ⟨⟨x, rfl, e⟩, ds⟩ =>
      rw [← e] at ho
      exact ⟨x, S', stk, rfl, ds, (Option.some.inj ho).symm⟩
  · cases ho
theorem zv_iinc {i : Nat} {z : Int32} {lv : List (Nat × Value)} (ho : z_iinc nx i z.toInt (h, L, S) = some o) (jd : zldens P L lv) : ∃ x : Int32, (i, Value.int x) ∈ lv ∧ o = .inr (.inl (nx, h, zput1 L i (0, (x + z).toInt), S)) := by
  unfold z_iinc at ho
  split at ho
  · rename_i x hg
    obtain ⟨v, h2, ⟨a, rfl, e⟩⟩ := jd _ _ hg
    rw [← e, Int32.ofInt_toInt, Int32.ofInt_toInt] at ho
    exact ⟨a, h2, (Option.some.inj ho).symm⟩
  · cases ho
end ZINV
/-! the steps, first part -/
section ZSTEP
variable {l : Launch} {P : zP} {M : List zY} {μ : zM} {pc : Nat}
theorem zs_iconst {n : Int} (v : Int32) (hd : decode μ.2.1 pc = .ok (.iconst n, 1)) (hv : Int32.ofInt n = v) {z : Int} (hz : v.toInt = z) : zSim l P M μ pc (0, pc + 1, 0, 0, z, []) := by
  intro p e s m args below meth c R Q d C hrm st o ho H locs cells slots ls stk J K
  obtain ⟨hx, hb, hml, hown, hts, hr, hlk⟩ := C
  obtain ⟨h, L, S⟩ := st
  obtain ⟨jc, jg, ⟨lv, jl, jd⟩, jS, jx, jo, jk⟩ := J
  subst hz
  have ho : znx (pc + 1) (h, L, (0, v.toInt) :: S) = some o := ho
  have ho := Option.some.inj ho
  subst ho
  exact lv_iconst hx hb hd hv (K _ _ _ _ _ _ ⟨jc, jg, ⟨lv, jl, jd⟩, ⟨zden_ofI v, jS⟩, jx, jo, jk⟩)
theorem zs_bipush {n : Int} (v : Int32) (hd : decode μ.2.1 pc = .ok (.bipush n, 2)) (hv : (Int8.ofInt n).toInt32 = v) {z : Int} (hz : v.toInt = z) : zSim l P M μ pc (0, pc + 2, 0, 0, z, []) := by
  intro p e s m args below meth c R Q d C hrm st o ho H locs cells slots ls stk J K
  obtain ⟨hx, hb, hml, hown, hts, hr, hlk⟩ := C
  obtain ⟨h, L, S⟩ := st
  obtain ⟨jc, jg, ⟨lv, jl, jd⟩, jS, jx, jo, jk⟩ := J
  subst hz
  have ho : znx (pc + 2) (h, L, (0, v.toInt) :: S) = some o := ho
  have ho := Option.some.inj ho
  subst ho
  exact lv_bipush hx hb hd hv (K _ _ _ _ _ _ ⟨jc, jg, ⟨lv, jl, jd⟩, ⟨zden_ofI v, jS⟩, jx, jo, jk⟩)
theorem zs_sipush {n : Int} (v : Int32) (hd : decode μ.2.1 pc = .ok (.sipush n, 3)) (hv : (Int16.ofInt n).toInt32 = v) {z : Int} (hz : v.toInt = z) : zSim l P M μ pc (0, pc + 3, 0, 0, z, []) := by
  intro p e s m args below meth c R Q d C hrm st o ho H locs cells slots ls stk J K
  obtain ⟨hx, hb, hml, hown, hts, hr, hlk⟩ := C
  obtain ⟨h, L, S⟩ := st
  obtain ⟨jc, jg, ⟨lv, jl, jd⟩, jS, jx, jo, jk⟩ := J
  subst hz
  have ho : znx (pc + 3) (h, L, (0, v.toInt) :: S) = some o := ho
  have ho := Option.some.inj ho
  subst ho
  exact lv_sipush hx hb hd hv (K _ _ _ _ _ _ ⟨jc, jg, ⟨lv, jl, jd⟩, ⟨zden_ofI v, jS⟩, jx, jo, jk⟩)
theorem zs_lconst {n : Fin 2} (v : Int64) (hd : decode μ.2.1 pc = .ok (.lconst n, 1)) (hv : Int64.ofNat (n : Nat) = v) {z : Int} (hz : v.toInt = z) : zSim l P M μ pc (0, pc + 1, 1, 0, z, []) := by
  intro p e s m args below meth c R Q d C hrm st o ho H locs cells slots ls stk J K
  obtain ⟨hx, hb, hml, hown, hts, hr, hlk⟩ := C
  obtain ⟨h, L, S⟩ := st
  obtain ⟨jc, jg, ⟨lv, jl, jd⟩, jS, jx, jo, jk⟩ := J
  subst hz
  have ho : znx (pc + 1) (h, L, (1, v.toInt) :: S) = some o := ho
  have ho := Option.some.inj ho
  subst ho
  exact lv_lconst hx hb hd hv (K _ _ _ _ _ _ ⟨jc, jg, ⟨lv, jl, jd⟩, ⟨zden_ofL v, jS⟩, jx, jo, jk⟩)
theorem zs_ldc {i : Nat} (v : Int32) (hd : decode μ.2.1 pc = .ok (.ldc i, 2)) (hw : Cond.constant μ.1 i v ∈ xTB) {z : Int} (hz : v.toInt = z) : zSim l P M μ pc (0, pc + 2, 0, 0, z, []) := by
  intro p e s m args below meth c R Q d C hrm st o ho H locs cells slots ls stk J K
  obtain ⟨hx, hb, hml, hown, hts, hr, hlk⟩ := C
  obtain ⟨h, L, S⟩ := st
  obtain ⟨jc, jg, ⟨lv, jl, jd⟩, jS, jx, jo, jk⟩ := J
  subst hz
  have ho : znx (pc + 2) (h, L, (0, v.toInt) :: S) = some o := ho
  have ho := Option.some.inj ho
  subst ho
  exact lv_ldc hx hb hown (hts _ hw) hd (K _ _ _ _ _ _ ⟨jc, jg, ⟨lv, jl, jd⟩, ⟨zden_ofI v, jS⟩, jx, jo, jk⟩)
theorem zs_ldcw {i : Nat} (v : Int32) (hd : decode μ.2.1 pc = .ok (.ldc_w i, 3)) (hw : Cond.constant μ.1 i v ∈ xTB) {z : Int} (hz : v.toInt = z) : zSim l P M μ pc (0, pc + 3, 0, 0, z, []) := by
  intro p e s m args below meth c R Q d C hrm st o ho H locs cells slots ls stk J K
  obtain ⟨hx, hb, hml, hown, hts, hr, hlk⟩ := C
  obtain ⟨h, L, S⟩ := st
  obtain ⟨jc, jg, ⟨lv, jl, jd⟩, jS, jx, jo, jk⟩ := J
  subst hz
  have ho : znx (pc + 3) (h, L, (0, v.toInt) :: S) = some o := ho
  have ho := Option.some.inj ho
  subst ho
  exact lv_ldcw hx hb hown (hts _ hw) hd (K _ _ _ _ _ _ ⟨jc, jg, ⟨lv, jl, jd⟩, ⟨zden_ofI v, jS⟩, jx, jo, jk⟩)
theorem zs_ldc2 {i : Nat} (v : Int64) (hd : decode μ.2.1 pc = .ok (.ldc2_w i, 3)) (hw : Cond.constantLong μ.1 i v ∈ xTB) {z : Int} (hz : v.toInt = z) : zSim l P M μ pc (0, pc + 3, 1, 0, z, []) := by
  intro p e s m args below meth c R Q d C hrm st o ho H locs cells slots ls stk J K
  obtain ⟨hx, hb, hml, hown, hts, hr, hlk⟩ := C
  obtain ⟨h, L, S⟩ := st
  obtain ⟨jc, jg, ⟨lv, jl, jd⟩, jS, jx, jo, jk⟩ := J
  subst hz
  have ho : znx (pc + 3) (h, L, (1, v.toInt) :: S) = some o := ho
  have ho := Option.some.inj ho
  subst ho
  exact lv_ldc2 hx hb hown (hts _ hw) hd (K _ _ _ _ _ _ ⟨jc, jg, ⟨lv, jl, jd⟩, ⟨zden_ofL v, jS⟩, jx, jo, jk⟩)
theorem zs_ldcS {i j : Nat} {own tx : String} (hj : zTexts[j]? = some (own, i, tx)) (hc : μ.1 = own) (hd : decode μ.2.1 pc = .ok (.ldc i, 2)) : zSim l P M μ pc (0, pc + 2, 3, 0, ((j + 3 : Nat) : Int), []) := by
  intro p e s m args below meth c R Q d C hrm st o ho H locs cells slots ls stk J K
  obtain ⟨hx, hb, hml, hown, hts, hr, hlk⟩ := C
  obtain ⟨h, L, S⟩ := st
  obtain ⟨jc, jg, ⟨lv, jl, jd⟩, jS, jx, jo, jk⟩ := J
  have ho : znx (pc + 2) (h, L, (3, ((j + 3 : Nat) : Int)) :: S) = some o := ho
  have ho := Option.some.inj ho
  subst ho
  have hR := jx.2.2.2.2.1.2.2.2 j _ hj
  subst hc
  exact va_ldcS hx hb hown hR hd (K _ _ _ _ _ _ ⟨jc, jg, ⟨lv, jl, jd⟩, ⟨rfl, jS⟩, jx, jo, jk⟩)
theorem zs_gets {C n : String} {t index : Nat} (hd : decode μ.2.1 pc = .ok (.getstatic index, 3)) (hm : (C, n, t) ∈ xStat) (hw : Cond.fieldLink μ.1 index C n "[I" ∈ xTB) : zSim l P M μ pc (0, pc + 3, 3, 0, (t : Int), []) := by
  intro p e s m args below meth c R Q d C hrm st o ho H locs cells slots ls stk J K
  obtain ⟨hx, hb, hml, hown, hts, hr, hlk⟩ := C
  obtain ⟨h, L, S⟩ := st
  obtain ⟨jc, jg, ⟨lv, jl, jd⟩, jS, jx, jo, jk⟩ := J
  have ho : znx (pc + 3) (h, L, (3, (t : Int)) :: S) = some o := ho
  have ho := Option.some.inj ho
  subst ho
  obtain ⟨cf, kf, fi, f, a, cell, h1, h2, h3, h4, h5, h6, h7, h8⟩ := (jx.2.1 _ hm).1
  exact W.gets hx hb hown (hts _ hw) h1 h2 h3 h4 h5 (fun e => by rw [e] at h6; cases h6) h7 rfl hd (K _ _ _ _ _ _ ⟨jc, jg, ⟨lv, jl, jd⟩, ⟨rfl, jS⟩, jx, jo, jk⟩)
theorem zs_goto {off : Int} (tgt : Nat) (hd : decode μ.2.1 pc = .ok (.goto off, 3)) (ht : (pc : Int) + off = (tgt : Int)) : zSim l P M μ pc (1, tgt, 0, 0, 0, []) := by
  intro p e s m args below meth c R Q d C hrm st o ho H locs cells slots ls stk J K
  obtain ⟨hx, hb, hml, hown, hts, hr, hlk⟩ := C
  obtain ⟨h, L, S⟩ := st
  obtain ⟨jc, jg, ⟨lv, jl, jd⟩, jS, jx, jo, jk⟩ := J
  have ho : znx tgt (h, L, S) = some o := ho
  have ho := Option.some.inj ho
  subst ho
  exact lv_goto hx hb hd ht (K _ _ _ _ _ _ ⟨jc, jg, ⟨lv, jl, jd⟩, jS, jx, jo, jk⟩)
theorem zs_iload {i : Nat} (hd : decode μ.2.1 pc = .ok (.iload i, 2)) : zSim l P M μ pc (2, pc + 2, i, 0, 0, []) := by
  intro p e s m args below meth c R Q d C hrm st o ho H locs cells slots ls stk J K
  obtain ⟨hx, hb, hml, hown, hts, hr, hlk⟩ := C
  obtain ⟨h, L, S⟩ := st
  obtain ⟨jc, jg, ⟨lv, jl, jd⟩, jS, jx, jo, jk⟩ := J
  obtain ⟨a, v, hm, dv, hk, rfl⟩ := zv_load (show z_load (pc + 2) i 0 (h, L, S) = some o from ho) jd
  obtain ⟨x, rfl, -⟩ := zkind_int hk dv
  exact lv_iload hx hb hd (jl.2.2 _ hm) (K _ _ _ _ _ _ ⟨jc, jg, ⟨lv, jl, jd⟩, ⟨dv, jS⟩, jx, jo, jk⟩)
theorem zs_iload_n {k : Fin 4} {i : Nat} (hd : decode μ.2.1 pc = .ok (.iload_n k, 1)) (hi : (k : Nat) = i) : zSim l P M μ pc (2, pc + 1, i, 0, 0, []) := by
  intro p e s m args below meth c R Q d C hrm st o ho H locs cells slots ls stk J K
  obtain ⟨hx, hb, hml, hown, hts, hr, hlk⟩ := C
  obtain ⟨h, L, S⟩ := st
  obtain ⟨jc, jg, ⟨lv, jl, jd⟩, jS, jx, jo, jk⟩ := J
  obtain ⟨a, v, hm, dv, hk, rfl⟩ := zv_load (show z_load (pc + 1) i 0 (h, L, S) = some o from ho) jd
  obtain ⟨x, rfl, -⟩ := zkind_int hk dv
  exact lv_iload_n hx hb hd hi (jl.2.2 _ hm) (K _ _ _ _ _ _ ⟨jc, jg, ⟨lv, jl, jd⟩, ⟨dv, jS⟩, jx, jo, jk⟩)
theorem zs_lload {i : Nat} (hd : decode μ.2.1 pc = .ok (.lload i, 2)) : zSim l P M μ pc (2, pc + 2, i, 1, 0, []) := by
  intro p e s m args below meth c R Q d C hrm st o ho H locs cells slots ls stk J K
  obtain ⟨hx, hb, hml, hown, hts, hr, hlk⟩ := C
  obtain ⟨h, L, S⟩ := st
  obtain ⟨jc, jg, ⟨lv, jl, jd⟩, jS, jx, jo, jk⟩ := J
  obtain ⟨a, v, hm, dv, hk, rfl⟩ := zv_load (show z_load (pc + 2) i 1 (h, L, S) = some o from ho) jd
  obtain ⟨x, rfl, -⟩ := zkind_long hk dv
  exact lv_lload hx hb hd (jl.2.2 _ hm) (K _ _ _ _ _ _ ⟨jc, jg, ⟨lv, jl, jd⟩, ⟨dv, jS⟩, jx, jo, jk⟩)
theorem zs_lload_n {k : Fin 4} {i : Nat} (hd : decode μ.2.1 pc = .ok (.lload_n k, 1)) (hi : (k : Nat) = i) : zSim l P M μ pc (2, pc + 1, i, 1, 0, []) := by
  intro p e s m args below meth c R Q d C hrm st o ho H locs cells slots ls stk J K
  obtain ⟨hx, hb, hml, hown, hts, hr, hlk⟩ := C
  obtain ⟨h, L, S⟩ := st
  obtain ⟨jc, jg, ⟨lv, jl, jd⟩, jS, jx, jo, jk⟩ := J
  obtain ⟨a, v, hm, dv, hk, rfl⟩ := zv_load (show z_load (pc + 1) i 1 (h, L, S) = some o from ho) jd
  obtain ⟨x, rfl, -⟩ := zkind_long hk dv
  exact lv_lload_n hx hb hd hi (jl.2.2 _ hm) (K _ _ _ _ _ _ ⟨jc, jg, ⟨lv, jl, jd⟩, ⟨dv, jS⟩, jx, jo, jk⟩)
theorem zs_aload {i : Nat} (hd : decode μ.2.1 pc = .ok (.aload i, 2)) : zSim l P M μ pc (2, pc + 2, i, 2, 0, []) := by
  intro p e s m args below meth c R Q d C hrm st o ho H locs cells slots ls stk J K
  obtain ⟨hx, hb, hml, hown, hts, hr, hlk⟩ := C
  obtain ⟨h, L, S⟩ := st
  obtain ⟨jc, jg, ⟨lv, jl, jd⟩, jS, jx, jo, jk⟩ := J
  obtain ⟨a, v, hm, dv, hk, rfl⟩ := zv_load (show z_load (pc + 2) i 2 (h, L, S) = some o from ho) jd
  obtain ⟨x, rfl⟩ := zkind_ref hk dv
  exact lv_aload hx hb hd (jl.2.2 _ hm) (K _ _ _ _ _ _ ⟨jc, jg, ⟨lv, jl, jd⟩, ⟨dv, jS⟩, jx, jo, jk⟩)
theorem zs_aload_n {k : Fin 4} {i : Nat} (hd : decode μ.2.1 pc = .ok (.aload_n k, 1)) (hi : (k : Nat) = i) : zSim l P M μ pc (2, pc + 1, i, 2, 0, []) := by
  intro p e s m args below meth c R Q d C hrm st o ho H locs cells slots ls stk J K
  obtain ⟨hx, hb, hml, hown, hts, hr, hlk⟩ := C
  obtain ⟨h, L, S⟩ := st
  obtain ⟨jc, jg, ⟨lv, jl, jd⟩, jS, jx, jo, jk⟩ := J
  obtain ⟨a, v, hm, dv, hk, rfl⟩ := zv_load (show z_load (pc + 1) i 2 (h, L, S) = some o from ho) jd
  obtain ⟨x, rfl⟩ := zkind_ref hk dv
  exact lv_aload_n hx hb hd hi (jl.2.2 _ hm) (K _ _ _ _ _ _ ⟨jc, jg, ⟨lv, jl, jd⟩, ⟨dv, jS⟩, jx, jo, jk⟩)
theorem zs_istore {i : Nat} (hd : decode μ.2.1 pc = .ok (.istore i, 2)) (hn : i < μ.2.2.1) : zSim l P M μ pc (3, pc + 2, i, 0, 0, []) := by
  intro p e s m args below meth c R Q d C hrm st o ho H locs cells slots ls stk J K
  obtain ⟨hx, hb, hml, hown, hts, hr, hlk⟩ := C
  obtain ⟨h, L, S⟩ := st
  obtain ⟨jc, jg, ⟨lv, jl, jd⟩, jS, jx, jo, jk⟩ := J
  obtain ⟨a, v, S, stk, rfl, dv, ds, hk, rfl⟩ := zv_store1 (show z_store1 (pc + 2) i 0 (h, L, S) = some o from ho) jS
  obtain ⟨x, rfl, -⟩ := zkind_int hk dv
  exact lv_istore hx hb hd jl hn rfl (fun ls hl => K _ _ _ _ _ _ ⟨jc, jg, ⟨_, hl, zput1_den dv jd⟩, ds, jx, jo, jk⟩)
theorem zs_istore_n {k : Fin 4} {i : Nat} (hd : decode μ.2.1 pc = .ok (.istore_n k, 1)) (hi : (k : Nat) = i) (hn : i < μ.2.2.1) : zSim l P M μ pc (3, pc + 1, i, 0, 0, []) := by
  intro p e s m args below meth c R Q d C hrm st o ho H locs cells slots ls stk J K
  obtain ⟨hx, hb, hml, hown, hts, hr, hlk⟩ := C
  obtain ⟨h, L, S⟩ := st
  obtain ⟨jc, jg, ⟨lv, jl, jd⟩, jS, jx, jo, jk⟩ := J
  obtain ⟨a, v, S, stk, rfl, dv, ds, hk, rfl⟩ := zv_store1 (show z_store1 (pc + 1) i 0 (h, L, S) = some o from ho) jS
  obtain ⟨x, rfl, -⟩ := zkind_int hk dv
  exact lv_istore_n hx hb hd hi jl hn rfl (fun ls hl => K _ _ _ _ _ _ ⟨jc, jg, ⟨_, hl, zput1_den dv jd⟩, ds, jx, jo, jk⟩)
theorem zs_astore {i : Nat} (hd : decode μ.2.1 pc = .ok (.astore i, 2)) (hn : i < μ.2.2.1) : zSim l P M μ pc (3, pc + 2, i, 2, 0, []) := by
  intro p e s m args below meth c R Q d C hrm st o ho H locs cells slots ls stk J K
  obtain ⟨hx, hb, hml, hown, hts, hr, hlk⟩ := C
  obtain ⟨h, L, S⟩ := st
  obtain ⟨jc, jg, ⟨lv, jl, jd⟩, jS, jx, jo, jk⟩ := J
  obtain ⟨a, v, S, stk, rfl, dv, ds, hk, rfl⟩ := zv_store1 (show z_store1 (pc + 2) i 2 (h, L, S) = some o from ho) jS
  obtain ⟨x, rfl⟩ := zkind_ref hk dv
  exact lv_astore hx hb hd jl hn rfl (fun ls hl => K _ _ _ _ _ _ ⟨jc, jg, ⟨_, hl, zput1_den dv jd⟩, ds, jx, jo, jk⟩)
theorem zs_astore_n {k : Fin 4} {i : Nat} (hd : decode μ.2.1 pc = .ok (.astore_n k, 1)) (hi : (k : Nat) = i) (hn : i < μ.2.2.1) : zSim l P M μ pc (3, pc + 1, i, 2, 0, []) := by
  intro p e s m args below meth c R Q d C hrm st o ho H locs cells slots ls stk J K
  obtain ⟨hx, hb, hml, hown, hts, hr, hlk⟩ := C
  obtain ⟨h, L, S⟩ := st
  obtain ⟨jc, jg, ⟨lv, jl, jd⟩, jS, jx, jo, jk⟩ := J
  obtain ⟨a, v, S, stk, rfl, dv, ds, hk, rfl⟩ := zv_store1 (show z_store1 (pc + 1) i 2 (h, L, S) = some o from ho) jS
  obtain ⟨x, rfl⟩ := zkind_ref hk dv
  exact lv_astore_n hx hb hd hi jl hn rfl (fun ls hl => K _ _ _ _ _ _ ⟨jc, jg, ⟨_, hl, zput1_den dv jd⟩, ds, jx, jo, jk⟩)
theorem zs_lstore {i : Nat} (hd : decode μ.2.1 pc = .ok (.lstore i, 2)) (hn : i + 1 < μ.2.2.1) : zSim l P M μ pc (4, pc + 2, i, 0, 0, []) := by
  intro p e s m args below meth c R Q d C hrm st o ho H locs cells slots ls stk J K
  obtain ⟨hx, hb, hml, hown, hts, hr, hlk⟩ := C
  obtain ⟨h, L, S⟩ := st
  obtain ⟨jc, jg, ⟨lv, jl, jd⟩, jS, jx, jo, jk⟩ := J
  obtain ⟨x, S, stk, rfl, ds, rfl⟩ := zv_store2 (show z_store2 (pc + 2) i (h, L, S) = some o from ho) jS
  exact lv_lstore hx hb hd jl hn rfl (fun ls hl => K _ _ _ _ _ _ ⟨jc, jg, ⟨_, hl, zput2_den (zden_ofL x) jd⟩, ds, jx, jo, jk⟩)
theorem zs_lstore_n {k : Fin 4} {i : Nat} (hd : decode μ.2.1 pc = .ok (.lstore_n k, 1)) (hi : (k : Nat) = i) (hn : i + 1 < μ.2.2.1) : zSim l P M μ pc (4, pc + 1, i, 0, 0, []) := by
  intro p e s m args below meth c R Q d C hrm st o ho H locs cells slots ls stk J K
  obtain ⟨hx, hb, hml, hown, hts, hr, hlk⟩ := C
  obtain ⟨h, L, S⟩ := st
  obtain ⟨jc, jg, ⟨lv, jl, jd⟩, jS, jx, jo, jk⟩ := J
  obtain ⟨x, S, stk, rfl, ds, rfl⟩ := zv_store2 (show z_store2 (pc + 1) i (h, L, S) = some o from ho) jS
  exact lv_lstore_n hx hb hd hi jl hn rfl (fun ls hl => K _ _ _ _ _ _ ⟨jc, jg, ⟨_, hl, zput2_den (zden_ofL x) jd⟩, ds, jx, jo, jk⟩)
theorem zs_iinc {n : Int} {i : Nat} (z : Int32) (hd : decode μ.2.1 pc = .ok (.iinc i n, 3)) (hz : Int32.ofInt n = z) (hn : i < μ.2.2.1) {w : Int} (hw : z.toInt = w) : zSim l P M μ pc (5, pc + 3, i, 0, w, []) := by
  intro p e s m args below meth c R Q d C hrm st o ho H locs cells slots ls stk J K
  obtain ⟨hx, hb, hml, hown, hts, hr, hlk⟩ := C
  obtain ⟨h, L, S⟩ := st
  obtain ⟨jc, jg, ⟨lv, jl, jd⟩, jS, jx, jo, jk⟩ := J
  subst hw
  obtain ⟨x, hm, rfl⟩ := zv_iinc (show z_iinc (pc + 3) i z.toInt (h, L, S) = some o from ho) jd
  obtain ⟨k, hk⟩ := List.getElem?_of_mem hm
  exact lv_iinc hx hb hd jl hk (by rw [hz]) hn rfl (fun ls hl => K _ _ _ _ _ _ ⟨jc, jg, ⟨_, hl, zput1_den (zden_ofI _) jd⟩, jS, jx, jo, jk⟩)
theorem zs_ineg (hd : decode μ.2.1 pc = .ok (.ineg, 1)) : zSim l P M μ pc (6, pc + 1, 0, 0, 0, []) := by
  intro p e s m args below meth c R Q d C hrm st o ho H locs cells slots ls stk J K
  obtain ⟨hx, hb, hml, hown, hts, hr, hlk⟩ := C
  obtain ⟨h, L, S⟩ := st
  obtain ⟨jc, jg, ⟨lv, jl, jd⟩, jS, jx, jo, jk⟩ := J
  obtain ⟨x, S, stk, rfl, ds, rfl⟩ := zv_un32 (show z_un32 (pc + 1) 0 (h, L, S) = some o from ho) jS
  exact lv_ineg hx hb hd (K _ _ _ _ _ _ ⟨jc, jg, ⟨lv, jl, jd⟩, ⟨zden_ofI _, ds⟩, jx, jo, jk⟩)
theorem zs_i2b (hd : decode μ.2.1 pc = .ok (.i2b, 1)) : zSim l P M μ pc (6, pc + 1, 0, 1, 0, []) := by
  intro p e s m args below meth c R Q d C hrm st o ho H locs cells slots ls stk J K
  obtain ⟨hx, hb, hml, hown, hts, hr, hlk⟩ := C
  obtain ⟨h, L, S⟩ := st
  obtain ⟨jc, jg, ⟨lv, jl, jd⟩, jS, jx, jo, jk⟩ := J
  obtain ⟨x, S, stk, rfl, ds, rfl⟩ := zv_un32 (show z_un32 (pc + 1) 1 (h, L, S) = some o from ho) jS
  exact lv_i2b hx hb hd rfl (K _ _ _ _ _ _ ⟨jc, jg, ⟨lv, jl, jd⟩, ⟨zden_ofI _, ds⟩, jx, jo, jk⟩)
theorem zs_i2s (hd : decode μ.2.1 pc = .ok (.i2s, 1)) : zSim l P M μ pc (6, pc + 1, 0, 2, 0, []) := by
  intro p e s m args below meth c R Q d C hrm st o ho H locs cells slots ls stk J K
  obtain ⟨hx, hb, hml, hown, hts, hr, hlk⟩ := C
  obtain ⟨h, L, S⟩ := st
  obtain ⟨jc, jg, ⟨lv, jl, jd⟩, jS, jx, jo, jk⟩ := J
  obtain ⟨x, S, stk, rfl, ds, rfl⟩ := zv_un32 (show z_un32 (pc + 1) 2 (h, L, S) = some o from ho) jS
  exact lv_i2s hx hb hd rfl (K _ _ _ _ _ _ ⟨jc, jg, ⟨lv, jl, jd⟩, ⟨zden_ofI _, ds⟩, jx, jo, jk⟩)
theorem zs_iadd (hd : decode μ.2.1 pc = .ok (.iadd, 1)) : zSim l P M μ pc (7, pc + 1, 0, 0, 0, []) := by
  intro p e s m args below meth c R Q d C hrm st o ho H locs cells slots ls stk J K
  obtain ⟨hx, hb, hml, hown, hts, hr, hlk⟩ := C
  obtain ⟨h, L, S⟩ := st
  obtain ⟨jc, jg, ⟨lv, jl, jd⟩, jS, jx, jo, jk⟩ := J
  obtain ⟨y, x, S, stk, rfl, ds, rfl⟩ := zv_bin32 (show z_bin32 (pc + 1) 0 (h, L, S) = some o from ho) jS
  exact lv_iadd hx hb hd (K _ _ _ _ _ _ ⟨jc, jg, ⟨lv, jl, jd⟩, ⟨zden_ofI _, ds⟩, jx, jo, jk⟩)
theorem zs_isub (hd : decode μ.2.1 pc = .ok (.isub, 1)) : zSim l P M μ pc (7, pc + 1, 0, 1, 0, []) := by
  intro p e s m args below meth c R Q d C hrm st o ho H locs cells slots ls stk J K
  obtain ⟨hx, hb, hml, hown, hts, hr, hlk⟩ := C
  obtain ⟨h, L, S⟩ := st
  obtain ⟨jc, jg, ⟨lv, jl, jd⟩, jS, jx, jo, jk⟩ := J
  obtain ⟨y, x, S, stk, rfl, ds, rfl⟩ := zv_bin32 (show z_bin32 (pc + 1) 1 (h, L, S) = some o from ho) jS
  exact lv_isub hx hb hd (K _ _ _ _ _ _ ⟨jc, jg, ⟨lv, jl, jd⟩, ⟨zden_ofI _, ds⟩, jx, jo, jk⟩)
theorem zs_imul (hd : decode μ.2.1 pc = .ok (.imul, 1)) : zSim l P M μ pc (7, pc + 1, 0, 2, 0, []) := by
  intro p e s m args below meth c R Q d C hrm st o ho H locs cells slots ls stk J K
  obtain ⟨hx, hb, hml, hown, hts, hr, hlk⟩ := C
  obtain ⟨h, L, S⟩ := st
  obtain ⟨jc, jg, ⟨lv, jl, jd⟩, jS, jx, jo, jk⟩ := J
  obtain ⟨y, x, S, stk, rfl, ds, rfl⟩ := zv_bin32 (show z_bin32 (pc + 1) 2 (h, L, S) = some o from ho) jS
  exact lv_imul hx hb hd (K _ _ _ _ _ _ ⟨jc, jg, ⟨lv, jl, jd⟩, ⟨zden_ofI _, ds⟩, jx, jo, jk⟩)
theorem zs_iand (hd : decode μ.2.1 pc = .ok (.iand, 1)) : zSim l P M μ pc (7, pc + 1, 0, 3, 0, []) := by
  intro p e s m args below meth c R Q d C hrm st o ho H locs cells slots ls stk J K
  obtain ⟨hx, hb, hml, hown, hts, hr, hlk⟩ := C
  obtain ⟨h, L, S⟩ := st
  obtain ⟨jc, jg, ⟨lv, jl, jd⟩, jS, jx, jo, jk⟩ := J
  obtain ⟨y, x, S, stk, rfl, ds, rfl⟩ := zv_bin32 (show z_bin32 (pc + 1) 3 (h, L, S) = some o from ho) jS
  exact lv_iand hx hb hd (K _ _ _ _ _ _ ⟨jc, jg, ⟨lv, jl, jd⟩, ⟨zden_ofI _, ds⟩, jx, jo, jk⟩)
theorem zs_ior (hd : decode μ.2.1 pc = .ok (.ior, 1)) : zSim l P M μ pc (7, pc + 1, 0, 4, 0, []) := by
  intro p e s m args below meth c R Q d C hrm st o ho H locs cells slots ls stk J K
  obtain ⟨hx, hb, hml, hown, hts, hr, hlk⟩ := C
  obtain ⟨h, L, S⟩ := st
  obtain ⟨jc, jg, ⟨lv, jl, jd⟩, jS, jx, jo, jk⟩ := J
  obtain ⟨y, x, S, stk, rfl, ds, rfl⟩ := zv_bin32 (show z_bin32 (pc + 1) 4 (h, L, S) = some o from ho) jS
  exact lv_ior hx hb hd (K _ _ _ _ _ _ ⟨jc, jg, ⟨lv, jl, jd⟩, ⟨zden_ofI _, ds⟩, jx, jo, jk⟩)
theorem zs_ixor (hd : decode μ.2.1 pc = .ok (.ixor, 1)) : zSim l P M μ pc (7, pc + 1, 0, 5, 0, []) := by
  intro p e s m args below meth c R Q d C hrm st o ho H locs cells slots ls stk J K
  obtain ⟨hx, hb, hml, hown, hts, hr, hlk⟩ := C
  obtain ⟨h, L, S⟩ := st
  obtain ⟨jc, jg, ⟨lv, jl, jd⟩, jS, jx, jo, jk⟩ := J
  obtain ⟨y, x, S, stk, rfl, ds, rfl⟩ := zv_bin32 (show z_bin32 (pc + 1) 5 (h, L, S) = some o from ho) jS
  exact lv_ixor hx hb hd (K _ _ _ _ _ _ ⟨jc, jg, ⟨lv, jl, jd⟩, ⟨zden_ofI _, ds⟩, jx, jo, jk⟩)
theorem zs_ishl (hd : decode μ.2.1 pc = .ok (.ishl, 1)) : zSim l P M μ pc (7, pc + 1, 0, 6, 0, []) := by
  intro p e s m args below meth c R Q d C hrm st o ho H locs cells slots ls stk J K
  obtain ⟨hx, hb, hml, hown, hts, hr, hlk⟩ := C
  obtain ⟨h, L, S⟩ := st
  obtain ⟨jc, jg, ⟨lv, jl, jd⟩, jS, jx, jo, jk⟩ := J
  obtain ⟨y, x, S, stk, rfl, ds, rfl⟩ := zv_bin32 (show z_bin32 (pc + 1) 6 (h, L, S) = some o from ho) jS
  exact lv_ishl hx hb hd (K _ _ _ _ _ _ ⟨jc, jg, ⟨lv, jl, jd⟩, ⟨zden_ofI _, ds⟩, jx, jo, jk⟩)
theorem zs_ishr (hd : decode μ.2.1 pc = .ok (.ishr, 1)) : zSim l P M μ pc (7, pc + 1, 0, 7, 0, []) := by
  intro p e s m args below meth c R Q d C hrm st o ho H locs cells slots ls stk J K
  obtain ⟨hx, hb, hml, hown, hts, hr, hlk⟩ := C
  obtain ⟨h, L, S⟩ := st
  obtain ⟨jc, jg, ⟨lv, jl, jd⟩, jS, jx, jo, jk⟩ := J
  obtain ⟨y, x, S, stk, rfl, ds, rfl⟩ := zv_bin32 (show z_bin32 (pc + 1) 7 (h, L, S) = some o from ho) jS
  exact lv_ishr hx hb hd (K _ _ _ _ _ _ ⟨jc, jg, ⟨lv, jl, jd⟩, ⟨zden_ofI _, ds⟩, jx, jo, jk⟩)
theorem zs_iushr (hd : decode μ.2.1 pc = .ok (.iushr, 1)) : zSim l P M μ pc (7, pc + 1, 0, 8, 0, []) := by
  intro p e s m args below meth c R Q d C hrm st o ho H locs cells slots ls stk J K
  obtain ⟨hx, hb, hml, hown, hts, hr, hlk⟩ := C
  obtain ⟨h, L, S⟩ := st
  obtain ⟨jc, jg, ⟨lv, jl, jd⟩, jS, jx, jo, jk⟩ := J
  obtain ⟨y, x, S, stk, rfl, ds, rfl⟩ := zv_bin32 (show z_bin32 (pc + 1) 8 (h, L, S) = some o from ho) jS
  exact lv_iushr hx hb hd rfl (K _ _ _ _ _ _ ⟨jc, jg, ⟨lv, jl, jd⟩, ⟨zden_ofI _, ds⟩, jx, jo, jk⟩)
theorem zs_ladd (hd : decode μ.2.1 pc = .ok (.ladd, 1)) : zSim l P M μ pc (10, pc + 1, 0, 0, 0, []) := by
  intro p e s m args below meth c R Q d C hrm st o ho H locs cells slots ls stk J K
  obtain ⟨hx, hb, hml, hown, hts, hr, hlk⟩ := C
  obtain ⟨h, L, S⟩ := st
  obtain ⟨jc, jg, ⟨lv, jl, jd⟩, jS, jx, jo, jk⟩ := J
  obtain ⟨y, x, S, stk, rfl, ds, rfl⟩ := zv_bin64 (show z_bin64 (pc + 1) 0 (h, L, S) = some o from ho) jS
  exact lv_ladd hx hb hd (K _ _ _ _ _ _ ⟨jc, jg, ⟨lv, jl, jd⟩, ⟨zden_ofL _, ds⟩, jx, jo, jk⟩)
theorem zs_lsub (hd : decode μ.2.1 pc = .ok (.lsub, 1)) : zSim l P M μ pc (10, pc + 1, 0, 1, 0, []) := by
  intro p e s m args below meth c R Q d C hrm st o ho H locs cells slots ls stk J K
  obtain ⟨hx, hb, hml, hown, hts, hr, hlk⟩ := C
  obtain ⟨h, L, S⟩ := st
  obtain ⟨jc, jg, ⟨lv, jl, jd⟩, jS, jx, jo, jk⟩ := J
  obtain ⟨y, x, S, stk, rfl, ds, rfl⟩ := zv_bin64 (show z_bin64 (pc + 1) 1 (h, L, S) = some o from ho) jS
  exact lv_lsub hx hb hd (K _ _ _ _ _ _ ⟨jc, jg, ⟨lv, jl, jd⟩, ⟨zden_ofL _, ds⟩, jx, jo, jk⟩)
theorem zs_lmul (hd : decode μ.2.1 pc = .ok (.lmul, 1)) : zSim l P M μ pc (10, pc + 1, 0, 2, 0, []) := by
  intro p e s m args below meth c R Q d C hrm st o ho H locs cells slots ls stk J K
  obtain ⟨hx, hb, hml, hown, hts, hr, hlk⟩ := C
  obtain ⟨h, L, S⟩ := st
  obtain ⟨jc, jg, ⟨lv, jl, jd⟩, jS, jx, jo, jk⟩ := J
  obtain ⟨y, x, S, stk, rfl, ds, rfl⟩ := zv_bin64 (show z_bin64 (pc + 1) 2 (h, L, S) = some o from ho) jS
  exact lv_lmul hx hb hd (K _ _ _ _ _ _ ⟨jc, jg, ⟨lv, jl, jd⟩, ⟨zden_ofL _, ds⟩, jx, jo, jk⟩)
theorem zs_land (hd : decode μ.2.1 pc = .ok (.land, 1)) : zSim l P M μ pc (10, pc + 1, 0, 3, 0, []) := by
  intro p e s m args below meth c R Q d C hrm st o ho H locs cells slots ls stk J K
  obtain ⟨hx, hb, hml, hown, hts, hr, hlk⟩ := C
  obtain ⟨h, L, S⟩ := st
  obtain ⟨jc, jg, ⟨lv, jl, jd⟩, jS, jx, jo, jk⟩ := J
  obtain ⟨y, x, S, stk, rfl, ds, rfl⟩ := zv_bin64 (show z_bin64 (pc + 1) 3 (h, L, S) = some o from ho) jS
  exact lv_land hx hb hd (K _ _ _ _ _ _ ⟨jc, jg, ⟨lv, jl, jd⟩, ⟨zden_ofL _, ds⟩, jx, jo, jk⟩)
theorem zs_lor (hd : decode μ.2.1 pc = .ok (.lor, 1)) : zSim l P M μ pc (10, pc + 1, 0, 4, 0, []) := by
  intro p e s m args below meth c R Q d C hrm st o ho H locs cells slots ls stk J K
  obtain ⟨hx, hb, hml, hown, hts, hr, hlk⟩ := C
  obtain ⟨h, L, S⟩ := st
  obtain ⟨jc, jg, ⟨lv, jl, jd⟩, jS, jx, jo, jk⟩ := J
  obtain ⟨y, x, S, stk, rfl, ds, rfl⟩ := zv_bin64 (show z_bin64 (pc + 1) 4 (h, L, S) = some o from ho) jS
  exact lv_lor hx hb hd (K _ _ _ _ _ _ ⟨jc, jg, ⟨lv, jl, jd⟩, ⟨zden_ofL _, ds⟩, jx, jo, jk⟩)
theorem zs_lxor (hd : decode μ.2.1 pc = .ok (.lxor, 1)) : zSim l P M μ pc (10, pc + 1, 0, 5, 0, []) := by
  intro p e s m args below meth c R Q d C hrm st o ho H locs cells slots ls stk J K
  obtain ⟨hx, hb, hml, hown, hts, hr, hlk⟩ := C
  obtain ⟨h, L, S⟩ := st
  obtain ⟨jc, jg, ⟨lv, jl, jd⟩, jS, jx, jo, jk⟩ := J
  obtain ⟨y, x, S, stk, rfl, ds, rfl⟩ := zv_bin64 (show z_bin64 (pc + 1) 5 (h, L, S) = some o from ho) jS
  exact lv_lxor hx hb hd (K _ _ _ _ _ _ ⟨jc, jg, ⟨lv, jl, jd⟩, ⟨zden_ofL _, ds⟩, jx, jo, jk⟩)
theorem zs_lshl (hd : decode μ.2.1 pc = .ok (.lshl, 1)) : zSim l P M μ pc (12, pc + 1, 0, 0, 0, []) := by
  intro p e s m args below meth c R Q d C hrm st o ho H locs cells slots ls stk J K
  obtain ⟨hx, hb, hml, hown, hts, hr, hlk⟩ := C
  obtain ⟨h, L, S⟩ := st
  obtain ⟨jc, jg, ⟨lv, jl, jd⟩, jS, jx, jo, jk⟩ := J
  obtain ⟨y, x, S, stk, rfl, ds, rfl⟩ := zv_sh64 (show z_sh64 (pc + 1) 0 (h, L, S) = some o from ho) jS
  exact lv_lshl hx hb hd rfl (K _ _ _ _ _ _ ⟨jc, jg, ⟨lv, jl, jd⟩, ⟨zden_ofL _, ds⟩, jx, jo, jk⟩)
theorem zs_lushr (hd : decode μ.2.1 pc = .ok (.lushr, 1)) : zSim l P M μ pc (12, pc + 1, 0, 1, 0, []) := by
  intro p e s m args below meth c R Q d C hrm st o ho H locs cells slots ls stk J K
  obtain ⟨hx, hb, hml, hown, hts, hr, hlk⟩ := C
  obtain ⟨h, L, S⟩ := st
  obtain ⟨jc, jg, ⟨lv, jl, jd⟩, jS, jx, jo, jk⟩ := J
  obtain ⟨y, x, S, stk, rfl, ds, rfl⟩ := zv_sh64 (show z_sh64 (pc + 1) 1 (h, L, S) = some o from ho) jS
  exact lv_lushr hx hb hd rfl (K _ _ _ _ _ _ ⟨jc, jg, ⟨lv, jl, jd⟩, ⟨zden_ofL _, ds⟩, jx, jo, jk⟩)
theorem zs_idiv (hd : decode μ.2.1 pc = .ok (.idiv, 1)) : zSim l P M μ pc (8, pc + 1, 0, 0, 0, []) := by
  intro p e s m args below meth c R Q d C hrm st o ho H locs cells slots ls stk J K
  obtain ⟨hx, hb, hml, hown, hts, hr, hlk⟩ := C
  obtain ⟨h, L, S⟩ := st
  obtain ⟨jc, jg, ⟨lv, jl, jd⟩, jS, jx, jo, jk⟩ := J
  obtain ⟨y, x, S, stk, hne, rfl, ds, rfl⟩ := zv_div32 (show z_div32 (pc + 1) 0 (h, L, S) = some o from ho) jS
  exact lv_idiv hx hb hd hne (K _ _ _ _ _ _ ⟨jc, jg, ⟨lv, jl, jd⟩, ⟨zden_ofI _, ds⟩, jx, jo, jk⟩)
theorem zs_irem (hd : decode μ.2.1 pc = .ok (.irem, 1)) : zSim l P M μ pc (8, pc + 1, 0, 1, 0, []) := by
  intro p e s m args below meth c R Q d C hrm st o ho H locs cells slots ls stk J K
  obtain ⟨hx, hb, hml, hown, hts, hr, hlk⟩ := C
  obtain ⟨h, L, S⟩ := st
  obtain ⟨jc, jg, ⟨lv, jl, jd⟩, jS, jx, jo, jk⟩ := J
  obtain ⟨y, x, S, stk, hne, rfl, ds, rfl⟩ := zv_div32 (show z_div32 (pc + 1) 1 (h, L, S) = some o from ho) jS
  exact lv_irem hx hb hd hne (K _ _ _ _ _ _ ⟨jc, jg, ⟨lv, jl, jd⟩, ⟨zden_ofI _, ds⟩, jx, jo, jk⟩)
theorem zs_ldiv (hd : decode μ.2.1 pc = .ok (.ldiv, 1)) : zSim l P M μ pc (11, pc + 1, 0, 0, 0, []) := by
  intro p e s m args below meth c R Q d C hrm st o ho H locs cells slots ls stk J K
  obtain ⟨hx, hb, hml, hown, hts, hr, hlk⟩ := C
  obtain ⟨h, L, S⟩ := st
  obtain ⟨jc, jg, ⟨lv, jl, jd⟩, jS, jx, jo, jk⟩ := J
  obtain ⟨y, x, S, stk, hne, rfl, ds, rfl⟩ := zv_div64 (show z_div64 (pc + 1) 0 (h, L, S) = some o from ho) jS
  exact lv_ldiv hx hb hd hne (K _ _ _ _ _ _ ⟨jc, jg, ⟨lv, jl, jd⟩, ⟨zden_ofL _, ds⟩, jx, jo, jk⟩)
theorem zs_lrem (hd : decode μ.2.1 pc = .ok (.lrem, 1)) : zSim l P M μ pc (11, pc + 1, 0, 1, 0, []) := by
  intro p e s m args below meth c R Q d C hrm st o ho H locs cells slots ls stk J K
  obtain ⟨hx, hb, hml, hown, hts, hr, hlk⟩ := C
  obtain ⟨h, L, S⟩ := st
  obtain ⟨jc, jg, ⟨lv, jl, jd⟩, jS, jx, jo, jk⟩ := J
  obtain ⟨y, x, S, stk, hne, rfl, ds, rfl⟩ := zv_div64 (show z_div64 (pc + 1) 1 (h, L, S) = some o from ho) jS
  exact lv_lrem hx hb hd hne (K _ _ _ _ _ _ ⟨jc, jg, ⟨lv, jl, jd⟩, ⟨zden_ofL _, ds⟩, jx, jo, jk⟩)
theorem zs_lneg (hd : decode μ.2.1 pc = .ok (.lneg, 1)) : zSim l P M μ pc (9, pc + 1, 0, 0, 0, []) := by
  intro p e s m args below meth c R Q d C hrm st o ho H locs cells slots ls stk J K
  obtain ⟨hx, hb, hml, hown, hts, hr, hlk⟩ := C
  obtain ⟨h, L, S⟩ := st
  obtain ⟨jc, jg, ⟨lv, jl, jd⟩, jS, jx, jo, jk⟩ := J
  obtain ⟨x, S, stk, rfl, ds, rfl⟩ := zv_neg64 (show z_neg64 (pc + 1) (h, L, S) = some o from ho) jS
  exact lv_lneg hx hb hd (K _ _ _ _ _ _ ⟨jc, jg, ⟨lv, jl, jd⟩, ⟨zden_ofL _, ds⟩, jx, jo, jk⟩)
theorem zs_i2l (hd : decode μ.2.1 pc = .ok (.i2l, 1)) : zSim l P M μ pc (13, pc + 1, 0, 0, 0, []) := by
  intro p e s m args below meth c R Q d C hrm st o ho H locs cells slots ls stk J K
  obtain ⟨hx, hb, hml, hown, hts, hr, hlk⟩ := C
  obtain ⟨h, L, S⟩ := st
  obtain ⟨jc, jg, ⟨lv, jl, jd⟩, jS, jx, jo, jk⟩ := J
  obtain ⟨x, S, stk, rfl, ds, rfl⟩ := zv_i2l (show z_i2l (pc + 1) (h, L, S) = some o from ho) jS
  exact lv_i2l hx hb hd rfl (K _ _ _ _ _ _ ⟨jc, jg, ⟨lv, jl, jd⟩, ⟨zden_ofL _, ds⟩, jx, jo, jk⟩)
theorem zs_l2i (hd : decode μ.2.1 pc = .ok (.l2i, 1)) : zSim l P M μ pc (14, pc + 1, 0, 0, 0, []) := by
  intro p e s m args below meth c R Q d C hrm st o ho H locs cells slots ls stk J K
  obtain ⟨hx, hb, hml, hown, hts, hr, hlk⟩ := C
  obtain ⟨h, L, S⟩ := st
  obtain ⟨jc, jg, ⟨lv, jl, jd⟩, jS, jx, jo, jk⟩ := J
  obtain ⟨x, S, stk, rfl, ds, rfl⟩ := zv_l2i (show z_l2i (pc + 1) (h, L, S) = some o from ho) jS
  exact lv_l2i hx hb hd rfl (K _ _ _ _ _ _ ⟨jc, jg, ⟨lv, jl, jd⟩, ⟨zden_ofI _, ds⟩, jx, jo, jk⟩)
theorem zs_lcmp (hd : decode μ.2.1 pc = .ok (.lcmp, 1)) : zSim l P M μ pc (18, pc + 1, 0, 0, 0, []) := by
  intro p e s m args below meth c R Q d C hrm st o ho H locs cells slots ls stk J K
  obtain ⟨hx, hb, hml, hown, hts, hr, hlk⟩ := C
  obtain ⟨h, L, S⟩ := st
  obtain ⟨jc, jg, ⟨lv, jl, jd⟩, jS, jx, jo, jk⟩ := J
  obtain ⟨y, x, S, stk, rfl, ds, rfl⟩ := zv_lcmp (show z_lcmp (pc + 1) (h, L, S) = some o from ho) jS
  exact W.lcmp hx hb hd (K _ _ _ _ _ _ ⟨jc, jg, ⟨lv, jl, jd⟩, ⟨zden_ofI _, ds⟩, jx, jo, jk⟩)
theorem zs_pop (hd : decode μ.2.1 pc = .ok (.pop, 1)) : zSim l P M μ pc (15, pc + 1, 0, 0, 0, []) := by
  intro p e s m args below meth c R Q d C hrm st o ho H locs cells slots ls stk J K
  obtain ⟨hx, hb, hml, hown, hts, hr, hlk⟩ := C
  obtain ⟨h, L, S⟩ := st
  obtain ⟨jc, jg, ⟨lv, jl, jd⟩, jS, jx, jo, jk⟩ := J
  match S, stk, jS, (show z_stk (pc + 1) 0 (h, L, S) = some o from ho) with
  | a :: S, v :: stk, ⟨dv, ds⟩, ho =>
    have ho : (if zcat a = 1 then znx (pc + 1) (h, L, S) else none) = some o := ho
    split at ho
    · rename_i hk
      have ho := Option.some.inj ho
      subst ho
      exact lv_pop hx hb hd ((zden_cat dv).trans hk) (K _ _ _ _ _ _ ⟨jc, jg, ⟨lv, jl, jd⟩, ds, jx, jo, jk⟩)
    · cases ho
theorem zs_pop2 (hd : decode μ.2.1 pc = .ok (.pop2, 1)) : zSim l P M μ pc (15, pc + 1, 0, 1, 0, []) := by
  intro p e s m args below meth c R Q d C hrm st o ho H locs cells slots ls stk J K
  obtain ⟨hx, hb, hml, hown, hts, hr, hlk⟩ := C
  obtain ⟨h, L, S⟩ := st
  obtain ⟨jc, jg, ⟨lv, jl, jd⟩, jS, jx, jo, jk⟩ := J
  match S, stk, jS, (show z_stk (pc + 1) 1 (h, L, S) = some o from ho) with
  | a :: S, v :: stk, ⟨dv, ds⟩, ho =>
    have ho : (if zcat a = 2 then znx (pc + 1) (h, L, S) else none) = some o := ho
    split at ho
    · rename_i hk
      have ho := Option.some.inj ho
      subst ho
      exact lv_pop2_2 hx hb hd ((zden_cat dv).trans hk) (K _ _ _ _ _ _ ⟨jc, jg, ⟨lv, jl, jd⟩, ds, jx, jo, jk⟩)
    · cases ho
theorem zs_dup (hd : decode μ.2.1 pc = .ok (.dup, 1)) : zSim l P M μ pc (15, pc + 1, 0, 2, 0, []) := by
  intro p e s m args below meth c R Q d C hrm st o ho H locs cells slots ls stk J K
  obtain ⟨hx, hb, hml, hown, hts, hr, hlk⟩ := C
  obtain ⟨h, L, S⟩ := st
  obtain ⟨jc, jg, ⟨lv, jl, jd⟩, jS, jx, jo, jk⟩ := J
  match S, stk, jS, (show z_stk (pc + 1) 2 (h, L, S) = some o from ho) with
  | a :: S, v :: stk, ⟨dv, ds⟩, ho =>
    have ho : (if zcat a = 1 then znx (pc + 1) (h, L, a :: a :: S) else none) = some o := ho
    split at ho
    · rename_i hk
      have ho := Option.some.inj ho
      subst ho
      exact lv_dup hx hb hd ((zden_cat dv).trans hk) (K _ _ _ _ _ _ ⟨jc, jg, ⟨lv, jl, jd⟩, ⟨dv, dv, ds⟩, jx, jo, jk⟩)
    · cases ho
theorem zs_dup2 (hd : decode μ.2.1 pc = .ok (.dup2, 1)) : zSim l P M μ pc (15, pc + 1, 0, 3, 0, []) := by
  intro p e s m args below meth c R Q d C hrm st o ho H locs cells slots ls stk J K
  obtain ⟨hx, hb, hml, hown, hts, hr, hlk⟩ := C
  obtain ⟨h, L, S⟩ := st
  obtain ⟨jc, jg, ⟨lv, jl, jd⟩, jS, jx, jo, jk⟩ := J
  match S, stk, jS, (show z_stk (pc + 1) 3 (h, L, S) = some o from ho) with
  | a :: b :: S, v :: w :: stk, ⟨dv, dw, ds⟩, ho =>
    have ho : (if zcat a = 1 ∧ zcat b = 1 then znx (pc + 1) (h, L, a :: b :: a :: b :: S) else none) = some o := ho
    split at ho
    · rename_i hk
      have ho := Option.some.inj ho
      subst ho
      exact lv_dup2_11 hx hb hd ((zden_cat dv).trans hk.1) ((zden_cat dw).trans hk.2) (K _ _ _ _ _ _ ⟨jc, jg, ⟨lv, jl, jd⟩, ⟨dv, dw, dv, dw, ds⟩, jx, jo, jk⟩)
    · cases ho
theorem zs_dup2_l (hd : decode μ.2.1 pc = .ok (.dup2, 1)) : zSim l P M μ pc (15, pc + 1, 0, 4, 0, []) := by
  intro p e s m args below meth c R Q d C hrm st o ho H locs cells slots ls stk J K
  obtain ⟨hx, hb, hml, hown, hts, hr, hlk⟩ := C
  obtain ⟨h, L, S⟩ := st
  obtain ⟨jc, jg, ⟨lv, jl, jd⟩, jS, jx, jo, jk⟩ := J
  match S, stk, jS, (show z_stk (pc + 1) 4 (h, L, S) = some o from ho) with
  | a :: S, v :: stk, ⟨dv, ds⟩, ho =>
    have ho : (if zcat a = 2 then znx (pc + 1) (h, L, a :: a :: S) else none) = some o := ho
    split at ho
    · rename_i hk
      have ho := Option.some.inj ho
      subst ho
      exact lv_dup2_2 hx hb hd ((zden_cat dv).trans hk) (K _ _ _ _ _ _ ⟨jc, jg, ⟨lv, jl, jd⟩, ⟨dv, dv, ds⟩, jx, jo, jk⟩)
    · cases ho
theorem zs_icmp_eq {off : Int} (tgt : Nat) (hd : decode μ.2.1 pc = .ok (.if_icmp .eq off, 3)) (ht : (pc : Int) + off = (tgt : Int)) : zSim l P M μ pc (17, pc + 3, tgt, 2, 0, []) := by
  intro p e s m args below meth c R Q d C hrm st o ho H locs cells slots ls stk J K
  obtain ⟨hx, hb, hml, hown, hts, hr, hlk⟩ := C
  obtain ⟨h, L, S⟩ := st
  obtain ⟨jc, jg, ⟨lv, jl, jd⟩, jS, jx, jo, jk⟩ := J
  obtain ⟨y, x, S, stk, rfl, ds, rfl⟩ := zv_icmp (show z_icmp (pc + 3) tgt 2 (h, L, S) = some o from ho) jS
  have K : zKG P μ p l e R s m args below meth c Q (if decide (x.toInt = y.toInt) = true then tgt else (pc + 3)) (h, L, S) := K
  exact lv_icmp_eq hx hb hd ht (fun q => by
    rw [decide_eq_true (show (x.toInt = y.toInt) from congrArg Int32.toInt q)] at K
    exact K _ _ _ _ _ _ ⟨jc, jg, ⟨lv, jl, jd⟩, ds, jx, jo, jk⟩) (fun q => by
    rw [decide_eq_false (show ¬ (x.toInt = y.toInt) from fun z => q (Int32.toInt_inj.mp z))] at K
    exact K _ _ _ _ _ _ ⟨jc, jg, ⟨lv, jl, jd⟩, ds, jx, jo, jk⟩)
theorem zs_if_eq {off : Int} (tgt : Nat) (hd : decode μ.2.1 pc = .ok (.ifCond .eq off, 3)) (ht : (pc : Int) + off = (tgt : Int)) : zSim l P M μ pc (16, pc + 3, tgt, 2, 0, []) := by
  intro p e s m args below meth c R Q d C hrm st o ho H locs cells slots ls stk J K
  obtain ⟨hx, hb, hml, hown, hts, hr, hlk⟩ := C
  obtain ⟨h, L, S⟩ := st
  obtain ⟨jc, jg, ⟨lv, jl, jd⟩, jS, jx, jo, jk⟩ := J
  obtain ⟨x, S, stk, rfl, ds, rfl⟩ := zv_if (show z_if (pc + 3) tgt 2 (h, L, S) = some o from ho) jS
  have K : zKG P μ p l e R s m args below meth c Q (if decide (x.toInt = 0) = true then tgt else (pc + 3)) (h, L, S) := K
  exact lv_if_eq hx hb hd ht (fun q => by
    rw [decide_eq_true (show (x.toInt = 0) from congrArg Int32.toInt q)] at K
    exact K _ _ _ _ _ _ ⟨jc, jg, ⟨lv, jl, jd⟩, ds, jx, jo, jk⟩) (fun q => by
    rw [decide_eq_false (show ¬ (x.toInt = 0) from fun z => q (Int32.toInt_inj.mp z))] at K
    exact K _ _ _ _ _ _ ⟨jc, jg, ⟨lv, jl, jd⟩, ds, jx, jo, jk⟩)
theorem zs_icmp_ne {off : Int} (tgt : Nat) (hd : decode μ.2.1 pc = .ok (.if_icmp .ne off, 3)) (ht : (pc : Int) + off = (tgt : Int)) : zSim l P M μ pc (17, tgt, pc + 3, 2, 0, []) := by
  intro p e s m args below meth c R Q d C hrm st o ho H locs cells slots ls stk J K
  obtain ⟨hx, hb, hml, hown, hts, hr, hlk⟩ := C
  obtain ⟨h, L, S⟩ := st
  obtain ⟨jc, jg, ⟨lv, jl, jd⟩, jS, jx, jo, jk⟩ := J
  obtain ⟨y, x, S, stk, rfl, ds, rfl⟩ := zv_icmp (show z_icmp tgt (pc + 3) 2 (h, L, S) = some o from ho) jS
  have K : zKG P μ p l e R s m args below meth c Q (if decide (x.toInt = y.toInt) = true then (pc + 3) else tgt) (h, L, S) := K
  exact lv_icmp_ne hx hb hd ht (fun q => by
    rw [decide_eq_false (show ¬ (x.toInt = y.toInt) from fun z => q (Int32.toInt_inj.mp z))] at K
    exact K _ _ _ _ _ _ ⟨jc, jg, ⟨lv, jl, jd⟩, ds, jx, jo, jk⟩) (fun q => by
    rw [decide_eq_true (show (x.toInt = y.toInt) from congrArg Int32.toInt q)] at K
    exact K _ _ _ _ _ _ ⟨jc, jg, ⟨lv, jl, jd⟩, ds, jx, jo, jk⟩)
theorem zs_if_ne {off : Int} (tgt : Nat) (hd : decode μ.2.1 pc = .ok (.ifCond .ne off, 3)) (ht : (pc : Int) + off = (tgt : Int)) : zSim l P M μ pc (16, tgt, pc + 3, 2, 0, []) := by
  intro p e s m args below meth c R Q d C hrm st o ho H locs cells slots ls stk J K
  obtain ⟨hx, hb, hml, hown, hts, hr, hlk⟩ := C
  obtain ⟨h, L, S⟩ := st
  obtain ⟨jc, jg, ⟨lv, jl, jd⟩, jS, jx, jo, jk⟩ := J
  obtain ⟨x, S, stk, rfl, ds, rfl⟩ := zv_if (show z_if tgt (pc + 3) 2 (h, L, S) = some o from ho) jS
  have K : zKG P μ p l e R s m args below meth c Q (if decide (x.toInt = 0) = true then (pc + 3) else tgt) (h, L, S) := K
  exact lv_if_ne hx hb hd ht (fun q => by
    rw [decide_eq_false (show ¬ (x.toInt = 0) from fun z => q (Int32.toInt_inj.mp z))] at K
    exact K _ _ _ _ _ _ ⟨jc, jg, ⟨lv, jl, jd⟩, ds, jx, jo, jk⟩) (fun q => by
    rw [decide_eq_true (show (x.toInt = 0) from congrArg Int32.toInt q)] at K
    exact K _ _ _ _ _ _ ⟨jc, jg, ⟨lv, jl, jd⟩, ds, jx, jo, jk⟩)
theorem zs_icmp_lt {off : Int} (tgt : Nat) (hd : decode μ.2.1 pc = .ok (.if_icmp .lt off, 3)) (ht : (pc : Int) + off = (tgt : Int)) : zSim l P M μ pc (17, pc + 3, tgt, 0, 0, []) := by
  intro p e s m args below meth c R Q d C hrm st o ho H locs cells slots ls stk J K
  obtain ⟨hx, hb, hml, hown, hts, hr, hlk⟩ := C
  obtain ⟨h, L, S⟩ := st
  obtain ⟨jc, jg, ⟨lv, jl, jd⟩, jS, jx, jo, jk⟩ := J
  obtain ⟨y, x, S, stk, rfl, ds, rfl⟩ := zv_icmp (show z_icmp (pc + 3) tgt 0 (h, L, S) = some o from ho) jS
  have K : zKG P μ p l e R s m args below meth c Q (if decide (x.toInt < y.toInt) = true then tgt else (pc + 3)) (h, L, S) := K
  exact lv_icmp_lt hx hb hd ht (fun q => by
    rw [decide_eq_true (show (x.toInt < y.toInt) from Int32.lt_iff_toInt_lt.mp q)] at K
    exact K _ _ _ _ _ _ ⟨jc, jg, ⟨lv, jl, jd⟩, ds, jx, jo, jk⟩) (fun q => by
    rw [decide_eq_false (show ¬ (x.toInt < y.toInt) from fun z => q (Int32.lt_iff_toInt_lt.mpr z))] at K
    exact K _ _ _ _ _ _ ⟨jc, jg, ⟨lv, jl, jd⟩, ds, jx, jo, jk⟩)
theorem zs_if_lt {off : Int} (tgt : Nat) (hd : decode μ.2.1 pc = .ok (.ifCond .lt off, 3)) (ht : (pc : Int) + off = (tgt : Int)) : zSim l P M μ pc (16, pc + 3, tgt, 0, 0, []) := by
  intro p e s m args below meth c R Q d C hrm st o ho H locs cells slots ls stk J K
  obtain ⟨hx, hb, hml, hown, hts, hr, hlk⟩ := C
  obtain ⟨h, L, S⟩ := st
  obtain ⟨jc, jg, ⟨lv, jl, jd⟩, jS, jx, jo, jk⟩ := J
  obtain ⟨x, S, stk, rfl, ds, rfl⟩ := zv_if (show z_if (pc + 3) tgt 0 (h, L, S) = some o from ho) jS
  have K : zKG P μ p l e R s m args below meth c Q (if decide (x.toInt < 0) = true then tgt else (pc + 3)) (h, L, S) := K
  exact lv_if_lt hx hb hd ht (fun q => by
    rw [decide_eq_true (show (x.toInt < 0) from Int32.lt_iff_toInt_lt.mp q)] at K
    exact K _ _ _ _ _ _ ⟨jc, jg, ⟨lv, jl, jd⟩, ds, jx, jo, jk⟩) (fun q => by
    rw [decide_eq_false (show ¬ (x.toInt < 0) from fun z => q (Int32.lt_iff_toInt_lt.mpr z))] at K
    exact K _ _ _ _ _ _ ⟨jc, jg, ⟨lv, jl, jd⟩, ds, jx, jo, jk⟩)
theorem zs_icmp_ge {off : Int} (tgt : Nat) (hd : decode μ.2.1 pc = .ok (.if_icmp .ge off, 3)) (ht : (pc : Int) + off = (tgt : Int)) : zSim l P M μ pc (17, tgt, pc + 3, 0, 0, []) := by
  intro p e s m args below meth c R Q d C hrm st o ho H locs cells slots ls stk J K
  obtain ⟨hx, hb, hml, hown, hts, hr, hlk⟩ := C
  obtain ⟨h, L, S⟩ := st
  obtain ⟨jc, jg, ⟨lv, jl, jd⟩, jS, jx, jo, jk⟩ := J
  obtain ⟨y, x, S, stk, rfl, ds, rfl⟩ := zv_icmp (show z_icmp tgt (pc + 3) 0 (h, L, S) = some o from ho) jS
  have K : zKG P μ p l e R s m args below meth c Q (if decide (x.toInt < y.toInt) = true then (pc + 3) else tgt) (h, L, S) := K
  exact lv_icmp_ge hx hb hd ht (fun q => by
    rw [decide_eq_false (show ¬ (x.toInt < y.toInt) from fun z => Int.not_lt.mpr (Int32.le_iff_toInt_le.mp q) z)] at K
    exact K _ _ _ _ _ _ ⟨jc, jg, ⟨lv, jl, jd⟩, ds, jx, jo, jk⟩) (fun q => by
    rw [decide_eq_true (show (x.toInt < y.toInt) from Int.not_le.mp (fun z => q (Int32.le_iff_toInt_le.mpr z)))] at K
    exact K _ _ _ _ _ _ ⟨jc, jg, ⟨lv, jl, jd⟩, ds, jx, jo, jk⟩)
theorem zs_if_ge {off : Int} (tgt : Nat) (hd : decode μ.2.1 pc = .ok (.ifCond .ge off, 3)) (ht : (pc : Int) + off = (tgt : Int)) : zSim l P M μ pc (16, tgt, pc + 3, 0, 0, []) := by
  intro p e s m args below meth c R Q d C hrm st o ho H locs cells slots ls stk J K
  obtain ⟨hx, hb, hml, hown, hts, hr, hlk⟩ := C
  obtain ⟨h, L, S⟩ := st
  obtain ⟨jc, jg, ⟨lv, jl, jd⟩, jS, jx, jo, jk⟩ := J
  obtain ⟨x, S, stk, rfl, ds, rfl⟩ := zv_if (show z_if tgt (pc + 3) 0 (h, L, S) = some o from ho) jS
  have K : zKG P μ p l e R s m args below meth c Q (if decide (x.toInt < 0) = true then (pc + 3) else tgt) (h, L, S) := K
  exact lv_if_ge hx hb hd ht (fun q => by
    rw [decide_eq_false (show ¬ (x.toInt < 0) from fun z => Int.not_lt.mpr (Int32.le_iff_toInt_le.mp q) z)] at K
    exact K _ _ _ _ _ _ ⟨jc, jg, ⟨lv, jl, jd⟩, ds, jx, jo, jk⟩) (fun q => by
    rw [decide_eq_true (show (x.toInt < 0) from Int.not_le.mp (fun z => q (Int32.le_iff_toInt_le.mpr z)))] at K
    exact K _ _ _ _ _ _ ⟨jc, jg, ⟨lv, jl, jd⟩, ds, jx, jo, jk⟩)
theorem zs_icmp_gt {off : Int} (tgt : Nat) (hd : decode μ.2.1 pc = .ok (.if_icmp .gt off, 3)) (ht : (pc : Int) + off = (tgt : Int)) : zSim l P M μ pc (17, pc + 3, tgt, 1, 0, []) := by
  intro p e s m args below meth c R Q d C hrm st o ho H locs cells slots ls stk J K
  obtain ⟨hx, hb, hml, hown, hts, hr, hlk⟩ := C
  obtain ⟨h, L, S⟩ := st
  obtain ⟨jc, jg, ⟨lv, jl, jd⟩, jS, jx, jo, jk⟩ := J
  obtain ⟨y, x, S, stk, rfl, ds, rfl⟩ := zv_icmp (show z_icmp (pc + 3) tgt 1 (h, L, S) = some o from ho) jS
  have K : zKG P μ p l e R s m args below meth c Q (if decide (y.toInt < x.toInt) = true then tgt else (pc + 3)) (h, L, S) := K
  exact lv_icmp_gt hx hb hd ht (fun q => by
    rw [decide_eq_true (show (y.toInt < x.toInt) from Int32.lt_iff_toInt_lt.mp q)] at K
    exact K _ _ _ _ _ _ ⟨jc, jg, ⟨lv, jl, jd⟩, ds, jx, jo, jk⟩) (fun q => by
    rw [decide_eq_false (show ¬ (y.toInt < x.toInt) from fun z => q (Int32.lt_iff_toInt_lt.mpr z))] at K
    exact K _ _ _ _ _ _ ⟨jc, jg, ⟨lv, jl, jd⟩, ds, jx, jo, jk⟩)
theorem zs_if_gt {off : Int} (tgt : Nat) (hd : decode μ.2.1 pc = .ok (.ifCond .gt off, 3)) (ht : (pc : Int) + off = (tgt : Int)) : zSim l P M μ pc (16, pc + 3, tgt, 1, 0, []) := by
  intro p e s m args below meth c R Q d C hrm st o ho H locs cells slots ls stk J K
  obtain ⟨hx, hb, hml, hown, hts, hr, hlk⟩ := C
  obtain ⟨h, L, S⟩ := st
  obtain ⟨jc, jg, ⟨lv, jl, jd⟩, jS, jx, jo, jk⟩ := J
  obtain ⟨x, S, stk, rfl, ds, rfl⟩ := zv_if (show z_if (pc + 3) tgt 1 (h, L, S) = some o from ho) jS
  have K : zKG P μ p l e R s m args below meth c Q (if decide (0 < x.toInt) = true then tgt else (pc + 3)) (h, L, S) := K
  exact lv_if_gt hx hb hd ht (fun q => by
    rw [decide_eq_true (show (0 < x.toInt) from Int32.lt_iff_toInt_lt.mp q)] at K
    exact K _ _ _ _ _ _ ⟨jc, jg, ⟨lv, jl, jd⟩, ds, jx, jo, jk⟩) (fun q => by
    rw [decide_eq_false (show ¬ (0 < x.toInt) from fun z => q (Int32.lt_iff_toInt_lt.mpr z))] at K
    exact K _ _ _ _ _ _ ⟨jc, jg, ⟨lv, jl, jd⟩, ds, jx, jo, jk⟩)
theorem zs_icmp_le {off : Int} (tgt : Nat) (hd : decode μ.2.1 pc = .ok (.if_icmp .le off, 3)) (ht : (pc : Int) + off = (tgt : Int)) : zSim l P M μ pc (17, tgt, pc + 3, 1, 0, []) := by
  intro p e s m args below meth c R Q d C hrm st o ho H locs cells slots ls stk J K
  obtain ⟨hx, hb, hml, hown, hts, hr, hlk⟩ := C
  obtain ⟨h, L, S⟩ := st
  obtain ⟨jc, jg, ⟨lv, jl, jd⟩, jS, jx, jo, jk⟩ := J
  obtain ⟨y, x, S, stk, rfl, ds, rfl⟩ := zv_icmp (show z_icmp tgt (pc + 3) 1 (h, L, S) = some o from ho) jS
  have K : zKG P μ p l e R s m args below meth c Q (if decide (y.toInt < x.toInt) = true then (pc + 3) else tgt) (h, L, S) := K
  exact lv_icmp_le hx hb hd ht (fun q => by
    rw [decide_eq_false (show ¬ (y.toInt < x.toInt) from fun z => Int.not_lt.mpr (Int32.le_iff_toInt_le.mp q) z)] at K
    exact K _ _ _ _ _ _ ⟨jc, jg, ⟨lv, jl, jd⟩, ds, jx, jo, jk⟩) (fun q => by
    rw [decide_eq_true (show (y.toInt < x.toInt) from Int.not_le.mp (fun z => q (Int32.le_iff_toInt_le.mpr z)))] at K
    exact K _ _ _ _ _ _ ⟨jc, jg, ⟨lv, jl, jd⟩, ds, jx, jo, jk⟩)
theorem zs_if_le {off : Int} (tgt : Nat) (hd : decode μ.2.1 pc = .ok (.ifCond .le off, 3)) (ht : (pc : Int) + off = (tgt : Int)) : zSim l P M μ pc (16, tgt, pc + 3, 1, 0, []) := by
  intro p e s m args below meth c R Q d C hrm st o ho H locs cells slots ls stk J K
  obtain ⟨hx, hb, hml, hown, hts, hr, hlk⟩ := C
  obtain ⟨h, L, S⟩ := st
  obtain ⟨jc, jg, ⟨lv, jl, jd⟩, jS, jx, jo, jk⟩ := J
  obtain ⟨x, S, stk, rfl, ds, rfl⟩ := zv_if (show z_if tgt (pc + 3) 1 (h, L, S) = some o from ho) jS
  have K : zKG P μ p l e R s m args below meth c Q (if decide (0 < x.toInt) = true then (pc + 3) else tgt) (h, L, S) := K
  exact lv_if_le hx hb hd ht (fun q => by
    rw [decide_eq_false (show ¬ (0 < x.toInt) from fun z => Int.not_lt.mpr (Int32.le_iff_toInt_le.mp q) z)] at K
    exact K _ _ _ _ _ _ ⟨jc, jg, ⟨lv, jl, jd⟩, ds, jx, jo, jk⟩) (fun q => by
    rw [decide_eq_true (show (0 < x.toInt) from Int.not_le.mp (fun z => q (Int32.le_iff_toInt_le.mpr z)))] at K
    exact K _ _ _ _ _ _ ⟨jc, jg, ⟨lv, jl, jd⟩, ds, jx, jo, jk⟩)
end ZSTEP
