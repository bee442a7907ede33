section
/-! THE CONCRETE MACHINE'S STEPS HOLD: what is found on the stack -/
section ZINV
variable {P : zP} {h : zH} {L : zL} {S : List zV} {o : zO} {stk : List Value} {nx : Nat}
theorem zv_un32 {b : Nat} (ho : z_un32 nx b (h, L, S) = some o) (jS : zdens P S stk) : ∃ (x : Int32) (S' : List zV) (stk' : List Value), stk = .int x :: stk' ∧ zdens P S' stk' ∧ o = .inr (.inl (nx, h, L, (0, (zu32 b x).toInt) :: S')) := by
  unfold z_un32 at ho
  split at ho
  · rename_i x S' hS
    dsimp only at hS
    subst hS
    match stk, jS with
    | _ :: stk, ⟨⟨a, rfl, e⟩, ds⟩ =>
      rw [← e, Int32.ofInt_toInt] at ho
      exact ⟨a, S', stk, rfl, ds, (Option.some.inj ho).symm⟩
  · cases ho
theorem zv_bin32 {b : Nat} (ho : z_bin32 nx b (h, L, S) = some o) (jS : zdens P S stk) : ∃ (y x : Int32) (S' : List zV) (stk' : List Value), stk = .int y :: .int x :: stk' ∧ zdens P S' stk' ∧ o = .inr (.inl (nx, h, L, (0, (zf32 b x y).toInt) :: S')) := by
  unfold z_bin32 at ho
  split at ho
  · rename_i y x S' hS
    dsimp only at hS
    subst hS
    match stk, jS with
    | _ :: _ :: stk, ⟨⟨a, rfl, e⟩, ⟨c, rfl, e2⟩, ds⟩ =>
      rw [← e, ← e2, Int32.ofInt_toInt, Int32.ofInt_toInt] at ho
      exact ⟨a, c, S', stk, rfl, ds, (Option.some.inj ho).symm⟩
  · cases ho
theorem zv_bin64 {b : Nat} (ho : z_bin64 nx b (h, L, S) = some o) (jS : zdens P S stk) : ∃ (y x : Int64) (S' : List zV) (stk' : List Value), stk = .long y :: .long x :: stk' ∧ zdens P S' stk' ∧ o = .inr (.inl (nx, h, L, (1, (zf64 b x y).toInt) :: S')) := by
  unfold z_bin64 at ho
  split at ho
  · rename_i y x S' hS
    dsimp only at hS
    subst hS
    match stk, jS with
    | _ :: _ :: stk, ⟨⟨a, rfl, e⟩, ⟨c, rfl, e2⟩, ds⟩ =>
      rw [← e, ← e2, Int64.ofInt_toInt, Int64.ofInt_toInt] at ho
      exact ⟨a, c, S', stk, rfl, ds, (Option.some.inj ho).symm⟩
  · cases ho
theorem zv_div32 {b : Nat} (ho : z_div32 nx b (h, L, S) = some o) (jS : zdens P S stk) : ∃ (y x : Int32) (S' : List zV) (stk' : List Value), ¬ y = 0 ∧ stk = .int y :: .int x :: stk' ∧ zdens P S' stk' ∧ o = .inr (.inl (nx, h, L, (0, (zd32 b x y).toInt) :: S')) := by
  unfold z_div32 at ho
  split at ho
  · rename_i y x S' hS
    dsimp only at hS
    subst hS
    match stk, jS with
    | _ :: _ :: stk, ⟨⟨a, rfl, e⟩, ⟨c, rfl, e2⟩, ds⟩ =>
      rw [← e, ← e2, Int32.ofInt_toInt, Int32.ofInt_toInt] at ho
      split at ho
      · cases ho
      · rename_i hne
        exact ⟨a, c, S', stk, fun q => hne (by rw [q]; rfl), rfl, ds, (Option.some.inj ho).symm⟩
  · cases ho
theorem zv_div64 {b : Nat} (ho : z_div64 nx b (h, L, S) = some o) (jS : zdens P S stk) : ∃ (y x : Int64) (S' : List zV) (stk' : List Value), ¬ y = 0 ∧ stk = .long y :: .long x :: stk' ∧ zdens P S' stk' ∧ o = .inr (.inl (nx, h, L, (1, (zd64 b x y).toInt) :: S')) := by
  unfold z_div64 at ho
  split at ho
  · rename_i y x S' hS
    dsimp only at hS
    subst hS
    match stk, jS with
    | _ :: _ :: stk, ⟨⟨a, rfl, e⟩, ⟨c, rfl, e2⟩, ds⟩ =>
      rw [← e, ← e2, Int64.ofInt_toInt, Int64.ofInt_toInt] at ho
      split at ho
      · cases ho
      · rename_i hne
        exact ⟨a, c, S', stk, fun q => hne (by rw [q]; rfl), rfl, ds, (Option.some.inj ho).symm⟩
  · cases ho
theorem zv_neg64 (ho : z_neg64 nx (h, L, S) = some o) (jS : zdens P S stk) : ∃ (x : Int64) (S' : List zV) (stk' : List Value), stk = .long x :: stk' ∧ zdens P S' stk' ∧ o = .inr (.inl (nx, h, L, (1, (-x).toInt) :: S')) := by
  unfold z_neg64 at ho
  split at ho
  · rename_i x S' hS
    dsimp only at hS
    subst hS
    match stk, jS with
    | _ :: stk, ⟨⟨a, rfl, e⟩, ds⟩ =>
      rw [← e, Int64.ofInt_toInt] at ho
      exact ⟨a, S', stk, rfl, ds, (Option.some.inj ho).symm⟩
  · cases ho
theorem zv_sh64 {b : Nat} (ho : z_sh64 nx b (h, L, S) = some o) (jS : zdens P S stk) : ∃ (y : Int32) (x : Int64) (S' : List zV) (stk' : List Value), stk = .int y :: .long x :: stk' ∧ zdens P S' stk' ∧ o = .inr (.inl (nx, h, L, (1, (zs64 b x y).toInt) :: S')) := by
  unfold z_sh64 at ho
  split at ho
  · rename_i y x S' hS
    dsimp only at hS
    subst hS
    match stk, jS with
    | _ :: _ :: stk, ⟨⟨a, rfl, e⟩, ⟨c, rfl, e2⟩, ds⟩ =>
      rw [← e, ← e2, Int32.ofInt_toInt, Int64.ofInt_toInt] at ho
      exact ⟨a, c, S', stk, rfl, ds, (Option.some.inj ho).symm⟩
  · cases ho
theorem zv_i2l (ho : z_i2l nx (h, L, S) = some o) (jS : zdens P S stk) : ∃ (x : Int32) (S' : List zV) (stk' : List Value), stk = .int x :: stk' ∧ zdens P S' stk' ∧ o = .inr (.inl (nx, h, L, (1, x.toInt64.toInt) :: S')) := by
  unfold z_i2l at ho
  split at ho
  · rename_i x S' hS
    dsimp only at hS
    subst hS
    match stk, jS with
    | _ :: stk, ⟨⟨a, rfl, e⟩, ds⟩ =>
      rw [← e] at ho
      exact ⟨a, S', stk, rfl, ds, by rw [Int32.toInt_toInt64]; exact (Option.some.inj ho).symm⟩
  · cases ho
theorem zv_l2i (ho : z_l2i nx (h, L, S) = some o) (jS : zdens P S stk) : ∃ (x : Int64) (S' : List zV) (stk' : List Value), stk = .long x :: stk' ∧ zdens P S' stk' ∧ o = .inr (.inl (nx, h, L, (0, x.toInt32.toInt) :: S')) := by
  unfold z_l2i at ho
  split at ho
  · rename_i x S' hS
    dsimp only at hS
    subst hS
    match stk, jS with
    | _ :: stk, ⟨⟨a, rfl, e⟩, ds⟩ =>
      rw [← e, Int64.ofInt_toInt] at ho
      exact ⟨a, S', stk, rfl, ds, (Option.some.inj ho).symm⟩
  · cases ho
theorem zv_lcmp (ho : z_lcmp nx (h, L, S) = some o) (jS : zdens P S stk) : ∃ (y x : Int64) (S' : List zV) (stk' : List Value), stk = .long y :: .long x :: stk' ∧ zdens P S' stk' ∧ o = .inr (.inl (nx, h, L, (0, (lg_cmp x y).toInt) :: S')) := by
  unfold z_lcmp at ho
  split at ho
  · rename_i y x S' hS
    dsimp only at hS
    subst hS
    match stk, jS with
    | _ :: _ :: stk, ⟨⟨a, rfl, e⟩, ⟨c, rfl, e2⟩, ds⟩ =>
      refine ⟨a, c, S', stk, rfl, ds, ?_⟩
      rw [← Option.some.inj ho, ← e, ← e2]
      congr 5
      unfold lg_cmp
      by_cases h1 : c > a
      · rw [if_pos h1, if_pos (by rwa [gt_iff_lt, Int64.lt_iff_toInt_lt] at h1)]
        rfl
      · rw [if_neg h1, if_neg (by rwa [gt_iff_lt, Int64.lt_iff_toInt_lt] at h1)]
        by_cases h2 : c = a
        · rw [if_pos h2, if_pos (by rw [h2])]
          rfl
        · rw [if_neg h2, if_neg (fun q => h2 (Int64.toInt_inj.mp q))]
          rfl
  · cases ho
theorem zv_if {a b : Nat} (ho : z_if nx a b (h, L, S) = some o) (jS : zdens P S stk) : ∃ (x : Int32) (S' : List zV) (stk' : List Value), stk = .int x :: stk' ∧ zdens P S' stk' ∧ o = .inr (.inl (if zrel b x.toInt 0 then a else nx, h, L, S')) := by
  unfold z_if at ho
  split at ho
  · rename_i x S' hS
    dsimp only at hS
    subst hS
    match stk, jS with
    | _ :: stk, ⟨⟨a, rfl, e⟩, ds⟩ =>
      rw [← e] at ho
      exact ⟨a, S', stk, rfl, ds, (Option.some.inj ho).symm⟩
  · cases ho
theorem zv_icmp {a b : Nat} (ho : z_icmp nx a b (h, L, S) = some o) (jS : zdens P S stk) : ∃ (y x : Int32) (S' : List zV) (stk' : List Value), stk = .int y :: .int x :: stk' ∧ zdens P S' stk' ∧ o = .inr (.inl (if zrel b x.toInt y.toInt then a else nx, h, L, S')) := by
  unfold z_icmp at ho
  split at ho
  · rename_i y x S' hS
    dsimp only at hS
    subst hS
    match stk, jS with
    | _ :: _ :: stk, ⟨⟨a, rfl, e⟩, ⟨c, rfl, e2⟩, ds⟩ =>
      rw [← e, ← e2] at ho
      exact ⟨a, c, S', stk, rfl, ds, (Option.some.inj ho).symm⟩
  · cases ho
theorem zv_sw {cs : List (Int × Nat)} (ho : z_sw nx cs (h, L, S) = some o) (jS : zdens P S stk) : ∃ (x : Int32) (S' : List zV) (stk' : List Value), stk = .int x :: stk' ∧ zdens P S' stk' ∧ o = .inr (.inl (zfind nx x.toInt cs, h, L, S')) := by
  unfold z_sw at ho
  split at ho
  · rename_i x S' hS
    dsimp only at hS
    subst hS
    match stk, jS with
    | _ :: stk, ⟨⟨a, rfl, e⟩, ds⟩ =>
      rw [← e] at ho
      exact ⟨a, S', stk, rfl, ds, (Option.some.inj ho).symm⟩
  · cases ho
theorem zv_load {i t : Nat} {lv : List (Nat × Value)} (ho : z_load nx i t (h, L, S) = some o) (jd : zldens P L lv) : ∃ a v, (i, v) ∈ lv ∧ zden P a v ∧ zkind a = t ∧ o = .inr (.inl (nx, h, L, a :: S)) := by
  unfold z_load at ho
  split at ho
  · rename_i a hg
    split at ho
    · rename_i hk
      obtain ⟨v, h2, h1⟩ := jd _ _ hg
      exact ⟨a, v, h2, h1, hk, (Option.some.inj ho).symm⟩
    · cases ho
  · cases ho
theorem zv_store1 {i t : Nat} (ho : z_store1 nx i t (h, L, S) = some o) (jS : zdens P S stk) : ∃ a v S' stk', stk = v :: stk' ∧ zden P a v ∧ zdens P S' stk' ∧ zkind a = t ∧ o = .inr (.inl (nx, h, zput1 L i a, S')) := by
  unfold z_store1 at ho
  split at ho
  · rename_i a S' hS
    dsimp only at hS
    subst hS
    match stk, jS with
    | v :: stk, ⟨d, ds⟩ =>
      split at ho
      · rename_i hk
        exact ⟨a, v, S', stk, rfl, d, ds, hk.1, (Option.some.inj ho).symm⟩
      · cases ho
  · cases ho
theorem zv_store2 {i : Nat} (ho : z_store2 nx i (h, L, S) = some o) (jS : zdens P S stk) : ∃ (x : Int64) (S' : List zV) (stk' : List Value), stk = .long x :: stk' ∧ zdens P S' stk' ∧ o = .inr (.inl (nx, h, zput2 L i (1, x.toInt), S')) := by
  unfold z_store2 at ho
  split at ho
  · rename_i z S' hS
    dsimp only at hS
    subst hS
    match stk, jS with
    | _ :: stk, ⟨⟨x, rfl, e⟩, ds⟩ =>
      rw [← e] at ho
      exact ⟨x, S', stk, rfl, ds, (Option.some.inj ho).symm⟩
  · cases ho
theorem zv_iinc {i : Nat} {z : Int32} {lv : List (Nat × Value)} (ho : z_iinc nx i z.toInt (h, L, S) = some o) (jd : zldens P L lv) : ∃ x : Int32, (i, Value.int x) ∈ lv ∧ o = .inr (.inl (nx, h, zput1 L i (0, (x + z).toInt), S)) := by
  unfold z_iinc at ho
  split at ho
  · rename_i x hg
    obtain ⟨v, h2, ⟨a, rfl, e⟩⟩ := jd _ _ hg
    rw [← e, Int32.ofInt_toInt, Int32.ofInt_toInt] at ho
    exact ⟨a, h2, (Option.some.inj ho).symm⟩
  · cases ho
end ZINV
/-! the steps, first part -/
section ZSTEP
variable {l : Launch} {P : zP} {M : List zY} {μ : zM} {pc : Nat}
theorem zs_iconst {n : Int} (v : Int32) (hd : decode μ.2.1 pc = .ok (.iconst n, 1)) (hv : Int32.ofInt n = v) {z : Int} (hz : v.toInt = z) : zSim l P M μ pc (0, pc + 1, 0, 0, z, []) := by
  intro p e s m args below meth c R Q d C hrm st o ho H locs cells slots ls stk J K
  obtain ⟨hx, hb, hml, hown, hts, hr, hlk⟩ := C
  obtain ⟨h, L, S⟩ := st
  obtain ⟨jc, jg, ⟨lv, jl, jd⟩, jS, jx, jo, jk⟩ := J
  subst hz
  have ho : znx (pc + 1) (h, L, (0, v.toInt) :: S) = some o := ho
  have ho := Option.some.inj ho
  subst ho
  exact lv_iconst hx hb hd hv (K _ _ _ _ _ _ ⟨jc, jg, ⟨lv, jl, jd⟩, ⟨zden_ofI v, jS⟩, jx, jo, jk⟩)
theorem zs_bipush {n : Int} (v : Int32) (hd : decode μ.2.1 pc = .ok (.bipush n, 2)) (hv : (Int8.ofInt n).toInt32 = v) {z : Int} (hz : v.toInt = z) : zSim l P M μ pc (0, pc + 2, 0, 0, z, []) := by
  intro p e s m args below meth c R Q d C hrm st o ho H locs cells slots ls stk J K
  obtain ⟨hx, hb, hml, hown, hts, hr, hlk⟩ := C
  obtain ⟨h, L, S⟩ := st
  obtain ⟨jc, jg, ⟨lv, jl, jd⟩, jS, jx, jo, jk⟩ := J
  subst hz
  have ho : znx (pc + 2) (h, L, (0, v.toInt) :: S) = some o := ho
  have ho := Option.some.inj ho
  subst ho
  exact lv_bipush hx hb hd hv (K _ _ _ _ _ _ ⟨jc, jg, ⟨lv, jl, jd⟩, ⟨zden_ofI v, jS⟩, jx, jo, jk⟩)
theorem zs_sipush {n : Int} (v : Int32) (hd : decode μ.2.1 pc = .ok (.sipush n, 3)) (hv : (Int16.ofInt n).toInt32 = v) {z : Int} (hz : v.toInt = z) : zSim l P M μ pc (0, pc + 3, 0, 0, z, []) := by
  intro p e s m args below meth c R Q d C hrm st o ho H locs cells slots ls stk J K
  obtain ⟨hx, hb, hml, hown, hts, hr, hlk⟩ := C
  obtain ⟨h, L, S⟩ := st
  obtain ⟨jc, jg, ⟨lv, jl, jd⟩, jS, jx, jo, jk⟩ := J
  subst hz
  have ho : znx (pc + 3) (h, L, (0, v.toInt) :: S) = some o := ho
  have ho := Option.some.inj ho
  subst ho
  exact lv_sipush hx hb hd hv (K _ _ _ _ _ _ ⟨jc, jg, ⟨lv, jl, jd⟩, ⟨zden_ofI v, jS⟩, jx, jo, jk⟩)
theorem zs_lconst {n : Fin 2} (v : Int64) (hd : decode μ.2.1 pc = .ok (.lconst n, 1)) (hv : Int64.ofNat (n : Nat) = v) {z : Int} (hz : v.toInt = z) : zSim l P M μ pc (0, pc + 1, 1, 0, z, []) := by
  intro p e s m args below meth c R Q d C hrm st o ho H locs cells slots ls stk J K
  obtain ⟨hx, hb, hml, hown, hts, hr, hlk⟩ := C
  obtain ⟨h, L, S⟩ := st
  obtain ⟨jc, jg, ⟨lv, jl, jd⟩, jS, jx, jo, jk⟩ := J
  subst hz
  have ho : znx (pc + 1) (h, L, (1, v.toInt) :: S) = some o := ho
  have ho := Option.some.inj ho
  subst ho
  exact lv_lconst hx hb hd hv (K _ _ _ _ _ _ ⟨jc, jg, ⟨lv, jl, jd⟩, ⟨zden_ofL v, jS⟩, jx, jo, jk⟩)
theorem zs_ldc {i : Nat} (v : Int32) (hd : decode μ.2.1 pc = .ok (.ldc i, 2)) (hw : Cond.constant μ.1 i v ∈ xTB) {z : Int} (hz : v.toInt = z) : zSim l P M μ pc (0, pc + 2, 0, 0, z, []) := by
  intro p e s m args below meth c R Q d C hrm st o ho H locs cells slots ls stk J K
  obtain ⟨hx, hb, hml, hown, hts, hr, hlk⟩ := C
  obtain ⟨h, L, S⟩ := st
  obtain ⟨jc, jg, ⟨lv, jl, jd⟩, jS, jx, jo, jk⟩ := J
  subst hz
  have ho : znx (pc + 2) (h, L, (0, v.toInt) :: S) = some o := ho
  have ho := Option.some.inj ho
  subst ho
  exact lv_ldc hx hb hown (hts _ hw) hd (K _ _ _ _ _ _ ⟨jc, jg, ⟨lv, jl, jd⟩, ⟨zden_ofI v, jS⟩, jx, jo, jk⟩)
theorem zs_ldcw {i : Nat} (v : Int32) (hd : decode μ.2.1 pc = .ok (.ldc_w i, 3)) (hw : Cond.constant μ.1 i v ∈ xTB) {z : Int} (hz : v.toInt = z) : zSim l P M μ pc (0, pc + 3, 0, 0, z, []) := by
  intro p e s m args below meth c R Q d C hrm st o ho H locs cells slots ls stk J K
  obtain ⟨hx, hb, hml, hown, hts, hr, hlk⟩ := C
  obtain ⟨h, L, S⟩ := st
  obtain ⟨jc, jg, ⟨lv, jl, jd⟩, jS, jx, jo, jk⟩ := J
  subst hz
  have ho : znx (pc + 3) (h, L, (0, v.toInt) :: S) = some o := ho
  have ho := Option.some.inj ho
  subst ho
  exact lv_ldcw hx hb hown (hts _ hw) hd (K _ _ _ _ _ _ ⟨jc, jg, ⟨lv, jl, jd⟩, ⟨zden_ofI v, jS⟩, jx, jo, jk⟩)
theorem zs_ldc2 {i : Nat} (v : Int64) (hd : decode μ.2.1 pc = .ok (.ldc2_w i, 3)) (hw : Cond.constantLong μ.1 i v ∈ xTB) {z : Int} (hz : v.toInt = z) : zSim l P M μ pc (0, pc + 3, 1, 0, z, []) := by
  intro p e s m args below meth c R Q d C hrm st o ho H locs cells slots ls stk J K
  obtain ⟨hx, hb, hml, hown, hts, hr, hlk⟩ := C
  obtain ⟨h, L, S⟩ := st
  obtain ⟨jc, jg, ⟨lv, jl, jd⟩, jS, jx, jo, jk⟩ := J
  subst hz
  have ho : znx (pc + 3) (h, L, (1, v.toInt) :: S) = some o := ho
  have ho := Option.some.inj ho
  subst ho
  exact lv_ldc2 hx hb hown (hts _ hw) hd (K _ _ _ _ _ _ ⟨jc, jg, ⟨lv, jl, jd⟩, ⟨zden_ofL v, jS⟩, jx, jo, jk⟩)
theorem zs_ldcS {i j : Nat} {own tx : String} (hj : zTexts[j]? = some (own, i, tx)) (hc : μ.1 = own) (hd : decode μ.2.1 pc = .ok (.ldc i, 2)) : zSim l P M μ pc (0, pc + 2, 3, 0, ((j + 3 : Nat) : Int), []) := by
  intro p e s m args below meth c R Q d C hrm st o ho H locs cells slots ls stk J K
  obtain ⟨hx, hb, hml, hown, hts, hr, hlk⟩ := C
  obtain ⟨h, L, S⟩ := st
  obtain ⟨jc, jg, ⟨lv, jl, jd⟩, jS, jx, jo, jk⟩ := J
  have ho : znx (pc + 2) (h, L, (3, ((j + 3 : Nat) : Int)) :: S) = some o := ho
  have ho := Option.some.inj ho
  subst ho
  have hR := jx.2.2.2.2.1.2.2.2 j _ hj
  subst hc
  exact va_ldcS hx hb hown hR hd (K _ _ _ _ _ _ ⟨jc, jg, ⟨lv, jl, jd⟩, ⟨rfl, jS⟩, jx, jo, jk⟩)
theorem zs_gets {C n : String} {t index : Nat} (hd : decode μ.2.1 pc = .ok (.getstatic index, 3)) (hm : (C, n, t) ∈ xStat) (hw : Cond.fieldLink μ.1 index C n "[I" ∈ xTB) : zSim l P M μ pc (0, pc + 3, 3, 0, (t : Int), []) := by
  intro p e s m args below meth c R Q d C hrm st o ho H locs cells slots ls stk J K
  obtain ⟨hx, hb, hml, hown, hts, hr, hlk⟩ := C
  obtain ⟨h, L, S⟩ := st
  obtain ⟨jc, jg, ⟨lv, jl, jd⟩, jS, jx, jo, jk⟩ := J
  have ho : znx (pc + 3) (h, L, (3, (t : Int)) :: S) = some o := ho
  have ho := Option.some.inj ho
  subst ho
  obtain ⟨cf, kf, fi, f, a, cell, h1, h2, h3, h4, h5, h6, h7, h8⟩ := (jx.2.1 _ hm).1
  exact W.gets hx hb hown (hts _ hw) h1 h2 h3 h4 h5 (fun e => by rw [e] at h6; cases h6) h7 rfl hd (K _ _ _ _ _ _ ⟨jc, jg, ⟨lv, jl, jd⟩, ⟨rfl, jS⟩, jx, jo, jk⟩)
theorem zs_goto {off : Int} (tgt : Nat) (hd : decode μ.2.1 pc = .ok (.goto off, 3)) (ht : (pc : Int) + off = (tgt : Int)) : zSim l P M μ pc (1, tgt, 0, 0, 0, []) := by
  intro p e s m args below meth c R Q d C hrm st o ho H locs cells slots ls stk J K
  obtain ⟨hx, hb, hml, hown, hts, hr, hlk⟩ := C
  obtain ⟨h, L, S⟩ := st
  obtain ⟨jc, jg, ⟨lv, jl, jd⟩, jS, jx, jo, jk⟩ := J
  have ho : znx tgt (h, L, S) = some o := ho
  have ho := Option.some.inj ho
  subst ho
  exact lv_goto hx hb hd ht (K _ _ _ _ _ _ ⟨jc, jg, ⟨lv, jl, jd⟩, jS, jx, jo, jk⟩)
theorem zs_iload {i : Nat} (hd : decode μ.2.1 pc = .ok (.iload i, 2)) : zSim l P M μ pc (2, pc + 2, i, 0, 0, []) := by
  intro p e s m args below meth c R Q d C hrm st o ho H locs cells slots ls stk J K
  obtain ⟨hx, hb, hml, hown, hts, hr, hlk⟩ := C
  obtain ⟨h, L, S⟩ := st
  obtain ⟨jc, jg, ⟨lv, jl, jd⟩, jS, jx, jo, jk⟩ := J
  obtain ⟨a, v, hm, dv, hk, rfl⟩ := zv_load (show z_load (pc + 2) i 0 (h, L, S) = some o from ho) jd
  obtain ⟨x, rfl, -⟩ := zkind_int hk dv
  exact lv_iload hx hb hd (jl.2.2 _ hm) (K _ _ _ _ _ _ ⟨jc, jg, ⟨lv, jl, jd⟩, ⟨dv, jS⟩, jx, jo, jk⟩)
theorem zs_iload_n {k : Fin 4} {i : Nat} (hd : decode μ.2.1 pc = .ok (.iload_n k, 1)) (hi : (k : Nat) = i) : zSim l P M μ pc (2, pc + 1, i, 0, 0, []) := by
  intro p e s m args below meth c R Q d C hrm st o ho H locs cells slots ls stk J K
  obtain ⟨hx, hb, hml, hown, hts, hr, hlk⟩ := C
  obtain ⟨h, L, S⟩ := st
  obtain ⟨jc, jg, ⟨lv, jl, jd⟩, jS, jx, jo, jk⟩ := J
  obtain ⟨a, v, hm, dv, hk, rfl⟩ := zv_load (show z_load (pc + 1) i 0 (h, L, S) = some o from ho) jd
  obtain ⟨x, rfl, -⟩ := zkind_int hk dv
  exact lv_iload_n hx hb hd hi (jl.2.2 _ hm) (K _ _ _ _ _ _ ⟨jc, jg, ⟨lv, jl, jd⟩, ⟨dv, jS⟩, jx, jo, jk⟩)
theorem zs_lload {i : Nat} (hd : decode μ.2.1 pc = .ok (.lload i, 2)) : zSim l P M μ pc (2, pc + 2, i, 1, 0, []) := by
  intro p e s m args below meth c R Q d C hrm st o ho H locs cells slots ls stk J K
  obtain ⟨hx, hb, hml, hown, hts, hr, hlk⟩ := C
  obtain ⟨h, L, S⟩ := st
  obtain ⟨jc, jg, ⟨lv, jl, jd⟩, jS, jx, jo, jk⟩ := J
  obtain ⟨a, v, hm, dv, hk, rfl⟩ := zv_load (show z_load (pc + 2) i 1 (h, L, S) = some o from ho) jd
  obtain ⟨x, rfl, -⟩ := zkind_long hk dv
  exact lv_lload hx hb hd (jl.2.2 _ hm) (K _ _ _ _ _ _ ⟨jc, jg, ⟨lv, jl, jd⟩, ⟨dv, jS⟩, jx, jo, jk⟩)
theorem zs_lload_n {k : Fin 4} {i : Nat} (hd : decode μ.2.1 pc = .ok (.lload_n k, 1)) (hi : (k : Nat) = i) : zSim l P M μ pc (2, pc + 1, i, 1, 0, []) := by
  intro p e s m args below meth c R Q d C hrm st o ho H locs cells slots ls stk J K
  obtain ⟨hx, hb, hml, hown, hts, hr, hlk⟩ := C
  obtain ⟨h, L, S⟩ := st
  obtain ⟨jc, jg, ⟨lv, jl, jd⟩, jS, jx, jo, jk⟩ := J
  obtain ⟨a, v, hm, dv, hk, rfl⟩ := zv_load (show z_load (pc + 1) i 1 (h, L, S) = some o from ho) jd
  obtain ⟨x, rfl, -⟩ := zkind_long hk dv
  exact lv_lload_n hx hb hd hi (jl.2.2 _ hm) (K _ _ _ _ _ _ ⟨jc, jg, ⟨lv, jl, jd⟩, ⟨dv, jS⟩, jx, jo, jk⟩)
theorem zs_aload {i : Nat} (hd : decode μ.2.1 pc = .ok (.aload i, 2)) : zSim l P M μ pc (2, pc + 2, i, 2, 0, []) := by
  intro p e s m args below meth c R Q d C hrm st o ho H locs cells slots ls stk J K
  obtain ⟨hx, hb, hml, hown, hts, hr, hlk⟩ := C
  obtain ⟨h, L, S⟩ := st
  obtain ⟨jc, jg, ⟨lv, jl, jd⟩, jS, jx, jo, jk⟩ := J
  obtain ⟨a, v, hm, dv, hk, rfl⟩ := zv_load (show z_load (pc + 2) i 2 (h, L, S) = some o from ho) jd
  obtain ⟨x, rfl⟩ := zkind_ref hk dv
  exact lv_aload hx hb hd (jl.2.2 _ hm) (K _ _ _ _ _ _ ⟨jc, jg, ⟨lv, jl, jd⟩, ⟨dv, jS⟩, jx, jo, jk⟩)
theorem zs_aload_n {k : Fin 4} {i : Nat} (hd : decode μ.2.1 pc = .ok (.aload_n k, 1)) (hi : (k : Nat) = i) : zSim l P M μ pc (2, pc + 1, i, 2, 0, []) := by
  intro p e s m args below meth c R Q d C hrm st o ho H locs cells slots ls stk J K
  obtain ⟨hx, hb, hml, hown, hts, hr, hlk⟩ := C
  obtain ⟨h, L, S⟩ := st
  obtain ⟨jc, jg, ⟨lv, jl, jd⟩, jS, jx, jo, jk⟩ := J
  obtain ⟨a, v, hm, dv, hk, rfl⟩ := zv_load (show z_load (pc + 1) i 2 (h, L, S) = some o from ho) jd
  obtain ⟨x, rfl⟩ := zkind_ref hk dv
  exact lv_aload_n hx hb hd hi (jl.2.2 _ hm) (K _ _ _ _ _ _ ⟨jc, jg, ⟨lv, jl, jd⟩, ⟨dv, jS⟩, jx, jo, jk⟩)
theorem zs_istore {i : Nat} (hd : decode μ.2.1 pc = .ok (.istore i, 2)) (hn : i < μ.2.2.1) : zSim l P M μ pc (3, pc + 2, i, 0, 0, []) := by
  intro p e s m args below meth c R Q d C hrm st o ho H locs cells slots ls stk J K
  obtain ⟨hx, hb, hml, hown, hts, hr, hlk⟩ := C
  obtain ⟨h, L, S⟩ := st
  obtain ⟨jc, jg, ⟨lv, jl, jd⟩, jS, jx, jo, jk⟩ := J
  obtain ⟨a, v, S, stk, rfl, dv, ds, hk, rfl⟩ := zv_store1 (show z_store1 (pc + 2) i 0 (h, L, S) = some o from ho) jS
  obtain ⟨x, rfl, -⟩ := zkind_int hk dv
  exact lv_istore hx hb hd jl hn rfl (fun ls hl => K _ _ _ _ _ _ ⟨jc, jg, ⟨_, hl, zput1_den dv jd⟩, ds, jx, jo, jk⟩)
theorem zs_istore_n {k : Fin 4} {i : Nat} (hd : decode μ.2.1 pc = .ok (.istore_n k, 1)) (hi : (k : Nat) = i) (hn : i < μ.2.2.1) : zSim l P M μ pc (3, pc + 1, i, 0, 0, []) := by
  intro p e s m args below meth c R Q d C hrm st o ho H locs cells slots ls stk J K
  obtain ⟨hx, hb, hml, hown, hts, hr, hlk⟩ := C
  obtain ⟨h, L, S⟩ := st
  obtain ⟨jc, jg, ⟨lv, jl, jd⟩, jS, jx, jo, jk⟩ := J
  obtain ⟨a, v, S, stk, rfl, dv, ds, hk, rfl⟩ := zv_store1 (show z_store1 (pc + 1) i 0 (h, L, S) = some o from ho) jS
  obtain ⟨x, rfl, -⟩ := zkind_int hk dv
  exact lv_istore_n hx hb hd hi jl hn rfl (fun ls hl => K _ _ _ _ _ _ ⟨jc, jg, ⟨_, hl, zput1_den dv jd⟩, ds, jx, jo, jk⟩)
theorem zs_astore {i : Nat} (hd : decode μ.2.1 pc = .ok (.astore i, 2)) (hn : i < μ.2.2.1) : zSim l P M μ pc (3, pc + 2, i, 2, 0, []) := by
  intro p e s m args below meth c R Q d C hrm st o ho H locs cells slots ls stk J K
  obtain ⟨hx, hb, hml, hown, hts, hr, hlk⟩ := C
  obtain ⟨h, L, S⟩ := st
  obtain ⟨jc, jg, ⟨lv, jl, jd⟩, jS, jx, jo, jk⟩ := J
  obtain ⟨a, v, S, stk, rfl, dv, ds, hk, rfl⟩ := zv_store1 (show z_store1 (pc + 2) i 2 (h, L, S) = some o from ho) jS
  obtain ⟨x, rfl⟩ := zkind_ref hk dv
  exact lv_astore hx hb hd jl hn rfl (fun ls hl => K _ _ _ _ _ _ ⟨jc, jg, ⟨_, hl, zput1_den dv jd⟩, ds, jx, jo, jk⟩)
theorem zs_astore_n {k : Fin 4} {i : Nat} (hd : decode μ.2.1 pc = .ok (.astore_n k, 1)) (hi : (k : Nat) = i) (hn : i < μ.2.2.1) : zSim l P M μ pc (3, pc + 1, i, 2, 0, []) := by
  intro p e s m args below meth c R Q d C hrm st o ho H locs cells slots ls stk J K
  obtain ⟨hx, hb, hml, hown, hts, hr, hlk⟩ := C
  obtain ⟨h, L, S⟩ := st
  obtain ⟨jc, jg, ⟨lv, jl, jd⟩, jS, jx, jo, jk⟩ := J
  obtain ⟨a, v, S, stk, rfl, dv, ds, hk, rfl⟩ := zv_store1 (show z_store1 (pc + 1) i 2 (h, L, S) = some o from ho) jS
  obtain ⟨x, rfl⟩ := zkind_ref hk dv
  exact lv_astore_n hx hb hd hi jl hn rfl (fun ls hl => K _ _ _ _ _ _ ⟨jc, jg, ⟨_, hl, zput1_den dv jd⟩, ds, jx, jo, jk⟩)
theorem zs_lstore {i : Nat} (hd : decode μ.2.1 pc = .ok (.lstore i, 2)) (hn : i + 1 < μ.2.2.1) : zSim l P M μ pc (4, pc + 2, i, 0, 0, []) := by
  intro p e s m args below meth c R Q d C hrm st o ho H locs cells slots ls stk J K
  obtain ⟨hx, hb, hml, hown, hts, hr, hlk⟩ := C
  obtain ⟨h, L, S⟩ := st
  obtain ⟨jc, jg, ⟨lv, jl, jd⟩, jS, jx, jo, jk⟩ := J
  obtain ⟨x, S, stk, rfl, ds, rfl⟩ := zv_store2 (show z_store2 (pc + 2) i (h, L, S) = some o from ho) jS
  exact lv_lstore hx hb hd jl hn rfl (fun ls hl => K _ _ _ _ _ _ ⟨jc, jg, ⟨_, hl, zput2_den (zden_ofL x) jd⟩, ds, jx, jo, jk⟩)
theorem zs_lstore_n {k : Fin 4} {i : Nat} (hd : decode μ.2.1 pc = .ok (.lstore_n k, 1)) (hi : (k : Nat) = i) (hn : i + 1 < μ.2.2.1) : zSim l P M μ pc (4, pc + 1, i, 0, 0, []) := by
  intro p e s m args below meth c R Q d C hrm st o ho H locs cells slots ls stk J K
  obtain ⟨hx, hb, hml, hown, hts, hr, hlk⟩ := C
  obtain ⟨h, L, S⟩ := st
  obtain ⟨jc, jg, ⟨lv, jl, jd⟩, jS, jx, jo, jk⟩ := J
  obtain ⟨x, S, stk, rfl, ds, rfl⟩ := zv_store2 (show z_store2 (pc + 1) i (h, L, S) = some o from ho) jS
  exact lv_lstore_n hx hb hd hi jl hn rfl (fun ls hl => K _ _ _ _ _ _ ⟨jc, jg, ⟨_, hl, zput2_den (zden_ofL x) jd⟩, ds, jx, jo, jk⟩)
theorem zs_iinc {n : Int} {i : Nat} (z : Int32) (hd : decode μ.2.1 pc = .ok (.iinc i n, 3)) (hz : Int32.ofInt n = z) (hn : i < μ.2.2.1) {w : Int} (hw : z.toInt = w) : zSim l P M μ pc (5, pc + 3, i, 0, w, []) := by
  intro p e s m args below meth c R Q d C hrm st o ho H locs cells slots ls stk J K
  obtain ⟨hx, hb, hml, hown, hts, hr, hlk⟩ := C
  obtain ⟨h, L, S⟩ := st
  obtain ⟨jc, jg, ⟨lv, jl, jd⟩, jS, jx, jo, jk⟩ := J
  subst hw
  obtain ⟨x, hm, rfl⟩ := zv_iinc (show z_iinc (pc + 3) i z.toInt (h, L, S) = some o from ho) jd
  obtain ⟨k, hk⟩ := List.getElem?_of_mem hm
  exact lv_iinc hx hb hd jl hk (by rw [hz]) hn rfl (fun ls hl => K _ _ _ _ _ _ ⟨jc, jg, ⟨_, hl, zput1_den (zden_ofI _) jd⟩, jS, jx, jo, jk⟩)
theorem zs_ineg (hd : decode μ.2.1 pc = .ok (.ineg, 1)) : zSim l P M μ pc (6, pc + 1, 0, 0, 0, []) := by
  intro p e s m args below meth c R Q d C hrm st o ho H locs cells slots ls stk J K
  obtain ⟨hx, hb, hml, hown, hts, hr, hlk⟩ := C
  obtain ⟨h, L, S⟩ := st
  obtain ⟨jc, jg, ⟨lv, jl, jd⟩, jS, jx, jo, jk⟩ := J
  obtain ⟨x, S, stk, rfl, ds, rfl⟩ := zv_un32 (show z_un32 (pc + 1) 0 (h, L, S) = some o from ho) jS
  exact lv_ineg hx hb hd (K _ _ _ _ _ _ ⟨jc, jg, ⟨lv, jl, jd⟩, ⟨zden_ofI _, ds⟩, jx, jo, jk⟩)
theorem zs_i2b (hd : decode μ.2.1 pc = .ok (.i2b, 1)) : zSim l P M μ pc (6, pc + 1, 0, 1, 0, []) := by
  intro p e s m args below meth c R Q d C hrm st o ho H locs cells slots ls stk J K
  obtain ⟨hx, hb, hml, hown, hts, hr, hlk⟩ := C
  obtain ⟨h, L, S⟩ := st
  obtain ⟨jc, jg, ⟨lv, jl, jd⟩, jS, jx, jo, jk⟩ := J
  obtain ⟨x, S, stk, rfl, ds, rfl⟩ := zv_un32 (show z_un32 (pc + 1) 1 (h, L, S) = some o from ho) jS
  exact lv_i2b hx hb hd rfl (K _ _ _ _ _ _ ⟨jc, jg, ⟨lv, jl, jd⟩, ⟨zden_ofI _, ds⟩, jx, jo, jk⟩)
theorem zs_i2s (hd : decode μ.2.1 pc = .ok (.i2s, 1)) : zSim l P M μ pc (6, pc + 1, 0, 2, 0, []) := by
  intro p e s m args below meth c R Q d C hrm st o ho H locs cells slots ls stk J K
  obtain ⟨hx, hb, hml, hown, hts, hr, hlk⟩ := C
  obtain ⟨h, L, S⟩ := st
  obtain ⟨jc, jg, ⟨lv, jl, jd⟩, jS, jx, jo, jk⟩ := J
  obtain ⟨x, S, stk, rfl, ds, rfl⟩ := zv_un32 (show z_un32 (pc + 1) 2 (h, L, S) = some o from ho) jS
  exact lv_i2s hx hb hd rfl (K _ _ _ _ _ _ ⟨jc, jg, ⟨lv, jl, jd⟩, ⟨zden_ofI _, ds⟩, jx, jo, jk⟩)
theorem zs_iadd (hd : decode μ.2.1 pc = .ok (.iadd, 1)) : zSim l P M μ pc (7, pc + 1, 0, 0, 0, []) := by
  intro p e s m args below meth c R Q d C hrm st o ho H locs cells slots ls stk J K
  obtain ⟨hx, hb, hml, hown, hts, hr, hlk⟩ := C
  obtain ⟨h, L, S⟩ := st
  obtain ⟨jc, jg, ⟨lv, jl, jd⟩, jS, jx, jo, jk⟩ := J
  obtain ⟨y, x, S, stk, rfl, ds, rfl⟩ := zv_bin32 (show z_bin32 (pc + 1) 0 (h, L, S) = some o from ho) jS
  exact lv_iadd hx hb hd (K _ _ _ _ _ _ ⟨jc, jg, ⟨lv, jl, jd⟩, ⟨zden_ofI _, ds⟩, jx, jo, jk⟩)
theorem zs_isub (hd : decode μ.2.1 pc = .ok (.isub, 1)) : zSim l P M μ pc (7, pc + 1, 0, 1, 0, []) := by
  intro p e s m args below meth c R Q d C hrm st o ho H locs cells slots ls stk J K
  obtain ⟨hx, hb, hml, hown, hts, hr, hlk⟩ := C
  obtain ⟨h, L, S⟩ := st
  obtain ⟨jc, jg, ⟨lv, jl, jd⟩, jS, jx, jo, jk⟩ := J
  obtain ⟨y, x, S, stk, rfl, ds, rfl⟩ := zv_bin32 (show z_bin32 (pc + 1) 1 (h, L, S) = some o from ho) jS
  exact lv_isub hx hb hd (K _ _ _ _ _ _ ⟨jc, jg, ⟨lv, jl, jd⟩, ⟨zden_ofI _, ds⟩, jx, jo, jk⟩)
theorem zs_imul (hd : decode μ.2.1 pc = .ok (.imul, 1)) : zSim l P M μ pc (7, pc + 1, 0, 2, 0, []) := by
  intro p e s m args below meth c R Q d C hrm st o ho H locs cells slots ls stk J K
  obtain ⟨hx, hb, hml, hown, hts, hr, hlk⟩ := C
  obtain ⟨h, L, S⟩ := st
  obtain ⟨jc, jg, ⟨lv, jl, jd⟩, jS, jx, jo, jk⟩ := J
  obtain ⟨y, x, S, stk, rfl, ds, rfl⟩ := zv_bin32 (show z_bin32 (pc + 1) 2 (h, L, S) = some o from ho) jS
  exact lv_imul hx hb hd (K _ _ _ _ _ _ ⟨jc, jg, ⟨lv, jl, jd⟩, ⟨zden_ofI _, ds⟩, jx, jo, jk⟩)
theorem zs_iand (hd : decode μ.2.1 pc = .ok (.iand, 1)) : zSim l P M μ pc (7, pc + 1, 0, 3, 0, []) := by
  intro p e s m args below meth c R Q d C hrm st o ho H locs cells slots ls stk J K
  obtain ⟨hx, hb, hml, hown, hts, hr, hlk⟩ := C
  obtain ⟨h, L, S⟩ := st
  obtain ⟨jc, jg, ⟨lv, jl, jd⟩, jS, jx, jo, jk⟩ := J
  obtain ⟨y, x, S, stk, rfl, ds, rfl⟩ := zv_bin32 (show z_bin32 (pc + 1) 3 (h, L, S) = some o from ho) jS
  exact lv_iand hx hb hd (K _ _ _ _ _ _ ⟨jc, jg, ⟨lv, jl, jd⟩, ⟨zden_ofI _, ds⟩, jx, jo, jk⟩)
theorem zs_ior (hd : decode μ.2.1 pc = .ok (.ior, 1)) : zSim l P M μ pc (7, pc + 1, 0, 4, 0, []) := by
  intro p e s m args below meth c R Q d C hrm st o ho H locs cells slots ls stk J K
  obtain ⟨hx, hb, hml, hown, hts, hr, hlk⟩ := C
  obtain ⟨h, L, S⟩ := st
  obtain ⟨jc, jg, ⟨lv, jl, jd⟩, jS, jx, jo, jk⟩ := J
  obtain ⟨y, x, S, stk, rfl, ds, rfl⟩ := zv_bin32 (show z_bin32 (pc + 1) 4 (h, L, S) = some o from ho) jS
  exact lv_ior hx hb hd (K _ _ _ _ _ _ ⟨jc, jg, ⟨lv, jl, jd⟩, ⟨zden_ofI _, ds⟩, jx, jo, jk⟩)
theorem zs_ixor (hd : decode μ.2.1 pc = .ok (.ixor, 1)) : zSim l P M μ pc (7, pc + 1, 0, 5, 0, []) := by
  intro p e s m args below meth c R Q d C hrm st o ho H locs cells slots ls stk J K
  obtain ⟨hx, hb, hml, hown, hts, hr, hlk⟩ := C
  obtain ⟨h, L, S⟩ := st
  obtain ⟨jc, jg, ⟨lv, jl, jd⟩, jS, jx, jo, jk⟩ := J
  obtain ⟨y, x, S, stk, rfl, ds, rfl⟩ := zv_bin32 (show z_bin32 (pc + 1) 5 (h, L, S) = some o from ho) jS
  exact lv_ixor hx hb hd (K _ _ _ _ _ _ ⟨jc, jg, ⟨lv, jl, jd⟩, ⟨zden_ofI _, ds⟩, jx, jo, jk⟩)
theorem zs_ishl (hd : decode μ.2.1 pc = .ok (.ishl, 1)) : zSim l P M μ pc (7, pc + 1, 0, 6, 0, []) := by
  intro p e s m args below meth c R Q d C hrm st o ho H locs cells slots ls stk J K
  obtain ⟨hx, hb, hml, hown, hts, hr, hlk⟩ := C
  obtain ⟨h, L, S⟩ := st
  obtain ⟨jc, jg, ⟨lv, jl, jd⟩, jS, jx, jo, jk⟩ := J
  obtain ⟨y, x, S, stk, rfl, ds, rfl⟩ := zv_bin32 (show z_bin32 (pc + 1) 6 (h, L, S) = some o from ho) jS
  exact lv_ishl hx hb hd (K _ _ _ _ _ _ ⟨jc, jg, ⟨lv, jl, jd⟩, ⟨zden_ofI _, ds⟩, jx, jo, jk⟩)
theorem zs_ishr (hd : decode μ.2.1 pc = .ok (.ishr, 1)) : zSim l P M μ pc (7, pc + 1, 0, 7, 0, []) := by
  intro p e s m args below meth c R Q d C hrm st o ho H locs cells slots ls stk J K
  obtain ⟨hx, hb, hml, hown, hts, hr, hlk⟩ := C
  obtain ⟨h, L, S⟩ := st
  obtain ⟨jc, jg, ⟨lv, jl, jd⟩, jS, jx, jo, jk⟩ := J
  obtain ⟨y, x, S, stk, rfl, ds, rfl⟩ := zv_bin32 (show z_bin32 (pc + 1) 7 (h, L, S) = some o from ho) jS
  exact lv_ishr hx hb hd (K _ _ _ _ _ _ ⟨jc, jg, ⟨lv, jl, jd⟩, ⟨zden_ofI _, ds⟩, jx, jo, jk⟩)
theorem zs_iushr (hd : decode μ.2.1 pc = .ok (.iushr, 1)) : zSim l P M μ pc (7, pc + 1, 0, 8, 0, []) := by
  intro p e s m args below meth c R Q d C hrm st o ho H locs cells slots ls stk J K
  obtain ⟨hx, hb, hml, hown, hts, hr, hlk⟩ := C
  obtain ⟨h, L, S⟩ := st
  obtain ⟨jc, jg, ⟨lv, jl, jd⟩, jS, jx, jo, jk⟩ := J
  obtain ⟨y, x, S, stk, rfl, ds, rfl⟩ := zv_bin32 (show z_bin32 (pc + 1) 8 (h, L, S) = some o from ho) jS
  exact lv_iushr hx hb hd rfl (K _ _ _ _ _ _ ⟨jc, jg, ⟨lv, jl, jd⟩, ⟨zden_ofI _, ds⟩, jx, jo, jk⟩)
theorem zs_ladd (hd : decode μ.2.1 pc = .ok (.ladd, 1)) : zSim l P M μ pc (10, pc + 1, 0, 0, 0, []) := by
  intro p e s m args below meth c R Q d C hrm st o ho H locs cells slots ls stk J K
  obtain ⟨hx, hb, hml, hown, hts, hr, hlk⟩ := C
  obtain ⟨h, L, S⟩ := st
  obtain ⟨jc, jg, ⟨lv, jl, jd⟩, jS, jx, jo, jk⟩ := J
  obtain ⟨y, x, S, stk, rfl, ds, rfl⟩ := zv_bin64 (show z_bin64 (pc + 1) 0 (h, L, S) = some o from ho) jS
  exact lv_ladd hx hb hd (K _ _ _ _ _ _ ⟨jc, jg, ⟨lv, jl, jd⟩, ⟨zden_ofL _, ds⟩, jx, jo, jk⟩)
theorem zs_lsub (hd : decode μ.2.1 pc = .ok (.lsub, 1)) : zSim l P M μ pc (10, pc + 1, 0, 1, 0, []) := by
  intro p e s m args below meth c R Q d C hrm st o ho H locs cells slots ls stk J K
  obtain ⟨hx, hb, hml, hown, hts, hr, hlk⟩ := C
  obtain ⟨h, L, S⟩ := st
  obtain ⟨jc, jg, ⟨lv, jl, jd⟩, jS, jx, jo, jk⟩ := J
  obtain ⟨y, x, S, stk, rfl, ds, rfl⟩ := zv_bin64 (show z_bin64 (pc + 1) 1 (h, L, S) = some o from ho) jS
  exact lv_lsub hx hb hd (K _ _ _ _ _ _ ⟨jc, jg, ⟨lv, jl, jd⟩, ⟨zden_ofL _, ds⟩, jx, jo, jk⟩)
theorem zs_lmul (hd : decode μ.2.1 pc = .ok (.lmul, 1)) : zSim l P M μ pc (10, pc + 1, 0, 2, 0, []) := by
  intro p e s m args below meth c R Q d C hrm st o ho H locs cells slots ls stk J K
  obtain ⟨hx, hb, hml, hown, hts, hr, hlk⟩ := C
  obtain ⟨h, L, S⟩ := st
  obtain ⟨jc, jg, ⟨lv, jl, jd⟩, jS, jx, jo, jk⟩ := J
  obtain ⟨y, x, S, stk, rfl, ds, rfl⟩ := zv_bin64 (show z_bin64 (pc + 1) 2 (h, L, S) = some o from ho) jS
  exact lv_lmul hx hb hd (K _ _ _ _ _ _ ⟨jc, jg, ⟨lv, jl, jd⟩, ⟨zden_ofL _, ds⟩, jx, jo, jk⟩)
theorem zs_land (hd : decode μ.2.1 pc = .ok (.land, 1)) : zSim l P M μ pc (10, pc + 1, 0, 3, 0, []) := by
  intro p e s m args below meth c R Q d C hrm st o ho H locs cells slots ls stk J K
  obtain ⟨hx, hb, hml, hown, hts, hr, hlk⟩ := C
  obtain ⟨h, L, S⟩ := st
  obtain ⟨jc, jg, ⟨lv, jl, jd⟩, jS, jx, jo, jk⟩ := J
  obtain ⟨y, x, S, stk, rfl, ds, rfl⟩ := zv_bin64 (show z_bin64 (pc + 1) 3 (h, L, S) = some o from ho) jS
  exact lv_land hx hb hd (K _ _ _ _ _ _ ⟨jc, jg, ⟨lv, jl, jd⟩, ⟨zden_ofL _, ds⟩, jx, jo, jk⟩)
theorem zs_lor (hd : decode μ.2.1 pc = .ok (.lor, 1)) : zSim l P M μ pc (10, pc + 1, 0, 4, 0, []) := by
  intro p e s m args below meth c R Q d C hrm st o ho H locs cells slots ls stk J K
  obtain ⟨hx, hb, hml, hown, hts, hr, hlk⟩ := C
  obtain ⟨h, L, S⟩ := st
  obtain ⟨jc, jg, ⟨lv, jl, jd⟩, jS, jx, jo, jk⟩ := J
  obtain ⟨y, x, S, stk, rfl, ds, rfl⟩ := zv_bin64 (show z_bin64 (pc + 1) 4 (h, L, S) = some o from ho) jS
  exact lv_lor hx hb hd (K _ _ _ _ _ _ ⟨jc, jg, ⟨lv, jl, jd⟩, ⟨zden_ofL _, ds⟩, jx, jo, jk⟩)
theorem zs_lxor (hd : decode μ.2.1 pc = .ok (.lxor, 1)) : zSim l P M μ pc (10, pc + 1, 0, 5, 0, []) := by
  intro p e s m args below meth c R Q d C hrm st o ho H locs cells slots ls stk J K
  obtain ⟨hx, hb, hml, hown, hts, hr, hlk⟩ := C
  obtain ⟨h, L, S⟩ := st
  obtain ⟨jc, jg, ⟨lv, jl, jd⟩, jS, jx, jo, jk⟩ := J
  obtain ⟨y, x, S, stk, rfl, ds, rfl⟩ := zv_bin64 (show z_bin64 (pc + 1) 5 (h, L, S) = some o from ho) jS
  exact lv_lxor hx hb hd (K _ _ _ _ _ _ ⟨jc, jg, ⟨lv, jl, jd⟩, ⟨zden_ofL _, ds⟩, jx, jo, jk⟩)
theorem zs_lshl (hd : decode μ.2.1 pc = .ok (.lshl, 1)) : zSim l P M μ pc (12, pc + 1, 0, 0, 0, []) := by
  intro p e s m args below meth c R Q d C hrm st o ho H locs cells slots ls stk J K
  obtain ⟨hx, hb, hml, hown, hts, hr, hlk⟩ := C
  obtain ⟨h, L, S⟩ := st
  obtain ⟨jc, jg, ⟨lv, jl, jd⟩, jS, jx, jo, jk⟩ := J
  obtain ⟨y, x, S, stk, rfl, ds, rfl⟩ := zv_sh64 (show z_sh64 (pc + 1) 0 (h, L, S) = some o from ho) jS
  exact lv_lshl hx hb hd rfl (K _ _ _ _ _ _ ⟨jc, jg, ⟨lv, jl, jd⟩, ⟨zden_ofL _, ds⟩, jx, jo, jk⟩)
theorem zs_lushr (hd : decode μ.2.1 pc = .ok (.lushr, 1)) : zSim l P M μ pc (12, pc + 1, 0, 1, 0, []) := by
  intro p e s m args below meth c R Q d C hrm st o ho H locs cells slots ls stk J K
  obtain ⟨hx, hb, hml, hown, hts, hr, hlk⟩ := C
  obtain ⟨h, L, S⟩ := st
  obtain ⟨jc, jg, ⟨lv, jl, jd⟩, jS, jx, jo, jk⟩ := J
  obtain ⟨y, x, S, stk, rfl, ds, rfl⟩ := zv_sh64 (show z_sh64 (pc + 1) 1 (h, L, S) = some o from ho) jS
  exact lv_lushr hx hb hd rfl (K _ _ _ _ _ _ ⟨jc, jg, ⟨lv, jl, jd⟩, ⟨zden_ofL _, ds⟩, jx, jo, jk⟩)
theorem zs_idiv (hd : decode μ.2.1 pc = .ok (.idiv, 1)) : zSim l P M μ pc (8, pc + 1, 0, 0, 0, []) := by
  intro p e s m args below meth c R Q d C hrm st o ho H locs cells slots ls stk J K
  obtain ⟨hx, hb, hml, hown, hts, hr, hlk⟩ := C
  obtain ⟨h, L, S⟩ := st
  obtain ⟨jc, jg, ⟨lv, jl, jd⟩, jS, jx, jo, jk⟩ := J
  obtain ⟨y, x, S, stk, hne, rfl, ds, rfl⟩ := zv_div32 (show z_div32 (pc + 1) 0 (h, L, S) = some o from ho) jS
  exact lv_idiv hx hb hd hne (K _ _ _ _ _ _ ⟨jc, jg, ⟨lv, jl, jd⟩, ⟨zden_ofI _, ds⟩, jx, jo, jk⟩)
theorem zs_irem (hd : decode μ.2.1 pc = .ok (.irem, 1)) : zSim l P M μ pc (8, pc + 1, 0, 1, 0, []) := by
  intro p e s m args below meth c R Q d C hrm st o ho H locs cells slots ls stk J K
  obtain ⟨hx, hb, hml, hown, hts, hr, hlk⟩ := C
  obtain ⟨h, L, S⟩ := st
  obtain ⟨jc, jg, ⟨lv, jl, jd⟩, jS, jx, jo, jk⟩ := J
  obtain ⟨y, x, S, stk, hne, rfl, ds, rfl⟩ := zv_div32 (show z_div32 (pc + 1) 1 (h, L, S) = some o from ho) jS
  exact lv_irem hx hb hd hne (K _ _ _ _ _ _ ⟨jc, jg, ⟨lv, jl, jd⟩, ⟨zden_ofI _, ds⟩, jx, jo, jk⟩)
theorem zs_ldiv (hd : decode μ.2.1 pc = .ok (.ldiv, 1)) : zSim l P M μ pc (11, pc + 1, 0, 0, 0, []) := by
  intro p e s m args below meth c R Q d C hrm st o ho H locs cells slots ls stk J K
  obtain ⟨hx, hb, hml, hown, hts, hr, hlk⟩ := C
  obtain ⟨h, L, S⟩ := st
  obtain ⟨jc, jg, ⟨lv, jl, jd⟩, jS, jx, jo, jk⟩ := J
  obtain ⟨y, x, S, stk, hne, rfl, ds, rfl⟩ := zv_div64 (show z_div64 (pc + 1) 0 (h, L, S) = some o from ho) jS
  exact lv_ldiv hx hb hd hne (K _ _ _ _ _ _ ⟨jc, jg, ⟨lv, jl, jd⟩, ⟨zden_ofL _, ds⟩, jx, jo, jk⟩)
theorem zs_lrem (hd : decode μ.2.1 pc = .ok (.lrem, 1)) : zSim l P M μ pc (11, pc + 1, 0, 1, 0, []) := by
  intro p e s m args below meth c R Q d C hrm st o ho H locs cells slots ls stk J K
  obtain ⟨hx, hb, hml, hown, hts, hr, hlk⟩ := C
  obtain ⟨h, L, S⟩ := st
  obtain ⟨jc, jg, ⟨lv, jl, jd⟩, jS, jx, jo, jk⟩ := J
  obtain ⟨y, x, S, stk, hne, rfl, ds, rfl⟩ := zv_div64 (show z_div64 (pc + 1) 1 (h, L, S) = some o from ho) jS
  exact lv_lrem hx hb hd hne (K _ _ _ _ _ _ ⟨jc, jg, ⟨lv, jl, jd⟩, ⟨zden_ofL _, ds⟩, jx, jo, jk⟩)
theorem zs_lneg (hd : decode μ.2.1 pc = .ok (.lneg, 1)) : zSim l P M μ pc (9, pc + 1, 0, 0, 0, []) := by
  intro p e s m args below meth c R Q d C hrm st o ho H locs cells slots ls stk J K
  obtain ⟨hx, hb, hml, hown, hts, hr, hlk⟩ := C
  obtain ⟨h, L, S⟩ := st
  obtain ⟨jc, jg, ⟨lv, jl, jd⟩, jS, jx, jo, jk⟩ := J
  obtain ⟨x, S, stk, rfl, ds, rfl⟩ := zv_neg64 (show z_neg64 (pc + 1) (h, L, S) = some o from ho) jS
  exact lv_lneg hx hb hd (K _ _ _ _ _ _ ⟨jc, jg, ⟨lv, jl, jd⟩, ⟨zden_ofL _, ds⟩, jx, jo, jk⟩)
theorem zs_i2l (hd : decode μ.2.1 pc = .ok (.i2l, 1)) : zSim l P M μ pc (13, pc + 1, 0, 0, 0, []) := by
  intro p e s m args below meth c R Q d C hrm st o ho H locs cells slots ls stk J K
  obtain ⟨hx, hb, hml, hown, hts, hr, hlk⟩ := C
  obtain ⟨h, L, S⟩ := st
  obtain ⟨jc, jg, ⟨lv, jl, jd⟩, jS, jx, jo, jk⟩ := J
  obtain ⟨x, S, stk, rfl, ds, rfl⟩ := zv_i2l (show z_i2l (pc + 1) (h, L, S) = some o from ho) jS
  exact lv_i2l hx hb hd rfl (K _ _ _ _ _ _ ⟨jc, jg, ⟨lv, jl, jd⟩, ⟨zden_ofL _, ds⟩, jx, jo, jk⟩)
theorem zs_l2i (hd : decode μ.2.1 pc = .ok (.l2i, 1)) : zSim l P M μ pc (14, pc + 1, 0, 0, 0, []) := by
  intro p e s m args below meth c R Q d C hrm st o ho H locs cells slots ls stk J K
  obtain ⟨hx, hb, hml, hown, hts, hr, hlk⟩ := C
  obtain ⟨h, L, S⟩ := st
  obtain ⟨jc, jg, ⟨lv, jl, jd⟩, jS, jx, jo, jk⟩ := J
  obtain ⟨x, S, stk, rfl, ds, rfl⟩ := zv_l2i (show z_l2i (pc + 1) (h, L, S) = some o from ho) jS
  exact lv_l2i hx hb hd rfl (K _ _ _ _ _ _ ⟨jc, jg, ⟨lv, jl, jd⟩, ⟨zden_ofI _, ds⟩, jx, jo, jk⟩)
theorem zs_lcmp (hd : decode μ.2.1 pc = .ok (.lcmp, 1)) : zSim l P M μ pc (18, pc + 1, 0, 0, 0, []) := by
  intro p e s m args below meth c R Q d C hrm st o ho H locs cells slots ls stk J K
  obtain ⟨hx, hb, hml, hown, hts, hr, hlk⟩ := C
  obtain ⟨h, L, S⟩ := st
  obtain ⟨jc, jg, ⟨lv, jl, jd⟩, jS, jx, jo, jk⟩ := J
  obtain ⟨y, x, S, stk, rfl, ds, rfl⟩ := zv_lcmp (show z_lcmp (pc + 1) (h, L, S) = some o from ho) jS
  exact W.lcmp hx hb hd (K _ _ _ _ _ _ ⟨jc, jg, ⟨lv, jl, jd⟩, ⟨zden_ofI _, ds⟩, jx, jo, jk⟩)
theorem zs_pop (hd : decode μ.2.1 pc = .ok (.pop, 1)) : zSim l P M μ pc (15, pc + 1, 0, 0, 0, []) := by
  intro p e s m args below meth c R Q d C hrm st o ho H locs cells slots ls stk J K
  obtain ⟨hx, hb, hml, hown, hts, hr, hlk⟩ := C
  obtain ⟨h, L, S⟩ := st
  obtain ⟨jc, jg, ⟨lv, jl, jd⟩, jS, jx, jo, jk⟩ := J
  match S, stk, jS, (show z_stk (pc + 1) 0 (h, L, S) = some o from ho) with
  | a :: S, v :: stk, ⟨dv, ds⟩, ho =>
    have ho : (if zcat a = 1 then znx (pc + 1) (h, L, S) else none) = some o := ho
    split at ho
    · rename_i hk
      have ho := Option.some.inj ho
      subst ho
      exact lv_pop hx hb hd ((zden_cat dv).trans hk) (K _ _ _ _ _ _ ⟨jc, jg, ⟨lv, jl, jd⟩, ds, jx, jo, jk⟩)
    · cases ho
theorem zs_pop2 (hd : decode μ.2.1 pc = .ok (.pop2, 1)) : zSim l P M μ pc (15, pc + 1, 0, 1, 0, []) := by
  intro p e s m args below meth c R Q d C hrm st o ho H locs cells slots ls stk J K
  obtain ⟨hx, hb, hml, hown, hts, hr, hlk⟩ := C
  obtain ⟨h, L, S⟩ := st
  obtain ⟨jc, jg, ⟨lv, jl, jd⟩, jS, jx, jo, jk⟩ := J
  match S, stk, jS, (show z_stk (pc + 1) 1 (h, L, S) = some o from ho) with
  | a :: S, v :: stk, ⟨dv, ds⟩, ho =>
    have ho : (if zcat a = 2 then znx (pc + 1) (h, L, S) else none) = some o := ho
    split at ho
    · rename_i hk
      have ho := Option.some.inj ho
      subst ho
      exact lv_pop2_2 hx hb hd ((zden_cat dv).trans hk) (K _ _ _ _ _ _ ⟨jc, jg, ⟨lv, jl, jd⟩, ds, jx, jo, jk⟩)
    · cases ho
theorem zs_dup (hd : decode μ.2.1 pc = .ok (.dup, 1)) : zSim l P M μ pc (15, pc + 1, 0, 2, 0, []) := by
  intro p e s m args below meth c R Q d C hrm st o ho H locs cells slots ls stk J K
  obtain ⟨hx, hb, hml, hown, hts, hr, hlk⟩ := C
  obtain ⟨h, L, S⟩ := st
  obtain ⟨jc, jg, ⟨lv, jl, jd⟩, jS, jx, jo, jk⟩ := J
  match S, stk, jS, (show z_stk (pc + 1) 2 (h, L, S) = some o from ho) with
  | a :: S, v :: stk, ⟨dv, ds⟩, ho =>
    have ho : (if zcat a = 1 then znx (pc + 1) (h, L, a :: a :: S) else none) = some o := ho
    split at ho
    · rename_i hk
      have ho := Option.some.inj ho
      subst ho
      exact lv_dup hx hb hd ((zden_cat dv).trans hk) (K _ _ _ _ _ _ ⟨jc, jg, ⟨lv, jl, jd⟩, ⟨dv, dv, ds⟩, jx, jo, jk⟩)
    · cases ho
theorem zs_dup2 (hd : decode μ.2.1 pc = .ok (.dup2, 1)) : zSim l P M μ pc (15, pc + 1, 0, 3, 0, []) := by
  intro p e s m args below meth c R Q d C hrm st o ho H locs cells slots ls stk J K
  obtain ⟨hx, hb, hml, hown, hts, hr, hlk⟩ := C
  obtain ⟨h, L, S⟩ := st
  obtain ⟨jc, jg, ⟨lv, jl, jd⟩, jS, jx, jo, jk⟩ := J
  match S, stk, jS, (show z_stk (pc + 1) 3 (h, L, S) = some o from ho) with
  | a :: b :: S, v :: w :: stk, ⟨dv, dw, ds⟩, ho =>
    have ho : (if zcat a = 1 ∧ zcat b = 1 then znx (pc + 1) (h, L, a :: b :: a :: b :: S) else none) = some o := ho
    split at ho
    · rename_i hk
      have ho := Option.some.inj ho
      subst ho
      exact lv_dup2_11 hx hb hd ((zden_cat dv).trans hk.1) ((zden_cat dw).trans hk.2) (K _ _ _ _ _ _ ⟨jc, jg, ⟨lv, jl, jd⟩, ⟨dv, dw, dv, dw, ds⟩, jx, jo, jk⟩)
    · cases ho
theorem zs_dup2_l (hd : decode μ.2.1 pc = .ok (.dup2, 1)) : zSim l P M μ pc (15, pc + 1, 0, 4, 0, []) := by
  intro p e s m args below meth c R Q d C hrm st o ho H locs cells slots ls stk J K
  obtain ⟨hx, hb, hml, hown, hts, hr, hlk⟩ := C
  obtain ⟨h, L, S⟩ := st
  obtain ⟨jc, jg, ⟨lv, jl, jd⟩, jS, jx, jo, jk⟩ := J
  match S, stk, jS, (show z_stk (pc + 1) 4 (h, L, S) = some o from ho) with
  | a :: S, v :: stk, ⟨dv, ds⟩, ho =>
    have ho : (if zcat a = 2 then znx (pc + 1) (h, L, a :: a :: S) else none) = some o := ho
    split at ho
    · rename_i hk
      have ho := Option.some.inj ho
      subst ho
      exact lv_dup2_2 hx hb hd ((zden_cat dv).trans hk) (K _ _ _ _ _ _ ⟨jc, jg, ⟨lv, jl, jd⟩, ⟨dv, dv, ds⟩, jx, jo, jk⟩)
    · cases ho
theorem zs_icmp_eq {off : Int} (tgt : Nat) (hd : decode μ.2.1 pc = .ok (.if_icmp .eq off, 3)) (ht : (pc : Int) + off = (tgt : Int)) : zSim l P M μ pc (17, pc + 3, tgt, 2, 0, []) := by
  intro p e s m args below meth c R Q d C hrm st o ho H locs cells slots ls stk J K
  obtain ⟨hx, hb, hml, hown, hts, hr, hlk⟩ := C
  obtain ⟨h, L, S⟩ := st
  obtain ⟨jc, jg, ⟨lv, jl, jd⟩, jS, jx, jo, jk⟩ := J
  obtain ⟨y, x, S, stk, rfl, ds, rfl⟩ := zv_icmp (show z_icmp (pc + 3) tgt 2 (h, L, S) = some o from ho) jS
  have K : zKG P μ p l e R s m args below meth c Q (if decide (x.toInt = y.toInt) = true then tgt else (pc + 3)) (h, L, S) := K
  exact lv_icmp_eq hx hb hd ht (fun q => by
    rw [decide_eq_true (show (x.toInt = y.toInt) from congrArg Int32.toInt q)] at K
    exact K _ _ _ _ _ _ ⟨jc, jg, ⟨lv, jl, jd⟩, ds, jx, jo, jk⟩) (fun q => by
    rw [decide_eq_false (show ¬ (x.toInt = y.toInt) from fun z => q (Int32.toInt_inj.mp z))] at K
    exact K _ _ _ _ _ _ ⟨jc, jg, ⟨lv, jl, jd⟩, ds, jx, jo, jk⟩)
theorem zs_if_eq {off : Int} (tgt : Nat) (hd : decode μ.2.1 pc = .ok (.ifCond .eq off, 3)) (ht : (pc : Int) + off = (tgt : Int)) : zSim l P M μ pc (16, pc + 3, tgt, 2, 0, []) := by
  intro p e s m args below meth c R Q d C hrm st o ho H locs cells slots ls stk J K
  obtain ⟨hx, hb, hml, hown, hts, hr, hlk⟩ := C
  obtain ⟨h, L, S⟩ := st
  obtain ⟨jc, jg, ⟨lv, jl, jd⟩, jS, jx, jo, jk⟩ := J
  obtain ⟨x, S, stk, rfl, ds, rfl⟩ := zv_if (show z_if (pc + 3) tgt 2 (h, L, S) = some o from ho) jS
  have K : zKG P μ p l e R s m args below meth c Q (if decide (x.toInt = 0) = true then tgt else (pc + 3)) (h, L, S) := K
  exact lv_if_eq hx hb hd ht (fun q => by
    rw [decide_eq_true (show (x.toInt = 0) from congrArg Int32.toInt q)] at K
    exact K _ _ _ _ _ _ ⟨jc, jg, ⟨lv, jl, jd⟩, ds, jx, jo, jk⟩) (fun q => by
    rw [decide_eq_false (show ¬ (x.toInt = 0) from fun z => q (Int32.toInt_inj.mp z))] at K
    exact K _ _ _ _ _ _ ⟨jc, jg, ⟨lv, jl, jd⟩, ds, jx, jo, jk⟩)
theorem zs_icmp_ne {off : Int} (tgt : Nat) (hd : decode μ.2.1 pc = .ok (.if_icmp .ne off, 3)) (ht : (pc : Int) + off = (tgt : Int)) : zSim l P M μ pc (17, tgt, pc + 3, 2, 0, []) := by
  intro p e s m args below meth c R Q d C hrm st o ho H locs cells slots ls stk J K
  obtain ⟨hx, hb, hml, hown, hts, hr, hlk⟩ := C
  obtain ⟨h, L, S⟩ := st
  obtain ⟨jc, jg, ⟨lv, jl, jd⟩, jS, jx, jo, jk⟩ := J
  obtain ⟨y, x, S, stk, rfl, ds, rfl⟩ := zv_icmp (show z_icmp tgt (pc + 3) 2 (h, L, S) = some o from ho) jS
  have K : zKG P μ p l e R s m args below meth c Q (if decide (x.toInt = y.toInt) = true then (pc + 3) else tgt) (h, L, S) := K
  exact lv_icmp_ne hx hb hd ht (fun q => by
    rw [decide_eq_false (show ¬ (x.toInt = y.toInt) from fun z => q (Int32.toInt_inj.mp z))] at K
    exact K _ _ _ _ _ _ ⟨jc, jg, ⟨lv, jl, jd⟩, ds, jx, jo, jk⟩) (fun q => by
    rw [decide_eq_true (show (x.toInt = y.toInt) from congrArg Int32.toInt q)] at K
    exact K _ _ _ _ _ _ ⟨jc, jg, ⟨lv, jl, jd⟩, ds, jx, jo, jk⟩)
theorem zs_if_ne {off : Int} (tgt : Nat) (hd : decode μ.2.1 pc = .ok (.ifCond .ne off, 3)) (ht : (pc : Int) + off = (tgt : Int)) : zSim l P M μ pc (16, tgt, pc + 3, 2, 0, []) := by
  intro p e s m args below meth c R Q d C hrm st o ho H locs cells slots ls stk J K
  obtain ⟨hx, hb, hml, hown, hts, hr, hlk⟩ := C
  obtain ⟨h, L, S⟩ := st
  obtain ⟨jc, jg, ⟨lv, jl, jd⟩, jS, jx, jo, jk⟩ := J
  obtain ⟨x, S, stk, rfl, ds, rfl⟩ := zv_if (show z_if tgt (pc + 3) 2 (h, L, S) = some o from ho) jS
  have K : zKG P μ p l e R s m args below meth c Q (if decide (x.toInt = 0) = true then (pc + 3) else tgt) (h, L, S) := K
  exact lv_if_ne hx hb hd ht (fun q => by
    rw [decide_eq_false (show ¬ (x.toInt = 0) from fun z => q (Int32.toInt_inj.mp z))] at K
    exact K _ _ _ _ _ _ ⟨jc, jg, ⟨lv, jl, jd⟩, ds, jx, jo, jk⟩) (fun q => by
    rw [decide_eq_true (show (x.toInt = 0) from congrArg Int32.toInt q)] at K
    exact K _ _ _ _ _ _ ⟨jc, jg, ⟨lv, jl, jd⟩, ds, jx, jo, jk⟩)
theorem zs_icmp_lt {off : Int} (tgt : Nat) (hd : decode μ.2.1 pc = .ok (.if_icmp .lt off, 3)) (ht : (pc : Int) + off = (tgt : Int)) : zSim l P M μ pc (17, pc + 3, tgt, 0, 0, []) := by
  intro p e s m args below meth c R Q d C hrm st o ho H locs cells slots ls stk J K
  obtain ⟨hx, hb, hml, hown, hts, hr, hlk⟩ := C
  obtain ⟨h, L, S⟩ := st
  obtain ⟨jc, jg, ⟨lv, jl, jd⟩, jS, jx, jo, jk⟩ := J
  obtain ⟨y, x, S, stk, rfl, ds, rfl⟩ := zv_icmp (show z_icmp (pc + 3) tgt 0 (h, L, S) = some o from ho) jS
  have K : zKG P μ p l e R s m args below meth c Q (if decide (x.toInt < y.toInt) = true then tgt else (pc + 3)) (h, L, S) := K
  exact lv_icmp_lt hx hb hd ht (fun q => by
    rw [decide_eq_true (show (x.toInt < y.toInt) from Int32.lt_iff_toInt_lt.mp q)] at K
    exact K _ _ _ _ _ _ ⟨jc, jg, ⟨lv, jl, jd⟩, ds, jx, jo, jk⟩) (fun q => by
    rw [decide_eq_false (show ¬ (x.toInt < y.toInt) from fun z => q (Int32.lt_iff_toInt_lt.mpr z))] at K
    exact K _ _ _ _ _ _ ⟨jc, jg, ⟨lv, jl, jd⟩, ds, jx, jo, jk⟩)
theorem zs_if_lt {off : Int} (tgt : Nat) (hd : decode μ.2.1 pc = .ok (.ifCond .lt off, 3)) (ht : (pc : Int) + off = (tgt : Int)) : zSim l P M μ pc (16, pc + 3, tgt, 0, 0, []) := by
  intro p e s m args below meth c R Q d C hrm st o ho H locs cells slots ls stk J K
  obtain ⟨hx, hb, hml, hown, hts, hr, hlk⟩ := C
  obtain ⟨h, L, S⟩ := st
  obtain ⟨jc, jg, ⟨lv, jl, jd⟩, jS, jx, jo, jk⟩ := J
  obtain ⟨x, S, stk, rfl, ds, rfl⟩ := zv_if (show z_if (pc + 3) tgt 0 (h, L, S) = some o from ho) jS
  have K : zKG P μ p l e R s m args below meth c Q (if decide (x.toInt < 0) = true then tgt else (pc + 3)) (h, L, S) := K
  exact lv_if_lt hx hb hd ht (fun q => by
    rw [decide_eq_true (show (x.toInt < 0) from Int32.lt_iff_toInt_lt.mp q)] at K
    exact K _ _ _ _ _ _ ⟨jc, jg, ⟨lv, jl, jd⟩, ds, jx, jo, jk⟩) (fun q => by
    rw [decide_eq_false (show ¬ (x.toInt < 0) from fun z => q (Int32.lt_iff_toInt_lt.mpr z))] at K
    exact K _ _ _ _ _ _ ⟨jc, jg, ⟨lv, jl, jd⟩, ds, jx, jo, jk⟩)
theorem zs_icmp_ge {off : Int} (tgt : Nat) (hd : decode μ.2.1 pc = .ok (.if_icmp .ge off, 3)) (ht : (pc : Int) + off = (tgt : Int)) : zSim l P M μ pc (17, tgt, pc + 3, 0, 0, []) := by
  intro p e s m args below meth c R Q d C hrm st o ho H locs cells slots ls stk J K
  obtain ⟨hx, hb, hml, hown, hts, hr, hlk⟩ := C
  obtain ⟨h, L, S⟩ := st
  obtain ⟨jc, jg, ⟨lv, jl, jd⟩, jS, jx, jo, jk⟩ := J
  obtain ⟨y, x, S, stk, rfl, ds, rfl⟩ := zv_icmp (show z_icmp tgt (pc + 3) 0 (h, L, S) = some o from ho) jS
  have K : zKG P μ p l e R s m args below meth c Q (if decide (x.toInt < y.toInt) = true then (pc + 3) else tgt) (h, L, S) := K
  exact lv_icmp_ge hx hb hd ht (fun q => by
    rw [decide_eq_false (show ¬ (x.toInt < y.toInt) from fun z => Int.not_lt.mpr (Int32.le_iff_toInt_le.mp q) z)] at K
    exact K _ _ _ _ _ _ ⟨jc, jg, ⟨lv, jl, jd⟩, ds, jx, jo, jk⟩) (fun q => by
    rw [decide_eq_true (show (x.toInt < y.toInt) from Int.not_le.mp (fun z => q (Int32.le_iff_toInt_le.mpr z)))] at K
    exact K _ _ _ _ _ _ ⟨jc, jg, ⟨lv, jl, jd⟩, ds, jx, jo, jk⟩)
theorem zs_if_ge {off : Int} (tgt : Nat) (hd : decode μ.2.1 pc = .ok (.ifCond .ge off, 3)) (ht : (pc : Int) + off = (tgt : Int)) : zSim l P M μ pc (16, tgt, pc + 3, 0, 0, []) := by
  intro p e s m args below meth c R Q d C hrm st o ho H locs cells slots ls stk J K
  obtain ⟨hx, hb, hml, hown, hts, hr, hlk⟩ := C
  obtain ⟨h, L, S⟩ := st
  obtain ⟨jc, jg, ⟨lv, jl, jd⟩, jS, jx, jo, jk⟩ := J
  obtain ⟨x, S, stk, rfl, ds, rfl⟩ := zv_if (show z_if tgt (pc + 3) 0 (h, L, S) = some o from ho) jS
  have K : zKG P μ p l e R s m args below meth c Q (if decide (x.toInt < 0) = true then (pc + 3) else tgt) (h, L, S) := K
  exact lv_if_ge hx hb hd ht (fun q => by
    rw [decide_eq_false (show ¬ (x.toInt < 0) from fun z => Int.not_lt.mpr (Int32.le_iff_toInt_le.mp q) z)] at K
    exact K _ _ _ _ _ _ ⟨jc, jg, ⟨lv, jl, jd⟩, ds, jx, jo, jk⟩) (fun q => by
    rw [decide_eq_true (show (x.toInt < 0) from Int.not_le.mp (fun z => q (Int32.le_iff_toInt_le.mpr z)))] at K
    exact K _ _ _ _ _ _ ⟨jc, jg, ⟨lv, jl, jd⟩, ds, jx, jo, jk⟩)
theorem zs_icmp_gt {off : Int} (tgt : Nat) (hd : decode μ.2.1 pc = .ok (.if_icmp .gt off, 3)) (ht : (pc : Int) + off = (tgt : Int)) : zSim l P M μ pc (17, pc + 3, tgt, 1, 0, []) := by
  intro p e s m args below meth c R Q d C hrm st o ho H locs cells slots ls stk J K
  obtain ⟨hx, hb, hml, hown, hts, hr, hlk⟩ := C
  obtain ⟨h, L, S⟩ := st
  obtain ⟨jc, jg, ⟨lv, jl, jd⟩, jS, jx, jo, jk⟩ := J
  obtain ⟨y, x, S, stk, rfl, ds, rfl⟩ := zv_icmp (show z_icmp (pc + 3) tgt 1 (h, L, S) = some o from ho) jS
  have K : zKG P μ p l e R s m args below meth c Q (if decide (y.toInt < x.toInt) = true then tgt else (pc + 3)) (h, L, S) := K
  exact lv_icmp_gt hx hb hd ht (fun q => by
    rw [decide_eq_true (show (y.toInt < x.toInt) from Int32.lt_iff_toInt_lt.mp q)] at K
    exact K _ _ _ _ _ _ ⟨jc, jg, ⟨lv, jl, jd⟩, ds, jx, jo, jk⟩) (fun q => by
    rw [decide_eq_false (show ¬ (y.toInt < x.toInt) from fun z => q (Int32.lt_iff_toInt_lt.mpr z))] at K
    exact K _ _ _ _ _ _ ⟨jc, jg, ⟨lv, jl, jd⟩, ds, jx, jo, jk⟩)
theorem zs_if_gt {off : Int} (tgt : Nat) (hd : decode μ.2.1 pc = .ok (.ifCond .gt off, 3)) (ht : (pc : Int) + off = (tgt : Int)) : zSim l P M μ pc (16, pc + 3, tgt, 1, 0, []) := by
  intro p e s m args below meth c R Q d C hrm st o ho H locs cells slots ls stk J K
  obtain ⟨hx, hb, hml, hown, hts, hr, hlk⟩ := C
  obtain ⟨h, L, S⟩ := st
  obtain ⟨jc, jg, ⟨lv, jl, jd⟩, jS, jx, jo, jk⟩ := J
  obtain ⟨x, S, stk, rfl, ds, rfl⟩ := zv_if (show z_if (pc + 3) tgt 1 (h, L, S) = some o from ho) jS
  have K : zKG P μ p l e R s m args below meth c Q (if decide (0 < x.toInt) = true then tgt else (pc + 3)) (h, L, S) := K
  exact lv_if_gt hx hb hd ht (fun q => by
    rw [decide_eq_true (show (0 < x.toInt) from Int32.lt_iff_toInt_lt.mp q)] at K
    exact K _ _ _ _ _ _ ⟨jc, jg, ⟨lv, jl, jd⟩, ds, jx, jo, jk⟩) (fun q => by
    rw [decide_eq_false (show ¬ (0 < x.toInt) from fun z => q (Int32.lt_iff_toInt_lt.mpr z))] at K
    exact K _ _ _ _ _ _ ⟨jc, jg, ⟨lv, jl, jd⟩, ds, jx, jo, jk⟩)
theorem zs_icmp_le {off : Int} (tgt : Nat) (hd : decode μ.2.1 pc = .ok (.if_icmp .le off, 3)) (ht : (pc : Int) + off = (tgt : Int)) : zSim l P M μ pc (17, tgt, pc + 3, 1, 0, []) := by
  intro p e s m args below meth c R Q d C hrm st o ho H locs cells slots ls stk J K
  obtain ⟨hx, hb, hml, hown, hts, hr, hlk⟩ := C
  obtain ⟨h, L, S⟩ := st
  obtain ⟨jc, jg, ⟨lv, jl, jd⟩, jS, jx, jo, jk⟩ := J
  obtain ⟨y, x, S, stk, rfl, ds, rfl⟩ := zv_icmp (show z_icmp tgt (pc + 3) 1 (h, L, S) = some o from ho) jS
  have K : zKG P μ p l e R s m args below meth c Q (if decide (y.toInt < x.toInt) = true then (pc + 3) else tgt) (h, L, S) := K
  exact lv_icmp_le hx hb hd ht (fun q => by
    rw [decide_eq_false (show ¬ (y.toInt < x.toInt) from fun z => Int.not_lt.mpr (Int32.le_iff_toInt_le.mp q) z)] at K
    exact K _ _ _ _ _ _ ⟨jc, jg, ⟨lv, jl, jd⟩, ds, jx, jo, jk⟩) (fun q => by
    rw [decide_eq_true (show (y.toInt < x.toInt) from Int.not_le.mp (fun z => q (Int32.le_iff_toInt_le.mpr z)))] at K
    exact K _ _ _ _ _ _ ⟨jc, jg, ⟨lv, jl, jd⟩, ds, jx, jo, jk⟩)
theorem zs_if_le {off : Int} (tgt : Nat) (hd : decode μ.2.1 pc = .ok (.ifCond .le off, 3)) (ht : (pc : Int) + off = (tgt : Int)) : zSim l P M μ pc (16, tgt, pc + 3, 1, 0, []) := by
  intro p e s m args below meth c R Q d C hrm st o ho H locs cells slots ls stk J K
  obtain ⟨hx, hb, hml, hown, hts, hr, hlk⟩ := C
  obtain ⟨h, L, S⟩ := st
  obtain ⟨jc, jg, ⟨lv, jl, jd⟩, jS, jx, jo, jk⟩ := J
  obtain ⟨x, S, stk, rfl, ds, rfl⟩ := zv_if (show z_if tgt (pc + 3) 1 (h, L, S) = some o from ho) jS
  have K : zKG P μ p l e R s m args below meth c Q (if decide (0 < x.toInt) = true then (pc + 3) else tgt) (h, L, S) := K
  exact lv_if_le hx hb hd ht (fun q => by
    rw [decide_eq_false (show ¬ (0 < x.toInt) from fun z => Int.not_lt.mpr (Int32.le_iff_toInt_le.mp q) z)] at K
    exact K _ _ _ _ _ _ ⟨jc, jg, ⟨lv, jl, jd⟩, ds, jx, jo, jk⟩) (fun q => by
    rw [decide_eq_true (show (0 < x.toInt) from Int.not_le.mp (fun z => q (Int32.le_iff_toInt_le.mpr z)))] at K
    exact K _ _ _ _ _ _ ⟨jc, jg, ⟨lv, jl, jd⟩, ds, jx, jo, jk⟩)
end ZSTEP
end
section
/-! THE CONCRETE MACHINE'S STEPS, second part: switches, fields, arrays -/
def zNs : List Nat := [9, 11, 15, 3, 2, 6, 5, 12, 11, 3, 9, 20, 48]
theorem zShape_obj {r ci n : Nat} (h : zShape[r]? = some (.inr (ci, n))) : zNs[ci]? = some n := by
  have h2 := List.mem_of_getElem? h
  have all : zShape.all (fun c => match c with
    | .inr q => zNs[q.1]? == some q.2
    | .inl q => decide (q.2 < 10000)) = true := by decide +kernel
  have h3 := List.all_eq_true.mp all _ h2
  exact eq_of_beq h3
theorem zShape_arr {r n : Nat} {ty : FieldType} (h : zShape[r]? = some (.inl (ty, n))) : n < 10000 := by
  have h2 := List.mem_of_getElem? h
  have all : zShape.all (fun c => match c with
    | .inr q => zNs[q.1]? == some q.2
    | .inl q => decide (q.2 < 10000)) = true := by decide +kernel
  have h3 := List.all_eq_true.mp all _ h2
  exact of_decide_eq_true h3
theorem zisO_den {ci : Nat} {r : Int} (h : zisO ci r = true) : ∃ n, zShape[r.toNat]? = some (.inr (ci, n)) := by
  unfold zisO at h
  split at h
  · rename_i q hq
    have : q.1 = ci := eq_of_beq h
    exact ⟨q.2, by rw [hq, ← this]⟩
  · cases h
theorem zarr_den {c : Nat} {r i : Int} (h : zarr c r i = true) : ∃ ty n, zShape[r.toNat]? = some (.inl (ty, n)) ∧ zcode ty = c ∧ 0 ≤ i ∧ i < (n : Int) := by
  unfold zarr at h
  split at h
  · rename_i q hq
    rw [Bool.and_eq_true, Bool.and_eq_true, decide_eq_true_eq, decide_eq_true_eq] at h
    exact ⟨q.1, q.2, hq, eq_of_beq h.1, h.2.1, h.2.2⟩
  · cases h
theorem zroom_den {c : Nat} {r i k : Int} (h : zroom c r i k = true) : ∃ ty n, zShape[r.toNat]? = some (.inl (ty, n)) ∧ zcode ty = c ∧ 0 ≤ i ∧ 0 ≤ k ∧ i + k ≤ (n : Int) := by
  unfold zroom at h
  split at h
  · rename_i q hq
    rw [Bool.and_eq_true, Bool.and_eq_true, Bool.and_eq_true, decide_eq_true_eq, decide_eq_true_eq, decide_eq_true_eq] at h
    exact ⟨q.1, q.2, hq, eq_of_beq h.1, h.2.1, h.2.2.1, h.2.2.2⟩
  · cases h
theorem zcode_ty {ty : FieldType} : (zcode ty = 0 → ty = .int) ∧ (zcode ty = 1 → ty = .long) ∧ (zcode ty = 2 → ty = .byte) ∧ (zcode ty = 3 → ty = .boolean) ∧ (zcode ty = 4 → ∃ C, ty = .object C) := by
  cases ty <;> simp [zcode]
theorem z_clamp {i : Int32} (h : 0 ≤ i.toInt) : (i.toNatClampNeg : Int) = i.toInt ∧ i.toNatClampNeg = i.toInt.toNat := ⟨by show ((i.toInt.toNat : Nat) : Int) = _; omega, rfl⟩
theorem z_in {i : Int32} {n : Nat} (h0 : 0 ≤ i.toInt) (h1 : i.toInt < (n : Int)) : ¬ (i < 0 ∨ n ≤ i.toNatClampNeg) ∧ i.toNatClampNeg < n ∧ i.toNatClampNeg = i.toInt.toNat := by
  have hc := (z_clamp h0).1
  refine ⟨fun q => q.elim (fun q => ?_) (fun q => by omega), by omega, rfl⟩
  rw [Int32.lt_iff_toInt_lt, Int32.toInt_zero] at q
  omega
theorem z_i0 {i : Int32} (h0 : 0 ≤ i.toInt) : ¬ i < 0 := fun q => by
  rw [Int32.lt_iff_toInt_lt, Int32.toInt_zero] at q
  omega
theorem zset_self (h : zH) (k j : Nat) (v : zV) : zset h k j v k = fun b => if b = j then v else h k b := by
  funext b
  show (if k = k ∧ b = j then v else h k b) = _
  by_cases hb : b = j
  · rw [if_pos ⟨rfl, hb⟩, if_pos hb]
  · rw [if_neg (fun q => hb q.2), if_neg hb]
theorem zset_other (h : zH) (k j : Nat) (v : zV) : ∀ a, a ≠ k → zset h k j v a = h a := by
  intro a ha
  funext b
  show (if a = k ∧ b = j then v else h a b) = _
  rw [if_neg (fun q => ha q.1)]
section ZSTEP2
variable {l : Launch} {P : zP} {M : List zY} {μ : zM} {pc : Nat}
theorem zfind_eq {d : Nat} {z : Int} : ∀ cs : List (Int × Nat), zfind d z cs = x_find d z cs
  | [] => rfl
  | q :: cs => by
    show (if z = q.1 then q.2 else zfind d z cs) = cond (decide (z = q.1)) q.2 (x_find d z cs)
    rw [zfind_eq cs]
    by_cases h : z = q.1
    · rw [if_pos h, decide_eq_true h]; rfl
    · rw [if_neg h, decide_eq_false h]; rfl
theorem z_switch (d0 : Nat) (cs : List (Int × Nat)) (row : ∀ (p : Program) (e : Env) (s : State) (m : MethodId) (args : Array Value) (below : List Frame) (meth : Method) (c : Code) (R : Room) (Q : State → Prop) (H : Heap) (locs : List Loc) (cells slots : Nat) (ls : Array Slot) (rest : List Value) (z : Int32), p.tables.exec = Jvm.exec → c.code = μ.2.1 → W p l e R s m args below meth c H locs cells slots Q (F0 m (x_find d0 z.toInt cs) ls rest) → W p l e R s m args below meth c H locs cells slots Q (F0 m pc ls (.int z :: rest))) : zSim l P M μ pc (19, d0, 0, 0, 0, cs) := by
  intro p e s m args below meth c R Q d C hrm st o ho H locs cells slots ls stk J K
  obtain ⟨hx, hb, hml, hown, hts, hr, hlk⟩ := C
  obtain ⟨h, L, S⟩ := st
  obtain ⟨jc, jg, ⟨lv, jl, jd⟩, jS, jx, jo, jk⟩ := J
  obtain ⟨x, S, stk, rfl, ds, rfl⟩ := zv_sw (show z_sw d0 cs (h, L, S) = some o from ho) jS
  have K : zKG P μ p l e R s m args below meth c Q (zfind d0 x.toInt cs) (h, L, S) := K
  rw [zfind_eq] at K
  exact row _ _ _ _ _ _ _ _ _ _ _ _ _ _ _ _ _ hx hb (K _ _ _ _ _ _ ⟨jc, jg, ⟨lv, jl, jd⟩, ds, jx, jo, jk⟩)
theorem zs_tsw {dflt lo hi : Int} {offs : Array Int} {len : Nat} (d : Nat) (cs : List (Int × Nat)) (hd : decode μ.2.1 pc = .ok (.tableswitch dflt lo hi offs, len)) (h0 : (pc : Int) + dflt = (d : Int)) (hcs : cs = offs.toList.zipIdx.map (fun q => (lo + (q.2 : Int), ((pc : Int) + q.1).toNat))) (hpos : ∀ o ∈ offs.toList, 0 ≤ (pc : Int) + o) (hn : (offs.size : Int) = hi - lo + 1) : zSim l P M μ pc (19, d, 0, 0, 0, cs) := by
  refine z_switch d cs ?_
  intro p e s m args below meth c R Q H locs cells slots ls rest z hx hb kk
  have find : ∀ (os : List Int) (i : Nat) (w : Int), (∀ o ∈ os, 0 ≤ (pc : Int) + o) → (w < lo + (i : Int) ∨ lo + (i : Int) + os.length ≤ w → x_find d w ((os.zipIdx i).map (fun q => (lo + (q.2 : Int), ((pc : Int) + q.1).toNat))) = d) ∧ ∀ (j : Nat) (o : Int), os[j]? = some o → w = lo + (i : Int) + (j : Int) → ((x_find d w ((os.zipIdx i).map (fun q => (lo + (q.2 : Int), ((pc : Int) + q.1).toNat))) : Nat) : Int) = (pc : Int) + o := by
    intro os
    induction os with
    | nil => exact fun i w _ => ⟨fun _ => rfl, fun j o h => by simp at h⟩
    | cons o os ih =>
      intro i w hp
      obtain ⟨ih1, ih2⟩ := ih (i + 1) w (fun o ho => hp o (List.mem_cons_of_mem _ ho))
      rw [List.zipIdx_cons, List.map_cons]
      refine ⟨fun h => ?_, fun j o' hj hw => ?_⟩
      · show cond (decide (w = lo + (i : Int))) _ (x_find d w _) = d
        rw [decide_eq_false (by rw [List.length_cons] at h; omega)]
        exact ih1 (by rw [List.length_cons] at h; omega)
      · show ((cond (decide (w = lo + (i : Int))) _ (x_find d w _) : Nat) : Int) = _
        cases j with
        | zero =>
          cases hj
          rw [decide_eq_true (by omega)]
          have := hp o List.mem_cons_self
          show (((pc : Int) + o).toNat : Int) = _
          omega
        | succ j =>
          rw [decide_eq_false (by omega)]
          exact ih2 j o' (by simpa using hj) (by omega)
  obtain ⟨f1, f2⟩ := find offs.toList 0 z.toInt hpos
  rw [show offs.toList.zipIdx 0 = offs.toList.zipIdx from rfl, ← hcs] at f1 f2
  have hlen : (offs.toList.length : Int) = hi - lo + 1 := by rw [Array.length_toList]; exact hn
  by_cases h : z.toInt < lo ∨ hi < z.toInt
  · refine lv_tableOut (tgt := x_find d z.toInt cs) hx hb hd h ?_ kk
    rw [f1 (by omega)]
    exact h0
  · have hj : (z.toInt - lo).toNat < offs.size := by omega
    have hget : offs[(z.toInt - lo).toNat]? = some offs[(z.toInt - lo).toNat] := Array.getElem?_eq_getElem hj
    refine lv_tableIn (tgt := x_find d z.toInt cs) hx hb hd (fun q => h (Or.inl q)) (fun q => h (Or.inr q)) hget ?_ kk
    exact (f2 (z.toInt - lo).toNat _ (by rw [Array.getElem?_toList]; exact hget) (by omega)).symm
theorem zs_lsw {dflt : Int} {ps : Array (Int × Int)} {len : Nat} (d : Nat) (cs : List (Int × Nat)) (hd : decode μ.2.1 pc = .ok (.lookupswitch dflt ps, len)) (hp : (ps.toList.zip (ps.toList.drop 1)).all (fun (a, next) => a.1 < next.1) = true) (h0 : (pc : Int) + dflt = (d : Int)) (hcs : cs = ps.toList.map (fun q => (q.1, ((pc : Int) + q.2).toNat))) (hpos : ∀ q ∈ ps.toList, 0 ≤ (pc : Int) + q.2) : zSim l P M μ pc (19, d, 0, 0, 0, cs) := by
  refine z_switch d cs ?_
  intro p e s m args below meth c R Q H locs cells slots ls rest z hx hb kk
  have find : ∀ (ps : List (Int × Int)) (w : Int), (∀ q ∈ ps, 0 ≤ (pc : Int) + q.2) → (pc : Int) + Op.lookupswitch.offset ps dflt w = ((x_find d w (ps.map (fun q => (q.1, ((pc : Int) + q.2).toNat))) : Nat) : Int) := by
    intro ps
    induction ps with
    | nil => intro w _; rw [Op.lookupswitch.offset_nil]; exact h0
    | cons q ps ih =>
      intro w hp
      have h1 := ih w (fun q hq => hp q (List.mem_cons_of_mem _ hq))
      obtain ⟨a, o⟩ := q
      rw [Op.lookupswitch.offset_cons]
      show _ = ((cond (decide (w = a)) ((pc : Int) + o).toNat (x_find d w _) : Nat) : Int)
      have h2 := hp (a, o) List.mem_cons_self
      by_cases hw : w = a
      · rw [if_pos hw.symm, decide_eq_true hw]
        show _ = (((pc : Int) + o).toNat : Int)
        simp only at h2
        omega
      · rw [if_neg (fun q => hw q.symm), decide_eq_false hw]
        exact h1
  exact lv_lookup (tgt := x_find d z.toInt cs) hx hb hd hp rfl (by rw [hcs]; exact find ps.toList z.toInt hpos) kk
theorem zs_getf {C : String} {T : u_T} {N index : Nat} (ci k : Nat) (hN : zNs[ci]? = some N) (hd : decode μ.2.1 pc = .ok (.getfield index, 3)) (hc : vwCl[ci]? = some (C, T, N)) (hk : k < N) (hin : ∀ w ∈ u_ws C T N, w ∈ xTB) (hw : Cond.fieldLink μ.1 index (T k).1 (T k).2.1 (T k).2.2.1 ∈ xTB) : zSim l P M μ pc (20, pc + 3, ci, k, 0, []) := by
  intro p e s m args below meth c R Q d C hrm st o ho H locs cells slots ls stk J K
  obtain ⟨hx, hb, hml, hown, hts, hr, hlk⟩ := C
  obtain ⟨h, L, S⟩ := st
  obtain ⟨jc, jg, ⟨lv, jl, jd⟩, jS, jx, jo, jk⟩ := J
  have ho : z_getf (pc + 3) ci k (h, L, S) = some o := ho
  unfold z_getf at ho
  split at ho
  · rename_i r S' hS
    dsimp only at hS
    subst hS
    match stk, jS with
    | _ :: stk, ⟨rfl, ds⟩ =>
      split at ho
      · rename_i hO
        have ho := Option.some.inj ho
        subst ho
        obtain ⟨n, hsh⟩ := zisO_den hO
        have hn : n = N := Option.some.inj ((zShape_obj hsh).symm.trans hN)
        subst hn
        obtain ⟨vs, hvs, hat⟩ := jg _ _ hsh
        obtain ⟨v, hv, da⟩ := hvs k hk
        exact va_get hx hb hts hin hown jk (va_P1 hat) 0 rfl hc k hk (hts _ hw) (fun _ h9 => h9) hv hd (K _ _ _ _ _ _ ⟨jc, jg, ⟨lv, jl, jd⟩, ⟨da, ds⟩, jx, jo, jk⟩)
      · cases ho
  · cases ho
theorem zs_putf {C : String} {T : u_T} {N index : Nat} (ci k t : Nat) (ty0 : Nat → FieldType) (ty : FieldType) (hN : zNs[ci]? = some N) (hd : decode μ.2.1 pc = .ok (.putfield index, 3)) (hc : vwCl[ci]? = some (C, T, N)) (hk : k < N) (hin : ∀ w ∈ u_ws C T N, w ∈ xTB) (hw : Cond.fieldLink μ.1 index (T k).1 (T k).2.1 (T k).2.2.1 ∈ xTB) (hty0 : ∀ k, k < N → parseFieldDescriptor (T k).2.2.1 = some (ty0 k)) (hnames : ∀ a, a < N → ∀ b, b < N → a ≠ b → (T a).2.1 ≠ (T b).2.1) (ht : ty0 k = ty) (htc : (t = 0 ∧ ty = .int) ∨ (t = 1 ∧ ty = .long) ∨ (t = 2 ∧ ty = .byte) ∨ (t = 3 ∧ ty = .boolean) ∨ (t = 4 ∧ fits ty (.ref 0) = true)) (hfin : (T k).2.2.2 = false) : zSim l P M μ pc (21, pc + 3, ci, k, (t : Int), []) := by
  intro p e s m args below meth c R Q d C hrm st o ho H locs cells slots ls stk J K
  obtain ⟨hx, hb, hml, hown, hts, hr, hlk⟩ := C
  obtain ⟨h, L, S⟩ := st
  obtain ⟨jc, jg, ⟨lv, jl, jd⟩, jS, jx, jo, jk⟩ := J
  have ho : z_putf (pc + 3) ci k (t : Int) (h, L, S) = some o := ho
  unfold z_putf at ho
  split at ho
  · rename_i a r S' hS
    dsimp only at hS
    subst hS
    match stk, jS with
    | w :: _ :: stk, ⟨da, rfl, ds⟩ =>
      split at ho
      · rename_i hO
        have ho := Option.some.inj ho
        subst ho
        obtain ⟨n, hsh⟩ := zisO_den hO.1
        have hn : n = N := Option.some.inj ((zShape_obj hsh).symm.trans hN)
        subst hn
        obtain ⟨vs, hvs, r', h1, cell, q1, q2, q3, q4⟩ := jg _ _ hsh
        have hr' : r' = (C, T, n) := Option.some.inj (h1.symm.trans hc)
        subst hr'
        obtain ⟨hfit, hnr⟩ := zfit_den htc (by simpa using hO.2) da
        have hty : parseFieldDescriptor (T k).2.2.1 = some ty := by rw [hty0 k hk, ht]
        have hap := va_apart (own := μ.1) hts hin ty0 hty0 hnames jk hc
        obtain ⟨hS, hfc, kC, hkC, hkind⟩ := jk.1 ci _ hc
        obtain ⟨cf', kf, fi, f, hi, hsl⟩ := hS k hk
        have hlv : k < vs.length := by
          obtain ⟨v, hv, -⟩ := hvs k hk
          exact (List.getElem?_eq_some_iff.mp hv).1
        have hlay := hts _ (hin _ (u_in_lay hk))
        unfold u_lay at hlay
        rw [if_neg (by rw [hfin]; decide)] at hlay
        have hst := (u_facts hfc hkC (u_lays hts hin hk) hi).1
        have h6 := u_store hfc hkC hkind hlay hi hty hnr hfit
        refine W.putK hx hb (f := f) ⟨hown, hts _ hw, ⟨_, _, _, hi⟩, hst⟩ (by rw [q2]; exact h6) q1 q3 (by rw [hsl]; exact k2_hasslot (q4 k hk)) rfl rfl hd fun H' e1 e2 e3 => ?_
        rw [hsl] at e1 ⊢
        refine K _ _ _ _ _ _ ⟨jc, jg.set hsh (c := .inr (ci, n)) (g' := fun b => if b = k then a else h r.toNat b) ⟨vs.set k w, ?_, _, hc, t_OB.to (V := updV (vp_V vs) k w) ⟨_, e1, q2, q3, t_set q4 hap hk w⟩ (fun j _ => vp_updV_set hlv w j)⟩ e3 (zset_self _ _ _ _) (zset_other _ _ _ _), ⟨lv, jl, jd⟩, ds, jx.kept (fun q hq => e3 q (Nat.ne_of_lt (Nat.lt_of_lt_of_le hq (Nat.le_add_right _ _)))), xlocs_put jo (Nat.le_add_right _ _), jk⟩
        intro j hj
        show ∃ v, (vs.set k w)[j]? = some v ∧ zden P (if j = k then a else h r.toNat j) v
        by_cases hjk : j = k
        · subst hjk
          exact ⟨w, by rw [List.getElem?_set_self hlv], by rw [if_pos rfl]; exact da⟩
        · obtain ⟨v, hv, dv⟩ := hvs j hj
          exact ⟨v, by rw [List.getElem?_set_ne (Ne.symm hjk)]; exact hv, by rw [if_neg hjk]; exact dv⟩
      · cases ho
  · cases ho
theorem zs_iald (hd : decode μ.2.1 pc = .ok (.iaload, 1)) : zSim l P M μ pc (22, pc + 1, 0, 0, 0, []) := by
  intro p e s m args below meth c R Q d C hrm st o ho H locs cells slots ls stk J K
  obtain ⟨hx, hb, hml, hown, hts, hr, hlk⟩ := C
  obtain ⟨h, L, S⟩ := st
  obtain ⟨jc, jg, ⟨lv, jl, jd⟩, jS, jx, jo, jk⟩ := J
  have tabv : ∀ t : Nat, (t = 1 ∨ t = 2) → ∀ j : Nat, j < (zTx t).length → zden P (0, (zTx t).getD j 0) (.int ((xTab t).getD j 0)) := by
    intro t ht j hj
    refine ⟨_, rfl, ?_⟩
    rcases ht with rfl | rfl
    · have all : ∀ j, j < 5 → ((xTab 1).getD j 0).toInt = (zTx 1).getD j 0 := by decide
      exact all j hj
    · have all : ∀ j, j < 5 → ((xTab 2).getD j 0).toInt = (zTx 2).getD j 0 := by decide
      exact all j hj
  have tab : ∀ t : Nat, (∃ C n, (C, n, t) ∈ xStat) → ∀ (iv : Int32), iv.toNatClampNeg < 5 → ¬ (iv < 0 ∨ 5 ≤ iv.toNatClampNeg) → ∀ stk : List Value, W p l e R s m args below meth c H locs cells slots Q (F0 m (pc + 1) ls (.int ((xTab t).getD iv.toNatClampNeg 0) :: stk)) → W p l e R s m args below meth c H locs cells slots Q (F0 m pc ls (.int iv :: .ref (P.2.1 t) :: stk)) := by
    intro t ⟨C, n, hm⟩ iv hlt hin stk kk
    obtain ⟨cell, g1, g2, g3, g4, -, g5, -⟩ := (jx.2.1 _ hm).2
    exact W.iald hx hb g1 g2 g3 (fun q => q.elim (fun h => hin (Or.inl h)) (fun h => hin (Or.inr (Nat.le_trans g4 h)))) (g5 _ hlt) rfl rfl hd kk
  have ho : z_ald (zPD P) (pc + 1) 0 (h, L, S) = some o := ho
  unfold z_ald at ho
  split at ho
  · rename_i i r S' hS
    dsimp only at hS
    subst hS
    match stk, jS with
    | _ :: _ :: stk, ⟨⟨iv, rfl, hi⟩, rfl, ds⟩ =>
      split at ho
      · rename_i hA
        have ho := Option.some.inj ho
        subst ho
        obtain ⟨ty, n, hsh, hty, h0, h1⟩ := zarr_den hA
        rw [← hi] at h0 h1
        obtain ⟨hin, hlt, hcl⟩ := z_in h0 h1
        obtain ⟨cA, ⟨n', X⟩, hcell, hn', hX, hAr, hRA⟩ := jg _ _ hsh
        have hn' : n' = n := hn'
        subst hn'
        have hty := zcode_ty.1 hty
        subst hty
        match X, hX, hcell with
        | .inl f, ⟨_, hX⟩, hcell =>
          exact W.iald (v := .int (f iv.toNatClampNeg)) hx hb hcell (hAr n' (fun j => .int (f j))) (fun q => by cases q) (by show ¬ (iv < 0 ∨ (arrV _ _ _).slots.size ≤ _); rw [arrV_size]; exact hin) (by show (arrV _ _ _).slots[_]? = _; rw [arrV_read _ _ hlt]) rfl rfl hd (K _ _ _ _ _ _ ⟨jc, jg, ⟨lv, jl, jd⟩, ⟨by have := hX _ hlt; rw [hcl, hi] at this; rw [hcl, hi]; exact this, ds⟩, jx, jo, jk⟩)
        | .inr (.inl f), ⟨hX, _⟩, hcell => cases hX
        | .inr (.inr (.inr (.inr f))), ⟨⟨_, hX⟩, _⟩, hcell => cases hX
      · cases ho
  · rename_i i j S' hS
    dsimp only at hS
    subst hS
    match stk, jS with
    | _ :: _ :: stk, ⟨⟨iv, rfl, hi⟩, rfl, ds⟩ =>
      split at ho
      · rename_i hA
        have ho := Option.some.inj ho
        subst ho
        obtain ⟨-, j0, j3, h0, h1⟩ := hA
        rw [← hi] at h0 h1
        obtain ⟨hin, hlt, hcl⟩ := z_in h0 h1
        obtain ⟨t, ht⟩ : ∃ t : Nat, j.toNat = t := ⟨_, rfl⟩
        have ht3 : t < 3 := by omega
        rw [ht] at K h1 hlt hin ⊢
        match t, ht3, K, hlt, hin with
        | 0, _, K, hlt, hin =>
          obtain ⟨scr, g1, g2, g3, g4, g5⟩ := jx.2.2.1
          exact W.iald (v := .int (P.2.2.2.2 iv.toNatClampNeg)) hx hb g1 g2 g3 (by rw [g4]; exact hin) (g5 _ hlt) rfl rfl hd (K _ _ _ _ _ _ ⟨jc, jg, ⟨lv, jl, jd⟩, ⟨by rw [hcl, hi]; exact zden_ofI _, ds⟩, jx, jo, jk⟩)
        | 1, _, K, hlt, hin => exact tab 1 (by simp [xStat]) iv hlt hin stk (K _ _ _ _ _ _ ⟨jc, jg, ⟨lv, jl, jd⟩, ⟨by rw [← hi, ← hcl]; exact tabv 1 (Or.inl rfl) _ hlt, ds⟩, jx, jo, jk⟩)
        | 2, _, K, hlt, hin => exact tab 2 (by simp [xStat]) iv hlt hin stk (K _ _ _ _ _ _ ⟨jc, jg, ⟨lv, jl, jd⟩, ⟨by rw [← hi, ← hcl]; exact tabv 2 (Or.inr rfl) _ hlt, ds⟩, jx, jo, jk⟩)
      · cases ho
  · cases ho
theorem zs_bald (hd : decode μ.2.1 pc = .ok (.baload, 1)) : zSim l P M μ pc (22, pc + 1, 2, 0, 0, []) := by
  intro p e s m args below meth c R Q d C hrm st o ho H locs cells slots ls stk J K
  obtain ⟨hx, hb, hml, hown, hts, hr, hlk⟩ := C
  obtain ⟨h, L, S⟩ := st
  obtain ⟨jc, jg, ⟨lv, jl, jd⟩, jS, jx, jo, jk⟩ := J
  have ho : z_ald (zPD P) (pc + 1) 2 (h, L, S) = some o := ho
  unfold z_ald at ho
  split at ho
  · rename_i i r S' hS
    dsimp only at hS
    subst hS
    match stk, jS with
    | _ :: _ :: stk, ⟨⟨iv, rfl, hi⟩, rfl, ds⟩ =>
      split at ho
      · rename_i hA
        have ho := Option.some.inj ho
        subst ho
        obtain ⟨ty, n, hsh, hty, h0, h1⟩ := zarr_den hA
        rw [← hi] at h0 h1
        obtain ⟨hin, hlt, hcl⟩ := z_in h0 h1
        obtain ⟨cA, ⟨n', X⟩, hcell, hn', hX, hAr, hRA⟩ := jg _ _ hsh
        have hn' : n' = n := hn'
        subst hn'
        have hty := zcode_ty.2.2.1 hty
        subst hty
        match X, hX, hcell with
        | .inl f, ⟨_, hX⟩, hcell =>
          exact W.bald (v := .int (f iv.toNatClampNeg)) hx hb hcell (hAr n' (fun j => .int (f j))) (fun q => by cases q) (by show ¬ (iv < 0 ∨ (arrV _ _ _).slots.size ≤ _); rw [arrV_size]; exact hin) (by show (arrV _ _ _).slots[_]? = _; rw [arrV_read _ _ hlt]) rfl rfl hd (K _ _ _ _ _ _ ⟨jc, jg, ⟨lv, jl, jd⟩, ⟨by have := hX _ hlt; rw [hcl, hi] at this; rw [hcl, hi]; exact this, ds⟩, jx, jo, jk⟩)
        | .inr (.inl f), ⟨hX, _⟩, hcell => cases hX
        | .inr (.inr (.inr (.inr f))), ⟨⟨_, hX⟩, _⟩, hcell => cases hX
      · cases ho
  · rename_i i j S' hS
    split at ho
    · rename_i hA
      exact absurd hA.1 (by decide)
    · cases ho
  · cases ho
theorem zs_zald (hd : decode μ.2.1 pc = .ok (.baload, 1)) : zSim l P M μ pc (22, pc + 1, 3, 0, 0, []) := by
  intro p e s m args below meth c R Q d C hrm st o ho H locs cells slots ls stk J K
  obtain ⟨hx, hb, hml, hown, hts, hr, hlk⟩ := C
  obtain ⟨h, L, S⟩ := st
  obtain ⟨jc, jg, ⟨lv, jl, jd⟩, jS, jx, jo, jk⟩ := J
  have ho : z_ald (zPD P) (pc + 1) 3 (h, L, S) = some o := ho
  unfold z_ald at ho
  split at ho
  · rename_i i r S' hS
    dsimp only at hS
    subst hS
    match stk, jS with
    | _ :: _ :: stk, ⟨⟨iv, rfl, hi⟩, rfl, ds⟩ =>
      split at ho
      · rename_i hA
        have ho := Option.some.inj ho
        subst ho
        obtain ⟨ty, n, hsh, hty, h0, h1⟩ := zarr_den hA
        rw [← hi] at h0 h1
        obtain ⟨hin, hlt, hcl⟩ := z_in h0 h1
        obtain ⟨cA, ⟨n', X⟩, hcell, hn', hX, hAr, hRA⟩ := jg _ _ hsh
        have hn' : n' = n := hn'
        subst hn'
        have hty := zcode_ty.2.2.2.1 hty
        subst hty
        match X, hX, hcell with
        | .inl f, ⟨_, hX⟩, hcell =>
          exact W.zald (v := .int (f iv.toNatClampNeg)) hx hb hcell (hAr n' (fun j => .int (f j))) (fun q => by cases q) (by show ¬ (iv < 0 ∨ (arrV _ _ _).slots.size ≤ _); rw [arrV_size]; exact hin) (by show (arrV _ _ _).slots[_]? = _; rw [arrV_read _ _ hlt]) rfl rfl hd (K _ _ _ _ _ _ ⟨jc, jg, ⟨lv, jl, jd⟩, ⟨by have := hX _ hlt; rw [hcl, hi] at this; rw [hcl, hi]; exact this, ds⟩, jx, jo, jk⟩)
        | .inr (.inl f), ⟨hX, _⟩, hcell => cases hX
        | .inr (.inr (.inr (.inr f))), ⟨⟨_, hX⟩, _⟩, hcell => cases hX
      · cases ho
  · rename_i i j S' hS
    split at ho
    · rename_i hA
      exact absurd hA.1 (by decide)
    · cases ho
  · cases ho
theorem zs_lald (hd : decode μ.2.1 pc = .ok (.laload, 1)) : zSim l P M μ pc (22, pc + 1, 1, 0, 0, []) := by
  intro p e s m args below meth c R Q d C hrm st o ho H locs cells slots ls stk J K
  obtain ⟨hx, hb, hml, hown, hts, hr, hlk⟩ := C
  obtain ⟨h, L, S⟩ := st
  obtain ⟨jc, jg, ⟨lv, jl, jd⟩, jS, jx, jo, jk⟩ := J
  have ho : z_ald (zPD P) (pc + 1) 1 (h, L, S) = some o := ho
  unfold z_ald at ho
  split at ho
  · rename_i i r S' hS
    dsimp only at hS
    subst hS
    match stk, jS with
    | _ :: _ :: stk, ⟨⟨iv, rfl, hi⟩, rfl, ds⟩ =>
      split at ho
      · rename_i hA
        have ho := Option.some.inj ho
        subst ho
        obtain ⟨ty, n, hsh, hty, h0, h1⟩ := zarr_den hA
        rw [← hi] at h0 h1
        obtain ⟨hin, hlt, hcl⟩ := z_in h0 h1
        obtain ⟨cA, ⟨n', X⟩, hcell, hn', hX, hAr, hRA⟩ := jg _ _ hsh
        have hn' : n' = n := hn'
        subst hn'
        have hty := zcode_ty.2.1 hty
        subst hty
        match X, hX, hcell with
        | .inr (.inl f), ⟨_, hX⟩, hcell =>
          exact W.lald (v := .long (f iv.toNatClampNeg)) hx hb hcell (hAr n' (fun j => .long (f j))) (fun q => by cases q) (by show ¬ (iv < 0 ∨ (arrV _ _ _).slots.size ≤ _); rw [arrV_size]; exact hin) (by show (arrV _ _ _).slots[_]? = _; rw [arrV_read _ _ hlt]) rfl rfl hd (K _ _ _ _ _ _ ⟨jc, jg, ⟨lv, jl, jd⟩, ⟨by have := hX _ hlt; rw [hcl, hi] at this; rw [hcl, hi]; exact this, ds⟩, jx, jo, jk⟩)
        | .inl f, ⟨hX, _⟩, hcell => rcases hX with hX | hX | hX <;> cases hX
        | .inr (.inr (.inr (.inr f))), ⟨⟨_, hX⟩, _⟩, hcell => cases hX
      · cases ho
  · rename_i i j S' hS
    split at ho
    · rename_i hA
      exact absurd hA.1 (by decide)
    · cases ho
  · cases ho
theorem zs_aald (hd : decode μ.2.1 pc = .ok (.aaload, 1)) : zSim l P M μ pc (22, pc + 1, 4, 0, 0, []) := by
  intro p e s m args below meth c R Q d C hrm st o ho H locs cells slots ls stk J K
  obtain ⟨hx, hb, hml, hown, hts, hr, hlk⟩ := C
  obtain ⟨h, L, S⟩ := st
  obtain ⟨jc, jg, ⟨lv, jl, jd⟩, jS, jx, jo, jk⟩ := J
  have ho : z_ald (zPD P) (pc + 1) 4 (h, L, S) = some o := ho
  unfold z_ald at ho
  split at ho
  · rename_i i r S' hS
    dsimp only at hS
    subst hS
    match stk, jS with
    | _ :: _ :: stk, ⟨⟨iv, rfl, hi⟩, rfl, ds⟩ =>
      split at ho
      · rename_i hA
        have ho := Option.some.inj ho
        subst ho
        obtain ⟨ty, n, hsh, hty, h0, h1⟩ := zarr_den hA
        rw [← hi] at h0 h1
        obtain ⟨hin, hlt, hcl⟩ := z_in h0 h1
        obtain ⟨cA, ⟨n', X⟩, hcell, hn', hX, hAr, hRA⟩ := jg _ _ hsh
        have hn' : n' = n := hn'
        subst hn'
        obtain ⟨C, hty⟩ := zcode_ty.2.2.2.2 hty
        subst hty
        match X, hX, hcell with
        | .inr (.inr (.inr (.inr f))), ⟨_, hX⟩, hcell =>
          exact W.aald (v := va_rf (f iv.toNatClampNeg)) (ty := .object C) hx hb hcell (hAr n' (fun j => va_rf (f j))) rfl (fun q => by cases q) (by show ¬ (iv < 0 ∨ (arrV _ _ _).slots.size ≤ _); rw [arrV_size]; exact hin) (by show (arrV _ _ _).slots[_]? = _; rw [arrV_read _ _ hlt]) rfl rfl hd (K _ _ _ _ _ _ ⟨jc, jg, ⟨lv, jl, jd⟩, ⟨by have := hX _ hlt; rw [hcl, hi] at this; rw [hcl, hi]; exact this, ds⟩, jx, jo, jk⟩)
        | .inl f, ⟨hX, _⟩, hcell => rcases hX with hX | hX | hX <;> cases hX
        | .inr (.inl f), ⟨hX, _⟩, hcell => cases hX
      · cases ho
  · rename_i i j S' hS
    split at ho
    · rename_i hA
      exact absurd hA.1 (by decide)
    · cases ho
  · cases ho
theorem zs_iast (hd : decode μ.2.1 pc = .ok (.iastore, 1)) : zSim l P M μ pc (23, pc + 1, 0, 0, 0, []) := by
  intro p e s m args below meth c R Q d C hrm st o ho H locs cells slots ls stk J K
  obtain ⟨hx, hb, hml, hown, hts, hr, hlk⟩ := C
  obtain ⟨h, L, S⟩ := st
  obtain ⟨jc, jg, ⟨lv, jl, jd⟩, jS, jx, jo, jk⟩ := J
  have ho : z_ast (pc + 1) 0 (h, L, S) = some o := ho
  unfold z_ast at ho
  split at ho
  · rename_i a i r S' hS
    dsimp only at hS
    subst hS
    match stk, jS with
    | w :: _ :: _ :: stk, ⟨da, ⟨iv, rfl, hi⟩, rfl, ds⟩ =>
      split at ho
      · rename_i hA
        have ho := Option.some.inj ho
        subst ho
        obtain ⟨ty, n, hsh, hty, h0, h1⟩ := zarr_den hA.1
        rw [← hi] at h0 h1
        obtain ⟨hin, hlt, hcl⟩ := z_in h0 h1
        have hty := zcode_ty.1 hty
        subst hty
        have hw0 : ∃ x : Int32, w = .int x := by
          match a, hA.2.1, da with
          | (0, z), _, ⟨x, h1, _⟩ => exact ⟨x, h1⟩
          | (n + 1, z), h2, _ => simp [zfit] at h2
        obtain ⟨x, rfl⟩ := hw0
        have hnr := (zfit_den (ty := .int) (Or.inl ⟨rfl, rfl⟩) hA.2.1 da).2
        have hnx : vp_nar .int x = x := by
          unfold vp_nar
          rw [hnr]
        obtain ⟨cA, ⟨n', X⟩, hcell, hn', hX, hAr, hRA⟩ := jg _ _ hsh
        have hn' : n' = n := hn'
        subst hn'
        match X, hX, hcell with
        | .inl f, ⟨hty, hX⟩, hcell =>
          refine W.iast hx hb hcell (hAr n' (fun j => .int (f j))) (fun q => by cases q) (by show ¬ (iv < 0 ∨ (arrV _ _ _).slots.size ≤ _); rw [arrV_size]; exact hin) rfl rfl hd fun H1 e z oq => ?_
          refine K _ _ _ _ _ _ ⟨jc, jg.set hsh (c := .inl (.int, n')) (g' := fun b => if b = i.toNat then a else h r.toNat b) ⟨cA, (n', .inl (upd f iv.toNatClampNeg (vp_nar .int x))), ?_, rfl, ⟨hty, fun k hk => ?_⟩, hAr, hRA⟩ oq (zset_self _ _ _ _) (zset_other _ _ _ _), ⟨lv, jl, jd⟩, ds, jx.kept (fun q hq => oq q (Nat.ne_of_lt (Nat.lt_of_lt_of_le hq (Nat.le_add_right _ _)))), xlocs_put jo (Nat.le_add_right _ _), jk⟩
          · show H1[_]? = some (vp_cell _ _)
            rw [e]
            rw [vp_cell_i, vp_cell_i, arrV_store]
            congr 2
            funext q
            by_cases hq : q = iv.toNatClampNeg
            · subst hq
              simp [updV, upd, vp_nar]
              try rfl
            · simp [updV, upd, vp_nar, hq]
          · show zden P (if k = i.toNat then a else h r.toNat k) (.int (upd f iv.toNatClampNeg (vp_nar .int x) k))
            rw [hnx, ← hi, ← hcl]
            by_cases hq : k = iv.toNatClampNeg
            · subst hq
              rw [if_pos rfl]
              simpa [upd] using da
            · rw [if_neg hq]
              simpa [upd, hq] using hX k hk
        | .inr (.inl f), ⟨hX, _⟩, hcell => cases hX
        | .inr (.inr (.inr (.inr f))), ⟨⟨_, hX⟩, _⟩, hcell => cases hX
      · cases ho
  · cases ho
theorem zs_bast (hd : decode μ.2.1 pc = .ok (.bastore, 1)) : zSim l P M μ pc (23, pc + 1, 2, 0, 0, []) := by
  intro p e s m args below meth c R Q d C hrm st o ho H locs cells slots ls stk J K
  obtain ⟨hx, hb, hml, hown, hts, hr, hlk⟩ := C
  obtain ⟨h, L, S⟩ := st
  obtain ⟨jc, jg, ⟨lv, jl, jd⟩, jS, jx, jo, jk⟩ := J
  have ho : z_ast (pc + 1) 2 (h, L, S) = some o := ho
  unfold z_ast at ho
  split at ho
  · rename_i a i r S' hS
    dsimp only at hS
    subst hS
    match stk, jS with
    | w :: _ :: _ :: stk, ⟨da, ⟨iv, rfl, hi⟩, rfl, ds⟩ =>
      split at ho
      · rename_i hA
        have ho := Option.some.inj ho
        subst ho
        obtain ⟨ty, n, hsh, hty, h0, h1⟩ := zarr_den hA.1
        rw [← hi] at h0 h1
        obtain ⟨hin, hlt, hcl⟩ := z_in h0 h1
        have hty := zcode_ty.2.2.1 hty
        subst hty
        have hw0 : ∃ x : Int32, w = .int x := by
          match a, hA.2.1, da with
          | (0, z), _, ⟨x, h1, _⟩ => exact ⟨x, h1⟩
          | (n + 1, z), h2, _ => simp [zfit] at h2
        obtain ⟨x, rfl⟩ := hw0
        have hnr := (zfit_den (ty := .byte) (Or.inr (Or.inr (Or.inl ⟨rfl, rfl⟩))) hA.2.1 da).2
        have hnx : vp_nar .byte x = x := by
          unfold vp_nar
          rw [hnr]
        obtain ⟨cA, ⟨n', X⟩, hcell, hn', hX, hAr, hRA⟩ := jg _ _ hsh
        have hn' : n' = n := hn'
        subst hn'
        match X, hX, hcell with
        | .inl f, ⟨hty, hX⟩, hcell =>
          refine W.bast hx hb hcell (hAr n' (fun j => .int (f j))) (fun q => by cases q) (by show ¬ (iv < 0 ∨ (arrV _ _ _).slots.size ≤ _); rw [arrV_size]; exact hin) rfl rfl hd fun H1 e z oq => ?_
          refine K _ _ _ _ _ _ ⟨jc, jg.set hsh (c := .inl (.byte, n')) (g' := fun b => if b = i.toNat then a else h r.toNat b) ⟨cA, (n', .inl (upd f iv.toNatClampNeg (vp_nar .byte x))), ?_, rfl, ⟨hty, fun k hk => ?_⟩, hAr, hRA⟩ oq (zset_self _ _ _ _) (zset_other _ _ _ _), ⟨lv, jl, jd⟩, ds, jx.kept (fun q hq => oq q (Nat.ne_of_lt (Nat.lt_of_lt_of_le hq (Nat.le_add_right _ _)))), xlocs_put jo (Nat.le_add_right _ _), jk⟩
          · show H1[_]? = some (vp_cell _ _)
            rw [e]
            rw [vp_cell_i, vp_cell_i, arrV_store]
            congr 2
            funext q
            by_cases hq : q = iv.toNatClampNeg
            · subst hq
              simp [updV, upd, vp_nar]
              try rfl
            · simp [updV, upd, vp_nar, hq]
          · show zden P (if k = i.toNat then a else h r.toNat k) (.int (upd f iv.toNatClampNeg (vp_nar .byte x) k))
            rw [hnx, ← hi, ← hcl]
            by_cases hq : k = iv.toNatClampNeg
            · subst hq
              rw [if_pos rfl]
              simpa [upd] using da
            · rw [if_neg hq]
              simpa [upd, hq] using hX k hk
        | .inr (.inl f), ⟨hX, _⟩, hcell => cases hX
        | .inr (.inr (.inr (.inr f))), ⟨⟨_, hX⟩, _⟩, hcell => cases hX
      · cases ho
  · cases ho
theorem zs_zast (hd : decode μ.2.1 pc = .ok (.bastore, 1)) : zSim l P M μ pc (23, pc + 1, 3, 0, 0, []) := by
  intro p e s m args below meth c R Q d C hrm st o ho H locs cells slots ls stk J K
  obtain ⟨hx, hb, hml, hown, hts, hr, hlk⟩ := C
  obtain ⟨h, L, S⟩ := st
  obtain ⟨jc, jg, ⟨lv, jl, jd⟩, jS, jx, jo, jk⟩ := J
  have ho : z_ast (pc + 1) 3 (h, L, S) = some o := ho
  unfold z_ast at ho
  split at ho
  · rename_i a i r S' hS
    dsimp only at hS
    subst hS
    match stk, jS with
    | w :: _ :: _ :: stk, ⟨da, ⟨iv, rfl, hi⟩, rfl, ds⟩ =>
      split at ho
      · rename_i hA
        have ho := Option.some.inj ho
        subst ho
        obtain ⟨ty, n, hsh, hty, h0, h1⟩ := zarr_den hA.1
        rw [← hi] at h0 h1
        obtain ⟨hin, hlt, hcl⟩ := z_in h0 h1
        have hty := zcode_ty.2.2.2.1 hty
        subst hty
        have hw0 : ∃ x : Int32, w = .int x := by
          match a, hA.2.1, da with
          | (0, z), _, ⟨x, h1, _⟩ => exact ⟨x, h1⟩
          | (n + 1, z), h2, _ => simp [zfit] at h2
        obtain ⟨x, rfl⟩ := hw0
        have hnr := (zfit_den (ty := .boolean) (Or.inr (Or.inr (Or.inr (Or.inl ⟨rfl, rfl⟩)))) hA.2.1 da).2
        have hnx : vp_nar .boolean x = x := by
          unfold vp_nar
          rw [hnr]
        obtain ⟨cA, ⟨n', X⟩, hcell, hn', hX, hAr, hRA⟩ := jg _ _ hsh
        have hn' : n' = n := hn'
        subst hn'
        match X, hX, hcell with
        | .inl f, ⟨hty, hX⟩, hcell =>
          refine W.zast hx hb hcell (hAr n' (fun j => .int (f j))) (fun q => by cases q) (by show ¬ (iv < 0 ∨ (arrV _ _ _).slots.size ≤ _); rw [arrV_size]; exact hin) rfl rfl hd fun H1 e z oq => ?_
          refine K _ _ _ _ _ _ ⟨jc, jg.set hsh (c := .inl (.boolean, n')) (g' := fun b => if b = i.toNat then a else h r.toNat b) ⟨cA, (n', .inl (upd f iv.toNatClampNeg (vp_nar .boolean x))), ?_, rfl, ⟨hty, fun k hk => ?_⟩, hAr, hRA⟩ oq (zset_self _ _ _ _) (zset_other _ _ _ _), ⟨lv, jl, jd⟩, ds, jx.kept (fun q hq => oq q (Nat.ne_of_lt (Nat.lt_of_lt_of_le hq (Nat.le_add_right _ _)))), xlocs_put jo (Nat.le_add_right _ _), jk⟩
          · show H1[_]? = some (vp_cell _ _)
            rw [e]
            rw [vp_cell_i, vp_cell_i, arrV_store]
            congr 2
            funext q
            by_cases hq : q = iv.toNatClampNeg
            · subst hq
              simp [updV, upd, vp_nar]
              try rfl
            · simp [updV, upd, vp_nar, hq]
          · show zden P (if k = i.toNat then a else h r.toNat k) (.int (upd f iv.toNatClampNeg (vp_nar .boolean x) k))
            rw [hnx, ← hi, ← hcl]
            by_cases hq : k = iv.toNatClampNeg
            · subst hq
              rw [if_pos rfl]
              simpa [upd] using da
            · rw [if_neg hq]
              simpa [upd, hq] using hX k hk
        | .inr (.inl f), ⟨hX, _⟩, hcell => cases hX
        | .inr (.inr (.inr (.inr f))), ⟨⟨_, hX⟩, _⟩, hcell => cases hX
      · cases ho
  · cases ho
theorem zs_last (hd : decode μ.2.1 pc = .ok (.lastore, 1)) : zSim l P M μ pc (23, pc + 1, 1, 0, 0, []) := by
  intro p e s m args below meth c R Q d C hrm st o ho H locs cells slots ls stk J K
  obtain ⟨hx, hb, hml, hown, hts, hr, hlk⟩ := C
  obtain ⟨h, L, S⟩ := st
  obtain ⟨jc, jg, ⟨lv, jl, jd⟩, jS, jx, jo, jk⟩ := J
  have ho : z_ast (pc + 1) 1 (h, L, S) = some o := ho
  unfold z_ast at ho
  split at ho
  · rename_i a i r S' hS
    dsimp only at hS
    subst hS
    match stk, jS with
    | w :: _ :: _ :: stk, ⟨da, ⟨iv, rfl, hi⟩, rfl, ds⟩ =>
      split at ho
      · rename_i hA
        have ho := Option.some.inj ho
        subst ho
        obtain ⟨ty, n, hsh, hty, h0, h1⟩ := zarr_den hA.1
        rw [← hi] at h0 h1
        obtain ⟨hin, hlt, hcl⟩ := z_in h0 h1
        have hty := zcode_ty.2.1 hty
        subst hty
        have hw0 : ∃ x : Int64, w = .long x := by
          match a, hA.2.1, da with
          | (1, z), _, ⟨x, h1, _⟩ => exact ⟨x, h1⟩
          | (0, z), h2, _ => simp [zfit] at h2
          | (n + 2, z), h2, _ => simp [zfit] at h2
        obtain ⟨x, rfl⟩ := hw0
        obtain ⟨cA, ⟨n', X⟩, hcell, hn', hX, hAr, hRA⟩ := jg _ _ hsh
        have hn' : n' = n := hn'
        subst hn'
        match X, hX, hcell with
        | .inr (.inl f), ⟨hty, hX⟩, hcell =>
          refine W.last hx hb hcell (hAr n' (fun j => .long (f j))) (fun q => by cases q) (by show ¬ (iv < 0 ∨ (arrV _ _ _).slots.size ≤ _); rw [arrV_size]; exact hin) rfl rfl hd fun H1 e z oq => ?_
          refine K _ _ _ _ _ _ ⟨jc, jg.set hsh (c := .inl (.long, n')) (g' := fun b => if b = i.toNat then a else h r.toNat b) ⟨cA, (n', .inr (.inl (vp_updL f iv.toNatClampNeg x))), ?_, rfl, ⟨hty, fun k hk => ?_⟩, hAr, hRA⟩ oq (zset_self _ _ _ _) (zset_other _ _ _ _), ⟨lv, jl, jd⟩, ds, jx.kept (fun q hq => oq q (Nat.ne_of_lt (Nat.lt_of_lt_of_le hq (Nat.le_add_right _ _)))), xlocs_put jo (Nat.le_add_right _ _), jk⟩
          · show H1[_]? = some (vp_cell _ _)
            rw [e]
            rw [vp_cell_l, vp_cell_l, arrV_store]
            congr 2
            funext q
            by_cases hq : q = iv.toNatClampNeg
            · subst hq
              simp [updV, vp_updL]
              try rfl
            · simp [updV, vp_updL, hq]
          · show zden P (if k = i.toNat then a else h r.toNat k) (.long (vp_updL f iv.toNatClampNeg x k))
            rw [← hi, ← hcl]
            by_cases hq : k = iv.toNatClampNeg
            · subst hq
              rw [if_pos rfl]
              simpa [vp_updL] using da
            · rw [if_neg hq]
              simpa [vp_updL, hq] using hX k hk
        | .inl f, ⟨hX, _⟩, hcell => rcases hX with hX | hX | hX <;> cases hX
        | .inr (.inr (.inr (.inr f))), ⟨⟨_, hX⟩, _⟩, hcell => cases hX
      · cases ho
  · cases ho
end ZSTEP2
end
section
/-! THE CONCRETE MACHINE'S STEPS, third part: lengths, copies, Math, calls, returns; ITS RUNS HOLD -/
theorem z_ofNat {n : Nat} (h : n < 2147483648) : (Int32.ofNat n).toInt = (n : Int) := by
  show (BitVec.ofNat 32 n).toInt = _
  rw [BitVec.toInt_eq_toNat_of_lt (by rw [BitVec.toNat_ofNat]; omega), BitVec.toNat_ofNat]
  omega
section ZSTEP3
variable {l : Launch} {P : zP} {M : List zY} {μ : zM} {pc : Nat}
theorem zs_alen (hd : decode μ.2.1 pc = .ok (.arraylength, 1)) : zSim l P M μ pc (24, pc + 1, 0, 0, 0, []) := by
  intro p e s m args below meth c R Q d C hrm st o ho H locs cells slots ls stk J K
  obtain ⟨hx, hb, hml, hown, hts, hr, hlk⟩ := C
  obtain ⟨h, L, S⟩ := st
  obtain ⟨jc, jg, ⟨lv, jl, jd⟩, jS, jx, jo, jk⟩ := J
  have ho : z_alen (zPD P) (pc + 1) (h, L, S) = some o := ho
  unfold z_alen at ho
  split at ho
  · rename_i r S' hS
    dsimp only at hS
    subst hS
    match stk, jS with
    | _ :: stk, ⟨rfl, ds⟩ =>
      split at ho
      · rename_i q hsh
        have ho := Option.some.inj ho
        subst ho
        obtain ⟨ty, n⟩ := q
        have hn4 := zShape_arr hsh
        obtain ⟨cA, ⟨n', X⟩, hcell, hn', hX, hAr, hRA⟩ := jg _ _ hsh
        have hn' : n' = n := hn'
        subst hn'
        have kk := K H locs cells slots ls (Value.int (Int32.ofNat n') :: stk) ⟨jc, jg, ⟨lv, jl, jd⟩, ⟨⟨_, rfl, z_ofNat (by omega)⟩, ds⟩, jx, jo, jk⟩
        match X, hX, hcell with
        | .inl f, hX, hcell => exact W.alen (n := Int32.ofNat n') hx hb hcell (hAr n' (fun j => .int (f j))) (by rw [vp_cell_i, arrV_size] <;> rfl) rfl rfl hd kk
        | .inr (.inl f), hX, hcell => exact W.alen (n := Int32.ofNat n') hx hb hcell (hAr n' (fun j => .long (f j))) (by rw [vp_cell_l, arrV_size] <;> rfl) rfl rfl hd kk
        | .inr (.inr (.inr (.inr f))), hX, hcell => exact W.alen (n := Int32.ofNat n') hx hb hcell (hAr n' (fun j => va_rf (f j))) (by rw [vp_cell_q, arrV_size] <;> rfl) rfl rfl hd kk
      · cases ho
  · rename_i j S' hS
    dsimp only at hS
    subst hS
    match stk, jS with
    | _ :: stk, ⟨rfl, ds⟩ =>
      split at ho
      · rename_i hA
        have ho := Option.some.inj ho
        subst ho
        obtain ⟨j0, j3⟩ := hA
        obtain ⟨t, ht⟩ : ∃ t : Nat, j.toNat = t := ⟨_, rfl⟩
        have ht3 : t < 3 := by omega
        rw [ht] at K ⊢
        match t, ht3, K with
        | 0, _, K =>
          obtain ⟨scr, g1, g2, g3, g4, g5⟩ := jx.2.2.1
          exact W.alen (n := Int32.ofNat P.2.2.2.1) hx hb g1 g2 (by rw [g4] <;> rfl) rfl rfl hd (K _ _ _ _ _ _ ⟨jc, jg, ⟨lv, jl, jd⟩, ⟨⟨_, rfl, z_ofNat jx.2.2.2.1.2⟩, ds⟩, jx, jo, jk⟩)
        | 1, _, K =>
          obtain ⟨cell, g1, g2, g3, g4, g5, -, -⟩ := (jx.2.1 ("BreadMap", "MOVES", 1) (by simp [xStat])).2
          exact W.alen (n := Int32.ofNat 5) hx hb g1 g2 g5 rfl rfl hd (K _ _ _ _ _ _ ⟨jc, jg, ⟨lv, jl, jd⟩, ⟨⟨_, rfl, (show (Int32.ofNat 5).toInt = 5 by decide)⟩, ds⟩, jx, jo, jk⟩)
        | 2, _, K =>
          obtain ⟨cell, g1, g2, g3, g4, g5, -, -⟩ := (jx.2.1 ("BreadMap$Land", "LETTER_CRUMBS", 2) (by simp [xStat])).2
          exact W.alen (n := Int32.ofNat 5) hx hb g1 g2 g5 rfl rfl hd (K _ _ _ _ _ _ ⟨jc, jg, ⟨lv, jl, jd⟩, ⟨⟨_, rfl, (show (Int32.ofNat 5).toInt = 5 by decide)⟩, ds⟩, jx, jo, jk⟩)
      · cases ho
  · cases ho
theorem zs_copyi {index : Nat} (hd : decode μ.2.1 pc = .ok (.invokestatic index, 3)) (hw1 : Cond.methodLink μ.1 index arraycopyName ∈ xTB) (hw2 : Cond.native arraycopyName ∈ xTB) (hw3 : Cond.static arraycopyName ∈ xTB) (hw4 : Cond.initialized "java/lang/System" ∈ xTB) : zSim l P M μ pc (28, pc + 3, 0, 0, 0, []) := by
  intro p e s m args below meth c R Q d C hrm st o ho H locs cells slots ls stk J K
  obtain ⟨hx, hb, hml, hown, hts, hr, hlk⟩ := C
  obtain ⟨h, L, S⟩ := st
  obtain ⟨jc, jg, ⟨lv, jl, jd⟩, jS, jx, jo, jk⟩ := J
  have ho : z_copy (pc + 3) 0 (h, L, S) = some o := ho
  unfold z_copy at ho
  split at ho
  · rename_i n dp r1 sp r0 S' hS
    dsimp only at hS
    subst hS
    match stk, jS with
    | _ :: _ :: _ :: _ :: _ :: stk, ⟨⟨nv, rfl, en⟩, ⟨dpv, rfl, edp⟩, rfl, ⟨spv, rfl, esp⟩, rfl, ds⟩ =>
      split at ho
      · rename_i hA
        have ho := Option.some.inj ho
        subst ho
        obtain ⟨hA0, hA1, hsum, -⟩ := hA
        obtain ⟨ty0, n0, hsh0, hty0, a1, a2, a3⟩ := zroom_den hA0
        obtain ⟨ty1, n1, hsh1, hty1, b1, b2, b3⟩ := zroom_den hA1
        have hty0 := zcode_ty.1 hty0
        have hty1 := zcode_ty.1 hty1
        subst hty0
        subst hty1
        rw [← en, ← esp] at a3
        rw [← esp] at a1
        rw [← en] at a2
        rw [← en, ← edp] at b3
        rw [← edp] at b1
        have c1 := (z_clamp a1).1
        have c2 := (z_clamp a2).1
        have c3 := (z_clamp b1).1
        obtain ⟨k0, ⟨n0', X0⟩, hcell0, hn0, hX0, hAr0, -⟩ := jg _ _ hsh0
        obtain ⟨k1, ⟨n1', X1⟩, hcell1, hn1, hX1, hAr1, hRA1⟩ := jg _ _ hsh1
        have hn0 : n0' = n0 := hn0
        have hn1 : n1' = n1 := hn1
        subst hn0
        subst hn1
        match X0, hX0, hcell0 with
        | .inr (.inl f), ⟨hX, _⟩, _ => cases hX
        | .inr (.inr (.inr (.inr f))), ⟨⟨_, hX⟩, _⟩, _ => cases hX
        | .inl f, ⟨_, hX0⟩, hcell0 =>
          match X1, hX1, hcell1 with
          | .inr (.inl f), ⟨hX, _⟩, _ => cases hX
          | .inr (.inr (.inr (.inr f))), ⟨⟨_, hX⟩, _⟩, _ => cases hX
          | .inl g, ⟨hty, hX1⟩, hcell1 =>
            have h7 : nativeFrameWords "java/lang/System" "arraycopy" 5 = 7 := by decide +kernel
            refine x_copyW (fun z => Value.int z) hx hb (hml.trans jl.1.symm) hown (hts _ hw1) (hts _ hw2) (hts _ hw3) (hts _ hw4) hcell0 hcell1 hAr0 hAr1 rfl (z_i0 a1) (z_i0 b1) (z_i0 a2) (by omega) (by omega) (fun _ => rfl) (fun _ => trivial) (by have := hrm.1; omega) (by have := hrm.2; rw [zsum_den ds, h7]; omega) hd fun H1 L1 e1 z1 o1 hL1 => ?_
            refine K _ _ _ _ _ _ ⟨jc, jg.set hsh1 (c := .inl (.int, n1')) (g' := (zcopy h r0.toNat sp.toNat r1.toNat dp.toNat n.toNat) r1.toNat) ⟨k1, (n1', .inl (va_cpy f g spv.toNatClampNeg dpv.toNatClampNeg nv.toNatClampNeg)), e1, rfl, ⟨hty, fun k hk => ?_⟩, hAr1, hRA1⟩ o1 rfl (fun a ha => by funext b; exact if_neg (fun q => ha q.1)), ⟨lv, jl, jd⟩, ds, jx.kept (fun q hq => o1 q (Nat.ne_of_lt (Nat.lt_of_lt_of_le hq (Nat.le_add_right _ _)))), fun q hq => (List.mem_append.mp hq).elim (jo q) (fun h => by rw [hL1 q h]; exact Nat.le_add_right _ _), jk⟩
            have q1 := (z_clamp a1).2
            have q2 := (z_clamp a2).2
            have q3 := (z_clamp b1).2
            show zden P (if r1.toNat = r1.toNat ∧ dp.toNat ≤ k ∧ k < dp.toNat + n.toNat then h r0.toNat (sp.toNat + (k - dp.toNat)) else h r1.toNat k) (Value.int (va_cpy f g spv.toNatClampNeg dpv.toNatClampNeg nv.toNatClampNeg k))
            rw [← en, ← esp, ← edp, ← q1, ← q2, ← q3]
            unfold va_cpy
            by_cases hk2 : dpv.toNatClampNeg ≤ k ∧ k < dpv.toNatClampNeg + nv.toNatClampNeg
            · rw [if_pos ⟨rfl, hk2⟩, if_pos hk2]
              exact hX0 _ (by omega)
            · rw [if_neg (fun q => hk2 q.2), if_neg hk2]
              exact hX1 k hk
      · cases ho
  · cases ho
theorem zs_copyl {index : Nat} (hd : decode μ.2.1 pc = .ok (.invokestatic index, 3)) (hw1 : Cond.methodLink μ.1 index arraycopyName ∈ xTB) (hw2 : Cond.native arraycopyName ∈ xTB) (hw3 : Cond.static arraycopyName ∈ xTB) (hw4 : Cond.initialized "java/lang/System" ∈ xTB) : zSim l P M μ pc (28, pc + 3, 1, 0, 0, []) := by
  intro p e s m args below meth c R Q d C hrm st o ho H locs cells slots ls stk J K
  obtain ⟨hx, hb, hml, hown, hts, hr, hlk⟩ := C
  obtain ⟨h, L, S⟩ := st
  obtain ⟨jc, jg, ⟨lv, jl, jd⟩, jS, jx, jo, jk⟩ := J
  have ho : z_copy (pc + 3) 1 (h, L, S) = some o := ho
  unfold z_copy at ho
  split at ho
  · rename_i n dp r1 sp r0 S' hS
    dsimp only at hS
    subst hS
    match stk, jS with
    | _ :: _ :: _ :: _ :: _ :: stk, ⟨⟨nv, rfl, en⟩, ⟨dpv, rfl, edp⟩, rfl, ⟨spv, rfl, esp⟩, rfl, ds⟩ =>
      split at ho
      · rename_i hA
        have ho := Option.some.inj ho
        subst ho
        obtain ⟨hA0, hA1, hsum, -⟩ := hA
        obtain ⟨ty0, n0, hsh0, hty0, a1, a2, a3⟩ := zroom_den hA0
        obtain ⟨ty1, n1, hsh1, hty1, b1, b2, b3⟩ := zroom_den hA1
        have hty0 := zcode_ty.2.1 hty0
        have hty1 := zcode_ty.2.1 hty1
        subst hty0
        subst hty1
        rw [← en, ← esp] at a3
        rw [← esp] at a1
        rw [← en] at a2
        rw [← en, ← edp] at b3
        rw [← edp] at b1
        have c1 := (z_clamp a1).1
        have c2 := (z_clamp a2).1
        have c3 := (z_clamp b1).1
        obtain ⟨k0, ⟨n0', X0⟩, hcell0, hn0, hX0, hAr0, -⟩ := jg _ _ hsh0
        obtain ⟨k1, ⟨n1', X1⟩, hcell1, hn1, hX1, hAr1, hRA1⟩ := jg _ _ hsh1
        have hn0 : n0' = n0 := hn0
        have hn1 : n1' = n1 := hn1
        subst hn0
        subst hn1
        match X0, hX0, hcell0 with
        | .inl f, ⟨hX, _⟩, _ => rcases hX with hX | hX | hX <;> cases hX
        | .inr (.inr (.inr (.inr f))), ⟨⟨_, hX⟩, _⟩, _ => cases hX
        | .inr (.inl f), ⟨_, hX0⟩, hcell0 =>
          match X1, hX1, hcell1 with
          | .inl f, ⟨hX, _⟩, _ => rcases hX with hX | hX | hX <;> cases hX
          | .inr (.inr (.inr (.inr f))), ⟨⟨_, hX⟩, _⟩, _ => cases hX
          | .inr (.inl g), ⟨hty, hX1⟩, hcell1 =>
            have h7 : nativeFrameWords "java/lang/System" "arraycopy" 5 = 7 := by decide +kernel
            refine x_copyW (fun z => Value.long z) hx hb (hml.trans jl.1.symm) hown (hts _ hw1) (hts _ hw2) (hts _ hw3) (hts _ hw4) hcell0 hcell1 hAr0 hAr1 rfl (z_i0 a1) (z_i0 b1) (z_i0 a2) (by omega) (by omega) (fun _ => rfl) (fun _ => trivial) (by have := hrm.1; omega) (by have := hrm.2; rw [zsum_den ds, h7]; omega) hd fun H1 L1 e1 z1 o1 hL1 => ?_
            refine K _ _ _ _ _ _ ⟨jc, jg.set hsh1 (c := .inl (.long, n1')) (g' := (zcopy h r0.toNat sp.toNat r1.toNat dp.toNat n.toNat) r1.toNat) ⟨k1, (n1', .inr (.inl (va_cpy f g spv.toNatClampNeg dpv.toNatClampNeg nv.toNatClampNeg))), e1, rfl, ⟨hty, fun k hk => ?_⟩, hAr1, hRA1⟩ o1 rfl (fun a ha => by funext b; exact if_neg (fun q => ha q.1)), ⟨lv, jl, jd⟩, ds, jx.kept (fun q hq => o1 q (Nat.ne_of_lt (Nat.lt_of_lt_of_le hq (Nat.le_add_right _ _)))), fun q hq => (List.mem_append.mp hq).elim (jo q) (fun h => by rw [hL1 q h]; exact Nat.le_add_right _ _), jk⟩
            have q1 := (z_clamp a1).2
            have q2 := (z_clamp a2).2
            have q3 := (z_clamp b1).2
            show zden P (if r1.toNat = r1.toNat ∧ dp.toNat ≤ k ∧ k < dp.toNat + n.toNat then h r0.toNat (sp.toNat + (k - dp.toNat)) else h r1.toNat k) (Value.long (va_cpy f g spv.toNatClampNeg dpv.toNatClampNeg nv.toNatClampNeg k))
            rw [← en, ← esp, ← edp, ← q1, ← q2, ← q3]
            unfold va_cpy
            by_cases hk2 : dpv.toNatClampNeg ≤ k ∧ k < dpv.toNatClampNeg + nv.toNatClampNeg
            · rw [if_pos ⟨rfl, hk2⟩, if_pos hk2]
              exact hX0 _ (by omega)
            · rw [if_neg (fun q => hk2 q.2), if_neg hk2]
              exact hX1 k hk
      · cases ho
  · cases ho
theorem zv_math2 {P : zP} {h : zH} {L : zL} {S : List zV} {o : zO} {stk : List Value} {nx b : Nat} (hb : b < 2) (ho : z_math nx b (h, L, S) = some o) (jS : zdens P S stk) : ∃ (y x : Int32) (S' : List zV) (stk' : List Value), stk = .int y :: .int x :: stk' ∧ zdens P S' stk' ∧ zsum S' ≤ 8 ∧ o = .inr (.inl (nx, h, L, (0, zm32 b x.toInt y.toInt) :: S')) := by
  unfold z_math at ho
  split at ho
  all_goals first | (exfalso; omega) | skip
  all_goals first | (cases ho; done) | skip
  all_goals
    rename_i y x S' hS
    dsimp only at hS
    subst hS
    match stk, jS with
    | _ :: _ :: stk, ⟨⟨a, rfl, e⟩, ⟨c, rfl, e2⟩, ds⟩ =>
      split at ho
      · rename_i hsum
        rw [← e, ← e2] at ho
        exact ⟨a, c, S', stk, rfl, ds, hsum, (Option.some.inj ho).symm⟩
      · cases ho
theorem zv_math2l {P : zP} {h : zH} {L : zL} {S : List zV} {o : zO} {stk : List Value} {nx : Nat} (ho : z_math nx 2 (h, L, S) = some o) (jS : zdens P S stk) : ∃ (y x : Int64) (S' : List zV) (stk' : List Value), stk = .long y :: .long x :: stk' ∧ zdens P S' stk' ∧ zsum S' ≤ 8 ∧ o = .inr (.inl (nx, h, L, (1, zm32 1 x.toInt y.toInt) :: S')) := by
  unfold z_math at ho
  split at ho
  all_goals first | (exfalso; omega) | skip
  all_goals first | (cases ho; done) | skip
  all_goals
    rename_i y x S' _ hS
    dsimp only at hS
    subst hS
    match stk, jS with
    | _ :: _ :: stk, ⟨⟨a, rfl, e⟩, ⟨c, rfl, e2⟩, ds⟩ =>
      split at ho
      · rename_i hsum
        rw [← e, ← e2] at ho
        exact ⟨a, c, S', stk, rfl, ds, hsum, (Option.some.inj ho).symm⟩
      · cases ho
theorem zv_math1l {P : zP} {h : zH} {L : zL} {S : List zV} {o : zO} {stk : List Value} {nx : Nat} (ho : z_math nx 3 (h, L, S) = some o) (jS : zdens P S stk) : ∃ (x : Int64) (S' : List zV) (stk' : List Value), stk = .long x :: stk' ∧ zdens P S' stk' ∧ zsum S' ≤ 8 ∧ o = .inr (.inl (nx, h, L, (1, if 0 < x.toInt then x.toInt else (-x).toInt) :: S')) := by
  unfold z_math at ho
  split at ho
  all_goals first | (exfalso; omega) | skip
  all_goals first | (cases ho; done) | skip
  all_goals
    rename_i x S' _ hS
    dsimp only at hS
    subst hS
    match stk, jS with
    | _ :: stk, ⟨⟨a, rfl, e⟩, ds⟩ =>
      split at ho
      · rename_i hsum
        rw [← e, Int64.ofInt_toInt] at ho
        exact ⟨a, S', stk, rfl, ds, hsum, (Option.some.inj ho).symm⟩
      · cases ho
theorem zs_mmax {index : Nat} (hd : decode μ.2.1 pc = .ok (.invokestatic index, 3)) (hw1 : Cond.methodLink μ.1 index Lib.Math.max.name ∈ xTB) (hw2 : Cond.static Lib.Math.max.name ∈ xTB) (hw3 : Cond.initialized "java/lang/Math" ∈ xTB) (hw4 : Cond.code Lib.Math.max.name Lib.Math.max.code 2 (some .int) ∈ xTB) : zSim l P M μ pc (27, pc + 3, 0, 0, 0, []) := by
  intro p e s m args below meth c R Q d C hrm st o ho H locs cells slots ls stk J K
  obtain ⟨hx, hb, hml, hown, hts, hr, hlk⟩ := C
  obtain ⟨h, L, S⟩ := st
  obtain ⟨jc, jg, ⟨lv, jl, jd⟩, jS, jx, jo, jk⟩ := J
  obtain ⟨y, x, S', stk', rfl, ds, hsum, rfl⟩ := zv_math2 (by omega) (show z_math (pc + 3) 0 (h, L, S) = some o from ho) jS
  refine va_mmax hx hb (hml.trans jl.1.symm) hown (hts _ hw1) (hts _ hw2) (hts _ hw3) (hts _ hw4) (by have := hrm.1; omega) (by have := hrm.2; rw [zsum_den ds]; omega) jc.1 jc.2 hd (K _ _ _ _ _ _ ⟨jc, jg, ⟨lv, jl, jd⟩, ⟨?_, ds⟩, jx, jo, jk⟩)
  refine ⟨_, rfl, ?_⟩
  show _ = if x.toInt < y.toInt then y.toInt else x.toInt
  by_cases h1 : x < y
  · rw [if_pos h1, if_pos (Int32.lt_iff_toInt_lt.mp h1)]
  · rw [if_neg h1, if_neg (fun q => h1 (Int32.lt_iff_toInt_lt.mpr q))]
theorem zs_mmin {index : Nat} (hd : decode μ.2.1 pc = .ok (.invokestatic index, 3)) (hw1 : Cond.methodLink μ.1 index Lib.Math.min.name ∈ xTB) (hw2 : Cond.static Lib.Math.min.name ∈ xTB) (hw3 : Cond.initialized "java/lang/Math" ∈ xTB) (hw4 : Cond.code Lib.Math.min.name Lib.Math.min.code 2 (some .int) ∈ xTB) : zSim l P M μ pc (27, pc + 3, 0, 1, 0, []) := by
  intro p e s m args below meth c R Q d C hrm st o ho H locs cells slots ls stk J K
  obtain ⟨hx, hb, hml, hown, hts, hr, hlk⟩ := C
  obtain ⟨h, L, S⟩ := st
  obtain ⟨jc, jg, ⟨lv, jl, jd⟩, jS, jx, jo, jk⟩ := J
  obtain ⟨y, x, S', stk', rfl, ds, hsum, rfl⟩ := zv_math2 (by omega) (show z_math (pc + 3) 1 (h, L, S) = some o from ho) jS
  refine va_mmin hx hb (hml.trans jl.1.symm) hown (hts _ hw1) (hts _ hw2) (hts _ hw3) (hts _ hw4) (by have := hrm.1; omega) (by have := hrm.2; rw [zsum_den ds]; omega) jc.1 jc.2 hd (K _ _ _ _ _ _ ⟨jc, jg, ⟨lv, jl, jd⟩, ⟨?_, ds⟩, jx, jo, jk⟩)
  refine ⟨_, rfl, ?_⟩
  show _ = if y.toInt < x.toInt then y.toInt else x.toInt
  by_cases h1 : y < x
  · rw [if_pos h1, if_pos (Int32.lt_iff_toInt_lt.mp h1)]
  · rw [if_neg h1, if_neg (fun q => h1 (Int32.lt_iff_toInt_lt.mpr q))]
theorem zs_mminl {index : Nat} (hd : decode μ.2.1 pc = .ok (.invokestatic index, 3)) (hw1 : Cond.methodLink μ.1 index Lib.MathLoose.min_long.x ∈ xTB) (hw2 : Cond.static Lib.MathLoose.min_long.x ∈ xTB) (hw3 : Cond.initialized "java/lang/Math" ∈ xTB) (hw4 : Cond.code Lib.MathLoose.min_long.x Lib.MathLoose.min_long.code 4 (some .long) ∈ xTB) : zSim l P M μ pc (27, pc + 3, 0, 2, 0, []) := by
  intro p e s m args below meth c R Q d C hrm st o ho H locs cells slots ls stk J K
  obtain ⟨hx, hb, hml, hown, hts, hr, hlk⟩ := C
  obtain ⟨h, L, S⟩ := st
  obtain ⟨jc, jg, ⟨lv, jl, jd⟩, jS, jx, jo, jk⟩ := J
  obtain ⟨y, x, S', stk', rfl, ds, hsum, rfl⟩ := zv_math2l (show z_math (pc + 3) 2 (h, L, S) = some o from ho) jS
  refine va_mmin_long hx hb (hml.trans jl.1.symm) hown (hts _ hw1) (hts _ hw2) (hts _ hw3) (hts _ hw4) (by have := hrm.1; omega) (by have := hrm.2; rw [zsum_den ds]; omega) jc.1 jc.2 hd (K _ _ _ _ _ _ ⟨jc, jg, ⟨lv, jl, jd⟩, ⟨?_, ds⟩, jx, jo, jk⟩)
  refine ⟨_, rfl, ?_⟩
  show _ = if y.toInt < x.toInt then y.toInt else x.toInt
  by_cases h1 : y < x
  · rw [if_pos h1, if_pos (Int64.lt_iff_toInt_lt.mp h1)]
  · rw [if_neg h1, if_neg (fun q => h1 (Int64.lt_iff_toInt_lt.mpr q))]
theorem zs_mabsl {index : Nat} (hd : decode μ.2.1 pc = .ok (.invokestatic index, 3)) (hw1 : Cond.methodLink μ.1 index Lib.MathLoose.abs_long.x ∈ xTB) (hw2 : Cond.static Lib.MathLoose.abs_long.x ∈ xTB) (hw3 : Cond.initialized "java/lang/Math" ∈ xTB) (hw4 : Cond.code Lib.MathLoose.abs_long.x Lib.MathLoose.abs_long.code 2 (some .long) ∈ xTB) : zSim l P M μ pc (27, pc + 3, 0, 3, 0, []) := by
  intro p e s m args below meth c R Q d C hrm st o ho H locs cells slots ls stk J K
  obtain ⟨hx, hb, hml, hown, hts, hr, hlk⟩ := C
  obtain ⟨h, L, S⟩ := st
  obtain ⟨jc, jg, ⟨lv, jl, jd⟩, jS, jx, jo, jk⟩ := J
  obtain ⟨x, S', stk', rfl, ds, hsum, rfl⟩ := zv_math1l (show z_math (pc + 3) 3 (h, L, S) = some o from ho) jS
  refine va_mabs_long hx hb (hml.trans jl.1.symm) hown (hts _ hw1) (hts _ hw2) (hts _ hw3) (hts _ hw4) (by have := hrm.1; omega) (by have := hrm.2; rw [zsum_den ds]; omega) jc.1 jc.2 hd (K _ _ _ _ _ _ ⟨jc, jg, ⟨lv, jl, jd⟩, ⟨?_, ds⟩, jx, jo, jk⟩)
  refine ⟨_, rfl, ?_⟩
  show _ = if 0 < x.toInt then x.toInt else (-x).toInt
  by_cases h1 : 0 < x
  · rw [if_pos h1, if_pos (by have := Int64.lt_iff_toInt_lt.mp h1; rwa [Int64.toInt_zero] at this)]
  · rw [if_neg h1, if_neg (fun q => h1 (Int64.lt_iff_toInt_lt.mpr (by rw [Int64.toInt_zero]; exact q)))]
theorem zs_ret0 (hd : decode μ.2.1 pc = .ok (.return_, 1)) (hret : μ.2.2.2.1 = none) : zSim l P M μ pc (30, 0, 0, 0, 0, []) := by
  intro p e s m args below meth c R Q d C hrm st o ho H locs cells slots ls stk J K
  obtain ⟨hx, hb, hml, hown, hts, hr, hlk⟩ := C
  obtain ⟨h, L, S⟩ := st
  obtain ⟨jc, jg, ⟨lv, jl, jd⟩, jS, jx, jo, jk⟩ := J
  match S, stk, jS, (show z_ret 0 0 (h, L, S) = some o from ho) with
  | [], [], _, ho =>
    have ho : some (Sum.inl (h, (none : Option zV))) = some o := ho
    have ho := Option.some.inj ho
    subst ho
    exact K H locs cells slots pc ls none jc.1 jc.2 jg jx jo trivial ⟨hd, hret⟩
theorem zs_reti (t : Nat) (ty : FieldType) (htc : (t = 0 ∧ ty = .int) ∨ (t = 1 ∧ ty = .long) ∨ (t = 2 ∧ ty = .byte) ∨ (t = 3 ∧ ty = .boolean) ∨ (t = 4 ∧ fits ty (.ref 0) = true)) (hd : decode μ.2.1 pc = .ok (.ireturn, 1)) (hret : μ.2.2.2.1 = some ty) : zSim l P M μ pc (30, 0, t, 1, 0, []) := by
  intro p e s m args below meth c R Q d C hrm st o ho H locs cells slots ls stk J K
  obtain ⟨hx, hb, hml, hown, hts, hr, hlk⟩ := C
  obtain ⟨h, L, S⟩ := st
  obtain ⟨jc, jg, ⟨lv, jl, jd⟩, jS, jx, jo, jk⟩ := J
  match S, stk, jS, (show z_ret 1 t (h, L, S) = some o from ho) with
  | [a], [v], ⟨da, _⟩, ho =>
    have ho : (if zfit t a = true ∧ a.1 = 0 then some (Sum.inl (h, some a)) else none) = some o := ho
    split at ho
    · rename_i hA
      have ho := Option.some.inj ho
      subst ho
      have hn := (zfit_den htc hA.1 da).2
      match a, hA.2, da with
      | (0, z), _, ⟨x, hv, hz⟩ =>
        subst hv
        exact K H locs cells slots pc ls (some (.int x)) jc.1 jc.2 jg jx jo ⟨x, rfl, hz⟩ ⟨hd, ty, hret, hn⟩
    · cases ho
theorem zs_retl (hd : decode μ.2.1 pc = .ok (.lreturn, 1)) (hret : μ.2.2.2.1 = some .long) : zSim l P M μ pc (30, 0, 1, 2, 0, []) := by
  intro p e s m args below meth c R Q d C hrm st o ho H locs cells slots ls stk J K
  obtain ⟨hx, hb, hml, hown, hts, hr, hlk⟩ := C
  obtain ⟨h, L, S⟩ := st
  obtain ⟨jc, jg, ⟨lv, jl, jd⟩, jS, jx, jo, jk⟩ := J
  match S, stk, jS, (show z_ret 2 1 (h, L, S) = some o from ho) with
  | [a], [v], ⟨da, _⟩, ho =>
    have ho : (if a.1 = 1 then some (Sum.inl (h, some a)) else none) = some o := ho
    split at ho
    · rename_i hA
      have ho := Option.some.inj ho
      subst ho
      match a, hA, da with
      | (1, z), _, ⟨x, hv, hz⟩ =>
        subst hv
        exact K H locs cells slots pc ls (some (.long x)) jc.1 jc.2 jg jx jo ⟨x, rfl, hz⟩ ⟨hd, hret⟩
    · cases ho
end ZSTEP3
theorem z_after {P : zP} {r : zR} {p : Program} {l : Launch} {e : Env} {R : Room} {s : State} {m : MethodId} {args a : Array Value} {below : List Frame} {meth : Method} {c : Code} {H : Heap} {locs : List Loc} {cells slots pc : Nat} {ls : Array Slot} {st0 rest : List Value} {Q : State → Prop}
    (hrun : va_Run p l e R s m args below meth c H locs cells slots 0 0 (F0 m pc ls st0) rest (zQc P r a) (fun z => P.1 ≤ z))
    (kk : ∀ (ov : Option Value) (H1 : Heap) (L : List Loc), zdenO P r.2 ov → zG P r.1 s H1 → (∀ q : Nat, q < P.1 → H1[q]? = H[q]?) → (∀ q ∈ L, P.1 ≤ q.base) → W p l e R s m args below meth c H1 (locs ++ L) cells slots Q (F0 m (pc + 3) ls (ov.toList ++ rest))) : W p l e R s m args below meth c H locs cells slots Q (F0 m pc ls st0) := by
  intro T hT X
  obtain ⟨v, st₀, t, T', L, h0, X', hL, e1, e2, ⟨⟨ov, hd, hv⟩, hg, hlow⟩, st⟩ := hrun T hT X
  cases hv
  have hal : t.vm.Alike s.vm := by rw [← e2]; exact X'.warmed.alike.symm
  obtain ⟨t2, a1, b1⟩ := kk v T'.heap L hd (by rw [e1]; exact hg.moved hal) (fun q hq => by rw [e1, hlow q hq, h0]) hL T' rfl X'
  exact ⟨t2, st t2 a1, b1⟩
theorem zPc_blind (P : zP) (h : zH) (vs : List Value) : FrameBlind (zPc P h vs) := fun a U g mk q => ⟨q.1, zG.moved (u := U) (U := U.calling g mk a) (Vm.Alike.refl U.vm) q.2.1, zX0.same (s := U) (U := U.calling g mk a) rfl rfl q.2.2.1, va_K.moved (u := U) (U := U.calling g mk a) (Vm.Alike.refl U.vm) q.2.2.2⟩
theorem zPc_at {P : zP} {h : zH} {vs : List Value} {s : State} {H : Heap} (jg : zG P h s H) (jx : zX0 P s H) (jk : va_K P.2.2.1 vwCl [] s) : ∀ U : State, U.heap = H → s.WarmedH U.vm → zPc P h vs vs.toArray U := fun U hU hW => ⟨rfl, by rw [hU]; exact jg.moved hW.alike, by rw [hU]; exact jx.moved hW hU, va_K.moved hW.alike jk⟩
section ZCALL
variable {l : Launch} {P : zP} {M : List zY} {μ : zM} {pc : Nat}
theorem zv_call {P : zP} {h : zH} {L : zL} {S : List zV} {o : zO} {stk : List Value} {nx mi n w : Nat} {c : Int} (ho : z_call nx mi n c w (h, L, S) = some o) (jS : zdens P S stk) : ∃ (as S' : List zV) (vs stk' : List Value), as.length = n ∧ stk = vs.reverse ++ stk' ∧ zdens P as vs ∧ zdens P S' stk' ∧ zsum S' ≤ 8 ∧ zsum as ≤ w ∧ (0 ≤ c → ∃ r as', as = (2, r) :: as' ∧ zisO c.toNat r = true) ∧ o = .inr (.inr (mi, as, nx, (h, L, S'))) := by
  unfold z_call at ho
  split at ho
  · rename_i as S' ht
    split at ho
    · rename_i hA
      obtain ⟨as0, vs, stk', e1, e2, e3, e4, e5⟩ := ztake_den (P := P) (acc := []) (accv := []) ht jS trivial
      rw [List.append_nil] at e5
      subst e5
      refine ⟨as, S', vs, stk', e1, e2, e3, e4, hA.1, hA.2.1, fun hc => ?_, (Option.some.inj ho).symm⟩
      have h1 := hA.2.2 hc
      match as, h1 with
      | (2, r) :: as', h1 => exact ⟨r, as', rfl, by simpa using h1⟩
      | (0, r) :: as', h1 => simp at h1
      | (1, r) :: as', h1 => simp at h1
      | (n + 3, r) :: as', h1 => simp at h1
    · cases ho
  · cases ho
theorem zrecv {h : zH} {ci : Nat} {r : Int} {s : State} {H : Heap} {r0 : vw_C} (hc : zisO ci r = true) (jg : zG P h s H) (jk : va_K P.2.2.1 vwCl [] s) (hr : vwCl[ci]? = some r0) : ∃ cell : Cell, H[P.1 + r.toNat]? = some cell ∧ cell.vm = .none ∧ cell.cls = P.2.2.1.1 ci ∧ s.vm.findClass r0.1 = some cell.cls := by
  obtain ⟨n, hsh⟩ := zisO_den hc
  obtain ⟨vs, dvs, r', h1, cell, q1, q2, q3, q4⟩ := jg _ _ hsh
  exact ⟨cell, q1, q3, q2, by rw [q2]; exact (jk.1 ci _ hr).2.1⟩
theorem zback {r : zR} {ov : Option Value} {S : List zV} {stk : List Value} (hd : zdenO P r.2 ov) (ds : zdens P S stk) : zdens P (zpush r.2 S) (ov.toList ++ stk) := by
  obtain ⟨r1, r2⟩ := r
  cases r2 with
  | none => cases ov with
    | none => exact ds
    | some v => cases hd
  | some a => cases ov with
    | none => cases hd
    | some v => exact ⟨hd, ds⟩
theorem zs_callV {index mi n : Nat} {C : String} {T : u_T} {N : Nat} (ci : Nat) (y : zY) (hM : M[mi]? = some y) (hmax : y.2.2.1 ≤ 41) (hd : decode μ.2.1 pc = .ok (.invokevirtual index, 3)) (hC : y.1.cls = C) (hc : vwCl[ci]? = some (C, T, N)) (hw1 : Cond.methodLink μ.1 index y.1 ∈ xTB) (hw2 : Cond.instanceMethod y.1 ∈ xTB) (hw3 : Cond.selects C y.1 y.1 ∈ xTB) (hcode : Cond.code y.1 y.2.1 y.2.2.1 y.2.2.2 ∈ xTB) (hini : Cond.initialized y.1.cls ∈ xTB) (hmh : y.1.cls ≠ "java/lang/invoke/MethodHandle" ∧ y.1.cls ≠ "java/lang/invoke/VarHandle" ∧ (parseMethodDescriptor y.1.desc).map (fun d => d.parameters.length) = some n) : zSim l P M μ pc (29, pc + 3, mi, n + 1, (ci : Int), [(0, y.2.2.1)]) := by
  intro p e s m args below meth c R Q d C hrm st o ho H locs cells slots ls stk J K
  obtain ⟨hx, hb, hml, hown, hts, hr, hlk⟩ := C
  obtain ⟨h, L, S⟩ := st
  obtain ⟨jc, jg, ⟨lv, jl, jd⟩, jS, jx, jo, jk⟩ := J
  obtain ⟨as, S', vs, stk', e1, rfl, e3, e4, hsum, hwd, hv, rfl⟩ := zv_call (show z_call (pc + 3) mi (n + 1) (ci : Int) y.2.2.1 (h, L, S) = some o from ho) jS
  obtain ⟨d', r1, hd', hMet, K⟩ := K
  have hMet := hMet y hM hwd vs e3
  have hlen := zdens_len e3
  have hgood : ∀ w ∈ zWs y, w ∈ xTB := fun w hw => by
    rcases List.mem_cons.mp hw with h | h
    · rw [h]; exact hcode
    · exact h
  have hroom : (zRoom d').frames + 1 ≤ R.frames ∧ 8 + (y.2.2.1 + 11) + (zRoom d').locals ≤ R.locals := by
    have h1 := hrm.1
    have h2 := hrm.2
    show d' + 8 + 1 ≤ R.frames ∧ 8 + (y.2.2.1 + 11) + 60 * (d' + 8) ≤ R.locals
    omega
  have hfit : cells + (zRoom d').cells ≤ R.cells ∧ slots + (zRoom d').slots ≤ R.slots := ⟨jc.1, jc.2⟩
  have hW8 : 2 * (F0 m pc ls (vs.reverse ++ stk')).monitorRoom + (stk'.map fun v => v.category).sum ≤ 8 := by rw [zsum_den e4]; show 2 * 0 + _ ≤ 8; omega
  obtain ⟨r, as', rfl, hO⟩ := hv (Int.natCast_nonneg _)
  obtain ⟨v0, vs', rfl, da0⟩ : ∃ v0 vs', vs = v0 :: vs' ∧ zden P (2, r) v0 := by
    cases vs with
    | nil => cases e3
    | cons v vs' => exact ⟨v, vs', rfl, e3.1⟩
  have da0 : v0 = .ref (P.1 + r.toNat) := da0
  subst da0
  have hn : vs'.length = n := by simp at hlen e1; omega
  obtain ⟨cell, q1, q2, -, q3⟩ := zrecv hO jg jk hc
  subst hC
  have hgv : GoodIn xTB (wsV μ.1 index y.1.cls y.1 (zWs y)) := xTB_good (fun w hw => by
    rcases List.mem_append.mp (show w ∈ ([.methodLink μ.1 index y.1, .instanceMethod y.1, .selects y.1.cls y.1 y.1, .initialized y.1.cls] : List Cond) ++ zWs y from hw) with h | h
    · simp only [List.mem_cons, List.not_mem_nil, or_false] at h
      rcases h with rfl | rfl | rfl | rfl
      · exact hw1
      · exact hw2
      · exact hw3
      · exact hini
    · exact hgood w h)
  refine z_after (va_runV (As := vs') (rest := stk') ⟨hx, hb, hml, hown, hts⟩ hMet (cwV n hts hgv rfl rfl rfl ⟨rfl, hmh⟩ hroom) ⟨zPc_blind _ _ _, ⟨cell, q1, by rw [q2]; rfl, q3⟩, zPc_at jg jx jk⟩ rfl hn jl.1 (by simp) hW8 hd hfit) ?_
  intro ov H1 LL g2 g3 g4 g5
  exact K H1 (locs ++ LL) cells slots ls (ov.toList ++ stk') ⟨jc, g3, ⟨lv, jl, jd⟩, zback g2 e4, jx.kept g4, fun q hq => (List.mem_append.mp hq).elim (jo q) (g5 q), jk⟩
theorem zs_callS {index mi n : Nat} (y : zY) (hM : M[mi]? = some y) (hmax : y.2.2.1 ≤ 41) (hd : decode μ.2.1 pc = .ok (.invokestatic index, 3)) (hw1 : Cond.methodLink μ.1 index y.1 ∈ xTB) (hw2 : Cond.static y.1 ∈ xTB) (hcode : Cond.code y.1 y.2.1 y.2.2.1 y.2.2.2 ∈ xTB) (hini : Cond.initialized y.1.cls ∈ xTB) (hmh : y.1.cls ≠ "java/lang/invoke/MethodHandle" ∧ y.1.cls ≠ "java/lang/invoke/VarHandle" ∧ (parseMethodDescriptor y.1.desc).map (fun d => d.parameters.length) = some n) : zSim l P M μ pc (29, pc + 3, mi, n, -1, [(0, y.2.2.1)]) := by
  intro p e s m args below meth c R Q d C hrm st o ho H locs cells slots ls stk J K
  obtain ⟨hx, hb, hml, hown, hts, hr, hlk⟩ := C
  obtain ⟨h, L, S⟩ := st
  obtain ⟨jc, jg, ⟨lv, jl, jd⟩, jS, jx, jo, jk⟩ := J
  obtain ⟨as, S', vs, stk', e1, rfl, e3, e4, hsum, hwd, hv, rfl⟩ := zv_call (show z_call (pc + 3) mi n (-1) y.2.2.1 (h, L, S) = some o from ho) jS
  obtain ⟨d', r1, hd', hMet, K⟩ := K
  have hMet := hMet y hM hwd vs e3
  have hlen := zdens_len e3
  have hgood : ∀ w ∈ zWs y, w ∈ xTB := fun w hw => by
    rcases List.mem_cons.mp hw with h | h
    · rw [h]; exact hcode
    · exact h
  have hroom : (zRoom d').frames + 1 ≤ R.frames ∧ 8 + (y.2.2.1 + 11) + (zRoom d').locals ≤ R.locals := by
    have h1 := hrm.1
    have h2 := hrm.2
    show d' + 8 + 1 ≤ R.frames ∧ 8 + (y.2.2.1 + 11) + 60 * (d' + 8) ≤ R.locals
    omega
  have hfit : cells + (zRoom d').cells ≤ R.cells ∧ slots + (zRoom d').slots ≤ R.slots := ⟨jc.1, jc.2⟩
  have hW8 : 2 * (F0 m pc ls (vs.reverse ++ stk')).monitorRoom + (stk'.map fun v => v.category).sum ≤ 8 := by rw [zsum_den e4]; show 2 * 0 + _ ≤ 8; omega
  have hn : vs.length = n := by omega
  have hgv : GoodIn xTB (va_wsS μ.1 index y.1 (zWs y)) := xTB_good (fun w hw => by
    rcases List.mem_append.mp (show w ∈ ([.methodLink μ.1 index y.1, .static y.1, .initialized y.1.cls] : List Cond) ++ zWs y from hw) with h | h
    · simp only [List.mem_cons, List.not_mem_nil, or_false] at h
      rcases h with rfl | rfl | rfl
      · exact hw1
      · exact hw2
      · exact hini
    · exact hgood w h)
  refine z_after (va_runS (As := vs) (rest := stk') ⟨hx, hb, hml, hown, hts⟩ hMet (va_cwS n hts hgv rfl rfl rfl hmh hroom) ⟨zPc_blind _ _ _, zPc_at jg jx jk⟩ rfl hn jl.1 rfl hW8 hd hfit) ?_
  intro ov H1 LL g2 g3 g4 g5
  exact K H1 (locs ++ LL) cells slots ls (ov.toList ++ stk') ⟨jc, g3, ⟨lv, jl, jd⟩, zback g2 e4, jx.kept g4, fun q hq => (List.mem_append.mp hq).elim (jo q) (g5 q), jk⟩
end ZCALL
/-! runs -/
def zMu (y : zY) : zM := (y.1.cls, y.2.1, y.2.2.1, y.2.2.2, y.1.name)
def zMok (l : Launch) (P : zP) (M : List zY) (T : zT) : Prop := ∀ (mi : Nat) (y : zY), M[mi]? = some y → plainName y.1.cls = true ∧ ∀ pc i, T mi pc = some i → zSim l P M (zMu y) pc i
theorem z_met {l : Launch} {P : zP} {y : zY} (hpl : plainName y.1.cls = true) {d : Nat} {h : zH} {as : List zV} {r : zR} (hgo : ∀ (p : Program) (e : Env) (s : State) (m : MethodId) (args : Array Value) (below : List Frame) (meth : Method) (c : Code) (R : Room) (Q : State → Prop), zCx (zMu y) p s m args meth c → zRm d R → zKR P (zMu y) p l e R s m args below meth c Q r → zKG P (zMu y) p l e R s m args below meth c Q 0 (h, zargs 0 as, [])) (hwd : zsum as ≤ y.2.2.1) {vs : List Value} (dvs : zdens P as vs) : Met l y.1 (zWs y) (zRoom d) (zPc P h vs) (zQc P r) 0 0 (fun z => P.1 ≤ z) := by
  refine Met.ofW (cc := y.2.1) (maxL := y.2.2.1) (ret := y.2.2.2) hpl rfl ?_
  intro p e s m args below meth c s₁ B hml hv
  obtain ⟨rfl, hG, hX, hK⟩ := hv
  have hts := atoms_spec (ws := zWs y) B.pre
  have hlen : (lg_sl vs).length ≤ y.2.2.1 := by rw [x_sl_len, zsum_den dvs]; exact hwd
  rw [lg_entry_eq]
  refine hgo p e s m vs.toArray below meth c (zRoom d) _ ⟨B.exec, B.bytes, hml, findClass_of_methodNamed B.named, fun w hw => hts w (List.mem_cons_of_mem _ hw), B.returns, B.notSynchronized⟩ ⟨Nat.le_refl _, Nat.le_refl _⟩ ?_ s.heap [] 0 0 _ [] ⟨⟨Nat.le_refl _, Nat.le_refl _⟩, hG, ⟨_, lv_entry vs hlen, zargs_den dvs⟩, trivial, hX, (fun q h => absurd h List.not_mem_nil), hK⟩
  intro H locs cells slots pc ls ov g2 g3 g4 g5 g6 g7 g8
  refine W.widen (k := 0) (n := 0) g2 g3 ?_
  have hq : ∀ t : State, t.heap = H → s.WarmedH t.vm → zQc P r vs.toArray s (.returned ov) t := fun t ht hW => ⟨⟨ov, g7, rfl⟩, by rw [ht]; exact g4.moved hW.alike, fun q hq => by rw [ht]; exact g5.2.2.2.2.2 q hq⟩
  match ov, g8, hq with
  | none, g8, hq => exact W.vret B.exec B.bytes (B.returns.trans g8.2) hq g6 g8.1 (hlocks := B.notSynchronized)
  | some (.int x), ⟨g8, ty, h1, h2⟩, hq => exact W.zret B.exec B.bytes (B.returns.trans h1) h2 hq g6 g8 (hlocks := B.notSynchronized)
  | some (.long x), g8, hq => exact W.lret B.exec B.bytes (B.returns.trans g8.2) hq g6 g8.1 (hlocks := B.notSynchronized)
end
section
/-! texts: String.length and String.charAt, walked in the JDK's own code -/
def wsJ0_coder_7d493 : List Cond := .code yJ0_coder_7d493 cJ0_coder_7d493 1 (some .byte) :: ([.fieldLink RJ0 38 "java/lang/String" "COMPACT_STRINGS" "Z", .fieldLink RJ0 15 "java/lang/String" "coder" "B"])
def wsJ0_length_8abf5 : List Cond := .code yJ0_length_8abf5 cJ0_length_8abf5 1 (some .int) :: ([.fieldLink RJ0 9 "java/lang/String" "value" "[B", .methodLink RJ0 335 yJ0_coder_7d493, .instanceMethod yJ0_coder_7d493, .selects RJ0 yJ0_coder_7d493 yJ0_coder_7d493, .initialized RJ0, .code yJ0_coder_7d493 cJ0_coder_7d493 1 (some .byte), .fieldLink RJ0 38 "java/lang/String" "COMPACT_STRINGS" "Z", .fieldLink RJ0 15 "java/lang/String" "coder" "B"])
def wsJ0_isLatin1_aae02 : List Cond := .code yJ0_isLatin1_aae02 cJ0_isLatin1_aae02 1 (some .boolean) :: ([.fieldLink RJ0 38 "java/lang/String" "COMPACT_STRINGS" "Z", .fieldLink RJ0 15 "java/lang/String" "coder" "B"])
def wsJ3_checkIndex_8e157 : List Cond := .code yJ3_checkIndex_8e157 cJ3_checkIndex_8e157 3 (some .int) :: ([])
def wsJ0_checkIndex_df160 : List Cond := .code yJ0_checkIndex_df160 cJ0_checkIndex_df160 2 none :: ([.fieldLink RJ0 1053 "jdk/internal/util/Preconditions" "SIOOBE_FORMATTER" "Ljava/util/function/BiFunction;", .methodLink RJ0 1059 yJ3_checkIndex_8e157, .static yJ3_checkIndex_8e157, .initialized RJ3, .code yJ3_checkIndex_8e157 cJ3_checkIndex_8e157 3 (some .int)])
def wsJ1_charAt_3b067 : List Cond := .code yJ1_charAt_3b067 cJ1_charAt_3b067 2 (some .char) :: ([.methodLink RJ1 9 yJ0_checkIndex_df160, .static yJ0_checkIndex_df160, .initialized RJ0, .code yJ0_checkIndex_df160 cJ0_checkIndex_df160 2 none, .fieldLink RJ0 1053 "jdk/internal/util/Preconditions" "SIOOBE_FORMATTER" "Ljava/util/function/BiFunction;", .methodLink RJ0 1059 yJ3_checkIndex_8e157, .static yJ3_checkIndex_8e157, .initialized RJ3, .code yJ3_checkIndex_8e157 cJ3_checkIndex_8e157 3 (some .int)])
def wsJ0_charAt_5068e_r1 : List Cond := [Cond.fieldLink RJ0 9 "java/lang/String" "value" "[B", Cond.methodLink RJ0 492 yJ0_isLatin1_aae02, Cond.instanceMethod yJ0_isLatin1_aae02, Cond.selects RJ0 yJ0_isLatin1_aae02 yJ0_isLatin1_aae02, Cond.initialized RJ0, Cond.code yJ0_isLatin1_aae02 cJ0_isLatin1_aae02 1 (some .boolean), Cond.fieldLink RJ0 38 "java/lang/String" "COMPACT_STRINGS" "Z", Cond.fieldLink RJ0 15 "java/lang/String" "coder" "B", Cond.methodLink RJ0 495 yJ1_charAt_3b067, Cond.static yJ1_charAt_3b067, Cond.initialized RJ1, Cond.code yJ1_charAt_3b067 cJ1_charAt_3b067 2 (some .char), Cond.methodLink RJ1 9 yJ0_checkIndex_df160, Cond.static yJ0_checkIndex_df160, Cond.code yJ0_checkIndex_df160 cJ0_checkIndex_df160 2 none, Cond.fieldLink RJ0 1053 "jdk/internal/util/Preconditions" "SIOOBE_FORMATTER" "Ljava/util/function/BiFunction;", Cond.methodLink RJ0 1059 yJ3_checkIndex_8e157, Cond.static yJ3_checkIndex_8e157, Cond.initialized RJ3, Cond.code yJ3_checkIndex_8e157 cJ3_checkIndex_8e157 3 (some .int), Cond.methodLink RJ0 498 yJ2_charAt_3b067, Cond.static yJ2_charAt_3b067, Cond.initialized RJ2, Cond.code yJ2_charAt_3b067 cJ2_charAt_3b067 2 (some .char)]
def wsJ0_charAt_5068e_r2 : List Cond := [Cond.methodLink RJ2 67 yJ2_checkIndex_2214a, Cond.static yJ2_checkIndex_2214a, Cond.code yJ2_checkIndex_2214a cJ2_checkIndex_2214a 2 none, Cond.methodLink RJ2 48 yJ2_length_9d52b, Cond.static yJ2_length_9d52b, Cond.code yJ2_length_9d52b cJ2_length_9d52b 1 (some .int), Cond.methodLink RJ2 414 yJ0_checkIndex_df160, Cond.methodLink RJ2 71 yJ2_getChar_3b067, Cond.static yJ2_getChar_3b067, Cond.code yJ2_getChar_3b067 cJ2_getChar_3b067 2 (some .char), Cond.fieldLink RJ2 44 "java/lang/StringUTF16" "$assertionsDisabled" "Z", Cond.fieldLink RJ2 59 "java/lang/StringUTF16" "HI_BYTE_SHIFT" "I", Cond.fieldLink RJ2 63 "java/lang/StringUTF16" "LO_BYTE_SHIFT" "I"]
def wsJ0_charAt_5068e : List Cond := .code yJ0_charAt_5068e cJ0_charAt_5068e 2 (some .char) :: ((wsJ0_charAt_5068e_r1 ++ wsJ0_charAt_5068e_r2))
theorem ggJ0_length_8abf5_J0_coder_7d493 : GoodIn wsJ0_length_8abf5 wsJ0_coder_7d493 := goodIn_r _ [6, 7, 8] (by decide +kernel) (by decide +kernel)
theorem gJ0_length_8abf5_J0_coder_7d493 : GoodIn wsJ0_length_8abf5 (wsV RJ0 335 RJ0 yJ0_coder_7d493 wsJ0_coder_7d493) := goodIn_app (goodIn_of _ (by decide +kernel)) ggJ0_length_8abf5_J0_coder_7d493
theorem dJ0_length_8abf5_0 : decode cJ0_length_8abf5 0 = .ok (.aload_n 0, 1) := by decide +kernel
theorem dJ0_length_8abf5_1 : decode cJ0_length_8abf5 1 = .ok (.getfield 9, 3) := by decide +kernel
theorem dJ0_length_8abf5_4 : decode cJ0_length_8abf5 4 = .ok (.arraylength, 1) := by decide +kernel
theorem dJ0_length_8abf5_5 : decode cJ0_length_8abf5 5 = .ok (.aload_n 0, 1) := by decide +kernel
theorem dJ0_length_8abf5_6 : decode cJ0_length_8abf5 6 = .ok (.invokevirtual 335, 3) := by decide +kernel
theorem dJ0_length_8abf5_9 : decode cJ0_length_8abf5 9 = .ok (.ishr, 1) := by decide +kernel
theorem dJ0_length_8abf5_10 : decode cJ0_length_8abf5 10 = .ok (.ireturn, 1) := by decide +kernel
theorem ggJ0_charAt_5068e_J0_isLatin1_aae02 : GoodIn wsJ0_charAt_5068e wsJ0_isLatin1_aae02 := goodIn_r _ [6, 7, 8] (by decide +kernel) (by decide +kernel)
theorem gJ0_charAt_5068e_J0_isLatin1_aae02 : GoodIn wsJ0_charAt_5068e (wsV RJ0 492 RJ0 yJ0_isLatin1_aae02 wsJ0_isLatin1_aae02) := goodIn_app (goodIn_of _ (by decide +kernel)) ggJ0_charAt_5068e_J0_isLatin1_aae02
theorem ggJ0_charAt_5068e_J1_charAt_3b067 : GoodIn wsJ0_charAt_5068e wsJ1_charAt_3b067 := goodIn_r _ [12, 13, 14, 5, 15, 16, 17, 18, 19, 20] (by decide +kernel) (by decide +kernel)
theorem gJ0_charAt_5068e_J1_charAt_3b067 : GoodIn wsJ0_charAt_5068e (va_wsS RJ0 495 yJ1_charAt_3b067 wsJ1_charAt_3b067) := goodIn_app (goodIn_of _ (by decide +kernel)) ggJ0_charAt_5068e_J1_charAt_3b067
theorem dJ0_charAt_5068e_0 : decode cJ0_charAt_5068e 0 = .ok (.aload_n 0, 1) := by decide +kernel
theorem dJ0_charAt_5068e_1 : decode cJ0_charAt_5068e 1 = .ok (.invokevirtual 492, 3) := by decide +kernel
theorem dJ0_charAt_5068e_4 : decode cJ0_charAt_5068e 4 = .ok (.ifCond .eq 12, 3) := by decide +kernel
theorem dJ0_charAt_5068e_7 : decode cJ0_charAt_5068e 7 = .ok (.aload_n 0, 1) := by decide +kernel
theorem dJ0_charAt_5068e_8 : decode cJ0_charAt_5068e 8 = .ok (.getfield 9, 3) := by decide +kernel
theorem dJ0_charAt_5068e_11 : decode cJ0_charAt_5068e 11 = .ok (.iload_n 1, 1) := by decide +kernel
theorem dJ0_charAt_5068e_12 : decode cJ0_charAt_5068e 12 = .ok (.invokestatic 495, 3) := by decide +kernel
theorem dJ0_charAt_5068e_15 : decode cJ0_charAt_5068e 15 = .ok (.ireturn, 1) := by decide +kernel
theorem dJ0_coder_7d493_0 : decode cJ0_coder_7d493 0 = .ok (.getstatic 38, 3) := by decide +kernel
theorem dJ0_coder_7d493_3 : decode cJ0_coder_7d493 3 = .ok (.ifCond .eq 10, 3) := by decide +kernel
theorem dJ0_coder_7d493_6 : decode cJ0_coder_7d493 6 = .ok (.aload_n 0, 1) := by decide +kernel
theorem dJ0_coder_7d493_7 : decode cJ0_coder_7d493 7 = .ok (.getfield 15, 3) := by decide +kernel
theorem dJ0_coder_7d493_10 : decode cJ0_coder_7d493 10 = .ok (.goto 4, 3) := by decide +kernel
theorem dJ0_coder_7d493_14 : decode cJ0_coder_7d493 14 = .ok (.ireturn, 1) := by decide +kernel
theorem dJ0_isLatin1_aae02_0 : decode cJ0_isLatin1_aae02 0 = .ok (.getstatic 38, 3) := by decide +kernel
theorem dJ0_isLatin1_aae02_3 : decode cJ0_isLatin1_aae02 3 = .ok (.ifCond .eq 14, 3) := by decide +kernel
theorem dJ0_isLatin1_aae02_6 : decode cJ0_isLatin1_aae02 6 = .ok (.aload_n 0, 1) := by decide +kernel
theorem dJ0_isLatin1_aae02_7 : decode cJ0_isLatin1_aae02 7 = .ok (.getfield 15, 3) := by decide +kernel
theorem dJ0_isLatin1_aae02_10 : decode cJ0_isLatin1_aae02 10 = .ok (.ifCond .ne 7, 3) := by decide +kernel
theorem dJ0_isLatin1_aae02_13 : decode cJ0_isLatin1_aae02 13 = .ok (.iconst 1, 1) := by decide +kernel
theorem dJ0_isLatin1_aae02_14 : decode cJ0_isLatin1_aae02 14 = .ok (.goto 4, 3) := by decide +kernel
theorem dJ0_isLatin1_aae02_18 : decode cJ0_isLatin1_aae02 18 = .ok (.ireturn, 1) := by decide +kernel
theorem ggJ0_checkIndex_df160_J3_checkIndex_8e157 : GoodIn wsJ0_checkIndex_df160 wsJ3_checkIndex_8e157 := goodIn_r _ [5] (by decide +kernel) (by decide +kernel)
theorem gJ0_checkIndex_df160_J3_checkIndex_8e157 : GoodIn wsJ0_checkIndex_df160 (va_wsS RJ0 1059 yJ3_checkIndex_8e157 wsJ3_checkIndex_8e157) := goodIn_app (goodIn_of _ (by decide +kernel)) ggJ0_checkIndex_df160_J3_checkIndex_8e157
theorem dJ0_checkIndex_df160_0 : decode cJ0_checkIndex_df160 0 = .ok (.iload_n 0, 1) := by decide +kernel
theorem dJ0_checkIndex_df160_1 : decode cJ0_checkIndex_df160 1 = .ok (.iload_n 1, 1) := by decide +kernel
theorem dJ0_checkIndex_df160_2 : decode cJ0_checkIndex_df160 2 = .ok (.getstatic 1053, 3) := by decide +kernel
theorem dJ0_checkIndex_df160_5 : decode cJ0_checkIndex_df160 5 = .ok (.invokestatic 1059, 3) := by decide +kernel
theorem dJ0_checkIndex_df160_8 : decode cJ0_checkIndex_df160 8 = .ok (.pop, 1) := by decide +kernel
theorem dJ0_checkIndex_df160_9 : decode cJ0_checkIndex_df160 9 = .ok (.return_, 1) := by decide +kernel
theorem ggJ1_charAt_3b067_J0_checkIndex_df160 : GoodIn wsJ1_charAt_3b067 wsJ0_checkIndex_df160 := goodIn_r _ [4, 5, 6, 7, 8, 9] (by decide +kernel) (by decide +kernel)
theorem gJ1_charAt_3b067_J0_checkIndex_df160 : GoodIn wsJ1_charAt_3b067 (va_wsS RJ1 9 yJ0_checkIndex_df160 wsJ0_checkIndex_df160) := goodIn_app (goodIn_of _ (by decide +kernel)) ggJ1_charAt_3b067_J0_checkIndex_df160
theorem dJ1_charAt_3b067_0 : decode cJ1_charAt_3b067 0 = .ok (.iload_n 1, 1) := by decide +kernel
theorem dJ1_charAt_3b067_1 : decode cJ1_charAt_3b067 1 = .ok (.aload_n 0, 1) := by decide +kernel
theorem dJ1_charAt_3b067_2 : decode cJ1_charAt_3b067 2 = .ok (.arraylength, 1) := by decide +kernel
theorem dJ1_charAt_3b067_3 : decode cJ1_charAt_3b067 3 = .ok (.invokestatic 9, 3) := by decide +kernel
theorem dJ1_charAt_3b067_6 : decode cJ1_charAt_3b067 6 = .ok (.aload_n 0, 1) := by decide +kernel
theorem dJ1_charAt_3b067_7 : decode cJ1_charAt_3b067 7 = .ok (.iload_n 1, 1) := by decide +kernel
theorem dJ1_charAt_3b067_8 : decode cJ1_charAt_3b067 8 = .ok (.baload, 1) := by decide +kernel
theorem dJ1_charAt_3b067_9 : decode cJ1_charAt_3b067 9 = .ok (.sipush 255, 3) := by decide +kernel
theorem dJ1_charAt_3b067_12 : decode cJ1_charAt_3b067 12 = .ok (.iand, 1) := by decide +kernel
theorem dJ1_charAt_3b067_13 : decode cJ1_charAt_3b067 13 = .ok (.i2c, 1) := by decide +kernel
theorem dJ1_charAt_3b067_14 : decode cJ1_charAt_3b067 14 = .ok (.ireturn, 1) := by decide +kernel
theorem dJ3_checkIndex_8e157_0 : decode cJ3_checkIndex_8e157 0 = .ok (.iload_n 0, 1) := by decide +kernel
theorem dJ3_checkIndex_8e157_1 : decode cJ3_checkIndex_8e157 1 = .ok (.ifCond .lt 8, 3) := by decide +kernel
theorem dJ3_checkIndex_8e157_4 : decode cJ3_checkIndex_8e157 4 = .ok (.iload_n 0, 1) := by decide +kernel
theorem dJ3_checkIndex_8e157_5 : decode cJ3_checkIndex_8e157 5 = .ok (.iload_n 1, 1) := by decide +kernel
theorem dJ3_checkIndex_8e157_6 : decode cJ3_checkIndex_8e157 6 = .ok (.if_icmp .lt 10, 3) := by decide +kernel
theorem dJ3_checkIndex_8e157_16 : decode cJ3_checkIndex_8e157 16 = .ok (.iload_n 0, 1) := by decide +kernel
theorem dJ3_checkIndex_8e157_17 : decode cJ3_checkIndex_8e157 17 = .ok (.ireturn, 1) := by decide +kernel
def tX (P : zP) (adV : Nat → Nat) (U : State) (H : Heap) : Prop := vk_S 2 zLen zByt (fun i => P.2.1 (i + 3)) adV (fun z => P.1 ≤ z) U H ∧ va_Z "java/lang/String" "COMPACT_STRINGS" "Z" (.int 1) (fun z => P.1 ≤ z) U H ∧ va_Zq "jdk/internal/util/Preconditions" "SIOOBE_FORMATTER" "Ljava/util/function/BiFunction;" (fun z => P.1 ≤ z) U H
theorem tX.moved {P : zP} {adV : Nat → Nat} {s U : State} {H : Heap} (hvm : s.vm.Alike U.vm) (h : tX P adV s H) : tX P adV U H := ⟨h.1.moved hvm, h.2.1.moved hvm, h.2.2.moved hvm⟩
def tPc (P : zP) (adV : Nat → Nat) (vs : List Value) : Array Value → State → Prop := fun a U => a = vs.toArray ∧ tX P adV U U.heap
def tQc (ov : Option Value) : Array Value → State → Outcome → State → Prop := fun _ st oc t => oc = .returned ov ∧ t.heap = st.heap
def tRm (n : Nat) : Room := { frames := n, cells := 0, slots := 0, locals := 40 * n }
abbrev tMet (l : Launch) (P : zP) (adV : Nat → Nat) (y : MethodName) (ws : List Cond) (n : Nat) (vs : List Value) (ov : Option Value) : Prop := Met l y ws (tRm n) (tPc P adV vs) (tQc ov) 0 0 (fun z => P.1 ≤ z)
theorem tPc_blind (P : zP) (adV : Nat → Nat) (vs : List Value) : FrameBlind (tPc P adV vs) := fun a U g mk q => ⟨q.1, tX.moved (s := U) (U := U.calling g mk a) (Vm.Alike.refl U.vm) q.2⟩
theorem tPc_at {P : zP} {adV : Nat → Nat} {vs : List Value} {s : State} {H : Heap} (h : tX P adV s H) : ∀ U : State, U.heap = H → s.WarmedH U.vm → tPc P adV vs vs.toArray U := fun U hU hW => ⟨rfl, by rw [hU]; exact h.moved hW.alike⟩
theorem t_after {P : zP} {p : Program} {l : Launch} {e : Env} {R : Room} {s : State} {m : MethodId} {args a : Array Value} {below : List Frame} {meth : Method} {c : Code} {H : Heap} {locs : List Loc} {cells slots pc : Nat} {ls : Array Slot} {st0 rest : List Value} {Q : State → Prop} {ov : Option Value}
    (hrun : va_Run p l e R s m args below meth c H locs cells slots 0 0 (F0 m pc ls st0) rest (tQc ov a) (fun z => P.1 ≤ z))
    (kk : ∀ L : List Loc, (∀ q ∈ L, P.1 ≤ q.base) → W p l e R s m args below meth c H (locs ++ L) cells slots Q (F0 m (pc + 3) ls (ov.toList ++ rest))) : W p l e R s m args below meth c H locs cells slots Q (F0 m pc ls st0) := by
  intro T hT X
  obtain ⟨v, st₀, t, T', L, h0, X', hL, e1, e2, ⟨hv, hh⟩, st⟩ := hrun T hT X
  cases hv
  obtain ⟨t2, a1, b1⟩ := kk L hL T' (by rw [e1, hh, h0]) X'
  exact ⟨t2, st t2 a1, b1⟩
def tCx (cc : ByteArray) (nL : Nat) (ret : Option FieldType) (own : String) (ws : List Cond) (p : Program) (s : State) (m : MethodId) (args : Array Value) (meth : Method) (c : Code) : Prop :=
  p.tables.exec = Jvm.exec ∧ c.code = cc ∧ c.maxLocals = nL ∧ s.vm.findClass own = some m.cls ∧ (∀ w ∈ ws, w.before args s = true) ∧ meth.sig.returnType = ret ∧ meth.locks = false
theorem t_met {l : Launch} {P : zP} {adV : Nat → Nat} {y : MethodName} {ws ws' : List Cond} {n : Nat} {vs : List Value} {ov : Option Value} {cc : ByteArray} {nL : Nat} {ret : Option FieldType} (hpl : plainName y.cls = true) (hw : ws = Cond.code y cc nL ret :: ws') (hlen : (lg_sl vs).length ≤ nL)
    (go : ∀ (p : Program) (e : Env) (s : State) (m : MethodId) (below : List Frame) (meth : Method) (c : Code), tCx cc nL ret y.cls ws p s m vs.toArray meth c → tX P adV s s.heap → W p l e (tRm n) s m vs.toArray below meth c s.heap [] 0 0 (MQ below (tQc ov) vs.toArray s 0 0 (fun z => P.1 ≤ z)) (F0 m 0 ((lg_sl vs ++ List.replicate (nL - (lg_sl vs).length) Slot.unset).toArray) [])) : tMet l P adV y ws n vs ov := by
  refine Met.ofW (cc := cc) (maxL := nL) (ret := ret) hpl hw ?_
  intro p e s m args below meth c s₁ B hml hv
  obtain ⟨rfl, hX⟩ := hv
  have hts := atoms_spec (ws := ws) B.pre
  rw [lg_entry_eq]
  exact go p e s m below meth c ⟨B.exec, B.bytes, hml, findClass_of_methodNamed B.named, hts, B.returns, B.notSynchronized⟩ hX
section TSTR
variable {l : Launch} {P : zP} {adV : Nat → Nat}
theorem t_check {i n : Int32} {v : Value} (h0 : ¬ i < 0) (hn : i < n) (hv : v = .null ∨ ∃ t : Nat, v = .ref t) : tMet l P adV yJ3_checkIndex_8e157 wsJ3_checkIndex_8e157 0 [.int i, .int n, v] (some (.int i)) := by
  have len : lg_sl [.int i, .int n, v] = [.val (.int i), .val (.int n), .val v] := by
    rcases hv with rfl | ⟨t, rfl⟩ <;> rfl
  refine t_met (cc := cJ3_checkIndex_8e157) (nL := 3) (ret := some .int) (by decide +kernel) rfl (by rw [len]; exact Nat.le_refl 3) ?_
  intro p e s m below meth c ⟨hx, hb, hml, hown, hts, hr, hlk⟩ _
  rw [len]
  refine lv_iload_n hx hb dJ3_checkIndex_8e157_0 (i := 0) rfl rfl ?_
  refine lv_if_lt hx hb dJ3_checkIndex_8e157_1 (tgt := 9) rfl (fun q => absurd q h0) (fun _ => ?_)
  refine lv_iload_n hx hb dJ3_checkIndex_8e157_4 (i := 0) rfl rfl ?_
  refine lv_iload_n hx hb dJ3_checkIndex_8e157_5 (i := 1) rfl rfl ?_
  refine lv_icmp_lt hx hb dJ3_checkIndex_8e157_6 (tgt := 16) rfl (fun _ => ?_) (fun q => absurd hn q)
  refine lv_iload_n hx hb dJ3_checkIndex_8e157_16 (i := 0) rfl rfl ?_
  exact W.zret hx hb hr rfl (fun t ht hW => ⟨rfl, ht⟩) (fun q h => absurd h List.not_mem_nil) dJ3_checkIndex_8e157_17 (hlocks := hlk)
theorem t_scheck {i n : Int32} (h0 : ¬ i < 0) (hn : i < n) : tMet l P adV yJ0_checkIndex_df160 wsJ0_checkIndex_df160 1 [.int i, .int n] none := by
  refine t_met (cc := cJ0_checkIndex_df160) (nL := 2) (ret := none) (by decide +kernel) rfl (Nat.le_refl 2) ?_
  intro p e s m below meth c ⟨hx, hb, hml, hown, hts, hr, hlk⟩ hX
  refine lv_iload_n hx hb dJ0_checkIndex_df160_0 (i := 0) rfl rfl ?_
  refine lv_iload_n hx hb dJ0_checkIndex_df160_1 (i := 1) rfl rfl ?_
  obtain ⟨v, hv, hZ⟩ : ∃ v : Value, (v = .null ∨ ∃ t : Nat, v = .ref t) ∧ va_Z "jdk/internal/util/Preconditions" "SIOOBE_FORMATTER" "Ljava/util/function/BiFunction;" v (fun z => P.1 ≤ z) s s.heap := by
    rcases hX.2.2 with h | ⟨t, h⟩
    · exact ⟨_, Or.inl rfl, h⟩
    · exact ⟨_, Or.inr ⟨t, rfl⟩, h⟩
  refine va_gets hx hb hZ va_S.rf hown (hts _ (List.mem_cons_of_mem _ List.mem_cons_self)) (fun x h => h) dJ0_checkIndex_df160_2 ?_
  refine t_after (va_runS (As := [.int i, .int n, v]) (rest := []) ⟨hx, hb, hml, hown, hts⟩ (t_check h0 hn hv) (va_cwS 3 hts gJ0_checkIndex_df160_J3_checkIndex_8e157 rfl rfl rfl ⟨by decide +kernel, by decide +kernel, by decide +kernel⟩ ⟨Nat.le_of_ble_eq_true rfl, Nat.le_of_ble_eq_true rfl⟩) ⟨tPc_blind _ _ _, tPc_at hX⟩ rfl rfl rfl rfl (Nat.le_of_ble_eq_true rfl) dJ0_checkIndex_df160_5 ⟨Nat.zero_le _, Nat.zero_le _⟩) ?_
  intro L hL
  refine lv_pop hx hb dJ0_checkIndex_df160_8 rfl ?_
  exact W.vret hx hb hr (fun t ht hW => ⟨rfl, ht⟩) hL dJ0_checkIndex_df160_9 (hlocks := hlk)
def tch (j k : Nat) : Int32 := (((zByt.getD j []).getD k 0 &&& 255).toUInt32 % 65536).toInt32
theorem tch_ok : ∀ j, j < 2 → ∀ k, k < zLen.getD j 0 → (narrow .char (.int (tch j k)) = .int (tch j k) ∧ (tch j k).toInt = (zTx (j + 3)).getD k 0) := by decide +kernel
theorem tln_ok : ∀ j, j < 2 → (zLen.getD j 0 = (zTx (j + 3)).length ∧ zLen.getD j 0 < 65536 ∧ Int32.ofNat (zLen.getD j 0) >>> ((0 : Int32) &&& 31) = Int32.ofNat (zLen.getD j 0)) := by decide +kernel
theorem t_lchar {j : Nat} (hj : j < 2) {i : Int32} (h0 : ¬ i < 0) (hi : i.toNatClampNeg < zLen.getD j 0) : tMet l P adV yJ1_charAt_3b067 wsJ1_charAt_3b067 2 [.ref (adV j), .int i] (some (.int (tch j i.toNatClampNeg))) := by
  refine t_met (cc := cJ1_charAt_3b067) (nL := 2) (ret := some .char) (by decide +kernel) rfl (Nat.le_refl 2) ?_
  intro p e s m below meth c ⟨hx, hb, hml, hown, hts, hr, hlk⟩ hX
  obtain ⟨cell, g1, g2, g3, g4, g5, g6, g7⟩ := (hX.1.1 j hj).2.2.2
  have hlt : i < Int32.ofNat (zLen.getD j 0) := by
    have b := (tln_ok j hj).2.1
    refine Int32.lt_iff_toInt_lt.mpr ?_
    have e1 : (Int32.ofNat (zLen.getD j 0)).toInt = ((zLen.getD j 0 : Nat) : Int) := z_ofNat (by omega)
    have e2 : i.toInt.toNat < zLen.getD j 0 := hi
    rw [e1]
    omega
  refine lv_iload_n hx hb dJ1_charAt_3b067_0 (i := 1) rfl rfl ?_
  refine lv_aload_n hx hb dJ1_charAt_3b067_1 (i := 0) rfl rfl ?_
  refine W.alen (n := Int32.ofNat (zLen.getD j 0)) hx hb g1 g2 g5 rfl rfl dJ1_charAt_3b067_2 ?_
  refine t_after (va_runS (As := [.int i, .int (Int32.ofNat (zLen.getD j 0))]) (rest := []) ⟨hx, hb, hml, hown, hts⟩ (t_scheck h0 hlt) (va_cwS 2 hts gJ1_charAt_3b067_J0_checkIndex_df160 rfl rfl rfl ⟨by decide +kernel, by decide +kernel, by decide +kernel⟩ ⟨Nat.le_of_ble_eq_true rfl, Nat.le_of_ble_eq_true rfl⟩) ⟨tPc_blind _ _ _, tPc_at hX⟩ rfl rfl rfl rfl (Nat.le_of_ble_eq_true rfl) dJ1_charAt_3b067_3 ⟨Nat.zero_le _, Nat.zero_le _⟩) ?_
  intro L hL
  refine lv_aload_n hx hb dJ1_charAt_3b067_6 (i := 0) rfl rfl ?_
  refine lv_iload_n hx hb dJ1_charAt_3b067_7 (i := 1) rfl rfl ?_
  refine W.bald (v := .int ((zByt.getD j []).getD i.toNatClampNeg 0)) hx hb g1 g2 g3 (fun q => q.elim h0 (fun h => absurd (Nat.lt_of_lt_of_le hi g4) (Nat.not_lt.mpr h))) (g6 _ hi) rfl rfl dJ1_charAt_3b067_8 ?_
  refine lv_sipush hx hb dJ1_charAt_3b067_9 (v := 255) (by decide) ?_
  refine lv_iand hx hb dJ1_charAt_3b067_12 ?_
  refine lv_i2c hx hb dJ1_charAt_3b067_13 (v := tch j i.toNatClampNeg) rfl ?_
  exact W.zret hx hb hr (tch_ok j hj _ hi).1 (fun t ht hW => ⟨rfl, ht⟩) hL dJ1_charAt_3b067_14 (hlocks := hlk)
theorem t_lat {j : Nat} (hj : j < 2) : tMet l P adV yJ0_isLatin1_aae02 wsJ0_isLatin1_aae02 0 [.ref (P.2.1 (j + 3))] (some (.int 1)) := by
  refine t_met (cc := cJ0_isLatin1_aae02) (nL := 1) (ret := some .boolean) (by decide +kernel) rfl (Nat.le_refl 1) ?_
  intro p e s m below meth c ⟨hx, hb, hml, hown, hts, hr, hlk⟩ hX
  refine va_gets hx hb hX.2.1 va_S.rf hown (hts _ (List.mem_cons_of_mem _ List.mem_cons_self)) (fun x h => h) dJ0_isLatin1_aae02_0 ?_
  refine lv_if_eq hx hb dJ0_isLatin1_aae02_3 (tgt := 17) rfl (fun q => absurd q (by decide)) (fun _ => ?_)
  refine lv_aload_n hx hb dJ0_isLatin1_aae02_6 (i := 0) rfl rfl ?_
  refine vk_getf hx hb (hX.1.1 j hj).2.1 va_S.rf hown (hts _ (List.mem_cons_of_mem _ (List.mem_cons_of_mem _ List.mem_cons_self))) (fun x h => h) dJ0_isLatin1_aae02_7 ?_
  refine lv_if_ne hx hb dJ0_isLatin1_aae02_10 (tgt := 17) rfl (fun q => absurd rfl q) (fun _ => ?_)
  refine lv_iconst hx hb dJ0_isLatin1_aae02_13 (v := 1) (by decide) ?_
  refine lv_goto hx hb dJ0_isLatin1_aae02_14 (tgt := 18) rfl ?_
  exact W.zret hx hb hr rfl (fun t ht hW => ⟨rfl, ht⟩) (fun q h => absurd h List.not_mem_nil) dJ0_isLatin1_aae02_18 (hlocks := hlk)
theorem t_coder {j : Nat} (hj : j < 2) : tMet l P adV yJ0_coder_7d493 wsJ0_coder_7d493 0 [.ref (P.2.1 (j + 3))] (some (.int 0)) := by
  refine t_met (cc := cJ0_coder_7d493) (nL := 1) (ret := some .byte) (by decide +kernel) rfl (Nat.le_refl 1) ?_
  intro p e s m below meth c ⟨hx, hb, hml, hown, hts, hr, hlk⟩ hX
  refine va_gets hx hb hX.2.1 va_S.rf hown (hts _ (List.mem_cons_of_mem _ List.mem_cons_self)) (fun x h => h) dJ0_coder_7d493_0 ?_
  refine lv_if_eq hx hb dJ0_coder_7d493_3 (tgt := 13) rfl (fun q => absurd q (by decide)) (fun _ => ?_)
  refine lv_aload_n hx hb dJ0_coder_7d493_6 (i := 0) rfl rfl ?_
  refine vk_getf hx hb (hX.1.1 j hj).2.1 va_S.rf hown (hts _ (List.mem_cons_of_mem _ (List.mem_cons_of_mem _ List.mem_cons_self))) (fun x h => h) dJ0_coder_7d493_7 ?_
  refine lv_goto hx hb dJ0_coder_7d493_10 (tgt := 14) rfl ?_
  exact W.zret hx hb hr rfl (fun t ht hW => ⟨rfl, ht⟩) (fun q h => absurd h List.not_mem_nil) dJ0_coder_7d493_14 (hlocks := hlk)
theorem t_length {j : Nat} (hj : j < 2) : tMet l P adV yJ0_length_8abf5 wsJ0_length_8abf5 1 [.ref (P.2.1 (j + 3))] (some (.int (Int32.ofNat (zLen.getD j 0)))) := by
  refine t_met (cc := cJ0_length_8abf5) (nL := 1) (ret := some .int) (by decide +kernel) rfl (Nat.le_refl 1) ?_
  intro p e s m below meth c ⟨hx, hb, hml, hown, hts, hr, hlk⟩ hX
  obtain ⟨cell, g1, g2, g3, g4, g5, g6, g7⟩ := (hX.1.1 j hj).2.2.2
  refine lv_aload_n hx hb dJ0_length_8abf5_0 (i := 0) rfl rfl ?_
  refine vk_getf hx hb (hX.1.1 j hj).2.2.1 va_S.rf hown (hts _ (List.mem_cons_of_mem _ List.mem_cons_self)) (fun x h => h) dJ0_length_8abf5_1 ?_
  refine W.alen (n := Int32.ofNat (zLen.getD j 0)) hx hb g1 g2 g5 rfl rfl dJ0_length_8abf5_4 ?_
  refine lv_aload_n hx hb dJ0_length_8abf5_5 (i := 0) rfl rfl ?_
  refine t_after (va_runV (C := RJ0) (b := P.2.1 (j + 3)) (As := []) (rest := [.int (Int32.ofNat (zLen.getD j 0))]) ⟨hx, hb, hml, hown, hts⟩ (t_coder hj) (cwV 0 hts gJ0_length_8abf5_J0_coder_7d493 rfl rfl rfl ⟨rfl, by decide +kernel, by decide +kernel, by decide +kernel⟩ ⟨Nat.le_of_ble_eq_true rfl, Nat.le_of_ble_eq_true rfl⟩) ⟨tPc_blind _ _ _, vk_recv (adK := fun i => P.2.1 (i + 3)) (i := j) hX.1 hj va_S.rf, tPc_at hX⟩ rfl rfl rfl rfl (Nat.le_of_ble_eq_true rfl) dJ0_length_8abf5_6 ⟨Nat.zero_le _, Nat.zero_le _⟩) ?_
  intro L hL
  refine lv_ishr hx hb dJ0_length_8abf5_9 ?_
  rw [(tln_ok j hj).2.2]
  exact W.zret hx hb hr rfl (fun t ht hW => ⟨rfl, ht⟩) hL dJ0_length_8abf5_10 (hlocks := hlk)
theorem t_char {j : Nat} (hj : j < 2) {i : Int32} (h0 : ¬ i < 0) (hi : i.toNatClampNeg < zLen.getD j 0) : tMet l P adV yJ0_charAt_5068e wsJ0_charAt_5068e 3 [.ref (P.2.1 (j + 3)), .int i] (some (.int (tch j i.toNatClampNeg))) := by
  refine t_met (cc := cJ0_charAt_5068e) (nL := 2) (ret := some .char) (by decide +kernel) rfl (Nat.le_refl 2) ?_
  intro p e s m below meth c ⟨hx, hb, hml, hown, hts, hr, hlk⟩ hX
  refine lv_aload_n hx hb dJ0_charAt_5068e_0 (i := 0) rfl rfl ?_
  refine t_after (va_runV (C := RJ0) (b := P.2.1 (j + 3)) (As := []) (rest := []) ⟨hx, hb, hml, hown, hts⟩ (t_lat hj) (cwV 0 hts gJ0_charAt_5068e_J0_isLatin1_aae02 rfl rfl rfl ⟨rfl, by decide +kernel, by decide +kernel, by decide +kernel⟩ ⟨Nat.le_of_ble_eq_true rfl, Nat.le_of_ble_eq_true rfl⟩) ⟨tPc_blind _ _ _, vk_recv (adK := fun i => P.2.1 (i + 3)) (i := j) hX.1 hj va_S.rf, tPc_at hX⟩ rfl rfl rfl rfl (Nat.le_of_ble_eq_true rfl) dJ0_charAt_5068e_1 ⟨Nat.zero_le _, Nat.zero_le _⟩) ?_
  intro L hL
  refine lv_if_eq hx hb dJ0_charAt_5068e_4 (tgt := 16) rfl (fun q => absurd q (by decide)) (fun _ => ?_)
  refine lv_aload_n hx hb dJ0_charAt_5068e_7 (i := 0) rfl rfl ?_
  refine vk_getf hx hb (hX.1.1 j hj).2.2.1 ⟨Nat.le_refl _, fun _ _ _ => rfl, hL⟩ hown (hts _ (List.mem_cons_of_mem _ (List.mem_append_left _ List.mem_cons_self))) (fun x h => h) dJ0_charAt_5068e_8 ?_
  refine lv_iload_n hx hb dJ0_charAt_5068e_11 (i := 1) rfl rfl ?_
  refine t_after (va_runS (As := [.ref (adV j), .int i]) (rest := []) ⟨hx, hb, hml, hown, hts⟩ (t_lchar hj h0 hi) (va_cwS 2 hts gJ0_charAt_5068e_J1_charAt_3b067 rfl rfl rfl ⟨by decide +kernel, by decide +kernel, by decide +kernel⟩ ⟨Nat.le_of_ble_eq_true rfl, Nat.le_of_ble_eq_true rfl⟩) ⟨tPc_blind _ _ _, tPc_at hX⟩ rfl rfl rfl rfl (Nat.le_of_ble_eq_true rfl) dJ0_charAt_5068e_12 ⟨Nat.zero_le _, Nat.zero_le _⟩) ?_
  intro L2 hL2
  exact W.zret hx hb hr (tch_ok j hj _ hi).1 (fun t ht hW => ⟨rfl, ht⟩) (fun q h => (List.mem_append.mp h).elim (hL q) (hL2 q)) dJ0_charAt_5068e_15 (hlocks := hlk)
end TSTR
noncomputable def tTb (k : Nat) : List Cond := match k with
  | 1 => tables_1_1
  | 3 => tables_1_3
  | 9 => tables_1_9
  | _ => []
theorem tTb_in {k : Nat} {w : Cond} (h : w ∈ tTb k) : w ∈ lw_tbl := by
  match k, h with
  | 1, h => exact List.mem_append_right _ (List.mem_append_left _ h)
  | 3, h => exact List.mem_append_right _ (List.mem_append_right _ (List.mem_append_right _ (List.mem_append_left _ h)))
  | 9, h => exact List.mem_append_right _ (List.mem_append_right _ (List.mem_append_right _ (List.mem_append_right _ (List.mem_append_right _ (List.mem_append_right _ (List.mem_append_right _ (List.mem_append_right _ (List.mem_append_right _ h))))))))
  | 0, h => cases h
  | 2, h => cases h
  | 4, h => cases h
  | 5, h => cases h
  | 6, h => cases h
  | 7, h => cases h
  | 8, h => cases h
  | k + 10, h => cases h
noncomputable def t_hasAll : List Cond → List (Nat × Nat) → Bool
  | [], _ => true
  | w :: ws, q :: ps => ((match x_nth (tTb q.1) q.2 with
    | some v => decide (v = w)
    | none => false) && goodWord w) && t_hasAll ws ps
  | _ :: _, [] => false
theorem t_hasAll_in : ∀ {ws : List Cond} {ps : List (Nat × Nat)}, t_hasAll ws ps = true → ∀ w ∈ ws, w ∈ xTB
  | [], _, _, w, hw => absurd hw List.not_mem_nil
  | _ :: _, [], h, _, _ => by cases h
  | w :: ws, q :: ps, h, w', hw => by
    have h : (((match x_nth (tTb q.1) q.2 with
      | some v => decide (v = w)
      | none => false) && goodWord w) && t_hasAll ws ps) = true := h
    rw [Bool.and_eq_true, Bool.and_eq_true, x_nth_eq] at h
    obtain ⟨⟨h1, h2⟩, h3⟩ := h
    rcases List.mem_cons.mp hw with e | e
    · subst e
      split at h1
      · rename_i v hv
        have := of_decide_eq_true h1
        subst this
        exact xTB_in (tTb_in (List.mem_of_getElem? hv)) h2
      · cases h1
    · exact t_hasAll_in h3 w' e
theorem t_wlen : ∀ w ∈ ([Cond.instanceMethod yJ0_length_8abf5, Cond.selects RJ0 yJ0_length_8abf5 yJ0_length_8abf5, Cond.initialized RJ0] : List Cond) ++ wsJ0_length_8abf5, w ∈ xTB := t_hasAll_in (ps := [(3, 155), (3, 156), (1, 17), (3, 157), (9, 224), (3, 158), (3, 159), (3, 160), (1, 17), (3, 161), (3, 162), (9, 225)]) (by decide +kernel)
theorem t_wchr : ∀ w ∈ ([Cond.instanceMethod yJ0_charAt_5068e, Cond.selects RJ0 yJ0_charAt_5068e yJ0_charAt_5068e, Cond.initialized RJ0] : List Cond) ++ wsJ0_charAt_5068e, w ∈ xTB := t_hasAll_in (ps := [(3, 165), (3, 166), (1, 17), (3, 167), (9, 224), (3, 168), (3, 169), (3, 170), (1, 17), (3, 171), (3, 162), (9, 225), (3, 172), (3, 173), (1, 18), (3, 174), (3, 175), (3, 176), (3, 177), (3, 178), (3, 180), (3, 181), (1, 19), (3, 182), (3, 183), (3, 184), (1, 20), (3, 185), (3, 186), (3, 187), (3, 188), (3, 189), (3, 190), (3, 191), (3, 192), (3, 193), (3, 194), (3, 195), (3, 196), (3, 198), (3, 200)]) (by decide +kernel)
theorem zs_slen {l : Launch} {P : zP} {M : List zY} {μ : zM} {pc index : Nat} (hd : decode μ.2.1 pc = .ok (.invokevirtual index, 3)) (hw1 : Cond.methodLink μ.1 index yJ0_length_8abf5 ∈ xTB) : zSim l P M μ pc (25, pc + 3, 0, 0, 0, []) := by
  intro p e s m args below meth c R Q d C hrm st o ho H locs cells slots ls stk J K
  obtain ⟨hx, hb, hml, hown, hts, hr, hlk⟩ := C
  obtain ⟨h, L, S0⟩ := st
  obtain ⟨jc, jg, ⟨lv, jl, jd⟩, jS, jx, jo, jk⟩ := J
  have ho : z_slen (zPD P) (pc + 3) (h, L, S0) = some o := ho
  unfold z_slen at ho
  split at ho
  · rename_i j S heq
    have heq : S0 = (3, j) :: S := heq
    split at ho
    · rename_i hA
      have ho := Option.some.inj ho
      subst ho
      subst heq
      match stk, jS with
      | v :: stk, ⟨dv, ds⟩ =>
        obtain ⟨k, hk, rfl⟩ : ∃ k : Nat, k < 2 ∧ j = ((k + 3 : Nat) : Int) := by
          rcases hA.1 with e | e
          · exact ⟨0, by omega, by omega⟩
          · exact ⟨1, by omega, by omega⟩
        have dv : v = .ref (P.2.1 (k + 3)) := dv
        subst dv
        obtain ⟨⟨adV, h1⟩, h2, h3, -⟩ := jx.2.2.2.2.1
        have hX : tX P adV s H := ⟨h1, h2, h3⟩
        have hgv : GoodIn xTB (wsV μ.1 index RJ0 yJ0_length_8abf5 wsJ0_length_8abf5) := xTB_good (fun w hw => by
          rcases List.mem_cons.mp hw with e | e
          · rw [e]; exact hw1
          · exact t_wlen w e)
        have f1 := hrm.1
        have f2 := hrm.2
        obtain ⟨cell, q1, q2, q3, -⟩ := (h1.1 k hk).1
        refine t_after (va_runV (C := RJ0) (b := P.2.1 (k + 3)) (As := []) (rest := stk) ⟨hx, hb, hml, hown, hts⟩ (t_length (adV := adV) hk) (cwV 0 hts hgv rfl rfl rfl ⟨rfl, by decide +kernel, by decide +kernel, by decide +kernel⟩ ⟨by show 1 + 1 ≤ R.frames; omega, by show 8 + (1 + 11) + 40 * 1 ≤ R.locals; omega⟩) ⟨tPc_blind _ _ _, ⟨cell, q1, q2, q3⟩, tPc_at hX⟩ rfl rfl jl.1 rfl (by rw [zsum_den ds]; show 2 * 0 + _ ≤ 8; omega) hd ⟨jc.1, jc.2⟩) ?_
        intro L2 hL2
        have b := tln_ok k hk
        refine K H (locs ++ L2) cells slots ls (.int (Int32.ofNat (zLen.getD k 0)) :: stk) ⟨jc, jg, ⟨lv, jl, jd⟩, ⟨⟨_, rfl, ?_⟩, ds⟩, jx, fun q hq => (List.mem_append.mp hq).elim (jo q) (hL2 q), jk⟩
        rw [z_ofNat (by omega), b.1]
        rfl
    · cases ho
  · cases ho
theorem zs_char {l : Launch} {P : zP} {M : List zY} {μ : zM} {pc index : Nat} (hd : decode μ.2.1 pc = .ok (.invokevirtual index, 3)) (hw1 : Cond.methodLink μ.1 index yJ0_charAt_5068e ∈ xTB) : zSim l P M μ pc (26, pc + 3, 0, 0, 0, []) := by
  intro p e s m args below meth c R Q d C hrm st o ho H locs cells slots ls stk J K
  obtain ⟨hx, hb, hml, hown, hts, hr, hlk⟩ := C
  obtain ⟨h, L, S0⟩ := st
  obtain ⟨jc, jg, ⟨lv, jl, jd⟩, jS, jx, jo, jk⟩ := J
  have ho : z_char (zPD P) (pc + 3) (h, L, S0) = some o := ho
  unfold z_char at ho
  split at ho
  · rename_i i j S heq
    have heq : S0 = (0, i) :: (3, j) :: S := heq
    split at ho
    · rename_i hA
      have ho := Option.some.inj ho
      subst ho
      subst heq
      match stk, jS with
      | vi :: v :: stk, ⟨⟨x, hvi, hxi⟩, dv, ds⟩ =>
        subst hvi
        obtain ⟨k, hk, rfl⟩ : ∃ k : Nat, k < 2 ∧ j = ((k + 3 : Nat) : Int) := by
          rcases hA.1 with e | e
          · exact ⟨0, by omega, by omega⟩
          · exact ⟨1, by omega, by omega⟩
        have dv : v = .ref (P.2.1 (k + 3)) := dv
        subst dv
        have b := tln_ok k hk
        have hi2 : i < ((zTx (k + 3)).length : Int) := hA.2.2.1
        have h0 : ¬ x < 0 := fun q => by
          have : x.toInt < (0 : Int32).toInt := Int32.lt_iff_toInt_lt.mp q
          have e0 : (0 : Int32).toInt = 0 := rfl
          omega
        have hn : x.toNatClampNeg = i.toNat := by
          show x.toInt.toNat = i.toNat
          rw [hxi]
        have hlt : x.toNatClampNeg < zLen.getD k 0 := by
          rw [hn, b.1]
          omega
        obtain ⟨⟨adV, h1⟩, h2, h3, -⟩ := jx.2.2.2.2.1
        have hX : tX P adV s H := ⟨h1, h2, h3⟩
        have hgv : GoodIn xTB (wsV μ.1 index RJ0 yJ0_charAt_5068e wsJ0_charAt_5068e) := xTB_good (fun w hw => by
          rcases List.mem_cons.mp hw with e | e
          · rw [e]; exact hw1
          · exact t_wchr w e)
        have f1 := hrm.1
        have f2 := hrm.2
        obtain ⟨cell, q1, q2, q3, -⟩ := (h1.1 k hk).1
        refine t_after (va_runV (C := RJ0) (b := P.2.1 (k + 3)) (As := [.int x]) (rest := stk) ⟨hx, hb, hml, hown, hts⟩ (t_char (adV := adV) hk h0 hlt) (cwV 1 hts hgv rfl rfl rfl ⟨rfl, by decide +kernel, by decide +kernel, by decide +kernel⟩ ⟨by show 3 + 1 ≤ R.frames; omega, by show 8 + (2 + 11) + 40 * 3 ≤ R.locals; omega⟩) ⟨tPc_blind _ _ _, ⟨cell, q1, q2, q3⟩, tPc_at hX⟩ rfl rfl jl.1 rfl (by rw [zsum_den ds]; show 2 * 0 + _ ≤ 8; omega) hd ⟨jc.1, jc.2⟩) ?_
        intro L2 hL2
        refine K H (locs ++ L2) cells slots ls (.int (tch k x.toNatClampNeg) :: stk) ⟨jc, jg, ⟨lv, jl, jd⟩, ⟨⟨_, rfl, ?_⟩, ds⟩, jx, fun q hq => (List.mem_append.mp hq).elim (jo q) (hL2 q), jk⟩
        rw [(tch_ok k hk _ hlt).2, hn]
        rfl
    · cases ho
  · cases ho
end
section
/-! THE TABLES HOLD: what the kernel checks of each instruction -/
def zTb (k : Nat) : List Cond := match k with
  | 0 => k2_sels lw_privs
  | 1 => tables_1_1
  | 2 => tables_1_2
  | 3 => tables_1_3
  | 4 => tables_1_4
  | 5 => tables_1_5
  | 6 => tables_1_6
  | 7 => tables_1_7
  | 8 => tables_1_8
  | _ => tables_1_9
theorem zTb_in {k : Nat} {w : Cond} (h : w ∈ zTb k) : w ∈ lw_tbl := by
  match k, h with
  | 0, h => exact List.mem_append_left _ h
  | 1, h => exact List.mem_append_right _ (List.mem_append_left _ h)
  | 2, h => exact List.mem_append_right _ (List.mem_append_right _ (List.mem_append_left _ h))
  | 3, h => exact List.mem_append_right _ (List.mem_append_right _ (List.mem_append_right _ (List.mem_append_left _ h)))
  | 4, h => exact List.mem_append_right _ (List.mem_append_right _ (List.mem_append_right _ (List.mem_append_right _ (List.mem_append_left _ h))))
  | 5, h => exact List.mem_append_right _ (List.mem_append_right _ (List.mem_append_right _ (List.mem_append_right _ (List.mem_append_right _ (List.mem_append_left _ h)))))
  | 6, h => exact List.mem_append_right _ (List.mem_append_right _ (List.mem_append_right _ (List.mem_append_right _ (List.mem_append_right _ (List.mem_append_right _ (List.mem_append_left _ h))))))
  | 7, h => exact List.mem_append_right _ (List.mem_append_right _ (List.mem_append_right _ (List.mem_append_right _ (List.mem_append_right _ (List.mem_append_right _ (List.mem_append_right _ (List.mem_append_left _ h)))))))
  | 8, h => exact List.mem_append_right _ (List.mem_append_right _ (List.mem_append_right _ (List.mem_append_right _ (List.mem_append_right _ (List.mem_append_right _ (List.mem_append_right _ (List.mem_append_right _ (List.mem_append_left _ h))))))))
  | k + 9, h => exact List.mem_append_right _ (List.mem_append_right _ (List.mem_append_right _ (List.mem_append_right _ (List.mem_append_right _ (List.mem_append_right _ (List.mem_append_right _ (List.mem_append_right _ (List.mem_append_right _ h))))))))
abbrev zIx : Type := Nat × Nat
noncomputable def zhas (j : zIx) (w : Cond) : Bool := (match x_nth (zTb j.1) j.2 with
  | some v => decide (v = w)
  | none => false) && goodWord w
theorem zhas_in {j : zIx} {w : Cond} (h : zhas j w = true) : w ∈ xTB := by
  unfold zhas at h
  rw [Bool.and_eq_true, x_nth_eq] at h
  obtain ⟨h1, h2⟩ := h
  split at h1
  · rename_i v hv
    have := of_decide_eq_true h1
    subst this
    exact xTB_in (zTb_in (List.mem_of_getElem? hv)) h2
  · cases h1
noncomputable def zhasL (js : List zIx) : List Cond → Bool := List.rec (motive := fun _ => List Cond → Bool) (fun ws => ws.isEmpty) (fun j _ ih ws => match ws with
  | [] => false
  | w :: ws => zhas j w && ih ws) js
theorem zhasL_in : ∀ (js : List zIx) (ws : List Cond), zhasL js ws = true → ∀ w ∈ ws, w ∈ xTB
  | [], [], _, _, hw => absurd hw List.not_mem_nil
  | [], _ :: _, h, _, _ => absurd (show false = true from h) (by decide)
  | _ :: _, [], h, _, _ => absurd (show false = true from h) (by decide)
  | j :: js, v :: ws, h, w, hw => by
    have h : (zhas j v && zhasL js ws) = true := h
    rw [Bool.and_eq_true] at h
    rcases List.mem_cons.mp hw with e | e
    · rw [e]
      exact zhas_in h.1
    · exact zhasL_in js ws h.2 w e
theorem xin_0 : ∀ w ∈ u_ws RX0 TX0 9, w ∈ xTB := zhasL_in [(2, 131), (2, 133), (2, 135), (2, 137), (2, 139), (2, 141), (2, 143), (2, 145), (2, 147)] _ (by decide +kernel)
theorem xin_1 : ∀ w ∈ u_ws RX1 TX1 11, w ∈ xTB := zhasL_in [(2, 93), (2, 95), (2, 97), (2, 99), (2, 101), (2, 103), (2, 105), (2, 107), (2, 109), (2, 111), (2, 113)] _ (by decide +kernel)
theorem xin_2 : ∀ w ∈ u_ws RX2 TX2 15, w ∈ xTB := zhasL_in [(1, 224), (1, 226), (1, 228), (1, 230), (1, 232), (1, 234), (1, 236), (1, 238), (2, 0), (2, 2), (2, 4), (2, 6), (2, 8), (2, 10), (2, 12)] _ (by decide +kernel)
theorem xin_3 : ∀ w ∈ u_ws RX3 TX3 3, w ∈ xTB := zhasL_in [(1, 105), (1, 107), (1, 109)] _ (by decide +kernel)
theorem xin_4 : ∀ w ∈ u_ws RX4 TX4 2, w ∈ xTB := zhasL_in [(2, 158), (2, 160)] _ (by decide +kernel)
theorem xin_5 : ∀ w ∈ u_ws RX5 TX5 6, w ∈ xTB := zhasL_in [(1, 138), (1, 140), (1, 142), (1, 144), (1, 146), (1, 148)] _ (by decide +kernel)
theorem xin_6 : ∀ w ∈ u_ws RX6 TX6 5, w ∈ xTB := zhasL_in [(1, 157), (1, 159), (1, 161), (1, 163), (1, 165)] _ (by decide +kernel)
theorem xin_7 : ∀ w ∈ u_ws RX7 TX7 12, w ∈ xTB := zhasL_in [(2, 185), (2, 187), (2, 189), (2, 191), (2, 193), (2, 195), (2, 197), (2, 199), (2, 201), (2, 203), (2, 205), (2, 207)] _ (by decide +kernel)
theorem xin_8 : ∀ w ∈ u_ws RX8 TX8 11, w ∈ xTB := zhasL_in [(1, 71), (1, 73), (1, 75), (1, 77), (1, 79), (1, 81), (1, 83), (1, 85), (1, 87), (1, 89), (1, 91)] _ (by decide +kernel)
theorem xin_9 : ∀ w ∈ u_ws RX9 TX9 3, w ∈ xTB := zhasL_in [(1, 43), (1, 45), (1, 47)] _ (by decide +kernel)
theorem xin_10 : ∀ w ∈ u_ws RX10 TX10 9, w ∈ xTB := zhasL_in [(2, 53), (2, 55), (2, 57), (2, 59), (2, 61), (2, 63), (2, 65), (2, 67), (2, 69)] _ (by decide +kernel)
theorem xin_11 : ∀ w ∈ u_ws RX11 TX11 20, w ∈ xTB := zhasL_in [(2, 231), (2, 233), (2, 235), (2, 237), (2, 239), (3, 1), (3, 3), (3, 5), (3, 7), (3, 9), (3, 11), (3, 13), (3, 15), (3, 17), (3, 19), (3, 21), (3, 23), (3, 25), (3, 27), (3, 29)] _ (by decide +kernel)
theorem xin_12 : ∀ w ∈ u_ws RX12 TX12 48, w ∈ xTB := zhasL_in [(7, 15), (7, 17), (7, 19), (7, 21), (7, 23), (7, 25), (7, 27), (7, 29), (7, 31), (7, 33), (7, 35), (7, 37), (7, 39), (7, 41), (7, 43), (7, 45), (7, 47), (7, 49), (7, 51), (7, 53), (7, 55), (7, 57), (7, 59), (7, 61), (7, 63), (7, 65), (7, 67), (7, 69), (7, 71), (7, 73), (7, 75), (7, 77), (7, 79), (7, 81), (7, 83), (7, 85), (7, 87), (7, 89), (7, 91), (7, 93), (7, 95), (7, 97), (7, 99), (7, 101), (7, 103), (7, 105), (7, 107), (7, 109)] _ (by decide +kernel)
theorem zw_nat : (Jvm.Cond.native ({ cls := "java/lang/System", name := "arraycopy", desc := "(Ljava/lang/Object;ILjava/lang/Object;II)V" } : Jvm.MethodName)) ∈ xTB := zhas_in (j := (3, 103)) (by decide +kernel)
theorem zw_cps : (Jvm.Cond.static ({ cls := "java/lang/System", name := "arraycopy", desc := "(Ljava/lang/Object;ILjava/lang/Object;II)V" } : Jvm.MethodName)) ∈ xTB := zhas_in (j := (3, 102)) (by decide +kernel)
theorem zw_sys : (Jvm.Cond.initialized "java/lang/System") ∈ xTB := zhas_in (j := (1, 15)) (by decide +kernel)
theorem zw_mth : (Jvm.Cond.initialized "java/lang/Math") ∈ xTB := zhas_in (j := (1, 16)) (by decide +kernel)
theorem zw_maxs : (Jvm.Cond.static ({ cls := "java/lang/Math", name := "max", desc := "(II)I" } : Jvm.MethodName)) ∈ xTB := zhas_in (j := (3, 133)) (by decide +kernel)
theorem zw_maxc : (Jvm.Cond.code ({ cls := "java/lang/Math", name := "max", desc := "(II)I" } : Jvm.MethodName) prog_16_method_65_code (2 : Nat) (Option.some Jvm.ClassFile.FieldType.int)) ∈ xTB := zhas_in (j := (3, 134)) (by decide +kernel)
theorem zw_mins : (Jvm.Cond.static ({ cls := "java/lang/Math", name := "min", desc := "(II)I" } : Jvm.MethodName)) ∈ xTB := zhas_in (j := (3, 130)) (by decide +kernel)
theorem zw_minc : (Jvm.Cond.code ({ cls := "java/lang/Math", name := "min", desc := "(II)I" } : Jvm.MethodName) prog_16_method_69_code (2 : Nat) (Option.some Jvm.ClassFile.FieldType.int)) ∈ xTB := zhas_in (j := (3, 131)) (by decide +kernel)
theorem zw_minls : (Jvm.Cond.static ({ cls := "java/lang/Math", name := "min", desc := "(JJ)J" } : Jvm.MethodName)) ∈ xTB := zhas_in (j := (6, 57)) (by decide +kernel)
theorem zw_minlc : (Jvm.Cond.code ({ cls := "java/lang/Math", name := "min", desc := "(JJ)J" } : Jvm.MethodName) prog_16_method_70_code (4 : Nat) (Option.some Jvm.ClassFile.FieldType.long)) ∈ xTB := zhas_in (j := (6, 58)) (by decide +kernel)
theorem zw_absls : (Jvm.Cond.static ({ cls := "java/lang/Math", name := "abs", desc := "(J)J" } : Jvm.MethodName)) ∈ xTB := zhas_in (j := (9, 153)) (by decide +kernel)
theorem zw_abslc : (Jvm.Cond.code ({ cls := "java/lang/Math", name := "abs", desc := "(J)J" } : Jvm.MethodName) prog_16_method_61_code (2 : Nat) (Option.some Jvm.ClassFile.FieldType.long)) ∈ xTB := zhas_in (j := (9, 154)) (by decide +kernel)
def zTys : List (Nat → FieldType) := [tyX0, tyX1, tyX2, tyX3, tyX4, tyX5, tyX6, tyX7, tyX8, tyX9, tyX10, tyX11, tyX12]
theorem zcls {ci : Nat} {q : vw_C} {ty : Nat → FieldType} (h : vwCl[ci]? = some q) (ht : zTys[ci]? = some ty) : zNs[ci]? = some q.2.2 ∧ (∀ w ∈ u_ws q.1 q.2.1 q.2.2, w ∈ xTB) ∧ (∀ k, k < q.2.2 → parseFieldDescriptor (q.2.1 k).2.2.1 = some (ty k)) ∧ (∀ a, a < q.2.2 → ∀ b, b < q.2.2 → a ≠ b → (q.2.1 a).2.1 ≠ (q.2.1 b).2.1) := by
  match ci, h, ht with
  | 0, h, ht => cases h; cases ht; exact ⟨rfl, xin_0, tyX0_ok, nmX0⟩
  | 1, h, ht => cases h; cases ht; exact ⟨rfl, xin_1, tyX1_ok, nmX1⟩
  | 2, h, ht => cases h; cases ht; exact ⟨rfl, xin_2, tyX2_ok, nmX2⟩
  | 3, h, ht => cases h; cases ht; exact ⟨rfl, xin_3, tyX3_ok, nmX3⟩
  | 4, h, ht => cases h; cases ht; exact ⟨rfl, xin_4, tyX4_ok, nmX4⟩
  | 5, h, ht => cases h; cases ht; exact ⟨rfl, xin_5, tyX5_ok, nmX5⟩
  | 6, h, ht => cases h; cases ht; exact ⟨rfl, xin_6, tyX6_ok, nmX6⟩
  | 7, h, ht => cases h; cases ht; exact ⟨rfl, xin_7, tyX7_ok, nmX7⟩
  | 8, h, ht => cases h; cases ht; exact ⟨rfl, xin_8, tyX8_ok, nmX8⟩
  | 9, h, ht => cases h; cases ht; exact ⟨rfl, xin_9, tyX9_ok, nmX9⟩
  | 10, h, ht => cases h; cases ht; exact ⟨rfl, xin_10, tyX10_ok, nmX10⟩
  | 11, h, ht => cases h; cases ht; exact ⟨rfl, xin_11, tyX11_ok, nmX11⟩
  | 12, h, ht => cases h; cases ht; exact ⟨rfl, xin_12, tyX12_ok, nmX12⟩
  | ci + 13, h, ht => simp [vwCl] at h
/-! methods: (parameters, static, the receiver's class, the words' places: code, initialized, static or instanceMethod, selects) -/
abbrev zMh : Type := Nat × Bool × Nat × zIx × zIx × zIx × zIx
noncomputable def zmchk (y : zY) (q : zMh) : Bool :=
  Nat.ble y.2.2.1 41 && (plainName y.1.cls && (zhas q.2.2.2.2.1 (.initialized y.1.cls) && (decide (y.1.cls ≠ "java/lang/invoke/MethodHandle") && (decide (y.1.cls ≠ "java/lang/invoke/VarHandle") && (decide ((parseMethodDescriptor y.1.desc).map (fun d => d.parameters.length) = some q.1) && (match q.2.1 with
    | true => zhas q.2.2.2.2.2.1 (.static y.1)
    | false => zhas q.2.2.2.2.2.1 (.instanceMethod y.1) && (zhas q.2.2.2.2.2.2 (.selects y.1.cls y.1 y.1) && (match x_nth vwCl q.2.2.1 with
      | some r => decide (y.1.cls = r.1)
      | none => false))))))))
def zMhOK (M : List (zY × zMh)) : Prop := ∀ q ∈ M, zmchk q.1 q.2 = true ∧ Cond.code q.1.1 q.1.2.1 q.1.2.2.1 q.1.2.2.2 ∈ xTB
def zXeq (a b : zX) : Bool := Nat.beq a.1 b.1 && (Nat.beq a.2.1 b.2.1 && (Nat.beq a.2.2.1 b.2.2.1 && (Nat.beq a.2.2.2.1 b.2.2.2.1 && (decide (a.2.2.2.2.1 = b.2.2.2.2.1) && decide (a.2.2.2.2.2 = b.2.2.2.2.2)))))
theorem zXeq_eq {a b : zX} (h : zXeq a b = true) : a = b := by
  unfold zXeq at h
  simp only [Bool.and_eq_true, decide_eq_true_eq] at h
  obtain ⟨h1, h2, h3, h4, h5, h6⟩ := h
  obtain ⟨a1, a2, a3, a4, a5, a6⟩ := a
  obtain ⟨b1, b2, b3, b4, b5, b6⟩ := b
  have h1 := Nat.eq_of_beq_eq_true h1
  have h2 := Nat.eq_of_beq_eq_true h2
  have h3 := Nat.eq_of_beq_eq_true h3
  have h4 := Nat.eq_of_beq_eq_true h4
  dsimp only at h1 h2 h3 h4 h5 h6
  rw [h1, h2, h3, h4, h5, h6]
noncomputable def zchkI (MQ : List (zY × zMh)) (μ : zM) (hj : zIx) (pc : Nat) (ins : Instr) (len : Nat) (i : zX) : Bool := match ins with
  | .iconst n => Nat.beq len 1 && (zXeq i (0, pc + 1, 0, 0, (Int32.ofInt n).toInt, []))
  | .bipush n => Nat.beq len 2 && (zXeq i (0, pc + 2, 0, 0, (Int8.ofInt n).toInt32.toInt, []))
  | .sipush n => Nat.beq len 3 && (zXeq i (0, pc + 3, 0, 0, (Int16.ofInt n).toInt32.toInt, []))
  | .lconst n => Nat.beq len 1 && (zXeq i (0, pc + 1, 1, 0, (Int64.ofNat (n : Nat)).toInt, []))
  | .ldc_w k => Nat.beq len 3 && (zhas hj (.constant μ.1 k (Int32.ofInt i.2.2.2.2.1)) && (zXeq i (0, pc + 3, 0, 0, (Int32.ofInt i.2.2.2.2.1).toInt, [])))
  | .ldc2_w k => Nat.beq len 3 && (zhas hj (.constantLong μ.1 k (Int64.ofInt i.2.2.2.2.1)) && (zXeq i (0, pc + 3, 1, 0, (Int64.ofInt i.2.2.2.2.1).toInt, [])))
  | .iload k => Nat.beq len 2 && (zXeq i (2, pc + 2, k, 0, 0, []))
  | .iload_n k => Nat.beq len 1 && (zXeq i (2, pc + 1, (k : Nat), 0, 0, []))
  | .lload k => Nat.beq len 2 && (zXeq i (2, pc + 2, k, 1, 0, []))
  | .lload_n k => Nat.beq len 1 && (zXeq i (2, pc + 1, (k : Nat), 1, 0, []))
  | .aload k => Nat.beq len 2 && (zXeq i (2, pc + 2, k, 2, 0, []))
  | .aload_n k => Nat.beq len 1 && (zXeq i (2, pc + 1, (k : Nat), 2, 0, []))
  | .istore k => Nat.beq len 2 && (Nat.blt k μ.2.2.1 && (zXeq i (3, pc + 2, k, 0, 0, [])))
  | .istore_n k => Nat.beq len 1 && (Nat.blt k μ.2.2.1 && (zXeq i (3, pc + 1, (k : Nat), 0, 0, [])))
  | .astore k => Nat.beq len 2 && (Nat.blt k μ.2.2.1 && (zXeq i (3, pc + 2, k, 2, 0, [])))
  | .astore_n k => Nat.beq len 1 && (Nat.blt k μ.2.2.1 && (zXeq i (3, pc + 1, (k : Nat), 2, 0, [])))
  | .lstore k => Nat.beq len 2 && (Nat.blt (k + 1) μ.2.2.1 && (zXeq i (4, pc + 2, k, 0, 0, [])))
  | .lstore_n k => Nat.beq len 1 && (Nat.blt ((k : Nat) + 1) μ.2.2.1 && (zXeq i (4, pc + 1, (k : Nat), 0, 0, [])))
  | .iinc k n => Nat.beq len 3 && (Nat.blt k μ.2.2.1 && (zXeq i (5, pc + 3, k, 0, (Int32.ofInt n).toInt, [])))
  | .ineg => Nat.beq len 1 && (zXeq i (6, pc + 1, 0, 0, 0, []))
  | .i2b => Nat.beq len 1 && (zXeq i (6, pc + 1, 0, 1, 0, []))
  | .i2s => Nat.beq len 1 && (zXeq i (6, pc + 1, 0, 2, 0, []))
  | .iadd => Nat.beq len 1 && (zXeq i (7, pc + 1, 0, 0, 0, []))
  | .isub => Nat.beq len 1 && (zXeq i (7, pc + 1, 0, 1, 0, []))
  | .imul => Nat.beq len 1 && (zXeq i (7, pc + 1, 0, 2, 0, []))
  | .iand => Nat.beq len 1 && (zXeq i (7, pc + 1, 0, 3, 0, []))
  | .ior => Nat.beq len 1 && (zXeq i (7, pc + 1, 0, 4, 0, []))
  | .ixor => Nat.beq len 1 && (zXeq i (7, pc + 1, 0, 5, 0, []))
  | .ishl => Nat.beq len 1 && (zXeq i (7, pc + 1, 0, 6, 0, []))
  | .ishr => Nat.beq len 1 && (zXeq i (7, pc + 1, 0, 7, 0, []))
  | .iushr => Nat.beq len 1 && (zXeq i (7, pc + 1, 0, 8, 0, []))
  | .idiv => Nat.beq len 1 && (zXeq i (8, pc + 1, 0, 0, 0, []))
  | .irem => Nat.beq len 1 && (zXeq i (8, pc + 1, 0, 1, 0, []))
  | .lneg => Nat.beq len 1 && (zXeq i (9, pc + 1, 0, 0, 0, []))
  | .ladd => Nat.beq len 1 && (zXeq i (10, pc + 1, 0, 0, 0, []))
  | .lsub => Nat.beq len 1 && (zXeq i (10, pc + 1, 0, 1, 0, []))
  | .lmul => Nat.beq len 1 && (zXeq i (10, pc + 1, 0, 2, 0, []))
  | .land => Nat.beq len 1 && (zXeq i (10, pc + 1, 0, 3, 0, []))
  | .lor => Nat.beq len 1 && (zXeq i (10, pc + 1, 0, 4, 0, []))
  | .lxor => Nat.beq len 1 && (zXeq i (10, pc + 1, 0, 5, 0, []))
  | .ldiv => Nat.beq len 1 && (zXeq i (11, pc + 1, 0, 0, 0, []))
  | .lrem => Nat.beq len 1 && (zXeq i (11, pc + 1, 0, 1, 0, []))
  | .lshl => Nat.beq len 1 && (zXeq i (12, pc + 1, 0, 0, 0, []))
  | .lushr => Nat.beq len 1 && (zXeq i (12, pc + 1, 0, 1, 0, []))
  | .i2l => Nat.beq len 1 && (zXeq i (13, pc + 1, 0, 0, 0, []))
  | .l2i => Nat.beq len 1 && (zXeq i (14, pc + 1, 0, 0, 0, []))
  | .lcmp => Nat.beq len 1 && (zXeq i (18, pc + 1, 0, 0, 0, []))
  | .pop => Nat.beq len 1 && (zXeq i (15, pc + 1, 0, 0, 0, []))
  | .pop2 => Nat.beq len 1 && (zXeq i (15, pc + 1, 0, 1, 0, []))
  | .dup => Nat.beq len 1 && (zXeq i (15, pc + 1, 0, 2, 0, []))
  | .goto off => Nat.beq len 3 && (decide (0 ≤ (pc : Int) + off) && (zXeq i (1, ((pc : Int) + off).toNat, 0, 0, 0, [])))
  | .ifCond .eq off => Nat.beq len 3 && (decide (0 ≤ (pc : Int) + off) && (zXeq i (16, pc + 3, ((pc : Int) + off).toNat, 2, 0, [])))
  | .if_icmp .eq off => Nat.beq len 3 && (decide (0 ≤ (pc : Int) + off) && (zXeq i (17, pc + 3, ((pc : Int) + off).toNat, 2, 0, [])))
  | .ifCond .ne off => Nat.beq len 3 && (decide (0 ≤ (pc : Int) + off) && (zXeq i (16, ((pc : Int) + off).toNat, pc + 3, 2, 0, [])))
  | .if_icmp .ne off => Nat.beq len 3 && (decide (0 ≤ (pc : Int) + off) && (zXeq i (17, ((pc : Int) + off).toNat, pc + 3, 2, 0, [])))
  | .ifCond .lt off => Nat.beq len 3 && (decide (0 ≤ (pc : Int) + off) && (zXeq i (16, pc + 3, ((pc : Int) + off).toNat, 0, 0, [])))
  | .if_icmp .lt off => Nat.beq len 3 && (decide (0 ≤ (pc : Int) + off) && (zXeq i (17, pc + 3, ((pc : Int) + off).toNat, 0, 0, [])))
  | .ifCond .ge off => Nat.beq len 3 && (decide (0 ≤ (pc : Int) + off) && (zXeq i (16, ((pc : Int) + off).toNat, pc + 3, 0, 0, [])))
  | .if_icmp .ge off => Nat.beq len 3 && (decide (0 ≤ (pc : Int) + off) && (zXeq i (17, ((pc : Int) + off).toNat, pc + 3, 0, 0, [])))
  | .ifCond .gt off => Nat.beq len 3 && (decide (0 ≤ (pc : Int) + off) && (zXeq i (16, pc + 3, ((pc : Int) + off).toNat, 1, 0, [])))
  | .if_icmp .gt off => Nat.beq len 3 && (decide (0 ≤ (pc : Int) + off) && (zXeq i (17, pc + 3, ((pc : Int) + off).toNat, 1, 0, [])))
  | .ifCond .le off => Nat.beq len 3 && (decide (0 ≤ (pc : Int) + off) && (zXeq i (16, ((pc : Int) + off).toNat, pc + 3, 1, 0, [])))
  | .if_icmp .le off => Nat.beq len 3 && (decide (0 ≤ (pc : Int) + off) && (zXeq i (17, ((pc : Int) + off).toNat, pc + 3, 1, 0, [])))
  | .tableswitch dflt lo hi offs => decide (0 ≤ (pc : Int) + dflt) && (offs.toList.all (fun o => decide (0 ≤ (pc : Int) + o)) && (decide ((offs.size : Int) = hi - lo + 1) && (zXeq i (19, ((pc : Int) + dflt).toNat, 0, 0, 0, offs.toList.zipIdx.map (fun q => (lo + (q.2 : Int), ((pc : Int) + q.1).toNat))))))
  | .lookupswitch dflt ps => decide (0 ≤ (pc : Int) + dflt) && (ps.toList.all (fun q => decide (0 ≤ (pc : Int) + q.2)) && ((ps.toList.zip (ps.toList.drop 1)).all (fun (a, next) => a.1 < next.1) && (zXeq i (19, ((pc : Int) + dflt).toNat, 0, 0, 0, ps.toList.map (fun q => (q.1, ((pc : Int) + q.2).toNat))))))
  | .iaload => Nat.beq len 1 && (zXeq i (22, pc + 1, 0, 0, 0, []))
  | .laload => Nat.beq len 1 && (zXeq i (22, pc + 1, 1, 0, 0, []))
  | .aaload => Nat.beq len 1 && (zXeq i (22, pc + 1, 4, 0, 0, []))
  | .iastore => Nat.beq len 1 && (zXeq i (23, pc + 1, 0, 0, 0, []))
  | .lastore => Nat.beq len 1 && (zXeq i (23, pc + 1, 1, 0, 0, []))
  | .arraylength => Nat.beq len 1 && (zXeq i (24, pc + 1, 0, 0, 0, []))
  | .return_ => Nat.beq len 1 && (decide (μ.2.2.2.1 = none) && (zXeq i (30, 0, 0, 0, 0, [])))
  | .lreturn => Nat.beq len 1 && (decide (μ.2.2.2.1 = some .long) && (zXeq i (30, 0, 1, 2, 0, [])))
  | .dup2 => Nat.beq len 1 && (zXeq i ((15, pc + 1, 0, 3, 0, [])) || zXeq i ((15, pc + 1, 0, 4, 0, [])))
  | .baload => Nat.beq len 1 && (zXeq i ((22, pc + 1, 2, 0, 0, [])) || zXeq i ((22, pc + 1, 3, 0, 0, [])))
  | .bastore => Nat.beq len 1 && (zXeq i ((23, pc + 1, 2, 0, 0, [])) || zXeq i ((23, pc + 1, 3, 0, 0, [])))
  | .ldc k => Nat.beq len 2 && ((zhas hj (.constant μ.1 k (Int32.ofInt i.2.2.2.2.1)) && zXeq i ((0, pc + 2, 0, 0, (Int32.ofInt i.2.2.2.2.1).toInt, []))) || (match x_nth zTexts hj.2 with
      | some q => decide (q.1 = μ.1) && (decide (q.2.1 = k) && zXeq i ((0, pc + 2, 3, 0, ((hj.2 + 3 : Nat) : Int), [])))
      | none => false))
  | .getfield k => Nat.beq len 3 && (match x_nth vwCl i.2.2.1, x_nth zTys i.2.2.1 with
      | some q, some ty => Nat.blt i.2.2.2.1 q.2.2 && (zhas hj (.fieldLink μ.1 k (q.2.1 i.2.2.2.1).1 (q.2.1 i.2.2.2.1).2.1 (q.2.1 i.2.2.2.1).2.2.1) && zXeq i ((20, pc + 3, i.2.2.1, i.2.2.2.1, 0, [])))
      | _, _ => false)
  | .putfield k => Nat.beq len 3 && (match x_nth vwCl i.2.2.1, x_nth zTys i.2.2.1 with
      | some q, some ty => Nat.blt i.2.2.2.1 q.2.2 && (zhas hj (.fieldLink μ.1 k (q.2.1 i.2.2.2.1).1 (q.2.1 i.2.2.2.1).2.1 (q.2.1 i.2.2.2.1).2.2.1) && (decide (((i.2.2.2.2.1.toNat = 0 ∧ (ty i.2.2.2.1) = .int) ∨ (i.2.2.2.2.1.toNat = 1 ∧ (ty i.2.2.2.1) = .long) ∨ (i.2.2.2.2.1.toNat = 2 ∧ (ty i.2.2.2.1) = .byte) ∨ (i.2.2.2.2.1.toNat = 3 ∧ (ty i.2.2.2.1) = .boolean) ∨ (i.2.2.2.2.1.toNat = 4 ∧ fits (ty i.2.2.2.1) (.ref 0) = true))) && (decide ((q.2.1 i.2.2.2.1).2.2.2 = false) && zXeq i ((21, pc + 3, i.2.2.1, i.2.2.2.1, ((i.2.2.2.2.1.toNat : Nat) : Int), [])))))
      | _, _ => false)
  | .getstatic k => Nat.beq len 3 && ((zhas hj (.fieldLink μ.1 k "BreadMap" "MOVES" "[I") && zXeq i ((0, pc + 3, 3, 0, ((1 : Nat) : Int), []))) || (zhas hj (.fieldLink μ.1 k "BreadMap$Land" "LETTER_CRUMBS" "[I") && zXeq i ((0, pc + 3, 3, 0, ((2 : Nat) : Int), []))))
  | .ireturn => Nat.beq len 1 && (match μ.2.2.2.1 with
      | some ty => decide (((i.2.2.1 = 0 ∧ ty = .int) ∨ (i.2.2.1 = 1 ∧ ty = .long) ∨ (i.2.2.1 = 2 ∧ ty = .byte) ∨ (i.2.2.1 = 3 ∧ ty = .boolean) ∨ (i.2.2.1 = 4 ∧ fits ty (.ref 0) = true))) && zXeq i ((30, 0, i.2.2.1, 1, 0, []))
      | none => false)
  | .invokevirtual k => Nat.beq len 3 && ((match x_nth MQ i.2.2.1 with
      | some (y, q) => (!q.2.1) && (zhas hj (.methodLink μ.1 k y.1) && zXeq i ((29, pc + 3, i.2.2.1, q.1 + 1, (q.2.2.1 : Int), [(0, y.2.2.1)])))
      | none => false) || ((zhas hj (.methodLink μ.1 k yJ0_length_8abf5) && zXeq i ((25, pc + 3, 0, 0, 0, []))) || (zhas hj (.methodLink μ.1 k yJ0_charAt_5068e) && zXeq i ((26, pc + 3, 0, 0, 0, [])))))
  | .invokestatic k => Nat.beq len 3 && ((match x_nth MQ i.2.2.1 with
      | some (y, q) => q.2.1 && (zhas hj (.methodLink μ.1 k y.1) && zXeq i ((29, pc + 3, i.2.2.1, q.1, -1, [(0, y.2.2.1)])))
      | none => false) || ((zhas hj (.methodLink μ.1 k arraycopyName) && (zXeq i ((28, pc + 3, 0, 0, 0, [])) || zXeq i ((28, pc + 3, 1, 0, 0, [])))) || ((zhas hj (.methodLink μ.1 k Lib.Math.max.name) && zXeq i ((27, pc + 3, 0, 0, 0, []))) || (zhas hj (.methodLink μ.1 k Lib.Math.min.name) && zXeq i ((27, pc + 3, 0, 1, 0, []))) || (zhas hj (.methodLink μ.1 k Lib.MathLoose.min_long.x) && zXeq i ((27, pc + 3, 0, 2, 0, []))) || (zhas hj (.methodLink μ.1 k Lib.MathLoose.abs_long.x) && zXeq i ((27, pc + 3, 0, 3, 0, []))))))
  | _ => false
set_option maxHeartbeats 4000000 in
theorem zchkI_ok {l : Launch} {P : zP} {MQ : List (zY × zMh)} {μ : zM} {hj : zIx} {pc : Nat} {ins : Instr} {len : Nat} {i : zX} (hM : zMhOK MQ) (hd : decode μ.2.1 pc = .ok (ins, len)) (h : zchkI MQ μ hj pc ins len i = true) : zSim l P (MQ.map Prod.fst) μ pc i := by
  unfold zchkI at h
  split at h
  · rename_i n
    rw [Bool.and_eq_true] at h
    obtain ⟨hl, he⟩ := h
    have hl := Nat.eq_of_beq_eq_true hl
    subst hl
    rw [zXeq_eq he]
    exact zs_iconst _ hd rfl rfl
  · rename_i n
    rw [Bool.and_eq_true] at h
    obtain ⟨hl, he⟩ := h
    have hl := Nat.eq_of_beq_eq_true hl
    subst hl
    rw [zXeq_eq he]
    exact zs_bipush _ hd rfl rfl
  · rename_i n
    rw [Bool.and_eq_true] at h
    obtain ⟨hl, he⟩ := h
    have hl := Nat.eq_of_beq_eq_true hl
    subst hl
    rw [zXeq_eq he]
    exact zs_sipush _ hd rfl rfl
  · rename_i n
    rw [Bool.and_eq_true] at h
    obtain ⟨hl, he⟩ := h
    have hl := Nat.eq_of_beq_eq_true hl
    subst hl
    rw [zXeq_eq he]
    exact zs_lconst _ hd rfl rfl
  · rename_i k
    rw [Bool.and_eq_true, Bool.and_eq_true] at h
    obtain ⟨hl, c0, he⟩ := h
    have hl := Nat.eq_of_beq_eq_true hl
    subst hl
    rw [zXeq_eq he]
    exact zs_ldcw _ hd (zhas_in c0) rfl
  · rename_i k
    rw [Bool.and_eq_true, Bool.and_eq_true] at h
    obtain ⟨hl, c0, he⟩ := h
    have hl := Nat.eq_of_beq_eq_true hl
    subst hl
    rw [zXeq_eq he]
    exact zs_ldc2 _ hd (zhas_in c0) rfl
  · rename_i k
    rw [Bool.and_eq_true] at h
    obtain ⟨hl, he⟩ := h
    have hl := Nat.eq_of_beq_eq_true hl
    subst hl
    rw [zXeq_eq he]
    exact zs_iload hd
  · rename_i k
    rw [Bool.and_eq_true] at h
    obtain ⟨hl, he⟩ := h
    have hl := Nat.eq_of_beq_eq_true hl
    subst hl
    rw [zXeq_eq he]
    exact zs_iload_n hd rfl
  · rename_i k
    rw [Bool.and_eq_true] at h
    obtain ⟨hl, he⟩ := h
    have hl := Nat.eq_of_beq_eq_true hl
    subst hl
    rw [zXeq_eq he]
    exact zs_lload hd
  · rename_i k
    rw [Bool.and_eq_true] at h
    obtain ⟨hl, he⟩ := h
    have hl := Nat.eq_of_beq_eq_true hl
    subst hl
    rw [zXeq_eq he]
    exact zs_lload_n hd rfl
  · rename_i k
    rw [Bool.and_eq_true] at h
    obtain ⟨hl, he⟩ := h
    have hl := Nat.eq_of_beq_eq_true hl
    subst hl
    rw [zXeq_eq he]
    exact zs_aload hd
  · rename_i k
    rw [Bool.and_eq_true] at h
    obtain ⟨hl, he⟩ := h
    have hl := Nat.eq_of_beq_eq_true hl
    subst hl
    rw [zXeq_eq he]
    exact zs_aload_n hd rfl
  · rename_i k
    rw [Bool.and_eq_true, Bool.and_eq_true] at h
    obtain ⟨hl, c0, he⟩ := h
    have hl := Nat.eq_of_beq_eq_true hl
    subst hl
    rw [zXeq_eq he]
    exact zs_istore hd (Nat.le_of_ble_eq_true c0)
  · rename_i k
    rw [Bool.and_eq_true, Bool.and_eq_true] at h
    obtain ⟨hl, c0, he⟩ := h
    have hl := Nat.eq_of_beq_eq_true hl
    subst hl
    rw [zXeq_eq he]
    exact zs_istore_n hd rfl (Nat.le_of_ble_eq_true c0)
  · rename_i k
    rw [Bool.and_eq_true, Bool.and_eq_true] at h
    obtain ⟨hl, c0, he⟩ := h
    have hl := Nat.eq_of_beq_eq_true hl
    subst hl
    rw [zXeq_eq he]
    exact zs_astore hd (Nat.le_of_ble_eq_true c0)
  · rename_i k
    rw [Bool.and_eq_true, Bool.and_eq_true] at h
    obtain ⟨hl, c0, he⟩ := h
    have hl := Nat.eq_of_beq_eq_true hl
    subst hl
    rw [zXeq_eq he]
    exact zs_astore_n hd rfl (Nat.le_of_ble_eq_true c0)
  · rename_i k
    rw [Bool.and_eq_true, Bool.and_eq_true] at h
    obtain ⟨hl, c0, he⟩ := h
    have hl := Nat.eq_of_beq_eq_true hl
    subst hl
    rw [zXeq_eq he]
    exact zs_lstore hd (Nat.le_of_ble_eq_true c0)
  · rename_i k
    rw [Bool.and_eq_true, Bool.and_eq_true] at h
    obtain ⟨hl, c0, he⟩ := h
    have hl := Nat.eq_of_beq_eq_true hl
    subst hl
    rw [zXeq_eq he]
    exact zs_lstore_n hd rfl (Nat.le_of_ble_eq_true c0)
  · rename_i k n
    rw [Bool.and_eq_true, Bool.and_eq_true] at h
    obtain ⟨hl, c0, he⟩ := h
    have hl := Nat.eq_of_beq_eq_true hl
    subst hl
    rw [zXeq_eq he]
    exact zs_iinc _ hd rfl (Nat.le_of_ble_eq_true c0) rfl
  · rw [Bool.and_eq_true] at h
    obtain ⟨hl, he⟩ := h
    have hl := Nat.eq_of_beq_eq_true hl
    subst hl
    rw [zXeq_eq he]
    exact zs_ineg hd
  · rw [Bool.and_eq_true] at h
    obtain ⟨hl, he⟩ := h
    have hl := Nat.eq_of_beq_eq_true hl
    subst hl
    rw [zXeq_eq he]
    exact zs_i2b hd
  · rw [Bool.and_eq_true] at h
    obtain ⟨hl, he⟩ := h
    have hl := Nat.eq_of_beq_eq_true hl
    subst hl
    rw [zXeq_eq he]
    exact zs_i2s hd
  · rw [Bool.and_eq_true] at h
    obtain ⟨hl, he⟩ := h
    have hl := Nat.eq_of_beq_eq_true hl
    subst hl
    rw [zXeq_eq he]
    exact zs_iadd hd
  · rw [Bool.and_eq_true] at h
    obtain ⟨hl, he⟩ := h
    have hl := Nat.eq_of_beq_eq_true hl
    subst hl
    rw [zXeq_eq he]
    exact zs_isub hd
  · rw [Bool.and_eq_true] at h
    obtain ⟨hl, he⟩ := h
    have hl := Nat.eq_of_beq_eq_true hl
    subst hl
    rw [zXeq_eq he]
    exact zs_imul hd
  · rw [Bool.and_eq_true] at h
    obtain ⟨hl, he⟩ := h
    have hl := Nat.eq_of_beq_eq_true hl
    subst hl
    rw [zXeq_eq he]
    exact zs_iand hd
  · rw [Bool.and_eq_true] at h
    obtain ⟨hl, he⟩ := h
    have hl := Nat.eq_of_beq_eq_true hl
    subst hl
    rw [zXeq_eq he]
    exact zs_ior hd
  · rw [Bool.and_eq_true] at h
    obtain ⟨hl, he⟩ := h
    have hl := Nat.eq_of_beq_eq_true hl
    subst hl
    rw [zXeq_eq he]
    exact zs_ixor hd
  · rw [Bool.and_eq_true] at h
    obtain ⟨hl, he⟩ := h
    have hl := Nat.eq_of_beq_eq_true hl
    subst hl
    rw [zXeq_eq he]
    exact zs_ishl hd
  · rw [Bool.and_eq_true] at h
    obtain ⟨hl, he⟩ := h
    have hl := Nat.eq_of_beq_eq_true hl
    subst hl
    rw [zXeq_eq he]
    exact zs_ishr hd
  · rw [Bool.and_eq_true] at h
    obtain ⟨hl, he⟩ := h
    have hl := Nat.eq_of_beq_eq_true hl
    subst hl
    rw [zXeq_eq he]
    exact zs_iushr hd
  · rw [Bool.and_eq_true] at h
    obtain ⟨hl, he⟩ := h
    have hl := Nat.eq_of_beq_eq_true hl
    subst hl
    rw [zXeq_eq he]
    exact zs_idiv hd
  · rw [Bool.and_eq_true] at h
    obtain ⟨hl, he⟩ := h
    have hl := Nat.eq_of_beq_eq_true hl
    subst hl
    rw [zXeq_eq he]
    exact zs_irem hd
  · rw [Bool.and_eq_true] at h
    obtain ⟨hl, he⟩ := h
    have hl := Nat.eq_of_beq_eq_true hl
    subst hl
    rw [zXeq_eq he]
    exact zs_lneg hd
  · rw [Bool.and_eq_true] at h
    obtain ⟨hl, he⟩ := h
    have hl := Nat.eq_of_beq_eq_true hl
    subst hl
    rw [zXeq_eq he]
    exact zs_ladd hd
  · rw [Bool.and_eq_true] at h
    obtain ⟨hl, he⟩ := h
    have hl := Nat.eq_of_beq_eq_true hl
    subst hl
    rw [zXeq_eq he]
    exact zs_lsub hd
  · rw [Bool.and_eq_true] at h
    obtain ⟨hl, he⟩ := h
    have hl := Nat.eq_of_beq_eq_true hl
    subst hl
    rw [zXeq_eq he]
    exact zs_lmul hd
  · rw [Bool.and_eq_true] at h
    obtain ⟨hl, he⟩ := h
    have hl := Nat.eq_of_beq_eq_true hl
    subst hl
    rw [zXeq_eq he]
    exact zs_land hd
  · rw [Bool.and_eq_true] at h
    obtain ⟨hl, he⟩ := h
    have hl := Nat.eq_of_beq_eq_true hl
    subst hl
    rw [zXeq_eq he]
    exact zs_lor hd
  · rw [Bool.and_eq_true] at h
    obtain ⟨hl, he⟩ := h
    have hl := Nat.eq_of_beq_eq_true hl
    subst hl
    rw [zXeq_eq he]
    exact zs_lxor hd
  · rw [Bool.and_eq_true] at h
    obtain ⟨hl, he⟩ := h
    have hl := Nat.eq_of_beq_eq_true hl
    subst hl
    rw [zXeq_eq he]
    exact zs_ldiv hd
  · rw [Bool.and_eq_true] at h
    obtain ⟨hl, he⟩ := h
    have hl := Nat.eq_of_beq_eq_true hl
    subst hl
    rw [zXeq_eq he]
    exact zs_lrem hd
  · rw [Bool.and_eq_true] at h
    obtain ⟨hl, he⟩ := h
    have hl := Nat.eq_of_beq_eq_true hl
    subst hl
    rw [zXeq_eq he]
    exact zs_lshl hd
  · rw [Bool.and_eq_true] at h
    obtain ⟨hl, he⟩ := h
    have hl := Nat.eq_of_beq_eq_true hl
    subst hl
    rw [zXeq_eq he]
    exact zs_lushr hd
  · rw [Bool.and_eq_true] at h
    obtain ⟨hl, he⟩ := h
    have hl := Nat.eq_of_beq_eq_true hl
    subst hl
    rw [zXeq_eq he]
    exact zs_i2l hd
  · rw [Bool.and_eq_true] at h
    obtain ⟨hl, he⟩ := h
    have hl := Nat.eq_of_beq_eq_true hl
    subst hl
    rw [zXeq_eq he]
    exact zs_l2i hd
  · rw [Bool.and_eq_true] at h
    obtain ⟨hl, he⟩ := h
    have hl := Nat.eq_of_beq_eq_true hl
    subst hl
    rw [zXeq_eq he]
    exact zs_lcmp hd
  · rw [Bool.and_eq_true] at h
    obtain ⟨hl, he⟩ := h
    have hl := Nat.eq_of_beq_eq_true hl
    subst hl
    rw [zXeq_eq he]
    exact zs_pop hd
  · rw [Bool.and_eq_true] at h
    obtain ⟨hl, he⟩ := h
    have hl := Nat.eq_of_beq_eq_true hl
    subst hl
    rw [zXeq_eq he]
    exact zs_pop2 hd
  · rw [Bool.and_eq_true] at h
    obtain ⟨hl, he⟩ := h
    have hl := Nat.eq_of_beq_eq_true hl
    subst hl
    rw [zXeq_eq he]
    exact zs_dup hd
  · rename_i off
    rw [Bool.and_eq_true, Bool.and_eq_true] at h
    obtain ⟨hl, c0, he⟩ := h
    have hl := Nat.eq_of_beq_eq_true hl
    subst hl
    rw [zXeq_eq he]
    exact zs_goto _ hd (Int.toNat_of_nonneg (of_decide_eq_true c0)).symm
  · rename_i off
    rw [Bool.and_eq_true, Bool.and_eq_true] at h
    obtain ⟨hl, c0, he⟩ := h
    have hl := Nat.eq_of_beq_eq_true hl
    subst hl
    rw [zXeq_eq he]
    exact zs_if_eq _ hd (Int.toNat_of_nonneg (of_decide_eq_true c0)).symm
  · rename_i off
    rw [Bool.and_eq_true, Bool.and_eq_true] at h
    obtain ⟨hl, c0, he⟩ := h
    have hl := Nat.eq_of_beq_eq_true hl
    subst hl
    rw [zXeq_eq he]
    exact zs_icmp_eq _ hd (Int.toNat_of_nonneg (of_decide_eq_true c0)).symm
  · rename_i off
    rw [Bool.and_eq_true, Bool.and_eq_true] at h
    obtain ⟨hl, c0, he⟩ := h
    have hl := Nat.eq_of_beq_eq_true hl
    subst hl
    rw [zXeq_eq he]
    exact zs_if_ne _ hd (Int.toNat_of_nonneg (of_decide_eq_true c0)).symm
  · rename_i off
    rw [Bool.and_eq_true, Bool.and_eq_true] at h
    obtain ⟨hl, c0, he⟩ := h
    have hl := Nat.eq_of_beq_eq_true hl
    subst hl
    rw [zXeq_eq he]
    exact zs_icmp_ne _ hd (Int.toNat_of_nonneg (of_decide_eq_true c0)).symm
  · rename_i off
    rw [Bool.and_eq_true, Bool.and_eq_true] at h
    obtain ⟨hl, c0, he⟩ := h
    have hl := Nat.eq_of_beq_eq_true hl
    subst hl
    rw [zXeq_eq he]
    exact zs_if_lt _ hd (Int.toNat_of_nonneg (of_decide_eq_true c0)).symm
  · rename_i off
    rw [Bool.and_eq_true, Bool.and_eq_true] at h
    obtain ⟨hl, c0, he⟩ := h
    have hl := Nat.eq_of_beq_eq_true hl
    subst hl
    rw [zXeq_eq he]
    exact zs_icmp_lt _ hd (Int.toNat_of_nonneg (of_decide_eq_true c0)).symm
  · rename_i off
    rw [Bool.and_eq_true, Bool.and_eq_true] at h
    obtain ⟨hl, c0, he⟩ := h
    have hl := Nat.eq_of_beq_eq_true hl
    subst hl
    rw [zXeq_eq he]
    exact zs_if_ge _ hd (Int.toNat_of_nonneg (of_decide_eq_true c0)).symm
  · rename_i off
    rw [Bool.and_eq_true, Bool.and_eq_true] at h
    obtain ⟨hl, c0, he⟩ := h
    have hl := Nat.eq_of_beq_eq_true hl
    subst hl
    rw [zXeq_eq he]
    exact zs_icmp_ge _ hd (Int.toNat_of_nonneg (of_decide_eq_true c0)).symm
  · rename_i off
    rw [Bool.and_eq_true, Bool.and_eq_true] at h
    obtain ⟨hl, c0, he⟩ := h
    have hl := Nat.eq_of_beq_eq_true hl
    subst hl
    rw [zXeq_eq he]
    exact zs_if_gt _ hd (Int.toNat_of_nonneg (of_decide_eq_true c0)).symm
  · rename_i off
    rw [Bool.and_eq_true, Bool.and_eq_true] at h
    obtain ⟨hl, c0, he⟩ := h
    have hl := Nat.eq_of_beq_eq_true hl
    subst hl
    rw [zXeq_eq he]
    exact zs_icmp_gt _ hd (Int.toNat_of_nonneg (of_decide_eq_true c0)).symm
  · rename_i off
    rw [Bool.and_eq_true, Bool.and_eq_true] at h
    obtain ⟨hl, c0, he⟩ := h
    have hl := Nat.eq_of_beq_eq_true hl
    subst hl
    rw [zXeq_eq he]
    exact zs_if_le _ hd (Int.toNat_of_nonneg (of_decide_eq_true c0)).symm
  · rename_i off
    rw [Bool.and_eq_true, Bool.and_eq_true] at h
    obtain ⟨hl, c0, he⟩ := h
    have hl := Nat.eq_of_beq_eq_true hl
    subst hl
    rw [zXeq_eq he]
    exact zs_icmp_le _ hd (Int.toNat_of_nonneg (of_decide_eq_true c0)).symm
  · rename_i dflt lo hi offs
    rw [Bool.and_eq_true, Bool.and_eq_true, Bool.and_eq_true] at h
    obtain ⟨c0, c1, c2, he⟩ := h
    rw [zXeq_eq he]
    exact zs_tsw _ _ hd (Int.toNat_of_nonneg (of_decide_eq_true c0)).symm rfl (fun o ho => of_decide_eq_true (List.all_eq_true.mp c1 o ho)) (of_decide_eq_true c2)
  · rename_i dflt ps
    rw [Bool.and_eq_true, Bool.and_eq_true, Bool.and_eq_true] at h
    obtain ⟨c0, c1, c2, he⟩ := h
    rw [zXeq_eq he]
    exact zs_lsw _ _ hd c2 (Int.toNat_of_nonneg (of_decide_eq_true c0)).symm rfl (fun o ho => of_decide_eq_true (List.all_eq_true.mp c1 o ho))
  · rw [Bool.and_eq_true] at h
    obtain ⟨hl, he⟩ := h
    have hl := Nat.eq_of_beq_eq_true hl
    subst hl
    rw [zXeq_eq he]
    exact zs_iald hd
  · rw [Bool.and_eq_true] at h
    obtain ⟨hl, he⟩ := h
    have hl := Nat.eq_of_beq_eq_true hl
    subst hl
    rw [zXeq_eq he]
    exact zs_lald hd
  · rw [Bool.and_eq_true] at h
    obtain ⟨hl, he⟩ := h
    have hl := Nat.eq_of_beq_eq_true hl
    subst hl
    rw [zXeq_eq he]
    exact zs_aald hd
  · rw [Bool.and_eq_true] at h
    obtain ⟨hl, he⟩ := h
    have hl := Nat.eq_of_beq_eq_true hl
    subst hl
    rw [zXeq_eq he]
    exact zs_iast hd
  · rw [Bool.and_eq_true] at h
    obtain ⟨hl, he⟩ := h
    have hl := Nat.eq_of_beq_eq_true hl
    subst hl
    rw [zXeq_eq he]
    exact zs_last hd
  · rw [Bool.and_eq_true] at h
    obtain ⟨hl, he⟩ := h
    have hl := Nat.eq_of_beq_eq_true hl
    subst hl
    rw [zXeq_eq he]
    exact zs_alen hd
  · rw [Bool.and_eq_true, Bool.and_eq_true] at h
    obtain ⟨hl, c0, he⟩ := h
    have hl := Nat.eq_of_beq_eq_true hl
    subst hl
    rw [zXeq_eq he]
    exact zs_ret0 hd (of_decide_eq_true c0)
  · rw [Bool.and_eq_true, Bool.and_eq_true] at h
    obtain ⟨hl, c0, he⟩ := h
    have hl := Nat.eq_of_beq_eq_true hl
    subst hl
    rw [zXeq_eq he]
    exact zs_retl hd (of_decide_eq_true c0)
  · rw [Bool.and_eq_true, Bool.or_eq_true] at h
    have hl := Nat.eq_of_beq_eq_true h.1
    subst hl
    rcases h.2 with e | e
    · rw [zXeq_eq e]; exact zs_dup2 hd
    · rw [zXeq_eq e]; exact zs_dup2_l hd
  · rw [Bool.and_eq_true, Bool.or_eq_true] at h
    have hl := Nat.eq_of_beq_eq_true h.1
    subst hl
    rcases h.2 with e | e
    · rw [zXeq_eq e]; exact zs_bald hd
    · rw [zXeq_eq e]; exact zs_zald hd
  · rw [Bool.and_eq_true, Bool.or_eq_true] at h
    have hl := Nat.eq_of_beq_eq_true h.1
    subst hl
    rcases h.2 with e | e
    · rw [zXeq_eq e]; exact zs_bast hd
    · rw [zXeq_eq e]; exact zs_zast hd
  · rename_i k
    rw [Bool.and_eq_true, Bool.or_eq_true] at h
    have hl := Nat.eq_of_beq_eq_true h.1
    subst hl
    rcases h.2 with e | e
    · rw [Bool.and_eq_true] at e
      rw [zXeq_eq e.2]
      exact zs_ldc _ hd (zhas_in e.1) rfl
    · split at e
      · rename_i q hq
        rw [Bool.and_eq_true, Bool.and_eq_true] at e
        rw [zXeq_eq e.2.2]
        rw [x_nth_eq] at hq
        obtain ⟨q1, q2, q3⟩ := q
        have e1 := of_decide_eq_true e.1
        have e2 := of_decide_eq_true e.2.1
        dsimp only at e1 e2
        subst e2
        exact zs_ldcS hq e1.symm hd
      · cases e
  · rename_i k
    rw [Bool.and_eq_true] at h
    have hl := Nat.eq_of_beq_eq_true h.1
    subst hl
    have h := h.2
    split at h
    · rename_i q ty hq hty
      rw [x_nth_eq] at hq hty
      rw [Bool.and_eq_true, Bool.and_eq_true] at h
      obtain ⟨hN, hin, -, -⟩ := zcls hq hty
      rw [zXeq_eq h.2.2]
      exact zs_getf _ _ hN hd hq (Nat.le_of_ble_eq_true h.1) hin (zhas_in h.2.1)
    · cases h
  · rename_i k
    rw [Bool.and_eq_true] at h
    have hl := Nat.eq_of_beq_eq_true h.1
    subst hl
    have h := h.2
    split at h
    · rename_i q ty hq hty
      rw [x_nth_eq] at hq hty
      rw [Bool.and_eq_true, Bool.and_eq_true, Bool.and_eq_true, Bool.and_eq_true] at h
      obtain ⟨hN, hin, hty0, hnm⟩ := zcls hq hty
      rw [zXeq_eq h.2.2.2.2]
      exact zs_putf _ _ _ ty _ hN hd hq (Nat.le_of_ble_eq_true h.1) hin (zhas_in h.2.1) hty0 hnm rfl (of_decide_eq_true h.2.2.1) (of_decide_eq_true h.2.2.2.1)
    · cases h
  · rename_i k
    rw [Bool.and_eq_true, Bool.or_eq_true, Bool.and_eq_true, Bool.and_eq_true] at h
    have hl := Nat.eq_of_beq_eq_true h.1
    subst hl
    rcases h.2 with e | e
    · rw [zXeq_eq e.2]; exact zs_gets hd (by simp [xStat]) (zhas_in e.1)
    · rw [zXeq_eq e.2]; exact zs_gets hd (by simp [xStat]) (zhas_in e.1)
  · rw [Bool.and_eq_true] at h
    have hl := Nat.eq_of_beq_eq_true h.1
    subst hl
    have h := h.2
    split at h
    · rename_i ty hty
      rw [Bool.and_eq_true] at h
      rw [zXeq_eq h.2]
      exact zs_reti _ ty (of_decide_eq_true h.1) hd hty
    · cases h
  · rename_i k
    rw [Bool.and_eq_true, Bool.or_eq_true, Bool.or_eq_true, Bool.and_eq_true, Bool.and_eq_true] at h
    have hl := Nat.eq_of_beq_eq_true h.1
    subst hl
    rcases h.2 with h | h | h
    · split at h
      · rename_i y q hq
        rw [x_nth_eq] at hq
        obtain ⟨hm, m3⟩ := hM (y, q) (List.mem_of_getElem? hq)
        have hy : (MQ.map Prod.fst)[i.2.2.1]? = some y := by rw [List.getElem?_map, hq]; rfl
        rw [Bool.and_eq_true, Bool.and_eq_true] at h
        obtain ⟨hst, hw, he⟩ := h
        have hst : q.2.1 = false := by simpa using hst
        unfold zmchk at hm
        simp only [hst, Bool.and_eq_true] at hm
        obtain ⟨m1, m2, m4, m5, m6, m7, m8, m9, m10⟩ := hm
        rw [zXeq_eq he]
        split at m10
        · rename_i r hr
          rw [x_nth_eq] at hr
          obtain ⟨r1, r2, r3⟩ := r
          have hC := of_decide_eq_true m10
          dsimp only at hC
          exact zs_callV _ y hy (Nat.le_of_ble_eq_true m1) hd hC hr (zhas_in hw) (zhas_in m8) (by rw [← hC]; exact zhas_in m9) m3 (zhas_in m4) ⟨of_decide_eq_true m5, of_decide_eq_true m6, of_decide_eq_true m7⟩
        · cases m10
      · cases h
    · rw [zXeq_eq h.2]; exact zs_slen hd (zhas_in h.1)
    · rw [zXeq_eq h.2]; exact zs_char hd (zhas_in h.1)
  · rename_i k
    rw [Bool.and_eq_true, Bool.or_eq_true, Bool.or_eq_true, Bool.and_eq_true, Bool.or_eq_true, Bool.or_eq_true, Bool.or_eq_true, Bool.or_eq_true, Bool.and_eq_true, Bool.and_eq_true, Bool.and_eq_true, Bool.and_eq_true] at h
    have hl := Nat.eq_of_beq_eq_true h.1
    subst hl
    rcases h.2 with h | ⟨h, e⟩ | ((h | h) | h) | h
    · split at h
      · rename_i y q hq
        rw [x_nth_eq] at hq
        obtain ⟨hm, m3⟩ := hM (y, q) (List.mem_of_getElem? hq)
        have hy : (MQ.map Prod.fst)[i.2.2.1]? = some y := by rw [List.getElem?_map, hq]; rfl
        rw [Bool.and_eq_true, Bool.and_eq_true] at h
        obtain ⟨hst, hw, he⟩ := h
        unfold zmchk at hm
        simp only [hst, Bool.and_eq_true] at hm
        obtain ⟨m1, m2, m4, m5, m6, m7, m8⟩ := hm
        rw [zXeq_eq he]
        exact zs_callS y hy (Nat.le_of_ble_eq_true m1) hd (zhas_in hw) (zhas_in m8) m3 (zhas_in m4) ⟨of_decide_eq_true m5, of_decide_eq_true m6, of_decide_eq_true m7⟩
      · cases h
    · rcases e with e | e
      · rw [zXeq_eq e]; exact zs_copyi hd (zhas_in h) zw_nat zw_cps zw_sys
      · rw [zXeq_eq e]; exact zs_copyl hd (zhas_in h) zw_nat zw_cps zw_sys
    · rw [zXeq_eq h.2]; exact zs_mmax hd (zhas_in h.1) zw_maxs zw_mth zw_maxc
    · rw [zXeq_eq h.2]; exact zs_mmin hd (zhas_in h.1) zw_mins zw_mth zw_minc
    · rw [zXeq_eq h.2]; exact zs_mminl hd (zhas_in h.1) zw_minls zw_mth zw_minlc
    · rw [zXeq_eq h.2]; exact zs_mabsl hd (zhas_in h.1) zw_absls zw_mth zw_abslc
  · cases h
def zAll (l : Launch) (P : zP) (M : List zY) (μ : zM) : Nat → List (Option zX) → Prop
  | _, [] => True
  | b, none :: t => zAll l P M μ (b + 1) t
  | b, some i :: t => zSim l P M μ b i ∧ zAll l P M μ (b + 1) t
def zAlls (l : Launch) (P : zP) (M : List zY) (μ : zM) : Nat → List (List (Option zX)) → Prop
  | _, [] => True
  | b, c :: t => zAll l P M μ b c ∧ zAlls l P M μ (b + 16) t
noncomputable def z_at (t : List (List (Option zX))) (pc : Nat) : Option zX := match x_nth t (Nat.div pc 16) with
  | some l => match x_nth l (Nat.mod pc 16) with
    | some r => r
    | none => none
  | none => none
theorem zAll_get {l : Launch} {P : zP} {M : List zY} {μ : zM} : ∀ {c : List (Option zX)} {b j : Nat} {i : zX}, zAll l P M μ b c → c[j]? = some (some i) → zSim l P M μ (b + j) i
  | [], _, _, _, _, h => by simp at h
  | none :: t, b, 0, i, ha, h => by cases h
  | some r :: t, b, 0, i, ha, h => by cases h; exact ha.1
  | none :: t, b, j + 1, i, ha, h => by
    have := zAll_get (j := j) (b := b + 1) (c := t) ha h
    rwa [show b + (j + 1) = b + 1 + j by omega]
  | some r :: t, b, j + 1, i, ha, h => by
    have := zAll_get (j := j) (b := b + 1) (c := t) ha.2 h
    rwa [show b + (j + 1) = b + 1 + j by omega]
theorem zAlls_get {l : Launch} {P : zP} {M : List zY} {μ : zM} : ∀ {t : List (List (Option zX))} {b i j : Nat} {c : List (Option zX)} {x : zX}, zAlls l P M μ b t → t[i]? = some c → c[j]? = some (some x) → zSim l P M μ (b + 16 * i + j) x
  | [], _, _, _, _, _, _, h, _ => by simp at h
  | c :: t, b, 0, j, c', x, ha, h, hj => by cases h; exact zAll_get ha.1 hj
  | c :: t, b, i + 1, j, c', x, ha, h, hj => by
    have := zAlls_get (i := i) (b := b + 16) (t := t) ha.2 h hj
    rwa [show b + 16 * (i + 1) + j = b + 16 + 16 * i + j by omega]
theorem zTab_of {l : Launch} {P : zP} {M : List zY} {μ : zM} {t : List (List (Option zX))} (h : zAlls l P M μ 0 t) : ∀ pc i, z_at t pc = some i → zSim l P M μ pc i := by
  intro pc x hpc
  unfold z_at at hpc
  rw [x_nth_eq] at hpc
  match hc : t[Nat.div pc 16]?, hpc with
  | some c, hpc =>
    have hpc : (match x_nth c (Nat.mod pc 16) with
      | some r => r
      | none => none) = some x := hpc
    rw [x_nth_eq] at hpc
    match hj : c[Nat.mod pc 16]?, hpc with
    | some (some r), hpc =>
      cases hpc
      have := zAlls_get h hc hj
      rwa [show 0 + 16 * Nat.div pc 16 + Nat.mod pc 16 = pc from by show 0 + 16 * (pc / 16) + pc % 16 = pc; omega] at this
end
