/-! THE CONCRETE MACHINE'S STEPS, third part: lengths, copies, Math, calls, returns; ITS RUNS HOLD -/
theorem z_ofNat {n : Nat} (h : n < 2147483648) : (Int32.ofNat n).toInt = (n : Int) := by
  show (BitVec.ofNat 32 n).toInt = _
  rw [BitVec.toInt_eq_toNat_of_lt (by rw [BitVec.toNat_ofNat]; omega), BitVec.toNat_ofNat]
  omega
section ZSTEP3
variable {l : Launch} {P : zP} {M : List zY} {μ : zM} {pc : Nat}
theorem zs_alen (hd : decode μ.2.1 pc = .ok (.arraylength, 1)) : zSim l P M μ pc (24, pc + 1, 0, 0, 0, []) := by
  intro p e s m args below meth c R Q d C hrm st o ho H locs cells slots ls stk J K
  obtain ⟨hx, hb, hml, hown, hts, hr, hlk⟩ := C
  obtain ⟨h, L, S⟩ := st
  obtain ⟨jc, jg, ⟨lv, jl, jd⟩, jS, jx, jo, jk⟩ := J
  have ho : z_alen (zPD P) (pc + 1) (h, L, S) = some o := ho
  unfold z_alen at ho
  split at ho
  · rename_i r S' hS
    dsimp only at hS
    subst hS
    match stk, jS with
    | _ :: stk, ⟨rfl, ds⟩ =>
      split at ho
      · rename_i q hsh
        have ho := Option.some.inj ho
        subst ho
        obtain ⟨ty, n⟩ := q
        have hn4 := zShape_arr hsh
        obtain ⟨cA, ⟨n', X⟩, hcell, hn', hX, hAr, hRA⟩ := jg _ _ hsh
        have hn' : n' = n := hn'
        subst hn'
        have kk := K H locs cells slots ls (Value.int (Int32.ofNat n') :: stk) ⟨jc, jg, ⟨lv, jl, jd⟩, ⟨⟨_, rfl, z_ofNat (by omega)⟩, ds⟩, jx, jo, jk⟩
        match X, hX, hcell with
        | .inl f, hX, hcell => exact W.alen (n := Int32.ofNat n') hx hb hcell (hAr n' (fun j => .int (f j))) (by rw [vp_cell_i, arrV_size] <;> rfl) rfl rfl hd kk
        | .inr (.inl f), hX, hcell => exact W.alen (n := Int32.ofNat n') hx hb hcell (hAr n' (fun j => .long (f j))) (by rw [vp_cell_l, arrV_size] <;> rfl) rfl rfl hd kk
        | .inr (.inr (.inr (.inr f))), hX, hcell => exact W.alen (n := Int32.ofNat n') hx hb hcell (hAr n' (fun j => va_rf (f j))) (by rw [vp_cell_q, arrV_size] <;> rfl) rfl rfl hd kk
      · cases ho
  · rename_i j S' hS
    dsimp only at hS
    subst hS
    match stk, jS with
    | _ :: stk, ⟨rfl, ds⟩ =>
      split at ho
      · rename_i hA
        have ho := Option.some.inj ho
        subst ho
        obtain ⟨j0, j3⟩ := hA
        obtain ⟨t, ht⟩ : ∃ t : Nat, j.toNat = t := ⟨_, rfl⟩
        have ht3 : t < 3 := by omega
        rw [ht] at K ⊢
        match t, ht3, K with
        | 0, _, K =>
          obtain ⟨scr, g1, g2, g3, g4, g5⟩ := jx.2.2.1
          exact W.alen (n := Int32.ofNat P.2.2.2.1) hx hb g1 g2 (by rw [g4] <;> rfl) rfl rfl hd (K _ _ _ _ _ _ ⟨jc, jg, ⟨lv, jl, jd⟩, ⟨⟨_, rfl, z_ofNat jx.2.2.2.1.2⟩, ds⟩, jx, jo, jk⟩)
        | 1, _, K =>
          obtain ⟨cell, g1, g2, g3, g4, g5, -, -⟩ := (jx.2.1 ("BreadMap", "MOVES", 1) (by simp [xStat])).2
          exact W.alen (n := Int32.ofNat 5) hx hb g1 g2 g5 rfl rfl hd (K _ _ _ _ _ _ ⟨jc, jg, ⟨lv, jl, jd⟩, ⟨⟨_, rfl, (show (Int32.ofNat 5).toInt = 5 by decide)⟩, ds⟩, jx, jo, jk⟩)
        | 2, _, K =>
          obtain ⟨cell, g1, g2, g3, g4, g5, -, -⟩ := (jx.2.1 ("BreadMap$Land", "LETTER_CRUMBS", 2) (by simp [xStat])).2
          exact W.alen (n := Int32.ofNat 5) hx hb g1 g2 g5 rfl rfl hd (K _ _ _ _ _ _ ⟨jc, jg, ⟨lv, jl, jd⟩, ⟨⟨_, rfl, (show (Int32.ofNat 5).toInt = 5 by decide)⟩, ds⟩, jx, jo, jk⟩)
      · cases ho
  · cases ho
theorem zs_copyi {index : Nat} (hd : decode μ.2.1 pc = .ok (.invokestatic index, 3)) (hw1 : Cond.methodLink μ.1 index arraycopyName ∈ xTB) (hw2 : Cond.native arraycopyName ∈ xTB) (hw3 : Cond.static arraycopyName ∈ xTB) (hw4 : Cond.initialized "java/lang/System" ∈ xTB) : zSim l P M μ pc (28, pc + 3, 0, 0, 0, []) := by
  intro p e s m args below meth c R Q d C hrm st o ho H locs cells slots ls stk J K
  obtain ⟨hx, hb, hml, hown, hts, hr, hlk⟩ := C
  obtain ⟨h, L, S⟩ := st
  obtain ⟨jc, jg, ⟨lv, jl, jd⟩, jS, jx, jo, jk⟩ := J
  have ho : z_copy (pc + 3) 0 (h, L, S) = some o := ho
  unfold z_copy at ho
  split at ho
  · rename_i n dp r1 sp r0 S' hS
    dsimp only at hS
    subst hS
    match stk, jS with
    | _ :: _ :: _ :: _ :: _ :: stk, ⟨⟨nv, rfl, en⟩, ⟨dpv, rfl, edp⟩, rfl, ⟨spv, rfl, esp⟩, rfl, ds⟩ =>
      split at ho
      · rename_i hA
        have ho := Option.some.inj ho
        subst ho
        obtain ⟨hA0, hA1, hsum, -⟩ := hA
        obtain ⟨ty0, n0, hsh0, hty0, a1, a2, a3⟩ := zroom_den hA0
        obtain ⟨ty1, n1, hsh1, hty1, b1, b2, b3⟩ := zroom_den hA1
        have hty0 := zcode_ty.1 hty0
        have hty1 := zcode_ty.1 hty1
        subst hty0
        subst hty1
        rw [← en, ← esp] at a3
        rw [← esp] at a1
        rw [← en] at a2
        rw [← en, ← edp] at b3
        rw [← edp] at b1
        have c1 := (z_clamp a1).1
        have c2 := (z_clamp a2).1
        have c3 := (z_clamp b1).1
        obtain ⟨k0, ⟨n0', X0⟩, hcell0, hn0, hX0, hAr0, -⟩ := jg _ _ hsh0
        obtain ⟨k1, ⟨n1', X1⟩, hcell1, hn1, hX1, hAr1, hRA1⟩ := jg _ _ hsh1
        have hn0 : n0' = n0 := hn0
        have hn1 : n1' = n1 := hn1
        subst hn0
        subst hn1
        match X0, hX0, hcell0 with
        | .inr (.inl f), ⟨hX, _⟩, _ => cases hX
        | .inr (.inr (.inr (.inr f))), ⟨⟨_, hX⟩, _⟩, _ => cases hX
        | .inl f, ⟨_, hX0⟩, hcell0 =>
          match X1, hX1, hcell1 with
          | .inr (.inl f), ⟨hX, _⟩, _ => cases hX
          | .inr (.inr (.inr (.inr f))), ⟨⟨_, hX⟩, _⟩, _ => cases hX
          | .inl g, ⟨hty, hX1⟩, hcell1 =>
            have h7 : nativeFrameWords "java/lang/System" "arraycopy" 5 = 7 := by decide +kernel
            refine x_copyW (fun z => Value.int z) hx hb (hml.trans jl.1.symm) hown (hts _ hw1) (hts _ hw2) (hts _ hw3) (hts _ hw4) hcell0 hcell1 hAr0 hAr1 rfl (z_i0 a1) (z_i0 b1) (z_i0 a2) (by omega) (by omega) (fun _ => rfl) (fun _ => trivial) (by have := hrm.1; omega) (by have := hrm.2; rw [zsum_den ds, h7]; omega) hd fun H1 L1 e1 z1 o1 hL1 => ?_
            refine K _ _ _ _ _ _ ⟨jc, jg.set hsh1 (c := .inl (.int, n1')) (g' := (zcopy h r0.toNat sp.toNat r1.toNat dp.toNat n.toNat) r1.toNat) ⟨k1, (n1', .inl (va_cpy f g spv.toNatClampNeg dpv.toNatClampNeg nv.toNatClampNeg)), e1, rfl, ⟨hty, fun k hk => ?_⟩, hAr1, hRA1⟩ o1 rfl (fun a ha => by funext b; exact if_neg (fun q => ha q.1)), ⟨lv, jl, jd⟩, ds, jx.kept (fun q hq => o1 q (Nat.ne_of_lt (Nat.lt_of_lt_of_le hq (Nat.le_add_right _ _)))), fun q hq => (List.mem_append.mp hq).elim (jo q) (fun h => by rw [hL1 q h]; exact Nat.le_add_right _ _), jk⟩
            have q1 := (z_clamp a1).2
            have q2 := (z_clamp a2).2
            have q3 := (z_clamp b1).2
            show zden P (if r1.toNat = r1.toNat ∧ dp.toNat ≤ k ∧ k < dp.toNat + n.toNat then h r0.toNat (sp.toNat + (k - dp.toNat)) else h r1.toNat k) (Value.int (va_cpy f g spv.toNatClampNeg dpv.toNatClampNeg nv.toNatClampNeg k))
            rw [← en, ← esp, ← edp, ← q1, ← q2, ← q3]
            unfold va_cpy
            by_cases hk2 : dpv.toNatClampNeg ≤ k ∧ k < dpv.toNatClampNeg + nv.toNatClampNeg
            · rw [if_pos ⟨rfl, hk2⟩, if_pos hk2]
              exact hX0 _ (by omega)
            · rw [if_neg (fun q => hk2 q.2), if_neg hk2]
              exact hX1 k hk
      · cases ho
  · cases ho
theorem zs_copyl {index : Nat} (hd : decode μ.2.1 pc = .ok (.invokestatic index, 3)) (hw1 : Cond.methodLink μ.1 index arraycopyName ∈ xTB) (hw2 : Cond.native arraycopyName ∈ xTB) (hw3 : Cond.static arraycopyName ∈ xTB) (hw4 : Cond.initialized "java/lang/System" ∈ xTB) : zSim l P M μ pc (28, pc + 3, 1, 0, 0, []) := by
  intro p e s m args below meth c R Q d C hrm st o ho H locs cells slots ls stk J K
  obtain ⟨hx, hb, hml, hown, hts, hr, hlk⟩ := C
  obtain ⟨h, L, S⟩ := st
  obtain ⟨jc, jg, ⟨lv, jl, jd⟩, jS, jx, jo, jk⟩ := J
  have ho : z_copy (pc + 3) 1 (h, L, S) = some o := ho
  unfold z_copy at ho
  split at ho
  · rename_i n dp r1 sp r0 S' hS
    dsimp only at hS
    subst hS
    match stk, jS with
    | _ :: _ :: _ :: _ :: _ :: stk, ⟨⟨nv, rfl, en⟩, ⟨dpv, rfl, edp⟩, rfl, ⟨spv, rfl, esp⟩, rfl, ds⟩ =>
      split at ho
      · rename_i hA
        have ho := Option.some.inj ho
        subst ho
        obtain ⟨hA0, hA1, hsum, -⟩ := hA
        obtain ⟨ty0, n0, hsh0, hty0, a1, a2, a3⟩ := zroom_den hA0
        obtain ⟨ty1, n1, hsh1, hty1, b1, b2, b3⟩ := zroom_den hA1
        have hty0 := zcode_ty.2.1 hty0
        have hty1 := zcode_ty.2.1 hty1
        subst hty0
        subst hty1
        rw [← en, ← esp] at a3
        rw [← esp] at a1
        rw [← en] at a2
        rw [← en, ← edp] at b3
        rw [← edp] at b1
        have c1 := (z_clamp a1).1
        have c2 := (z_clamp a2).1
        have c3 := (z_clamp b1).1
        obtain ⟨k0, ⟨n0', X0⟩, hcell0, hn0, hX0, hAr0, -⟩ := jg _ _ hsh0
        obtain ⟨k1, ⟨n1', X1⟩, hcell1, hn1, hX1, hAr1, hRA1⟩ := jg _ _ hsh1
        have hn0 : n0' = n0 := hn0
        have hn1 : n1' = n1 := hn1
        subst hn0
        subst hn1
        match X0, hX0, hcell0 with
        | .inl f, ⟨hX, _⟩, _ => rcases hX with hX | hX | hX <;> cases hX
        | .inr (.inr (.inr (.inr f))), ⟨⟨_, hX⟩, _⟩, _ => cases hX
        | .inr (.inl f), ⟨_, hX0⟩, hcell0 =>
          match X1, hX1, hcell1 with
          | .inl f, ⟨hX, _⟩, _ => rcases hX with hX | hX | hX <;> cases hX
          | .inr (.inr (.inr (.inr f))), ⟨⟨_, hX⟩, _⟩, _ => cases hX
          | .inr (.inl g), ⟨hty, hX1⟩, hcell1 =>
            have h7 : nativeFrameWords "java/lang/System" "arraycopy" 5 = 7 := by decide +kernel
            refine x_copyW (fun z => Value.long z) hx hb (hml.trans jl.1.symm) hown (hts _ hw1) (hts _ hw2) (hts _ hw3) (hts _ hw4) hcell0 hcell1 hAr0 hAr1 rfl (z_i0 a1) (z_i0 b1) (z_i0 a2) (by omega) (by omega) (fun _ => rfl) (fun _ => trivial) (by have := hrm.1; omega) (by have := hrm.2; rw [zsum_den ds, h7]; omega) hd fun H1 L1 e1 z1 o1 hL1 => ?_
            refine K _ _ _ _ _ _ ⟨jc, jg.set hsh1 (c := .inl (.long, n1')) (g' := (zcopy h r0.toNat sp.toNat r1.toNat dp.toNat n.toNat) r1.toNat) ⟨k1, (n1', .inr (.inl (va_cpy f g spv.toNatClampNeg dpv.toNatClampNeg nv.toNatClampNeg))), e1, rfl, ⟨hty, fun k hk => ?_⟩, hAr1, hRA1⟩ o1 rfl (fun a ha => by funext b; exact if_neg (fun q => ha q.1)), ⟨lv, jl, jd⟩, ds, jx.kept (fun q hq => o1 q (Nat.ne_of_lt (Nat.lt_of_lt_of_le hq (Nat.le_add_right _ _)))), fun q hq => (List.mem_append.mp hq).elim (jo q) (fun h => by rw [hL1 q h]; exact Nat.le_add_right _ _), jk⟩
            have q1 := (z_clamp a1).2
            have q2 := (z_clamp a2).2
            have q3 := (z_clamp b1).2
            show zden P (if r1.toNat = r1.toNat ∧ dp.toNat ≤ k ∧ k < dp.toNat + n.toNat then h r0.toNat (sp.toNat + (k - dp.toNat)) else h r1.toNat k) (Value.long (va_cpy f g spv.toNatClampNeg dpv.toNatClampNeg nv.toNatClampNeg k))
            rw [← en, ← esp, ← edp, ← q1, ← q2, ← q3]
            unfold va_cpy
            by_cases hk2 : dpv.toNatClampNeg ≤ k ∧ k < dpv.toNatClampNeg + nv.toNatClampNeg
            · rw [if_pos ⟨rfl, hk2⟩, if_pos hk2]
              exact hX0 _ (by omega)
            · rw [if_neg (fun q => hk2 q.2), if_neg hk2]
              exact hX1 k hk
      · cases ho
  · cases ho
theorem zv_math2 {P : zP} {h : zH} {L : zL} {S : List zV} {o : zO} {stk : List Value} {nx b : Nat} (hb : b < 2) (ho : z_math nx b (h, L, S) = some o) (jS : zdens P S stk) : ∃ (y x : Int32) (S' : List zV) (stk' : List Value), stk = .int y :: .int x :: stk' ∧ zdens P S' stk' ∧ zsum S' ≤ 8 ∧ o = .inr (.inl (nx, h, L, (0, zm32 b x.toInt y.toInt) :: S')) := by
  unfold z_math at ho
  split at ho
  all_goals first | (exfalso; omega) | skip
  all_goals first | (cases ho; done) | skip
  all_goals
    rename_i y x S' hS
    dsimp only at hS
    subst hS
    match stk, jS with
    | _ :: _ :: stk, ⟨⟨a, rfl, e⟩, ⟨c, rfl, e2⟩, ds⟩ =>
      split at ho
      · rename_i hsum
        rw [← e, ← e2] at ho
        exact ⟨a, c, S', stk, rfl, ds, hsum, (Option.some.inj ho).symm⟩
      · cases ho
theorem zv_math2l {P : zP} {h : zH} {L : zL} {S : List zV} {o : zO} {stk : List Value} {nx : Nat} (ho : z_math nx 2 (h, L, S) = some o) (jS : zdens P S stk) : ∃ (y x : Int64) (S' : List zV) (stk' : List Value), stk = .long y :: .long x :: stk' ∧ zdens P S' stk' ∧ zsum S' ≤ 8 ∧ o = .inr (.inl (nx, h, L, (1, zm32 1 x.toInt y.toInt) :: S')) := by
  unfold z_math at ho
  split at ho
  all_goals first | (exfalso; omega) | skip
  all_goals first | (cases ho; done) | skip
  all_goals
    rename_i y x S' _ hS
    dsimp only at hS
    subst hS
    match stk, jS with
    | _ :: _ :: stk, ⟨⟨a, rfl, e⟩, ⟨c, rfl, e2⟩, ds⟩ =>
      split at ho
      · rename_i hsum
        rw [← e, ← e2] at ho
        exact ⟨a, c, S', stk, rfl, ds, hsum, (Option.some.inj ho).symm⟩
      · cases ho
theorem zv_math1l {P : zP} {h : zH} {L : zL} {S : List zV} {o : zO} {stk : List Value} {nx : Nat} (ho : z_math nx 3 (h, L, S) = some o) (jS : zdens P S stk) : ∃ (x : Int64) (S' : List zV) (stk' : List Value), stk = .long x :: stk' ∧ zdens P S' stk' ∧ zsum S' ≤ 8 ∧ o = .inr (.inl (nx, h, L, (1, if 0 < x.toInt then x.toInt else (-x).toInt) :: S')) := by
  unfold z_math at ho
  split at ho
  all_goals first | (exfalso; omega) | skip
  all_goals first | (cases ho; done) | skip
  all_goals
    rename_i x S' _ hS
    dsimp only at hS
    subst hS
    match stk, jS with
    | _ :: stk, ⟨⟨a, rfl, e⟩, ds⟩ =>
      split at ho
      · rename_i hsum
        rw [← e, Int64.ofInt_toInt] at ho
        exact ⟨a, S', stk, rfl, ds, hsum, (Option.some.inj ho).symm⟩
      · cases ho
theorem zs_mmax {index : Nat} (hd : decode μ.2.1 pc = .ok (.invokestatic index, 3)) (hw1 : Cond.methodLink μ.1 index Lib.Math.max.name ∈ xTB) (hw2 : Cond.static Lib.Math.max.name ∈ xTB) (hw3 : Cond.initialized "java/lang/Math" ∈ xTB) (hw4 : Cond.code Lib.Math.max.name Lib.Math.max.code 2 (some .int) ∈ xTB) : zSim l P M μ pc (27, pc + 3, 0, 0, 0, []) := by
  intro p e s m args below meth c R Q d C hrm st o ho H locs cells slots ls stk J K
  obtain ⟨hx, hb, hml, hown, hts, hr, hlk⟩ := C
  obtain ⟨h, L, S⟩ := st
  obtain ⟨jc, jg, ⟨lv, jl, jd⟩, jS, jx, jo, jk⟩ := J
  obtain ⟨y, x, S', stk', rfl, ds, hsum, rfl⟩ := zv_math2 (by omega) (show z_math (pc + 3) 0 (h, L, S) = some o from ho) jS
  refine va_mmax hx hb (hml.trans jl.1.symm) hown (hts _ hw1) (hts _ hw2) (hts _ hw3) (hts _ hw4) (by have := hrm.1; omega) (by have := hrm.2; rw [zsum_den ds]; omega) jc.1 jc.2 hd (K _ _ _ _ _ _ ⟨jc, jg, ⟨lv, jl, jd⟩, ⟨?_, ds⟩, jx, jo, jk⟩)
  refine ⟨_, rfl, ?_⟩
  show _ = if x.toInt < y.toInt then y.toInt else x.toInt
  by_cases h1 : x < y
  · rw [if_pos h1, if_pos (Int32.lt_iff_toInt_lt.mp h1)]
  · rw [if_neg h1, if_neg (fun q => h1 (Int32.lt_iff_toInt_lt.mpr q))]
theorem zs_mmin {index : Nat} (hd : decode μ.2.1 pc = .ok (.invokestatic index, 3)) (hw1 : Cond.methodLink μ.1 index Lib.Math.min.name ∈ xTB) (hw2 : Cond.static Lib.Math.min.name ∈ xTB) (hw3 : Cond.initialized "java/lang/Math" ∈ xTB) (hw4 : Cond.code Lib.Math.min.name Lib.Math.min.code 2 (some .int) ∈ xTB) : zSim l P M μ pc (27, pc + 3, 0, 1, 0, []) := by
  intro p e s m args below meth c R Q d C hrm st o ho H locs cells slots ls stk J K
  obtain ⟨hx, hb, hml, hown, hts, hr, hlk⟩ := C
  obtain ⟨h, L, S⟩ := st
  obtain ⟨jc, jg, ⟨lv, jl, jd⟩, jS, jx, jo, jk⟩ := J
  obtain ⟨y, x, S', stk', rfl, ds, hsum, rfl⟩ := zv_math2 (by omega) (show z_math (pc + 3) 1 (h, L, S) = some o from ho) jS
  refine va_mmin hx hb (hml.trans jl.1.symm) hown (hts _ hw1) (hts _ hw2) (hts _ hw3) (hts _ hw4) (by have := hrm.1; omega) (by have := hrm.2; rw [zsum_den ds]; omega) jc.1 jc.2 hd (K _ _ _ _ _ _ ⟨jc, jg, ⟨lv, jl, jd⟩, ⟨?_, ds⟩, jx, jo, jk⟩)
  refine ⟨_, rfl, ?_⟩
  show _ = if y.toInt < x.toInt then y.toInt else x.toInt
  by_cases h1 : y < x
  · rw [if_pos h1, if_pos (Int32.lt_iff_toInt_lt.mp h1)]
  · rw [if_neg h1, if_neg (fun q => h1 (Int32.lt_iff_toInt_lt.mpr q))]
theorem zs_mminl {index : Nat} (hd : decode μ.2.1 pc = .ok (.invokestatic index, 3)) (hw1 : Cond.methodLink μ.1 index Lib.MathLoose.min_long.x ∈ xTB) (hw2 : Cond.static Lib.MathLoose.min_long.x ∈ xTB) (hw3 : Cond.initialized "java/lang/Math" ∈ xTB) (hw4 : Cond.code Lib.MathLoose.min_long.x Lib.MathLoose.min_long.code 4 (some .long) ∈ xTB) : zSim l P M μ pc (27, pc + 3, 0, 2, 0, []) := by
  intro p e s m args below meth c R Q d C hrm st o ho H locs cells slots ls stk J K
  obtain ⟨hx, hb, hml, hown, hts, hr, hlk⟩ := C
  obtain ⟨h, L, S⟩ := st
  obtain ⟨jc, jg, ⟨lv, jl, jd⟩, jS, jx, jo, jk⟩ := J
  obtain ⟨y, x, S', stk', rfl, ds, hsum, rfl⟩ := zv_math2l (show z_math (pc + 3) 2 (h, L, S) = some o from ho) jS
  refine va_mmin_long hx hb (hml.trans jl.1.symm) hown (hts _ hw1) (hts _ hw2) (hts _ hw3) (hts _ hw4) (by have := hrm.1; omega) (by have := hrm.2; rw [zsum_den ds]; omega) jc.1 jc.2 hd (K _ _ _ _ _ _ ⟨jc, jg, ⟨lv, jl, jd⟩, ⟨?_, ds⟩, jx, jo, jk⟩)
  refine ⟨_, rfl, ?_⟩
  show _ = if y.toInt < x.toInt then y.toInt else x.toInt
  by_cases h1 : y < x
  · rw [if_pos h1, if_pos (Int64.lt_iff_toInt_lt.mp h1)]
  · rw [if_neg h1, if_neg (fun q => h1 (Int64.lt_iff_toInt_lt.mpr q))]
theorem zs_mabsl {index : Nat} (hd : decode μ.2.1 pc = .ok (.invokestatic index, 3)) (hw1 : Cond.methodLink μ.1 index Lib.MathLoose.abs_long.x ∈ xTB) (hw2 : Cond.static Lib.MathLoose.abs_long.x ∈ xTB) (hw3 : Cond.initialized "java/lang/Math" ∈ xTB) (hw4 : Cond.code Lib.MathLoose.abs_long.x Lib.MathLoose.abs_long.code 2 (some .long) ∈ xTB) : zSim l P M μ pc (27, pc + 3, 0, 3, 0, []) := by
  intro p e s m args below meth c R Q d C hrm st o ho H locs cells slots ls stk J K
  obtain ⟨hx, hb, hml, hown, hts, hr, hlk⟩ := C
  obtain ⟨h, L, S⟩ := st
  obtain ⟨jc, jg, ⟨lv, jl, jd⟩, jS, jx, jo, jk⟩ := J
  obtain ⟨x, S', stk', rfl, ds, hsum, rfl⟩ := zv_math1l (show z_math (pc + 3) 3 (h, L, S) = some o from ho) jS
  refine va_mabs_long hx hb (hml.trans jl.1.symm) hown (hts _ hw1) (hts _ hw2) (hts _ hw3) (hts _ hw4) (by have := hrm.1; omega) (by have := hrm.2; rw [zsum_den ds]; omega) jc.1 jc.2 hd (K _ _ _ _ _ _ ⟨jc, jg, ⟨lv, jl, jd⟩, ⟨?_, ds⟩, jx, jo, jk⟩)
  refine ⟨_, rfl, ?_⟩
  show _ = if 0 < x.toInt then x.toInt else (-x).toInt
  by_cases h1 : 0 < x
  · rw [if_pos h1, if_pos (by have := Int64.lt_iff_toInt_lt.mp h1; rwa [Int64.toInt_zero] at this)]
  · rw [if_neg h1, if_neg (fun q => h1 (Int64.lt_iff_toInt_lt.mpr (by rw [Int64.toInt_zero]; exact q)))]
theorem zs_ret0 (hd : decode μ.2.1 pc = .ok (.return_, 1)) (hret : μ.2.2.2.1 = none) : zSim l P M μ pc (30, 0, 0, 0, 0, []) := by
  intro p e s m args below meth c R Q d C hrm st o ho H locs cells slots ls stk J K
  obtain ⟨hx, hb, hml, hown, hts, hr, hlk⟩ := C
  obtain ⟨h, L, S⟩ := st
  obtain ⟨jc, jg, ⟨lv, jl, jd⟩, jS, jx, jo, jk⟩ := J
  match S, stk, jS, (show z_ret 0 0 (h, L, S) = some o from ho) with
  | [], [], _, ho =>
    have ho : some (Sum.inl (h, (none : Option zV))) = some o := ho
    have ho := Option.some.inj ho
    subst ho
    exact K H locs cells slots pc ls none jc.1 jc.2 jg jx jo trivial ⟨hd, hret⟩
theorem zs_reti (t : Nat) (ty : FieldType) (htc : (t = 0 ∧ ty = .int) ∨ (t = 1 ∧ ty = .long) ∨ (t = 2 ∧ ty = .byte) ∨ (t = 3 ∧ ty = .boolean) ∨ (t = 4 ∧ fits ty (.ref 0) = true)) (hd : decode μ.2.1 pc = .ok (.ireturn, 1)) (hret : μ.2.2.2.1 = some ty) : zSim l P M μ pc (30, 0, t, 1, 0, []) := by
  intro p e s m args below meth c R Q d C hrm st o ho H locs cells slots ls stk J K
  obtain ⟨hx, hb, hml, hown, hts, hr, hlk⟩ := C
  obtain ⟨h, L, S⟩ := st
  obtain ⟨jc, jg, ⟨lv, jl, jd⟩, jS, jx, jo, jk⟩ := J
  match S, stk, jS, (show z_ret 1 t (h, L, S) = some o from ho) with
  | [a], [v], ⟨da, _⟩, ho =>
    have ho : (if zfit t a = true ∧ a.1 = 0 then some (Sum.inl (h, some a)) else none) = some o := ho
    split at ho
    · rename_i hA
      have ho := Option.some.inj ho
      subst ho
      have hn := (zfit_den htc hA.1 da).2
      match a, hA.2, da with
      | (0, z), _, ⟨x, hv, hz⟩ =>
        subst hv
        exact K H locs cells slots pc ls (some (.int x)) jc.1 jc.2 jg jx jo ⟨x, rfl, hz⟩ ⟨hd, ty, hret, hn⟩
    · cases ho
theorem zs_retl (hd : decode μ.2.1 pc = .ok (.lreturn, 1)) (hret : μ.2.2.2.1 = some .long) : zSim l P M μ pc (30, 0, 1, 2, 0, []) := by
  intro p e s m args below meth c R Q d C hrm st o ho H locs cells slots ls stk J K
  obtain ⟨hx, hb, hml, hown, hts, hr, hlk⟩ := C
  obtain ⟨h, L, S⟩ := st
  obtain ⟨jc, jg, ⟨lv, jl, jd⟩, jS, jx, jo, jk⟩ := J
  match S, stk, jS, (show z_ret 2 1 (h, L, S) = some o from ho) with
  | [a], [v], ⟨da, _⟩, ho =>
    have ho : (if a.1 = 1 then some (Sum.inl (h, some a)) else none) = some o := ho
    split at ho
    · rename_i hA
      have ho := Option.some.inj ho
      subst ho
      match a, hA, da with
      | (1, z), _, ⟨x, hv, hz⟩ =>
        subst hv
        exact K H locs cells slots pc ls (some (.long x)) jc.1 jc.2 jg jx jo ⟨x, rfl, hz⟩ ⟨hd, hret⟩
    · cases ho
end ZSTEP3
theorem z_after {P : zP} {r : zR} {p : Program} {l : Launch} {e : Env} {R : Room} {s : State} {m : MethodId} {args a : Array Value} {below : List Frame} {meth : Method} {c : Code} {H : Heap} {locs : List Loc} {cells slots pc : Nat} {ls : Array Slot} {st0 rest : List Value} {Q : State → Prop}
    (hrun : va_Run p l e R s m args below meth c H locs cells slots 0 0 (F0 m pc ls st0) rest (zQc P r a) (fun z => P.1 ≤ z))
    (kk : ∀ (ov : Option Value) (H1 : Heap) (L : List Loc), zdenO P r.2 ov → zG P r.1 s H1 → (∀ q : Nat, q < P.1 → H1[q]? = H[q]?) → (∀ q ∈ L, P.1 ≤ q.base) → W p l e R s m args below meth c H1 (locs ++ L) cells slots Q (F0 m (pc + 3) ls (ov.toList ++ rest))) : W p l e R s m args below meth c H locs cells slots Q (F0 m pc ls st0) := by
  intro T hT X
  obtain ⟨v, st₀, t, T', L, h0, X', hL, e1, e2, ⟨⟨ov, hd, hv⟩, hg, hlow⟩, st⟩ := hrun T hT X
  cases hv
  have hal : t.vm.Alike s.vm := by rw [← e2]; exact X'.warmed.alike.symm
  obtain ⟨t2, a1, b1⟩ := kk v T'.heap L hd (by rw [e1]; exact hg.moved hal) (fun q hq => by rw [e1, hlow q hq, h0]) hL T' rfl X'
  exact ⟨t2, st t2 a1, b1⟩
theorem zPc_blind (P : zP) (h : zH) (vs : List Value) : FrameBlind (zPc P h vs) := fun a U g mk q => ⟨q.1, zG.moved (u := U) (U := U.calling g mk a) (Vm.Alike.refl U.vm) q.2.1, zX0.same (s := U) (U := U.calling g mk a) rfl rfl q.2.2.1, va_K.moved (u := U) (U := U.calling g mk a) (Vm.Alike.refl U.vm) q.2.2.2⟩
theorem zPc_at {P : zP} {h : zH} {vs : List Value} {s : State} {H : Heap} (jg : zG P h s H) (jx : zX0 P s H) (jk : va_K P.2.2.1 vwCl [] s) : ∀ U : State, U.heap = H → s.WarmedH U.vm → zPc P h vs vs.toArray U := fun U hU hW => ⟨rfl, by rw [hU]; exact jg.moved hW.alike, by rw [hU]; exact jx.moved hW hU, va_K.moved hW.alike jk⟩
section ZCALL
variable {l : Launch} {P : zP} {M : List zY} {μ : zM} {pc : Nat}
theorem zv_call {P : zP} {h : zH} {L : zL} {S : List zV} {o : zO} {stk : List Value} {nx mi n w : Nat} {c : Int} (ho : z_call nx mi n c w (h, L, S) = some o) (jS : zdens P S stk) : ∃ (as S' : List zV) (vs stk' : List Value), as.length = n ∧ stk = vs.reverse ++ stk' ∧ zdens P as vs ∧ zdens P S' stk' ∧ zsum S' ≤ 8 ∧ zsum as ≤ w ∧ (0 ≤ c → ∃ r as', as = (2, r) :: as' ∧ zisO c.toNat r = true) ∧ o = .inr (.inr (mi, as, nx, (h, L, S'))) := by
  unfold z_call at ho
  split at ho
  · rename_i as S' ht
    split at ho
    · rename_i hA
      obtain ⟨as0, vs, stk', e1, e2, e3, e4, e5⟩ := ztake_den (P := P) (acc := []) (accv := []) ht jS trivial
      rw [List.append_nil] at e5
      subst e5
      refine ⟨as, S', vs, stk', e1, e2, e3, e4, hA.1, hA.2.1, fun hc => ?_, (Option.some.inj ho).symm⟩
      have h1 := hA.2.2 hc
      match as, h1 with
      | (2, r) :: as', h1 => exact ⟨r, as', rfl, by simpa using h1⟩
      | (0, r) :: as', h1 => simp at h1
      | (1, r) :: as', h1 => simp at h1
      | (n + 3, r) :: as', h1 => simp at h1
    · cases ho
  · cases ho
theorem zrecv {h : zH} {ci : Nat} {r : Int} {s : State} {H : Heap} {r0 : vw_C} (hc : zisO ci r = true) (jg : zG P h s H) (jk : va_K P.2.2.1 vwCl [] s) (hr : vwCl[ci]? = some r0) : ∃ cell : Cell, H[P.1 + r.toNat]? = some cell ∧ cell.vm = .none ∧ cell.cls = P.2.2.1.1 ci ∧ s.vm.findClass r0.1 = some cell.cls := by
  obtain ⟨n, hsh⟩ := zisO_den hc
  obtain ⟨vs, dvs, r', h1, cell, q1, q2, q3, q4⟩ := jg _ _ hsh
  exact ⟨cell, q1, q3, q2, by rw [q2]; exact (jk.1 ci _ hr).2.1⟩
theorem zback {r : zR} {ov : Option Value} {S : List zV} {stk : List Value} (hd : zdenO P r.2 ov) (ds : zdens P S stk) : zdens P (zpush r.2 S) (ov.toList ++ stk) := by
  obtain ⟨r1, r2⟩ := r
  cases r2 with
  | none => cases ov with
    | none => exact ds
    | some v => cases hd
  | some a => cases ov with
    | none => cases hd
    | some v => exact ⟨hd, ds⟩
theorem zs_callV {index mi n : Nat} {C : String} {T : u_T} {N : Nat} (ci : Nat) (y : zY) (hM : M[mi]? = some y) (hmax : y.2.2.1 ≤ 41) (hd : decode μ.2.1 pc = .ok (.invokevirtual index, 3)) (hC : y.1.cls = C) (hc : vwCl[ci]? = some (C, T, N)) (hw1 : Cond.methodLink μ.1 index y.1 ∈ xTB) (hw2 : Cond.instanceMethod y.1 ∈ xTB) (hw3 : Cond.selects C y.1 y.1 ∈ xTB) (hcode : Cond.code y.1 y.2.1 y.2.2.1 y.2.2.2 ∈ xTB) (hini : Cond.initialized y.1.cls ∈ xTB) (hmh : y.1.cls ≠ "java/lang/invoke/MethodHandle" ∧ y.1.cls ≠ "java/lang/invoke/VarHandle" ∧ (parseMethodDescriptor y.1.desc).map (fun d => d.parameters.length) = some n) : zSim l P M μ pc (29, pc + 3, mi, n + 1, (ci : Int), [(0, y.2.2.1)]) := by
  intro p e s m args below meth c R Q d C hrm st o ho H locs cells slots ls stk J K
  obtain ⟨hx, hb, hml, hown, hts, hr, hlk⟩ := C
  obtain ⟨h, L, S⟩ := st
  obtain ⟨jc, jg, ⟨lv, jl, jd⟩, jS, jx, jo, jk⟩ := J
  obtain ⟨as, S', vs, stk', e1, rfl, e3, e4, hsum, hwd, hv, rfl⟩ := zv_call (show z_call (pc + 3) mi (n + 1) (ci : Int) y.2.2.1 (h, L, S) = some o from ho) jS
  obtain ⟨d', r1, hd', hMet, K⟩ := K
  have hMet := hMet y hM hwd vs e3
  have hlen := zdens_len e3
  have hgood : ∀ w ∈ zWs y, w ∈ xTB := fun w hw => by
    rcases List.mem_cons.mp hw with h | h
    · rw [h]; exact hcode
    · exact h
  have hroom : (zRoom d').frames + 1 ≤ R.frames ∧ 8 + (y.2.2.1 + 11) + (zRoom d').locals ≤ R.locals := by
    have h1 := hrm.1
    have h2 := hrm.2
    show d' + 8 + 1 ≤ R.frames ∧ 8 + (y.2.2.1 + 11) + 60 * (d' + 8) ≤ R.locals
    omega
  have hfit : cells + (zRoom d').cells ≤ R.cells ∧ slots + (zRoom d').slots ≤ R.slots := ⟨jc.1, jc.2⟩
  have hW8 : 2 * (F0 m pc ls (vs.reverse ++ stk')).monitorRoom + (stk'.map fun v => v.category).sum ≤ 8 := by rw [zsum_den e4]; show 2 * 0 + _ ≤ 8; omega
  obtain ⟨r, as', rfl, hO⟩ := hv (Int.natCast_nonneg _)
  obtain ⟨v0, vs', rfl, da0⟩ : ∃ v0 vs', vs = v0 :: vs' ∧ zden P (2, r) v0 := by
    cases vs with
    | nil => cases e3
    | cons v vs' => exact ⟨v, vs', rfl, e3.1⟩
  have da0 : v0 = .ref (P.1 + r.toNat) := da0
  subst da0
  have hn : vs'.length = n := by simp at hlen e1; omega
  obtain ⟨cell, q1, q2, -, q3⟩ := zrecv hO jg jk hc
  subst hC
  have hgv : GoodIn xTB (wsV μ.1 index y.1.cls y.1 (zWs y)) := xTB_good (fun w hw => by
    rcases List.mem_append.mp (show w ∈ ([.methodLink μ.1 index y.1, .instanceMethod y.1, .selects y.1.cls y.1 y.1, .initialized y.1.cls] : List Cond) ++ zWs y from hw) with h | h
    · simp only [List.mem_cons, List.not_mem_nil, or_false] at h
      rcases h with rfl | rfl | rfl | rfl
      · exact hw1
      · exact hw2
      · exact hw3
      · exact hini
    · exact hgood w h)
  refine z_after (va_runV (As := vs') (rest := stk') ⟨hx, hb, hml, hown, hts⟩ hMet (cwV n hts hgv rfl rfl rfl ⟨rfl, hmh⟩ hroom) ⟨zPc_blind _ _ _, ⟨cell, q1, by rw [q2]; rfl, q3⟩, zPc_at jg jx jk⟩ rfl hn jl.1 (by simp) hW8 hd hfit) ?_
  intro ov H1 LL g2 g3 g4 g5
  exact K H1 (locs ++ LL) cells slots ls (ov.toList ++ stk') ⟨jc, g3, ⟨lv, jl, jd⟩, zback g2 e4, jx.kept g4, fun q hq => (List.mem_append.mp hq).elim (jo q) (g5 q), jk⟩
theorem zs_callS {index mi n : Nat} (y : zY) (hM : M[mi]? = some y) (hmax : y.2.2.1 ≤ 41) (hd : decode μ.2.1 pc = .ok (.invokestatic index, 3)) (hw1 : Cond.methodLink μ.1 index y.1 ∈ xTB) (hw2 : Cond.static y.1 ∈ xTB) (hcode : Cond.code y.1 y.2.1 y.2.2.1 y.2.2.2 ∈ xTB) (hini : Cond.initialized y.1.cls ∈ xTB) (hmh : y.1.cls ≠ "java/lang/invoke/MethodHandle" ∧ y.1.cls ≠ "java/lang/invoke/VarHandle" ∧ (parseMethodDescriptor y.1.desc).map (fun d => d.parameters.length) = some n) : zSim l P M μ pc (29, pc + 3, mi, n, -1, [(0, y.2.2.1)]) := by
  intro p e s m args below meth c R Q d C hrm st o ho H locs cells slots ls stk J K
  obtain ⟨hx, hb, hml, hown, hts, hr, hlk⟩ := C
  obtain ⟨h, L, S⟩ := st
  obtain ⟨jc, jg, ⟨lv, jl, jd⟩, jS, jx, jo, jk⟩ := J
  obtain ⟨as, S', vs, stk', e1, rfl, e3, e4, hsum, hwd, hv, rfl⟩ := zv_call (show z_call (pc + 3) mi n (-1) y.2.2.1 (h, L, S) = some o from ho) jS
  obtain ⟨d', r1, hd', hMet, K⟩ := K
  have hMet := hMet y hM hwd vs e3
  have hlen := zdens_len e3
  have hgood : ∀ w ∈ zWs y, w ∈ xTB := fun w hw => by
    rcases List.mem_cons.mp hw with h | h
    · rw [h]; exact hcode
    · exact h
  have hroom : (zRoom d').frames + 1 ≤ R.frames ∧ 8 + (y.2.2.1 + 11) + (zRoom d').locals ≤ R.locals := by
    have h1 := hrm.1
    have h2 := hrm.2
    show d' + 8 + 1 ≤ R.frames ∧ 8 + (y.2.2.1 + 11) + 60 * (d' + 8) ≤ R.locals
    omega
  have hfit : cells + (zRoom d').cells ≤ R.cells ∧ slots + (zRoom d').slots ≤ R.slots := ⟨jc.1, jc.2⟩
  have hW8 : 2 * (F0 m pc ls (vs.reverse ++ stk')).monitorRoom + (stk'.map fun v => v.category).sum ≤ 8 := by rw [zsum_den e4]; show 2 * 0 + _ ≤ 8; omega
  have hn : vs.length = n := by omega
  have hgv : GoodIn xTB (va_wsS μ.1 index y.1 (zWs y)) := xTB_good (fun w hw => by
    rcases List.mem_append.mp (show w ∈ ([.methodLink μ.1 index y.1, .static y.1, .initialized y.1.cls] : List Cond) ++ zWs y from hw) with h | h
    · simp only [List.mem_cons, List.not_mem_nil, or_false] at h
      rcases h with rfl | rfl | rfl
      · exact hw1
      · exact hw2
      · exact hini
    · exact hgood w h)
  refine z_after (va_runS (As := vs) (rest := stk') ⟨hx, hb, hml, hown, hts⟩ hMet (va_cwS n hts hgv rfl rfl rfl hmh hroom) ⟨zPc_blind _ _ _, zPc_at jg jx jk⟩ rfl hn jl.1 rfl hW8 hd hfit) ?_
  intro ov H1 LL g2 g3 g4 g5
  exact K H1 (locs ++ LL) cells slots ls (ov.toList ++ stk') ⟨jc, g3, ⟨lv, jl, jd⟩, zback g2 e4, jx.kept g4, fun q hq => (List.mem_append.mp hq).elim (jo q) (g5 q), jk⟩
end ZCALL
/-! runs -/
def zMu (y : zY) : zM := (y.1.cls, y.2.1, y.2.2.1, y.2.2.2, y.1.name)
def zMok (l : Launch) (P : zP) (M : List zY) (T : zT) : Prop := ∀ (mi : Nat) (y : zY), M[mi]? = some y → plainName y.1.cls = true ∧ ∀ pc i, T mi pc = some i → zSim l P M (zMu y) pc i
theorem z_met {l : Launch} {P : zP} {y : zY} (hpl : plainName y.1.cls = true) {d : Nat} {h : zH} {as : List zV} {r : zR} (hgo : ∀ (p : Program) (e : Env) (s : State) (m : MethodId) (args : Array Value) (below : List Frame) (meth : Method) (c : Code) (R : Room) (Q : State → Prop), zCx (zMu y) p s m args meth c → zRm d R → zKR P (zMu y) p l e R s m args below meth c Q r → zKG P (zMu y) p l e R s m args below meth c Q 0 (h, zargs 0 as, [])) (hwd : zsum as ≤ y.2.2.1) {vs : List Value} (dvs : zdens P as vs) : Met l y.1 (zWs y) (zRoom d) (zPc P h vs) (zQc P r) 0 0 (fun z => P.1 ≤ z) := by
  refine Met.ofW (cc := y.2.1) (maxL := y.2.2.1) (ret := y.2.2.2) hpl rfl ?_
  intro p e s m args below meth c s₁ B hml hv
  obtain ⟨rfl, hG, hX, hK⟩ := hv
  have hts := atoms_spec (ws := zWs y) B.pre
  have hlen : (lg_sl vs).length ≤ y.2.2.1 := by rw [x_sl_len, zsum_den dvs]; exact hwd
  rw [lg_entry_eq]
  refine hgo p e s m vs.toArray below meth c (zRoom d) _ ⟨B.exec, B.bytes, hml, findClass_of_methodNamed B.named, fun w hw => hts w (List.mem_cons_of_mem _ hw), B.returns, B.notSynchronized⟩ ⟨Nat.le_refl _, Nat.le_refl _⟩ ?_ s.heap [] 0 0 _ [] ⟨⟨Nat.le_refl _, Nat.le_refl _⟩, hG, ⟨_, lv_entry vs hlen, zargs_den dvs⟩, trivial, hX, (fun q h => absurd h List.not_mem_nil), hK⟩
  intro H locs cells slots pc ls ov g2 g3 g4 g5 g6 g7 g8
  refine W.widen (k := 0) (n := 0) g2 g3 ?_
  have hq : ∀ t : State, t.heap = H → s.WarmedH t.vm → zQc P r vs.toArray s (.returned ov) t := fun t ht hW => ⟨⟨ov, g7, rfl⟩, by rw [ht]; exact g4.moved hW.alike, fun q hq => by rw [ht]; exact g5.2.2.2.2.2 q hq⟩
  match ov, g8, hq with
  | none, g8, hq => exact W.vret B.exec B.bytes (B.returns.trans g8.2) hq g6 g8.1 (hlocks := B.notSynchronized)
  | some (.int x), ⟨g8, ty, h1, h2⟩, hq => exact W.zret B.exec B.bytes (B.returns.trans h1) h2 hq g6 g8 (hlocks := B.notSynchronized)
  | some (.long x), g8, hq => exact W.lret B.exec B.bytes (B.returns.trans g8.2) hq g6 g8.1 (hlocks := B.notSynchronized)
