def zXeq (a b : zX) : Bool := Nat.beq a.1 b.1 && (Nat.beq a.2.1 b.2.1 && (Nat.beq a.2.2.1 b.2.2.1 && (Nat.beq a.2.2.2.1 b.2.2.2.1 && (decide (a.2.2.2.2.1 = b.2.2.2.2.1) && decide (a.2.2.2.2.2 = b.2.2.2.2.2)))))
theorem zXeq_eq {a b : zX} (h : zXeq a b = true) : a = b := by
  unfold zXeq at h
  simp only [Bool.and_eq_true, decide_eq_true_eq] at h
  obtain ⟨h1, h2, h3, h4, h5, h6⟩ := h
  obtain ⟨a1, a2, a3, a4, a5, a6⟩ := a
  obtain ⟨b1, b2, b3, b4, b5, b6⟩ := b
  have h1 := Nat.eq_of_beq_eq_true h1
  have h2 := Nat.eq_of_beq_eq_true h2
  have h3 := Nat.eq_of_beq_eq_true h3
  have h4 := Nat.eq_of_beq_eq_true h4
  dsimp only at h1 h2 h3 h4 h5 h6
  rw [h1, h2, h3, h4, h5, h6]
noncomputable def zchkI (MQ : List (zY × zMh)) (μ : zM) (hj : zIx) (pc : Nat) (ins : Instr) (len : Nat) (i : zX) : Bool := match ins with
  | .iconst n => Nat.beq len 1 && (zXeq i (0, pc + 1, 0, 0, (Int32.ofInt n).toInt, []))
  | .bipush n => Nat.beq len 2 && (zXeq i (0, pc + 2, 0, 0, (Int8.ofInt n).toInt32.toInt, []))
  | .sipush n => Nat.beq len 3 && (zXeq i (0, pc + 3, 0, 0, (Int16.ofInt n).toInt32.toInt, []))
  | .lconst n => Nat.beq len 1 && (zXeq i (0, pc + 1, 1, 0, (Int64.ofNat (n : Nat)).toInt, []))
  | .ldc_w k => Nat.beq len 3 && (zhas hj (.constant μ.1 k (Int32.ofInt i.2.2.2.2.1)) && (zXeq i (0, pc + 3, 0, 0, (Int32.ofInt i.2.2.2.2.1).toInt, [])))
  | .ldc2_w k => Nat.beq len 3 && (zhas hj (.constantLong μ.1 k (Int64.ofInt i.2.2.2.2.1)) && (zXeq i (0, pc + 3, 1, 0, (Int64.ofInt i.2.2.2.2.1).toInt, [])))
  | .iload k => Nat.beq len 2 && (zXeq i (2, pc + 2, k, 0, 0, []))
  | .iload_n k => Nat.beq len 1 && (zXeq i (2, pc + 1, (k : Nat), 0, 0, []))
  | .lload k => Nat.beq len 2 && (zXeq i (2, pc + 2, k, 1, 0, []))
  | .lload_n k => Nat.beq len 1 && (zXeq i (2, pc + 1, (k : Nat), 1, 0, []))
  | .aload k => Nat.beq len 2 && (zXeq i (2, pc + 2, k, 2, 0, []))
  | .aload_n k => Nat.beq len 1 && (zXeq i (2, pc + 1, (k : Nat), 2, 0, []))
  | .istore k => Nat.beq len 2 && (Nat.blt k μ.2.2.1 && (zXeq i (3, pc + 2, k, 0, 0, [])))
  | .istore_n k => Nat.beq len 1 && (Nat.blt k μ.2.2.1 && (zXeq i (3, pc + 1, (k : Nat), 0, 0, [])))
  | .astore k => Nat.beq len 2 && (Nat.blt k μ.2.2.1 && (zXeq i (3, pc + 2, k, 2, 0, [])))
  | .astore_n k => Nat.beq len 1 && (Nat.blt k μ.2.2.1 && (zXeq i (3, pc + 1, (k : Nat), 2, 0, [])))
  | .lstore k => Nat.beq len 2 && (Nat.blt (k + 1) μ.2.2.1 && (zXeq i (4, pc + 2, k, 0, 0, [])))
  | .lstore_n k => Nat.beq len 1 && (Nat.blt ((k : Nat) + 1) μ.2.2.1 && (zXeq i (4, pc + 1, (k : Nat), 0, 0, [])))
  | .iinc k n => Nat.beq len 3 && (Nat.blt k μ.2.2.1 && (zXeq i (5, pc + 3, k, 0, (Int32.ofInt n).toInt, [])))
  | .ineg => Nat.beq len 1 && (zXeq i (6, pc + 1, 0, 0, 0, []))
  | .i2b => Nat.beq len 1 && (zXeq i (6, pc + 1, 0, 1, 0, []))
  | .i2s => Nat.beq len 1 && (zXeq i (6, pc + 1, 0, 2, 0, []))
  | .iadd => Nat.beq len 1 && (zXeq i (7, pc + 1, 0, 0, 0, []))
  | .isub => Nat.beq len 1 && (zXeq i (7, pc + 1, 0, 1, 0, []))
  | .imul => Nat.beq len 1 && (zXeq i (7, pc + 1, 0, 2, 0, []))
  | .iand => Nat.beq len 1 && (zXeq i (7, pc + 1, 0, 3, 0, []))
  | .ior => Nat.beq len 1 && (zXeq i (7, pc + 1, 0, 4, 0, []))
  | .ixor => Nat.beq len 1 && (zXeq i (7, pc + 1, 0, 5, 0, []))
  | .ishl => Nat.beq len 1 && (zXeq i (7, pc + 1, 0, 6, 0, []))
  | .ishr => Nat.beq len 1 && (zXeq i (7, pc + 1, 0, 7, 0, []))
  | .iushr => Nat.beq len 1 && (zXeq i (7, pc + 1, 0, 8, 0, []))
  | .idiv => Nat.beq len 1 && (zXeq i (8, pc + 1, 0, 0, 0, []))
  | .irem => Nat.beq len 1 && (zXeq i (8, pc + 1, 0, 1, 0, []))
  | .lneg => Nat.beq len 1 && (zXeq i (9, pc + 1, 0, 0, 0, []))
  | .ladd => Nat.beq len 1 && (zXeq i (10, pc + 1, 0, 0, 0, []))
  | .lsub => Nat.beq len 1 && (zXeq i (10, pc + 1, 0, 1, 0, []))
  | .lmul => Nat.beq len 1 && (zXeq i (10, pc + 1, 0, 2, 0, []))
  | .land => Nat.beq len 1 && (zXeq i (10, pc + 1, 0, 3, 0, []))
  | .lor => Nat.beq len 1 && (zXeq i (10, pc + 1, 0, 4, 0, []))
  | .lxor => Nat.beq len 1 && (zXeq i (10, pc + 1, 0, 5, 0, []))
  | .ldiv => Nat.beq len 1 && (zXeq i (11, pc + 1, 0, 0, 0, []))
  | .lrem => Nat.beq len 1 && (zXeq i (11, pc + 1, 0, 1, 0, []))
  | .lshl => Nat.beq len 1 && (zXeq i (12, pc + 1, 0, 0, 0, []))
  | .lushr => Nat.beq len 1 && (zXeq i (12, pc + 1, 0, 1, 0, []))
  | .i2l => Nat.beq len 1 && (zXeq i (13, pc + 1, 0, 0, 0, []))
  | .l2i => Nat.beq len 1 && (zXeq i (14, pc + 1, 0, 0, 0, []))
  | .lcmp => Nat.beq len 1 && (zXeq i (18, pc + 1, 0, 0, 0, []))
  | .pop => Nat.beq len 1 && (zXeq i (15, pc + 1, 0, 0, 0, []))
  | .pop2 => Nat.beq len 1 && (zXeq i (15, pc + 1, 0, 1, 0, []))
  | .dup => Nat.beq len 1 && (zXeq i (15, pc + 1, 0, 2, 0, []))
  | .goto off => Nat.beq len 3 && (decide (0 ≤ (pc : Int) + off) && (zXeq i (1, ((pc : Int) + off).toNat, 0, 0, 0, [])))
  | .ifCond .eq off => Nat.beq len 3 && (decide (0 ≤ (pc : Int) + off) && (zXeq i (16, pc + 3, ((pc : Int) + off).toNat, 2, 0, [])))
  | .if_icmp .eq off => Nat.beq len 3 && (decide (0 ≤ (pc : Int) + off) && (zXeq i (17, pc + 3, ((pc : Int) + off).toNat, 2, 0, [])))
  | .ifCond .ne off => Nat.beq len 3 && (decide (0 ≤ (pc : Int) + off) && (zXeq i (16, ((pc : Int) + off).toNat, pc + 3, 2, 0, [])))
  | .if_icmp .ne off => Nat.beq len 3 && (decide (0 ≤ (pc : Int) + off) && (zXeq i (17, ((pc : Int) + off).toNat, pc + 3, 2, 0, [])))
  | .ifCond .lt off => Nat.beq len 3 && (decide (0 ≤ (pc : Int) + off) && (zXeq i (16, pc + 3, ((pc : Int) + off).toNat, 0, 0, [])))
  | .if_icmp .lt off => Nat.beq len 3 && (decide (0 ≤ (pc : Int) + off) && (zXeq i (17, pc + 3, ((pc : Int) + off).toNat, 0, 0, [])))
  | .ifCond .ge off => Nat.beq len 3 && (decide (0 ≤ (pc : Int) + off) && (zXeq i (16, ((pc : Int) + off).toNat, pc + 3, 0, 0, [])))
  | .if_icmp .ge off => Nat.beq len 3 && (decide (0 ≤ (pc : Int) + off) && (zXeq i (17, ((pc : Int) + off).toNat, pc + 3, 0, 0, [])))
  | .ifCond .gt off => Nat.beq len 3 && (decide (0 ≤ (pc : Int) + off) && (zXeq i (16, pc + 3, ((pc : Int) + off).toNat, 1, 0, [])))
  | .if_icmp .gt off => Nat.beq len 3 && (decide (0 ≤ (pc : Int) + off) && (zXeq i (17, pc + 3, ((pc : Int) + off).toNat, 1, 0, [])))
  | .ifCond .le off => Nat.beq len 3 && (decide (0 ≤ (pc : Int) + off) && (zXeq i (16, ((pc : Int) + off).toNat, pc + 3, 1, 0, [])))
  | .if_icmp .le off => Nat.beq len 3 && (decide (0 ≤ (pc : Int) + off) && (zXeq i (17, ((pc : Int) + off).toNat, pc + 3, 1, 0, [])))
  | .tableswitch dflt lo hi offs => decide (0 ≤ (pc : Int) + dflt) && (offs.toList.all (fun o => decide (0 ≤ (pc : Int) + o)) && (decide ((offs.size : Int) = hi - lo + 1) && (zXeq i (19, ((pc : Int) + dflt).toNat, 0, 0, 0, offs.toList.zipIdx.map (fun q => (lo + (q.2 : Int), ((pc : Int) + q.1).toNat))))))
  | .lookupswitch dflt ps => decide (0 ≤ (pc : Int) + dflt) && (ps.toList.all (fun q => decide (0 ≤ (pc : Int) + q.2)) && ((ps.toList.zip (ps.toList.drop 1)).all (fun (a, next) => a.1 < next.1) && (zXeq i (19, ((pc : Int) + dflt).toNat, 0, 0, 0, ps.toList.map (fun q => (q.1, ((pc : Int) + q.2).toNat))))))
  | .iaload => Nat.beq len 1 && (zXeq i (22, pc + 1, 0, 0, 0, []))
  | .laload => Nat.beq len 1 && (zXeq i (22, pc + 1, 1, 0, 0, []))
  | .aaload => Nat.beq len 1 && (zXeq i (22, pc + 1, 4, 0, 0, []))
  | .iastore => Nat.beq len 1 && (zXeq i (23, pc + 1, 0, 0, 0, []))
  | .lastore => Nat.beq len 1 && (zXeq i (23, pc + 1, 1, 0, 0, []))
  | .arraylength => Nat.beq len 1 && (zXeq i (24, pc + 1, 0, 0, 0, []))
  | .return_ => Nat.beq len 1 && (decide (μ.2.2.2.1 = none) && (zXeq i (30, 0, 0, 0, 0, [])))
  | .lreturn => Nat.beq len 1 && (decide (μ.2.2.2.1 = some .long) && (zXeq i (30, 0, 1, 2, 0, [])))
  | .dup2 => Nat.beq len 1 && (zXeq i ((15, pc + 1, 0, 3, 0, [])) || zXeq i ((15, pc + 1, 0, 4, 0, [])))
  | .baload => Nat.beq len 1 && (zXeq i ((22, pc + 1, 2, 0, 0, [])) || zXeq i ((22, pc + 1, 3, 0, 0, [])))
  | .bastore => Nat.beq len 1 && (zXeq i ((23, pc + 1, 2, 0, 0, [])) || zXeq i ((23, pc + 1, 3, 0, 0, [])))
  | .ldc k => Nat.beq len 2 && ((zhas hj (.constant μ.1 k (Int32.ofInt i.2.2.2.2.1)) && zXeq i ((0, pc + 2, 0, 0, (Int32.ofInt i.2.2.2.2.1).toInt, []))) || (match x_nth zTexts hj.2 with
      | some q => decide (q.1 = μ.1) && (decide (q.2.1 = k) && zXeq i ((0, pc + 2, 3, 0, ((hj.2 + 3 : Nat) : Int), [])))
      | none => false))
  | .getfield k => Nat.beq len 3 && (match x_nth vwCl i.2.2.1, x_nth zTys i.2.2.1 with
      | some q, some ty => Nat.blt i.2.2.2.1 q.2.2 && (zhas hj (.fieldLink μ.1 k (q.2.1 i.2.2.2.1).1 (q.2.1 i.2.2.2.1).2.1 (q.2.1 i.2.2.2.1).2.2.1) && zXeq i ((20, pc + 3, i.2.2.1, i.2.2.2.1, 0, [])))
      | _, _ => false)
  | .putfield k => Nat.beq len 3 && (match x_nth vwCl i.2.2.1, x_nth zTys i.2.2.1 with
      | some q, some ty => Nat.blt i.2.2.2.1 q.2.2 && (zhas hj (.fieldLink μ.1 k (q.2.1 i.2.2.2.1).1 (q.2.1 i.2.2.2.1).2.1 (q.2.1 i.2.2.2.1).2.2.1) && (decide (((i.2.2.2.2.1.toNat = 0 ∧ (ty i.2.2.2.1) = .int) ∨ (i.2.2.2.2.1.toNat = 1 ∧ (ty i.2.2.2.1) = .long) ∨ (i.2.2.2.2.1.toNat = 2 ∧ (ty i.2.2.2.1) = .byte) ∨ (i.2.2.2.2.1.toNat = 3 ∧ (ty i.2.2.2.1) = .boolean) ∨ (i.2.2.2.2.1.toNat = 4 ∧ fits (ty i.2.2.2.1) (.ref 0) = true))) && (decide ((q.2.1 i.2.2.2.1).2.2.2 = false) && zXeq i ((21, pc + 3, i.2.2.1, i.2.2.2.1, ((i.2.2.2.2.1.toNat : Nat) : Int), [])))))
      | _, _ => false)
  | .getstatic k => Nat.beq len 3 && ((zhas hj (.fieldLink μ.1 k "BreadMap" "MOVES" "[I") && zXeq i ((0, pc + 3, 3, 0, ((1 : Nat) : Int), []))) || (zhas hj (.fieldLink μ.1 k "BreadMap$Land" "LETTER_CRUMBS" "[I") && zXeq i ((0, pc + 3, 3, 0, ((2 : Nat) : Int), []))))
  | .ireturn => Nat.beq len 1 && (match μ.2.2.2.1 with
      | some ty => decide (((i.2.2.1 = 0 ∧ ty = .int) ∨ (i.2.2.1 = 1 ∧ ty = .long) ∨ (i.2.2.1 = 2 ∧ ty = .byte) ∨ (i.2.2.1 = 3 ∧ ty = .boolean) ∨ (i.2.2.1 = 4 ∧ fits ty (.ref 0) = true))) && zXeq i ((30, 0, i.2.2.1, 1, 0, []))
      | none => false)
  | .invokevirtual k => Nat.beq len 3 && ((match x_nth MQ i.2.2.1 with
      | some (y, q) => (!q.2.1) && (zhas hj (.methodLink μ.1 k y.1) && zXeq i ((29, pc + 3, i.2.2.1, q.1 + 1, (q.2.2.1 : Int), [(0, y.2.2.1)])))
      | none => false) || ((zhas hj (.methodLink μ.1 k yJ0_length_8abf5) && zXeq i ((25, pc + 3, 0, 0, 0, []))) || (zhas hj (.methodLink μ.1 k yJ0_charAt_5068e) && zXeq i ((26, pc + 3, 0, 0, 0, [])))))
  | .invokestatic k => Nat.beq len 3 && ((match x_nth MQ i.2.2.1 with
      | some (y, q) => q.2.1 && (zhas hj (.methodLink μ.1 k y.1) && zXeq i ((29, pc + 3, i.2.2.1, q.1, -1, [(0, y.2.2.1)])))
      | none => false) || ((zhas hj (.methodLink μ.1 k arraycopyName) && (zXeq i ((28, pc + 3, 0, 0, 0, [])) || zXeq i ((28, pc + 3, 1, 0, 0, [])))) || ((zhas hj (.methodLink μ.1 k Lib.Math.max.name) && zXeq i ((27, pc + 3, 0, 0, 0, []))) || (zhas hj (.methodLink μ.1 k Lib.Math.min.name) && zXeq i ((27, pc + 3, 0, 1, 0, []))) || (zhas hj (.methodLink μ.1 k Lib.MathLoose.min_long.x) && zXeq i ((27, pc + 3, 0, 2, 0, []))) || (zhas hj (.methodLink μ.1 k Lib.MathLoose.abs_long.x) && zXeq i ((27, pc + 3, 0, 3, 0, []))))))
  | _ => false
set_option maxHeartbeats 4000000 in
theorem zchkI_ok {l : Launch} {P : zP} {MQ : List (zY × zMh)} {μ : zM} {hj : zIx} {pc : Nat} {ins : Instr} {len : Nat} {i : zX} (hM : zMhOK MQ) (hd : decode μ.2.1 pc = .ok (ins, len)) (h : zchkI MQ μ hj pc ins len i = true) : zSim l P (MQ.map Prod.fst) μ pc i := by
  unfold zchkI at h
  split at h
  · rename_i n
    rw [Bool.and_eq_true] at h
    obtain ⟨hl, he⟩ := h
    have hl := Nat.eq_of_beq_eq_true hl
    subst hl
    rw [zXeq_eq he]
    exact zs_iconst _ hd rfl rfl
  · rename_i n
    rw [Bool.and_eq_true] at h
    obtain ⟨hl, he⟩ := h
    have hl := Nat.eq_of_beq_eq_true hl
    subst hl
    rw [zXeq_eq he]
    exact zs_bipush _ hd rfl rfl
  · rename_i n
    rw [Bool.and_eq_true] at h
    obtain ⟨hl, he⟩ := h
    have hl := Nat.eq_of_beq_eq_true hl
    subst hl
    rw [zXeq_eq he]
    exact zs_sipush _ hd rfl rfl
  · rename_i n
    rw [Bool.and_eq_true] at h
    obtain ⟨hl, he⟩ := h
    have hl := Nat.eq_of_beq_eq_true hl
    subst hl
    rw [zXeq_eq he]
    exact zs_lconst _ hd rfl rfl
  · rename_i k
    rw [Bool.and_eq_true, Bool.and_eq_true] at h
    obtain ⟨hl, c0, he⟩ := h
    have hl := Nat.eq_of_beq_eq_true hl
    subst hl
    rw [zXeq_eq he]
    exact zs_ldcw _ hd (zhas_in c0) rfl
  · rename_i k
    rw [Bool.and_eq_true, Bool.and_eq_true] at h
    obtain ⟨hl, c0, he⟩ := h
    have hl := Nat.eq_of_beq_eq_true hl
    subst hl
    rw [zXeq_eq he]
    exact zs_ldc2 _ hd (zhas_in c0) rfl
  · rename_i k
    rw [Bool.and_eq_true] at h
    obtain ⟨hl, he⟩ := h
    have hl := Nat.eq_of_beq_eq_true hl
    subst hl
    rw [zXeq_eq he]
    exact zs_iload hd
  · rename_i k
    rw [Bool.and_eq_true] at h
    obtain ⟨hl, he⟩ := h
    have hl := Nat.eq_of_beq_eq_true hl
    subst hl
    rw [zXeq_eq he]
    exact zs_iload_n hd rfl
  · rename_i k
    rw [Bool.and_eq_true] at h
    obtain ⟨hl, he⟩ := h
    have hl := Nat.eq_of_beq_eq_true hl
    subst hl
    rw [zXeq_eq he]
    exact zs_lload hd
  · rename_i k
    rw [Bool.and_eq_true] at h
    obtain ⟨hl, he⟩ := h
    have hl := Nat.eq_of_beq_eq_true hl
    subst hl
    rw [zXeq_eq he]
    exact zs_lload_n hd rfl
  · rename_i k
    rw [Bool.and_eq_true] at h
    obtain ⟨hl, he⟩ := h
    have hl := Nat.eq_of_beq_eq_true hl
    subst hl
    rw [zXeq_eq he]
    exact zs_aload hd
  · rename_i k
    rw [Bool.and_eq_true] at h
    obtain ⟨hl, he⟩ := h
    have hl := Nat.eq_of_beq_eq_true hl
    subst hl
    rw [zXeq_eq he]
    exact zs_aload_n hd rfl
  · rename_i k
    rw [Bool.and_eq_true, Bool.and_eq_true] at h
    obtain ⟨hl, c0, he⟩ := h
    have hl := Nat.eq_of_beq_eq_true hl
    subst hl
    rw [zXeq_eq he]
    exact zs_istore hd (Nat.le_of_ble_eq_true c0)
  · rename_i k
    rw [Bool.and_eq_true, Bool.and_eq_true] at h
    obtain ⟨hl, c0, he⟩ := h
    have hl := Nat.eq_of_beq_eq_true hl
    subst hl
    rw [zXeq_eq he]
    exact zs_istore_n hd rfl (Nat.le_of_ble_eq_true c0)
  · rename_i k
    rw [Bool.and_eq_true, Bool.and_eq_true] at h
    obtain ⟨hl, c0, he⟩ := h
    have hl := Nat.eq_of_beq_eq_true hl
    subst hl
    rw [zXeq_eq he]
    exact zs_astore hd (Nat.le_of_ble_eq_true c0)
  · rename_i k
    rw [Bool.and_eq_true, Bool.and_eq_true] at h
    obtain ⟨hl, c0, he⟩ := h
    have hl := Nat.eq_of_beq_eq_true hl
    subst hl
    rw [zXeq_eq he]
    exact zs_astore_n hd rfl (Nat.le_of_ble_eq_true c0)
  · rename_i k
    rw [Bool.and_eq_true, Bool.and_eq_true] at h
    obtain ⟨hl, c0, he⟩ := h
    have hl := Nat.eq_of_beq_eq_true hl
    subst hl
    rw [zXeq_eq he]
    exact zs_lstore hd (Nat.le_of_ble_eq_true c0)
  · rename_i k
    rw [Bool.and_eq_true, Bool.and_eq_true] at h
    obtain ⟨hl, c0, he⟩ := h
    have hl := Nat.eq_of_beq_eq_true hl
    subst hl
    rw [zXeq_eq he]
    exact zs_lstore_n hd rfl (Nat.le_of_ble_eq_true c0)
  · rename_i k n
    rw [Bool.and_eq_true, Bool.and_eq_true] at h
    obtain ⟨hl, c0, he⟩ := h
    have hl := Nat.eq_of_beq_eq_true hl
    subst hl
    rw [zXeq_eq he]
    exact zs_iinc _ hd rfl (Nat.le_of_ble_eq_true c0) rfl
  · rw [Bool.and_eq_true] at h
    obtain ⟨hl, he⟩ := h
    have hl := Nat.eq_of_beq_eq_true hl
    subst hl
    rw [zXeq_eq he]
    exact zs_ineg hd
  · rw [Bool.and_eq_true] at h
    obtain ⟨hl, he⟩ := h
    have hl := Nat.eq_of_beq_eq_true hl
    subst hl
    rw [zXeq_eq he]
    exact zs_i2b hd
  · rw [Bool.and_eq_true] at h
    obtain ⟨hl, he⟩ := h
    have hl := Nat.eq_of_beq_eq_true hl
    subst hl
    rw [zXeq_eq he]
    exact zs_i2s hd
  · rw [Bool.and_eq_true] at h
    obtain ⟨hl, he⟩ := h
    have hl := Nat.eq_of_beq_eq_true hl
    subst hl
    rw [zXeq_eq he]
    exact zs_iadd hd
  · rw [Bool.and_eq_true] at h
    obtain ⟨hl, he⟩ := h
    have hl := Nat.eq_of_beq_eq_true hl
    subst hl
    rw [zXeq_eq he]
    exact zs_isub hd
  · rw [Bool.and_eq_true] at h
    obtain ⟨hl, he⟩ := h
    have hl := Nat.eq_of_beq_eq_true hl
    subst hl
    rw [zXeq_eq he]
    exact zs_imul hd
  · rw [Bool.and_eq_true] at h
    obtain ⟨hl, he⟩ := h
    have hl := Nat.eq_of_beq_eq_true hl
    subst hl
    rw [zXeq_eq he]
    exact zs_iand hd
  · rw [Bool.and_eq_true] at h
    obtain ⟨hl, he⟩ := h
    have hl := Nat.eq_of_beq_eq_true hl
    subst hl
    rw [zXeq_eq he]
    exact zs_ior hd
  · rw [Bool.and_eq_true] at h
    obtain ⟨hl, he⟩ := h
    have hl := Nat.eq_of_beq_eq_true hl
    subst hl
    rw [zXeq_eq he]
    exact zs_ixor hd
  · rw [Bool.and_eq_true] at h
    obtain ⟨hl, he⟩ := h
    have hl := Nat.eq_of_beq_eq_true hl
    subst hl
    rw [zXeq_eq he]
    exact zs_ishl hd
  · rw [Bool.and_eq_true] at h
    obtain ⟨hl, he⟩ := h
    have hl := Nat.eq_of_beq_eq_true hl
    subst hl
    rw [zXeq_eq he]
    exact zs_ishr hd
  · rw [Bool.and_eq_true] at h
    obtain ⟨hl, he⟩ := h
    have hl := Nat.eq_of_beq_eq_true hl
    subst hl
    rw [zXeq_eq he]
    exact zs_iushr hd
  · rw [Bool.and_eq_true] at h
    obtain ⟨hl, he⟩ := h
    have hl := Nat.eq_of_beq_eq_true hl
    subst hl
    rw [zXeq_eq he]
    exact zs_idiv hd
  · rw [Bool.and_eq_true] at h
    obtain ⟨hl, he⟩ := h
    have hl := Nat.eq_of_beq_eq_true hl
    subst hl
    rw [zXeq_eq he]
    exact zs_irem hd
  · rw [Bool.and_eq_true] at h
    obtain ⟨hl, he⟩ := h
    have hl := Nat.eq_of_beq_eq_true hl
    subst hl
    rw [zXeq_eq he]
    exact zs_lneg hd
  · rw [Bool.and_eq_true] at h
    obtain ⟨hl, he⟩ := h
    have hl := Nat.eq_of_beq_eq_true hl
    subst hl
    rw [zXeq_eq he]
    exact zs_ladd hd
  · rw [Bool.and_eq_true] at h
    obtain ⟨hl, he⟩ := h
    have hl := Nat.eq_of_beq_eq_true hl
    subst hl
    rw [zXeq_eq he]
    exact zs_lsub hd
  · rw [Bool.and_eq_true] at h
    obtain ⟨hl, he⟩ := h
    have hl := Nat.eq_of_beq_eq_true hl
    subst hl
    rw [zXeq_eq he]
    exact zs_lmul hd
  · rw [Bool.and_eq_true] at h
    obtain ⟨hl, he⟩ := h
    have hl := Nat.eq_of_beq_eq_true hl
    subst hl
    rw [zXeq_eq he]
    exact zs_land hd
  · rw [Bool.and_eq_true] at h
    obtain ⟨hl, he⟩ := h
    have hl := Nat.eq_of_beq_eq_true hl
    subst hl
    rw [zXeq_eq he]
    exact zs_lor hd
  · rw [Bool.and_eq_true] at h
    obtain ⟨hl, he⟩ := h
    have hl := Nat.eq_of_beq_eq_true hl
    subst hl
    rw [zXeq_eq he]
    exact zs_lxor hd
  · rw [Bool.and_eq_true] at h
    obtain ⟨hl, he⟩ := h
    have hl := Nat.eq_of_beq_eq_true hl
    subst hl
    rw [zXeq_eq he]
    exact zs_ldiv hd
  · rw [Bool.and_eq_true] at h
    obtain ⟨hl, he⟩ := h
    have hl := Nat.eq_of_beq_eq_true hl
    subst hl
    rw [zXeq_eq he]
    exact zs_lrem hd
  · rw [Bool.and_eq_true] at h
    obtain ⟨hl, he⟩ := h
    have hl := Nat.eq_of_beq_eq_true hl
    subst hl
    rw [zXeq_eq he]
    exact zs_lshl hd
  · rw [Bool.and_eq_true] at h
    obtain ⟨hl, he⟩ := h
    have hl := Nat.eq_of_beq_eq_true hl
    subst hl
    rw [zXeq_eq he]
    exact zs_lushr hd
  · rw [Bool.and_eq_true] at h
    obtain ⟨hl, he⟩ := h
    have hl := Nat.eq_of_beq_eq_true hl
    subst hl
    rw [zXeq_eq he]
    exact zs_i2l hd
  · rw [Bool.and_eq_true] at h
    obtain ⟨hl, he⟩ := h
    have hl := Nat.eq_of_beq_eq_true hl
    subst hl
    rw [zXeq_eq he]
    exact zs_l2i hd
  · rw [Bool.and_eq_true] at h
    obtain ⟨hl, he⟩ := h
    have hl := Nat.eq_of_beq_eq_true hl
    subst hl
    rw [zXeq_eq he]
    exact zs_lcmp hd
  · rw [Bool.and_eq_true] at h
    obtain ⟨hl, he⟩ := h
    have hl := Nat.eq_of_beq_eq_true hl
    subst hl
    rw [zXeq_eq he]
    exact zs_pop hd
  · rw [Bool.and_eq_true] at h
    obtain ⟨hl, he⟩ := h
    have hl := Nat.eq_of_beq_eq_true hl
    subst hl
    rw [zXeq_eq he]
    exact zs_pop2 hd
  · rw [Bool.and_eq_true] at h
    obtain ⟨hl, he⟩ := h
    have hl := Nat.eq_of_beq_eq_true hl
    subst hl
    rw [zXeq_eq he]
    exact zs_dup hd
  · rename_i off
    rw [Bool.and_eq_true, Bool.and_eq_true] at h
    obtain ⟨hl, c0, he⟩ := h
    have hl := Nat.eq_of_beq_eq_true hl
    subst hl
    rw [zXeq_eq he]
    exact zs_goto _ hd (Int.toNat_of_nonneg (of_decide_eq_true c0)).symm
  · rename_i off
    rw [Bool.and_eq_true, Bool.and_eq_true] at h
    obtain ⟨hl, c0, he⟩ := h
    have hl := Nat.eq_of_beq_eq_true hl
    subst hl
    rw [zXeq_eq he]
    exact zs_if_eq _ hd (Int.toNat_of_nonneg (of_decide_eq_true c0)).symm
  · rename_i off
    rw [Bool.and_eq_true, Bool.and_eq_true] at h
    obtain ⟨hl, c0, he⟩ := h
    have hl := Nat.eq_of_beq_eq_true hl
    subst hl
    rw [zXeq_eq he]
    exact zs_icmp_eq _ hd (Int.toNat_of_nonneg (of_decide_eq_true c0)).symm
  · rename_i off
    rw [Bool.and_eq_true, Bool.and_eq_true] at h
    obtain ⟨hl, c0, he⟩ := h
    have hl := Nat.eq_of_beq_eq_true hl
    subst hl
    rw [zXeq_eq he]
    exact zs_if_ne _ hd (Int.toNat_of_nonneg (of_decide_eq_true c0)).symm
  · rename_i off
    rw [Bool.and_eq_true, Bool.and_eq_true] at h
    obtain ⟨hl, c0, he⟩ := h
    have hl := Nat.eq_of_beq_eq_true hl
    subst hl
    rw [zXeq_eq he]
    exact zs_icmp_ne _ hd (Int.toNat_of_nonneg (of_decide_eq_true c0)).symm
  · rename_i off
    rw [Bool.and_eq_true, Bool.and_eq_true] at h
    obtain ⟨hl, c0, he⟩ := h
    have hl := Nat.eq_of_beq_eq_true hl
    subst hl
    rw [zXeq_eq he]
    exact zs_if_lt _ hd (Int.toNat_of_nonneg (of_decide_eq_true c0)).symm
  · rename_i off
    rw [Bool.and_eq_true, Bool.and_eq_true] at h
    obtain ⟨hl, c0, he⟩ := h
    have hl := Nat.eq_of_beq_eq_true hl
    subst hl
    rw [zXeq_eq he]
    exact zs_icmp_lt _ hd (Int.toNat_of_nonneg (of_decide_eq_true c0)).symm
  · rename_i off
    rw [Bool.and_eq_true, Bool.and_eq_true] at h
    obtain ⟨hl, c0, he⟩ := h
    have hl := Nat.eq_of_beq_eq_true hl
    subst hl
    rw [zXeq_eq he]
    exact zs_if_ge _ hd (Int.toNat_of_nonneg (of_decide_eq_true c0)).symm
  · rename_i off
    rw [Bool.and_eq_true, Bool.and_eq_true] at h
    obtain ⟨hl, c0, he⟩ := h
    have hl := Nat.eq_of_beq_eq_true hl
    subst hl
    rw [zXeq_eq he]
    exact zs_icmp_ge _ hd (Int.toNat_of_nonneg (of_decide_eq_true c0)).symm
  · rename_i off
    rw [Bool.and_eq_true, Bool.and_eq_true] at h
    obtain ⟨hl, c0, he⟩ := h
    have hl := Nat.eq_of_beq_eq_true hl
    subst hl
    rw [zXeq_eq he]
    exact zs_if_gt _ hd (Int.toNat_of_nonneg (of_decide_eq_true c0)).symm
  · rename_i off
    rw [Bool.and_eq_true, Bool.and_eq_true] at h
    obtain ⟨hl, c0, he⟩ := h
    have hl := Nat.eq_of_beq_eq_true hl
    subst hl
    rw [zXeq_eq he]
    exact zs_icmp_gt _ hd (Int.toNat_of_nonneg (of_decide_eq_true c0)).symm
  · rename_i off
    rw [Bool.and_eq_true, Bool.and_eq_true] at h
    obtain ⟨hl, c0, he⟩ := h
    have hl := Nat.eq_of_beq_eq_true hl
    subst hl
    rw [zXeq_eq he]
    exact zs_if_le _ hd (Int.toNat_of_nonneg (of_decide_eq_true c0)).symm
  · rename_i off
    rw [Bool.and_eq_true, Bool.and_eq_true] at h
    obtain ⟨hl, c0, he⟩ := h
    have hl := Nat.eq_of_beq_eq_true hl
    subst hl
    rw [zXeq_eq he]
    exact zs_icmp_le _ hd (Int.toNat_of_nonneg (of_decide_eq_true c0)).symm
  · rename_i dflt lo hi offs
    rw [Bool.and_eq_true, Bool.and_eq_true, Bool.and_eq_true] at h
    obtain ⟨c0, c1, c2, he⟩ := h
    rw [zXeq_eq he]
    exact zs_tsw _ _ hd (Int.toNat_of_nonneg (of_decide_eq_true c0)).symm rfl (fun o ho => of_decide_eq_true (List.all_eq_true.mp c1 o ho)) (of_decide_eq_true c2)
  · rename_i dflt ps
    rw [Bool.and_eq_true, Bool.and_eq_true, Bool.and_eq_true] at h
    obtain ⟨c0, c1, c2, he⟩ := h
    rw [zXeq_eq he]
    exact zs_lsw _ _ hd c2 (Int.toNat_of_nonneg (of_decide_eq_true c0)).symm rfl (fun o ho => of_decide_eq_true (List.all_eq_true.mp c1 o ho))
  · rw [Bool.and_eq_true] at h
    obtain ⟨hl, he⟩ := h
    have hl := Nat.eq_of_beq_eq_true hl
    subst hl
    rw [zXeq_eq he]
    exact zs_iald hd
  · rw [Bool.and_eq_true] at h
    obtain ⟨hl, he⟩ := h
    have hl := Nat.eq_of_beq_eq_true hl
    subst hl
    rw [zXeq_eq he]
    exact zs_lald hd
  · rw [Bool.and_eq_true] at h
    obtain ⟨hl, he⟩ := h
    have hl := Nat.eq_of_beq_eq_true hl
    subst hl
    rw [zXeq_eq he]
    exact zs_aald hd
  · rw [Bool.and_eq_true] at h
    obtain ⟨hl, he⟩ := h
    have hl := Nat.eq_of_beq_eq_true hl
    subst hl
    rw [zXeq_eq he]
    exact zs_iast hd
  · rw [Bool.and_eq_true] at h
    obtain ⟨hl, he⟩ := h
    have hl := Nat.eq_of_beq_eq_true hl
    subst hl
    rw [zXeq_eq he]
    exact zs_last hd
  · rw [Bool.and_eq_true] at h
    obtain ⟨hl, he⟩ := h
    have hl := Nat.eq_of_beq_eq_true hl
    subst hl
    rw [zXeq_eq he]
    exact zs_alen hd
  · rw [Bool.and_eq_true, Bool.and_eq_true] at h
    obtain ⟨hl, c0, he⟩ := h
    have hl := Nat.eq_of_beq_eq_true hl
    subst hl
    rw [zXeq_eq he]
    exact zs_ret0 hd (of_decide_eq_true c0)
  · rw [Bool.and_eq_true, Bool.and_eq_true] at h
    obtain ⟨hl, c0, he⟩ := h
    have hl := Nat.eq_of_beq_eq_true hl
    subst hl
    rw [zXeq_eq he]
    exact zs_retl hd (of_decide_eq_true c0)
  · rw [Bool.and_eq_true, Bool.or_eq_true] at h
    have hl := Nat.eq_of_beq_eq_true h.1
    subst hl
    rcases h.2 with e | e
    · rw [zXeq_eq e]; exact zs_dup2 hd
    · rw [zXeq_eq e]; exact zs_dup2_l hd
  · rw [Bool.and_eq_true, Bool.or_eq_true] at h
    have hl := Nat.eq_of_beq_eq_true h.1
    subst hl
    rcases h.2 with e | e
    · rw [zXeq_eq e]; exact zs_bald hd
    · rw [zXeq_eq e]; exact zs_zald hd
  · rw [Bool.and_eq_true, Bool.or_eq_true] at h
    have hl := Nat.eq_of_beq_eq_true h.1
    subst hl
    rcases h.2 with e | e
    · rw [zXeq_eq e]; exact zs_bast hd
    · rw [zXeq_eq e]; exact zs_zast hd
  · rename_i k
    rw [Bool.and_eq_true, Bool.or_eq_true] at h
    have hl := Nat.eq_of_beq_eq_true h.1
    subst hl
    rcases h.2 with e | e
    · rw [Bool.and_eq_true] at e
      rw [zXeq_eq e.2]
      exact zs_ldc _ hd (zhas_in e.1) rfl
    · split at e
      · rename_i q hq
        rw [Bool.and_eq_true, Bool.and_eq_true] at e
        rw [zXeq_eq e.2.2]
        rw [x_nth_eq] at hq
        obtain ⟨q1, q2, q3⟩ := q
        have e1 := of_decide_eq_true e.1
        have e2 := of_decide_eq_true e.2.1
        dsimp only at e1 e2
        subst e2
        exact zs_ldcS hq e1.symm hd
      · cases e
  · rename_i k
    rw [Bool.and_eq_true] at h
    have hl := Nat.eq_of_beq_eq_true h.1
    subst hl
    have h := h.2
    split at h
    · rename_i q ty hq hty
      rw [x_nth_eq] at hq hty
      rw [Bool.and_eq_true, Bool.and_eq_true] at h
      obtain ⟨hN, hin, -, -⟩ := zcls hq hty
      rw [zXeq_eq h.2.2]
      exact zs_getf _ _ hN hd hq (Nat.le_of_ble_eq_true h.1) hin (zhas_in h.2.1)
    · cases h
  · rename_i k
    rw [Bool.and_eq_true] at h
    have hl := Nat.eq_of_beq_eq_true h.1
    subst hl
    have h := h.2
    split at h
    · rename_i q ty hq hty
      rw [x_nth_eq] at hq hty
      rw [Bool.and_eq_true, Bool.and_eq_true, Bool.and_eq_true, Bool.and_eq_true] at h
      obtain ⟨hN, hin, hty0, hnm⟩ := zcls hq hty
      rw [zXeq_eq h.2.2.2.2]
      exact zs_putf _ _ _ ty _ hN hd hq (Nat.le_of_ble_eq_true h.1) hin (zhas_in h.2.1) hty0 hnm rfl (of_decide_eq_true h.2.2.1) (of_decide_eq_true h.2.2.2.1)
    · cases h
  · rename_i k
    rw [Bool.and_eq_true, Bool.or_eq_true, Bool.and_eq_true, Bool.and_eq_true] at h
    have hl := Nat.eq_of_beq_eq_true h.1
    subst hl
    rcases h.2 with e | e
    · rw [zXeq_eq e.2]; exact zs_gets hd (by simp [xStat]) (zhas_in e.1)
    · rw [zXeq_eq e.2]; exact zs_gets hd (by simp [xStat]) (zhas_in e.1)
  · rw [Bool.and_eq_true] at h
    have hl := Nat.eq_of_beq_eq_true h.1
    subst hl
    have h := h.2
    split at h
    · rename_i ty hty
      rw [Bool.and_eq_true] at h
      rw [zXeq_eq h.2]
      exact zs_reti _ ty (of_decide_eq_true h.1) hd hty
    · cases h
  · rename_i k
    rw [Bool.and_eq_true, Bool.or_eq_true, Bool.or_eq_true, Bool.and_eq_true, Bool.and_eq_true] at h
    have hl := Nat.eq_of_beq_eq_true h.1
    subst hl
    rcases h.2 with h | h | h
    · split at h
      · rename_i y q hq
        rw [x_nth_eq] at hq
        obtain ⟨hm, m3⟩ := hM (y, q) (List.mem_of_getElem? hq)
        have hy : (MQ.map Prod.fst)[i.2.2.1]? = some y := by rw [List.getElem?_map, hq]; rfl
        rw [Bool.and_eq_true, Bool.and_eq_true] at h
        obtain ⟨hst, hw, he⟩ := h
        have hst : q.2.1 = false := by simpa using hst
        unfold zmchk at hm
        simp only [hst, Bool.and_eq_true] at hm
        obtain ⟨m1, m2, m4, m5, m6, m7, m8, m9, m10⟩ := hm
        rw [zXeq_eq he]
        split at m10
        · rename_i r hr
          rw [x_nth_eq] at hr
          obtain ⟨r1, r2, r3⟩ := r
          have hC := of_decide_eq_true m10
          dsimp only at hC
          exact zs_callV _ y hy (Nat.le_of_ble_eq_true m1) hd hC hr (zhas_in hw) (zhas_in m8) (by rw [← hC]; exact zhas_in m9) m3 (zhas_in m4) ⟨of_decide_eq_true m5, of_decide_eq_true m6, of_decide_eq_true m7⟩
        · cases m10
      · cases h
    · rw [zXeq_eq h.2]; exact zs_slen hd (zhas_in h.1)
    · rw [zXeq_eq h.2]; exact zs_char hd (zhas_in h.1)
  · rename_i k
    rw [Bool.and_eq_true, Bool.or_eq_true, Bool.or_eq_true, Bool.and_eq_true, Bool.or_eq_true, Bool.or_eq_true, Bool.or_eq_true, Bool.or_eq_true, Bool.and_eq_true, Bool.and_eq_true, Bool.and_eq_true, Bool.and_eq_true] at h
    have hl := Nat.eq_of_beq_eq_true h.1
    subst hl
    rcases h.2 with h | ⟨h, e⟩ | ((h | h) | h) | h
    · split at h
      · rename_i y q hq
        rw [x_nth_eq] at hq
        obtain ⟨hm, m3⟩ := hM (y, q) (List.mem_of_getElem? hq)
        have hy : (MQ.map Prod.fst)[i.2.2.1]? = some y := by rw [List.getElem?_map, hq]; rfl
        rw [Bool.and_eq_true, Bool.and_eq_true] at h
        obtain ⟨hst, hw, he⟩ := h
        unfold zmchk at hm
        simp only [hst, Bool.and_eq_true] at hm
        obtain ⟨m1, m2, m4, m5, m6, m7, m8⟩ := hm
        rw [zXeq_eq he]
        exact zs_callS y hy (Nat.le_of_ble_eq_true m1) hd (zhas_in hw) (zhas_in m8) m3 (zhas_in m4) ⟨of_decide_eq_true m5, of_decide_eq_true m6, of_decide_eq_true m7⟩
      · cases h
    · rcases e with e | e
      · rw [zXeq_eq e]; exact zs_copyi hd (zhas_in h) zw_nat zw_cps zw_sys
      · rw [zXeq_eq e]; exact zs_copyl hd (zhas_in h) zw_nat zw_cps zw_sys
    · rw [zXeq_eq h.2]; exact zs_mmax hd (zhas_in h.1) zw_maxs zw_mth zw_maxc
    · rw [zXeq_eq h.2]; exact zs_mmin hd (zhas_in h.1) zw_mins zw_mth zw_minc
    · rw [zXeq_eq h.2]; exact zs_mminl hd (zhas_in h.1) zw_minls zw_mth zw_minlc
    · rw [zXeq_eq h.2]; exact zs_mabsl hd (zhas_in h.1) zw_absls zw_mth zw_abslc
  · cases h
