theorem zs_slen {l : Launch} {P : zP} {M : List zY} {μ : zM} {pc index : Nat} (hd : decode μ.2.1 pc = .ok (.invokevirtual index, 3)) (hw1 : Cond.methodLink μ.1 index yJ0_length_8abf5 ∈ xTB) : zSim l P M μ pc (25, pc + 3, 0, 0, 0, []) := by
  intro p e s m args below meth c R Q d C hrm st o ho H locs cells slots ls stk J K
  obtain ⟨hx, hb, hml, hown, hts, hr, hlk⟩ := C
  obtain ⟨h, L, S0⟩ := st
  obtain ⟨jc, jg, ⟨lv, jl, jd⟩, jS, jx, jo, jk⟩ := J
  have ho : z_slen (zPD P) (pc + 3) (h, L, S0) = some o := ho
  unfold z_slen at ho
  split at ho
  · rename_i j S heq
    have heq : S0 = (3, j) :: S := heq
    split at ho
    · rename_i hA
      have ho := Option.some.inj ho
      subst ho
      subst heq
      match stk, jS with
      | v :: stk, ⟨dv, ds⟩ =>
        obtain ⟨k, hk, rfl⟩ : ∃ k : Nat, k < 2 ∧ j = ((k + 3 : Nat) : Int) := by
          rcases hA.1 with e | e
          · exact ⟨0, by omega, by omega⟩
          · exact ⟨1, by omega, by omega⟩
        have dv : v = .ref (P.2.1 (k + 3)) := dv
        subst dv
        obtain ⟨⟨adV, h1⟩, h2, h3, -⟩ := jx.2.2.2.2.1
        have hX : tX P adV s H := ⟨h1, h2, h3⟩
        have hgv : GoodIn xTB (wsV μ.1 index RJ0 yJ0_length_8abf5 wsJ0_length_8abf5) := xTB_good (fun w hw => by
          rcases List.mem_cons.mp hw with e | e
          · rw [e]; exact hw1
          · exact t_wlen w e)
        have f1 := hrm.1
        have f2 := hrm.2
        obtain ⟨cell, q1, q2, q3, -⟩ := (h1.1 k hk).1
        refine t_after (va_runV (C := RJ0) (b := P.2.1 (k + 3)) (As := []) (rest := stk) ⟨hx, hb, hml, hown, hts⟩ (t_length (adV := adV) hk) (cwV 0 hts hgv rfl rfl rfl ⟨rfl, by decide +kernel, by decide +kernel, by decide +kernel⟩ ⟨by show 1 + 1 ≤ R.frames; omega, by show 8 + (1 + 11) + 40 * 1 ≤ R.locals; omega⟩) ⟨tPc_blind _ _ _, ⟨cell, q1, q2, q3⟩, tPc_at hX⟩ rfl rfl jl.1 rfl (by rw [zsum_den ds]; show 2 * 0 + _ ≤ 8; omega) hd ⟨jc.1, jc.2⟩) ?_
        intro L2 hL2
        have b := tln_ok k hk
        refine K H (locs ++ L2) cells slots ls (.int (Int32.ofNat (zLen.getD k 0)) :: stk) ⟨jc, jg, ⟨lv, jl, jd⟩, ⟨⟨_, rfl, ?_⟩, ds⟩, jx, fun q hq => (List.mem_append.mp hq).elim (jo q) (hL2 q), jk⟩
        rw [z_ofNat (by omega), b.1]
        rfl
    · cases ho
  · cases ho
theorem zs_char {l : Launch} {P : zP} {M : List zY} {μ : zM} {pc index : Nat} (hd : decode μ.2.1 pc = .ok (.invokevirtual index, 3)) (hw1 : Cond.methodLink μ.1 index yJ0_charAt_5068e ∈ xTB) : zSim l P M μ pc (26, pc + 3, 0, 0, 0, []) := by
  intro p e s m args below meth c R Q d C hrm st o ho H locs cells slots ls stk J K
  obtain ⟨hx, hb, hml, hown, hts, hr, hlk⟩ := C
  obtain ⟨h, L, S0⟩ := st
  obtain ⟨jc, jg, ⟨lv, jl, jd⟩, jS, jx, jo, jk⟩ := J
  have ho : z_char (zPD P) (pc + 3) (h, L, S0) = some o := ho
  unfold z_char at ho
  split at ho
  · rename_i i j S heq
    have heq : S0 = (0, i) :: (3, j) :: S := heq
    split at ho
    · rename_i hA
      have ho := Option.some.inj ho
      subst ho
      subst heq
      match stk, jS with
      | vi :: v :: stk, ⟨⟨x, hvi, hxi⟩, dv, ds⟩ =>
        subst hvi
        obtain ⟨k, hk, rfl⟩ : ∃ k : Nat, k < 2 ∧ j = ((k + 3 : Nat) : Int) := by
          rcases hA.1 with e | e
          · exact ⟨0, by omega, by omega⟩
          · exact ⟨1, by omega, by omega⟩
        have dv : v = .ref (P.2.1 (k + 3)) := dv
        subst dv
        have b := tln_ok k hk
        have hi2 : i < ((zTx (k + 3)).length : Int) := hA.2.2.1
        have h0 : ¬ x < 0 := fun q => by
          have : x.toInt < (0 : Int32).toInt := Int32.lt_iff_toInt_lt.mp q
          have e0 : (0 : Int32).toInt = 0 := rfl
          omega
        have hn : x.toNatClampNeg = i.toNat := by
          show x.toInt.toNat = i.toNat
          rw [hxi]
        have hlt : x.toNatClampNeg < zLen.getD k 0 := by
          rw [hn, b.1]
          omega
        obtain ⟨⟨adV, h1⟩, h2, h3, -⟩ := jx.2.2.2.2.1
        have hX : tX P adV s H := ⟨h1, h2, h3⟩
        have hgv : GoodIn xTB (wsV μ.1 index RJ0 yJ0_charAt_5068e wsJ0_charAt_5068e) := xTB_good (fun w hw => by
          rcases List.mem_cons.mp hw with e | e
          · rw [e]; exact hw1
          · exact t_wchr w e)
        have f1 := hrm.1
        have f2 := hrm.2
        obtain ⟨cell, q1, q2, q3, -⟩ := (h1.1 k hk).1
        refine t_after (va_runV (C := RJ0) (b := P.2.1 (k + 3)) (As := [.int x]) (rest := stk) ⟨hx, hb, hml, hown, hts⟩ (t_char (adV := adV) hk h0 hlt) (cwV 1 hts hgv rfl rfl rfl ⟨rfl, by decide +kernel, by decide +kernel, by decide +kernel⟩ ⟨by show 3 + 1 ≤ R.frames; omega, by show 8 + (2 + 11) + 40 * 3 ≤ R.locals; omega⟩) ⟨tPc_blind _ _ _, ⟨cell, q1, q2, q3⟩, tPc_at hX⟩ rfl rfl jl.1 rfl (by rw [zsum_den ds]; show 2 * 0 + _ ≤ 8; omega) hd ⟨jc.1, jc.2⟩) ?_
        intro L2 hL2
        refine K H (locs ++ L2) cells slots ls (.int (tch k x.toNatClampNeg) :: stk) ⟨jc, jg, ⟨lv, jl, jd⟩, ⟨⟨_, rfl, ?_⟩, ds⟩, jx, fun q hq => (List.mem_append.mp hq).elim (jo q) (hL2 q), jk⟩
        rw [(tch_ok k hk _ hlt).2, hn]
        rfl
    · cases ho
  · cases ho
