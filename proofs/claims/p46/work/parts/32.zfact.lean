/-! printed: what is asked of each method once -/
def zAll (l : Launch) (P : zP) (M : List zY) (μ : zM) : Nat → List (Option zX) → Prop
  | _, [] => True
  | b, none :: t => zAll l P M μ (b + 1) t
  | b, some i :: t => zSim l P M μ b i ∧ zAll l P M μ (b + 1) t
def zAlls (l : Launch) (P : zP) (M : List zY) (μ : zM) : Nat → List (List (Option zX)) → Prop
  | _, [] => True
  | b, c :: t => zAll l P M μ b c ∧ zAlls l P M μ (b + 16) t
theorem zAll_get {l : Launch} {P : zP} {M : List zY} {μ : zM} : ∀ {c : List (Option zX)} {b j : Nat} {i : zX}, zAll l P M μ b c → c[j]? = some (some i) → zSim l P M μ (b + j) i
  | [], _, _, _, _, h => by simp at h
  | none :: t, b, 0, i, ha, h => by cases h
  | some r :: t, b, 0, i, ha, h => by cases h; exact ha.1
  | none :: t, b, j + 1, i, ha, h => by
    have := zAll_get (j := j) (b := b + 1) (c := t) ha h
    rwa [show b + (j + 1) = b + 1 + j by omega]
  | some r :: t, b, j + 1, i, ha, h => by
    have := zAll_get (j := j) (b := b + 1) (c := t) ha.2 h
    rwa [show b + (j + 1) = b + 1 + j by omega]
theorem zAlls_get {l : Launch} {P : zP} {M : List zY} {μ : zM} : ∀ {t : List (List (Option zX))} {b i j : Nat} {c : List (Option zX)} {x : zX}, zAlls l P M μ b t → t[i]? = some c → c[j]? = some (some x) → zSim l P M μ (b + 16 * i + j) x
  | [], _, _, _, _, _, _, h, _ => by simp at h
  | c :: t, b, 0, j, c', x, ha, h, hj => by cases h; exact zAll_get ha.1 hj
  | c :: t, b, i + 1, j, c', x, ha, h, hj => by
    have := zAlls_get (i := i) (b := b + 16) (t := t) ha.2 h hj
    rwa [show b + 16 * (i + 1) + j = b + 16 + 16 * i + j by omega]
theorem zTab_of {l : Launch} {P : zP} {M : List zY} {μ : zM} {t : List (List (Option zX))} (h : zAlls l P M μ 0 t) : ∀ pc i, z_at t pc = some i → zSim l P M μ pc i := by
  intro pc x hpc
  unfold z_at at hpc
  rw [x_nth_eq] at hpc
  match hc : t[Nat.div pc 16]?, hpc with
  | some c, hpc =>
    have hpc : (match x_nth c (Nat.mod pc 16) with
      | some r => r
      | none => none) = some x := hpc
    rw [x_nth_eq] at hpc
    match hj : c[Nat.mod pc 16]?, hpc with
    | some (some r), hpc =>
      cases hpc
      have := zAlls_get h hc hj
      rwa [show 0 + 16 * Nat.div pc 16 + Nat.mod pc 16 = pc from by show 0 + 16 * (pc / 16) + pc % 16 = pc; omega] at this
set_option maxRecDepth 100000 in
theorem m_J7_fill_53178 : zML[0]? = some q_J7_fill_53178 := rfl
theorem h_J7_fill_53178 : q_J7_fill_53178.1.cls ≠ "java/lang/invoke/MethodHandle" ∧ q_J7_fill_53178.1.cls ≠ "java/lang/invoke/VarHandle" ∧ (parseMethodDescriptor q_J7_fill_53178.1.desc).map (fun d => d.parameters.length) = some 2 := ⟨by decide +kernel, by decide +kernel, by decide +kernel⟩
theorem p_J7_fill_53178 : plainName q_J7_fill_53178.1.cls = true := by decide +kernel
set_option maxRecDepth 100000 in
theorem m_J7_fill_d0a16 : zML[1]? = some q_J7_fill_d0a16 := rfl
theorem h_J7_fill_d0a16 : q_J7_fill_d0a16.1.cls ≠ "java/lang/invoke/MethodHandle" ∧ q_J7_fill_d0a16.1.cls ≠ "java/lang/invoke/VarHandle" ∧ (parseMethodDescriptor q_J7_fill_d0a16.1.desc).map (fun d => d.parameters.length) = some 2 := ⟨by decide +kernel, by decide +kernel, by decide +kernel⟩
theorem p_J7_fill_d0a16 : plainName q_J7_fill_d0a16.1.cls = true := by decide +kernel
set_option maxRecDepth 100000 in
theorem m_J13_bitCount_95d88 : zML[2]? = some q_J13_bitCount_95d88 := rfl
theorem h_J13_bitCount_95d88 : q_J13_bitCount_95d88.1.cls ≠ "java/lang/invoke/MethodHandle" ∧ q_J13_bitCount_95d88.1.cls ≠ "java/lang/invoke/VarHandle" ∧ (parseMethodDescriptor q_J13_bitCount_95d88.1.desc).map (fun d => d.parameters.length) = some 1 := ⟨by decide +kernel, by decide +kernel, by decide +kernel⟩
theorem p_J13_bitCount_95d88 : plainName q_J13_bitCount_95d88.1.cls = true := by decide +kernel
set_option maxRecDepth 100000 in
theorem m_X0_come : zML[3]? = some q_X0_come := rfl
theorem h_X0_come : q_X0_come.1.cls ≠ "java/lang/invoke/MethodHandle" ∧ q_X0_come.1.cls ≠ "java/lang/invoke/VarHandle" ∧ (parseMethodDescriptor q_X0_come.1.desc).map (fun d => d.parameters.length) = some 2 := ⟨by decide +kernel, by decide +kernel, by decide +kernel⟩
theorem p_X0_come : plainName q_X0_come.1.cls = true := by decide +kernel
set_option maxRecDepth 100000 in
theorem m_X0_doorIn : zML[4]? = some q_X0_doorIn := rfl
theorem h_X0_doorIn : q_X0_doorIn.1.cls ≠ "java/lang/invoke/MethodHandle" ∧ q_X0_doorIn.1.cls ≠ "java/lang/invoke/VarHandle" ∧ (parseMethodDescriptor q_X0_doorIn.1.desc).map (fun d => d.parameters.length) = some 1 := ⟨by decide +kernel, by decide +kernel, by decide +kernel⟩
theorem p_X0_doorIn : plainName q_X0_doorIn.1.cls = true := by decide +kernel
set_option maxRecDepth 100000 in
theorem m_X0_doorOut : zML[5]? = some q_X0_doorOut := rfl
theorem h_X0_doorOut : q_X0_doorOut.1.cls ≠ "java/lang/invoke/MethodHandle" ∧ q_X0_doorOut.1.cls ≠ "java/lang/invoke/VarHandle" ∧ (parseMethodDescriptor q_X0_doorOut.1.desc).map (fun d => d.parameters.length) = some 1 := ⟨by decide +kernel, by decide +kernel, by decide +kernel⟩
theorem p_X0_doorOut : plainName q_X0_doorOut.1.cls = true := by decide +kernel
set_option maxRecDepth 100000 in
theorem m_X0_fewest : zML[6]? = some q_X0_fewest := rfl
theorem h_X0_fewest : q_X0_fewest.1.cls ≠ "java/lang/invoke/MethodHandle" ∧ q_X0_fewest.1.cls ≠ "java/lang/invoke/VarHandle" ∧ (parseMethodDescriptor q_X0_fewest.1.desc).map (fun d => d.parameters.length) = some 4 := ⟨by decide +kernel, by decide +kernel, by decide +kernel⟩
theorem p_X0_fewest : plainName q_X0_fewest.1.cls = true := by decide +kernel
set_option maxRecDepth 100000 in
theorem m_X0_findRow : zML[7]? = some q_X0_findRow := rfl
theorem h_X0_findRow : q_X0_findRow.1.cls ≠ "java/lang/invoke/MethodHandle" ∧ q_X0_findRow.1.cls ≠ "java/lang/invoke/VarHandle" ∧ (parseMethodDescriptor q_X0_findRow.1.desc).map (fun d => d.parameters.length) = some 0 := ⟨by decide +kernel, by decide +kernel, by decide +kernel⟩
theorem p_X0_findRow : plainName q_X0_findRow.1.cls = true := by decide +kernel
set_option maxRecDepth 100000 in
theorem m_X0_goIn : zML[8]? = some q_X0_goIn := rfl
theorem h_X0_goIn : q_X0_goIn.1.cls ≠ "java/lang/invoke/MethodHandle" ∧ q_X0_goIn.1.cls ≠ "java/lang/invoke/VarHandle" ∧ (parseMethodDescriptor q_X0_goIn.1.desc).map (fun d => d.parameters.length) = some 1 := ⟨by decide +kernel, by decide +kernel, by decide +kernel⟩
theorem p_X0_goIn : plainName q_X0_goIn.1.cls = true := by decide +kernel
set_option maxRecDepth 100000 in
theorem m_X0_goOut : zML[9]? = some q_X0_goOut := rfl
theorem h_X0_goOut : q_X0_goOut.1.cls ≠ "java/lang/invoke/MethodHandle" ∧ q_X0_goOut.1.cls ≠ "java/lang/invoke/VarHandle" ∧ (parseMethodDescriptor q_X0_goOut.1.desc).map (fun d => d.parameters.length) = some 1 := ⟨by decide +kernel, by decide +kernel, by decide +kernel⟩
theorem p_X0_goOut : plainName q_X0_goOut.1.cls = true := by decide +kernel
set_option maxRecDepth 100000 in
theorem m_X0_goesOn : zML[10]? = some q_X0_goesOn := rfl
theorem h_X0_goesOn : q_X0_goesOn.1.cls ≠ "java/lang/invoke/MethodHandle" ∧ q_X0_goesOn.1.cls ≠ "java/lang/invoke/VarHandle" ∧ (parseMethodDescriptor q_X0_goesOn.1.desc).map (fun d => d.parameters.length) = some 2 := ⟨by decide +kernel, by decide +kernel, by decide +kernel⟩
theorem p_X0_goesOn : plainName q_X0_goesOn.1.cls = true := by decide +kernel
set_option maxRecDepth 100000 in
theorem m_X0_isPassed : zML[11]? = some q_X0_isPassed := rfl
theorem h_X0_isPassed : q_X0_isPassed.1.cls ≠ "java/lang/invoke/MethodHandle" ∧ q_X0_isPassed.1.cls ≠ "java/lang/invoke/VarHandle" ∧ (parseMethodDescriptor q_X0_isPassed.1.desc).map (fun d => d.parameters.length) = some 1 := ⟨by decide +kernel, by decide +kernel, by decide +kernel⟩
theorem p_X0_isPassed : plainName q_X0_isPassed.1.cls = true := by decide +kernel
set_option maxRecDepth 100000 in
theorem m_X0_lay : zML[12]? = some q_X0_lay := rfl
theorem h_X0_lay : q_X0_lay.1.cls ≠ "java/lang/invoke/MethodHandle" ∧ q_X0_lay.1.cls ≠ "java/lang/invoke/VarHandle" ∧ (parseMethodDescriptor q_X0_lay.1.desc).map (fun d => d.parameters.length) = some 2 := ⟨by decide +kernel, by decide +kernel, by decide +kernel⟩
theorem p_X0_lay : plainName q_X0_lay.1.cls = true := by decide +kernel
set_option maxRecDepth 100000 in
theorem m_X0_layRow : zML[13]? = some q_X0_layRow := rfl
theorem h_X0_layRow : q_X0_layRow.1.cls ≠ "java/lang/invoke/MethodHandle" ∧ q_X0_layRow.1.cls ≠ "java/lang/invoke/VarHandle" ∧ (parseMethodDescriptor q_X0_layRow.1.desc).map (fun d => d.parameters.length) = some 0 := ⟨by decide +kernel, by decide +kernel, by decide +kernel⟩
theorem p_X0_layRow : plainName q_X0_layRow.1.cls = true := by decide +kernel
set_option maxRecDepth 100000 in
theorem m_X0_turned : zML[14]? = some q_X0_turned := rfl
theorem h_X0_turned : q_X0_turned.1.cls ≠ "java/lang/invoke/MethodHandle" ∧ q_X0_turned.1.cls ≠ "java/lang/invoke/VarHandle" ∧ (parseMethodDescriptor q_X0_turned.1.desc).map (fun d => d.parameters.length) = some 1 := ⟨by decide +kernel, by decide +kernel, by decide +kernel⟩
theorem p_X0_turned : plainName q_X0_turned.1.cls = true := by decide +kernel
set_option maxRecDepth 100000 in
theorem m_X1_choose : zML[15]? = some q_X1_choose := rfl
theorem h_X1_choose : q_X1_choose.1.cls ≠ "java/lang/invoke/MethodHandle" ∧ q_X1_choose.1.cls ≠ "java/lang/invoke/VarHandle" ∧ (parseMethodDescriptor q_X1_choose.1.desc).map (fun d => d.parameters.length) = some 1 := ⟨by decide +kernel, by decide +kernel, by decide +kernel⟩
theorem p_X1_choose : plainName q_X1_choose.1.cls = true := by decide +kernel
set_option maxRecDepth 100000 in
theorem m_X1_consider : zML[16]? = some q_X1_consider := rfl
theorem h_X1_consider : q_X1_consider.1.cls ≠ "java/lang/invoke/MethodHandle" ∧ q_X1_consider.1.cls ≠ "java/lang/invoke/VarHandle" ∧ (parseMethodDescriptor q_X1_consider.1.desc).map (fun d => d.parameters.length) = some 2 := ⟨by decide +kernel, by decide +kernel, by decide +kernel⟩
theorem p_X1_consider : plainName q_X1_consider.1.cls = true := by decide +kernel
set_option maxRecDepth 100000 in
theorem m_X1_dearestCell : zML[17]? = some q_X1_dearestCell := rfl
theorem h_X1_dearestCell : q_X1_dearestCell.1.cls ≠ "java/lang/invoke/MethodHandle" ∧ q_X1_dearestCell.1.cls ≠ "java/lang/invoke/VarHandle" ∧ (parseMethodDescriptor q_X1_dearestCell.1.desc).map (fun d => d.parameters.length) = some 0 := ⟨by decide +kernel, by decide +kernel, by decide +kernel⟩
theorem p_X1_dearestCell : plainName q_X1_dearestCell.1.cls = true := by decide +kernel
set_option maxRecDepth 100000 in
theorem m_X1_holds : zML[18]? = some q_X1_holds := rfl
theorem h_X1_holds : q_X1_holds.1.cls ≠ "java/lang/invoke/MethodHandle" ∧ q_X1_holds.1.cls ≠ "java/lang/invoke/VarHandle" ∧ (parseMethodDescriptor q_X1_holds.1.desc).map (fun d => d.parameters.length) = some 2 := ⟨by decide +kernel, by decide +kernel, by decide +kernel⟩
theorem p_X1_holds : plainName q_X1_holds.1.cls = true := by decide +kernel
set_option maxRecDepth 100000 in
theorem m_X1_lossBy : zML[19]? = some q_X1_lossBy := rfl
theorem h_X1_lossBy : q_X1_lossBy.1.cls ≠ "java/lang/invoke/MethodHandle" ∧ q_X1_lossBy.1.cls ≠ "java/lang/invoke/VarHandle" ∧ (parseMethodDescriptor q_X1_lossBy.1.desc).map (fun d => d.parameters.length) = some 1 := ⟨by decide +kernel, by decide +kernel, by decide +kernel⟩
theorem p_X1_lossBy : plainName q_X1_lossBy.1.cls = true := by decide +kernel
set_option maxRecDepth 100000 in
theorem m_X1_priceWithout : zML[20]? = some q_X1_priceWithout := rfl
theorem h_X1_priceWithout : q_X1_priceWithout.1.cls ≠ "java/lang/invoke/MethodHandle" ∧ q_X1_priceWithout.1.cls ≠ "java/lang/invoke/VarHandle" ∧ (parseMethodDescriptor q_X1_priceWithout.1.desc).map (fun d => d.parameters.length) = some 2 := ⟨by decide +kernel, by decide +kernel, by decide +kernel⟩
theorem p_X1_priceWithout : plainName q_X1_priceWithout.1.cls = true := by decide +kernel
set_option maxRecDepth 100000 in
theorem m_X1_priceWithoutBoth : zML[21]? = some q_X1_priceWithoutBoth := rfl
theorem h_X1_priceWithoutBoth : q_X1_priceWithoutBoth.1.cls ≠ "java/lang/invoke/MethodHandle" ∧ q_X1_priceWithoutBoth.1.cls ≠ "java/lang/invoke/VarHandle" ∧ (parseMethodDescriptor q_X1_priceWithoutBoth.1.desc).map (fun d => d.parameters.length) = some 3 := ⟨by decide +kernel, by decide +kernel, by decide +kernel⟩
theorem p_X1_priceWithoutBoth : plainName q_X1_priceWithoutBoth.1.cls = true := by decide +kernel
set_option maxRecDepth 100000 in
theorem m_X1_sitDown : zML[22]? = some q_X1_sitDown := rfl
theorem h_X1_sitDown : q_X1_sitDown.1.cls ≠ "java/lang/invoke/MethodHandle" ∧ q_X1_sitDown.1.cls ≠ "java/lang/invoke/VarHandle" ∧ (parseMethodDescriptor q_X1_sitDown.1.desc).map (fun d => d.parameters.length) = some 2 := ⟨by decide +kernel, by decide +kernel, by decide +kernel⟩
theorem p_X1_sitDown : plainName q_X1_sitDown.1.cls = true := by decide +kernel
set_option maxRecDepth 100000 in
theorem m_X1_slot : zML[23]? = some q_X1_slot := rfl
theorem h_X1_slot : q_X1_slot.1.cls ≠ "java/lang/invoke/MethodHandle" ∧ q_X1_slot.1.cls ≠ "java/lang/invoke/VarHandle" ∧ (parseMethodDescriptor q_X1_slot.1.desc).map (fun d => d.parameters.length) = some 2 := ⟨by decide +kernel, by decide +kernel, by decide +kernel⟩
theorem p_X1_slot : plainName q_X1_slot.1.cls = true := by decide +kernel
set_option maxRecDepth 100000 in
theorem m_X2_addCompany : zML[24]? = some q_X2_addCompany := rfl
theorem h_X2_addCompany : q_X2_addCompany.1.cls ≠ "java/lang/invoke/MethodHandle" ∧ q_X2_addCompany.1.cls ≠ "java/lang/invoke/VarHandle" ∧ (parseMethodDescriptor q_X2_addCompany.1.desc).map (fun d => d.parameters.length) = some 4 := ⟨by decide +kernel, by decide +kernel, by decide +kernel⟩
theorem p_X2_addCompany : plainName q_X2_addCompany.1.cls = true := by decide +kernel
set_option maxRecDepth 100000 in
theorem m_X2_becomeLike : zML[25]? = some q_X2_becomeLike := rfl
theorem h_X2_becomeLike : q_X2_becomeLike.1.cls ≠ "java/lang/invoke/MethodHandle" ∧ q_X2_becomeLike.1.cls ≠ "java/lang/invoke/VarHandle" ∧ (parseMethodDescriptor q_X2_becomeLike.1.desc).map (fun d => d.parameters.length) = some 1 := ⟨by decide +kernel, by decide +kernel, by decide +kernel⟩
theorem p_X2_becomeLike : plainName q_X2_becomeLike.1.cls = true := by decide +kernel
set_option maxRecDepth 100000 in
theorem m_X2_becomePlains : zML[26]? = some q_X2_becomePlains := rfl
theorem h_X2_becomePlains : q_X2_becomePlains.1.cls ≠ "java/lang/invoke/MethodHandle" ∧ q_X2_becomePlains.1.cls ≠ "java/lang/invoke/VarHandle" ∧ (parseMethodDescriptor q_X2_becomePlains.1.desc).map (fun d => d.parameters.length) = some 2 := ⟨by decide +kernel, by decide +kernel, by decide +kernel⟩
theorem p_X2_becomePlains : plainName q_X2_becomePlains.1.cls = true := by decide +kernel
set_option maxRecDepth 100000 in
theorem m_X2_beside : zML[27]? = some q_X2_beside := rfl
theorem h_X2_beside : q_X2_beside.1.cls ≠ "java/lang/invoke/MethodHandle" ∧ q_X2_beside.1.cls ≠ "java/lang/invoke/VarHandle" ∧ (parseMethodDescriptor q_X2_beside.1.desc).map (fun d => d.parameters.length) = some 2 := ⟨by decide +kernel, by decide +kernel, by decide +kernel⟩
theorem p_X2_beside : plainName q_X2_beside.1.cls = true := by decide +kernel
set_option maxRecDepth 100000 in
theorem m_X2_cellAt : zML[28]? = some q_X2_cellAt := rfl
theorem h_X2_cellAt : q_X2_cellAt.1.cls ≠ "java/lang/invoke/MethodHandle" ∧ q_X2_cellAt.1.cls ≠ "java/lang/invoke/VarHandle" ∧ (parseMethodDescriptor q_X2_cellAt.1.desc).map (fun d => d.parameters.length) = some 2 := ⟨by decide +kernel, by decide +kernel, by decide +kernel⟩
theorem p_X2_cellAt : plainName q_X2_cellAt.1.cls = true := by decide +kernel
set_option maxRecDepth 100000 in
theorem m_X2_cellsThatAre : zML[29]? = some q_X2_cellsThatAre := rfl
theorem h_X2_cellsThatAre : q_X2_cellsThatAre.1.cls ≠ "java/lang/invoke/MethodHandle" ∧ q_X2_cellsThatAre.1.cls ≠ "java/lang/invoke/VarHandle" ∧ (parseMethodDescriptor q_X2_cellsThatAre.1.desc).map (fun d => d.parameters.length) = some 2 := ⟨by decide +kernel, by decide +kernel, by decide +kernel⟩
theorem p_X2_cellsThatAre : plainName q_X2_cellsThatAre.1.cls = true := by decide +kernel
set_option maxRecDepth 100000 in
theorem m_X2_clear : zML[30]? = some q_X2_clear := rfl
theorem h_X2_clear : q_X2_clear.1.cls ≠ "java/lang/invoke/MethodHandle" ∧ q_X2_clear.1.cls ≠ "java/lang/invoke/VarHandle" ∧ (parseMethodDescriptor q_X2_clear.1.desc).map (fun d => d.parameters.length) = some 0 := ⟨by decide +kernel, by decide +kernel, by decide +kernel⟩
theorem p_X2_clear : plainName q_X2_clear.1.cls = true := by decide +kernel
set_option maxRecDepth 100000 in
theorem m_X2_companyNamed : zML[31]? = some q_X2_companyNamed := rfl
theorem h_X2_companyNamed : q_X2_companyNamed.1.cls ≠ "java/lang/invoke/MethodHandle" ∧ q_X2_companyNamed.1.cls ≠ "java/lang/invoke/VarHandle" ∧ (parseMethodDescriptor q_X2_companyNamed.1.desc).map (fun d => d.parameters.length) = some 1 := ⟨by decide +kernel, by decide +kernel, by decide +kernel⟩
theorem p_X2_companyNamed : plainName q_X2_companyNamed.1.cls = true := by decide +kernel
set_option maxRecDepth 100000 in
theorem m_X2_crumbsLeft : zML[32]? = some q_X2_crumbsLeft := rfl
theorem h_X2_crumbsLeft : q_X2_crumbsLeft.1.cls ≠ "java/lang/invoke/MethodHandle" ∧ q_X2_crumbsLeft.1.cls ≠ "java/lang/invoke/VarHandle" ∧ (parseMethodDescriptor q_X2_crumbsLeft.1.desc).map (fun d => d.parameters.length) = some 0 := ⟨by decide +kernel, by decide +kernel, by decide +kernel⟩
theorem p_X2_crumbsLeft : plainName q_X2_crumbsLeft.1.cls = true := by decide +kernel
set_option maxRecDepth 100000 in
theorem m_X2_crumbsOf : zML[33]? = some q_X2_crumbsOf := rfl
theorem h_X2_crumbsOf : q_X2_crumbsOf.1.cls ≠ "java/lang/invoke/MethodHandle" ∧ q_X2_crumbsOf.1.cls ≠ "java/lang/invoke/VarHandle" ∧ (parseMethodDescriptor q_X2_crumbsOf.1.desc).map (fun d => d.parameters.length) = some 1 := ⟨by decide +kernel, by decide +kernel, by decide +kernel⟩
theorem p_X2_crumbsOf : plainName q_X2_crumbsOf.1.cls = true := by decide +kernel
set_option maxRecDepth 100000 in
theorem m_X2_differences : zML[34]? = some q_X2_differences := rfl
theorem h_X2_differences : q_X2_differences.1.cls ≠ "java/lang/invoke/MethodHandle" ∧ q_X2_differences.1.cls ≠ "java/lang/invoke/VarHandle" ∧ (parseMethodDescriptor q_X2_differences.1.desc).map (fun d => d.parameters.length) = some 2 := ⟨by decide +kernel, by decide +kernel, by decide +kernel⟩
theorem p_X2_differences : plainName q_X2_differences.1.cls = true := by decide +kernel
set_option maxRecDepth 100000 in
theorem m_X2_eat : zML[35]? = some q_X2_eat := rfl
theorem h_X2_eat : q_X2_eat.1.cls ≠ "java/lang/invoke/MethodHandle" ∧ q_X2_eat.1.cls ≠ "java/lang/invoke/VarHandle" ∧ (parseMethodDescriptor q_X2_eat.1.desc).map (fun d => d.parameters.length) = some 2 := ⟨by decide +kernel, by decide +kernel, by decide +kernel⟩
theorem p_X2_eat : plainName q_X2_eat.1.cls = true := by decide +kernel
set_option maxRecDepth 100000 in
theorem m_X2_fitTogether : zML[36]? = some q_X2_fitTogether := rfl
theorem h_X2_fitTogether : q_X2_fitTogether.1.cls ≠ "java/lang/invoke/MethodHandle" ∧ q_X2_fitTogether.1.cls ≠ "java/lang/invoke/VarHandle" ∧ (parseMethodDescriptor q_X2_fitTogether.1.desc).map (fun d => d.parameters.length) = some 2 := ⟨by decide +kernel, by decide +kernel, by decide +kernel⟩
theorem p_X2_fitTogether : plainName q_X2_fitTogether.1.cls = true := by decide +kernel
set_option maxRecDepth 100000 in
theorem m_X2_fitting : zML[37]? = some q_X2_fitting := rfl
theorem h_X2_fitting : q_X2_fitting.1.cls ≠ "java/lang/invoke/MethodHandle" ∧ q_X2_fitting.1.cls ≠ "java/lang/invoke/VarHandle" ∧ (parseMethodDescriptor q_X2_fitting.1.desc).map (fun d => d.parameters.length) = some 3 := ⟨by decide +kernel, by decide +kernel, by decide +kernel⟩
theorem p_X2_fitting : plainName q_X2_fitting.1.cls = true := by decide +kernel
set_option maxRecDepth 100000 in
theorem m_X2_groundCost : zML[38]? = some q_X2_groundCost := rfl
theorem h_X2_groundCost : q_X2_groundCost.1.cls ≠ "java/lang/invoke/MethodHandle" ∧ q_X2_groundCost.1.cls ≠ "java/lang/invoke/VarHandle" ∧ (parseMethodDescriptor q_X2_groundCost.1.desc).map (fun d => d.parameters.length) = some 1 := ⟨by decide +kernel, by decide +kernel, by decide +kernel⟩
theorem p_X2_groundCost : plainName q_X2_groundCost.1.cls = true := by decide +kernel
set_option maxRecDepth 100000 in
theorem m_X2_growMould : zML[39]? = some q_X2_growMould := rfl
theorem h_X2_growMould : q_X2_growMould.1.cls ≠ "java/lang/invoke/MethodHandle" ∧ q_X2_growMould.1.cls ≠ "java/lang/invoke/VarHandle" ∧ (parseMethodDescriptor q_X2_growMould.1.desc).map (fun d => d.parameters.length) = some 2 := ⟨by decide +kernel, by decide +kernel, by decide +kernel⟩
theorem p_X2_growMould : plainName q_X2_growMould.1.cls = true := by decide +kernel
set_option maxRecDepth 100000 in
theorem m_X2_hasArrived : zML[40]? = some q_X2_hasArrived := rfl
theorem h_X2_hasArrived : q_X2_hasArrived.1.cls ≠ "java/lang/invoke/MethodHandle" ∧ q_X2_hasArrived.1.cls ≠ "java/lang/invoke/VarHandle" ∧ (parseMethodDescriptor q_X2_hasArrived.1.desc).map (fun d => d.parameters.length) = some 1 := ⟨by decide +kernel, by decide +kernel, by decide +kernel⟩
theorem p_X2_hasArrived : plainName q_X2_hasArrived.1.cls = true := by decide +kernel
set_option maxRecDepth 100000 in
theorem m_X2_hasCell : zML[41]? = some q_X2_hasCell := rfl
theorem h_X2_hasCell : q_X2_hasCell.1.cls ≠ "java/lang/invoke/MethodHandle" ∧ q_X2_hasCell.1.cls ≠ "java/lang/invoke/VarHandle" ∧ (parseMethodDescriptor q_X2_hasCell.1.desc).map (fun d => d.parameters.length) = some 2 := ⟨by decide +kernel, by decide +kernel, by decide +kernel⟩
theorem p_X2_hasCell : plainName q_X2_hasCell.1.cls = true := by decide +kernel
set_option maxRecDepth 100000 in
theorem m_X2_hasCompany : zML[42]? = some q_X2_hasCompany := rfl
theorem h_X2_hasCompany : q_X2_hasCompany.1.cls ≠ "java/lang/invoke/MethodHandle" ∧ q_X2_hasCompany.1.cls ≠ "java/lang/invoke/VarHandle" ∧ (parseMethodDescriptor q_X2_hasCompany.1.desc).map (fun d => d.parameters.length) = some 1 := ⟨by decide +kernel, by decide +kernel, by decide +kernel⟩
theorem p_X2_hasCompany : plainName q_X2_hasCompany.1.cls = true := by decide +kernel
set_option maxRecDepth 100000 in
theorem m_X2_hasCopy : zML[43]? = some q_X2_hasCopy := rfl
theorem h_X2_hasCopy : q_X2_hasCopy.1.cls ≠ "java/lang/invoke/MethodHandle" ∧ q_X2_hasCopy.1.cls ≠ "java/lang/invoke/VarHandle" ∧ (parseMethodDescriptor q_X2_hasCopy.1.desc).map (fun d => d.parameters.length) = some 1 := ⟨by decide +kernel, by decide +kernel, by decide +kernel⟩
theorem p_X2_hasCopy : plainName q_X2_hasCopy.1.cls = true := by decide +kernel
set_option maxRecDepth 100000 in
theorem m_X2_hasCopyCell : zML[44]? = some q_X2_hasCopyCell := rfl
theorem h_X2_hasCopyCell : q_X2_hasCopyCell.1.cls ≠ "java/lang/invoke/MethodHandle" ∧ q_X2_hasCopyCell.1.cls ≠ "java/lang/invoke/VarHandle" ∧ (parseMethodDescriptor q_X2_hasCopyCell.1.desc).map (fun d => d.parameters.length) = some 3 := ⟨by decide +kernel, by decide +kernel, by decide +kernel⟩
theorem p_X2_hasCopyCell : plainName q_X2_hasCopyCell.1.cls = true := by decide +kernel
set_option maxRecDepth 100000 in
theorem m_X2_heapFrom : zML[45]? = some q_X2_heapFrom := rfl
theorem h_X2_heapFrom : q_X2_heapFrom.1.cls ≠ "java/lang/invoke/MethodHandle" ∧ q_X2_heapFrom.1.cls ≠ "java/lang/invoke/VarHandle" ∧ (parseMethodDescriptor q_X2_heapFrom.1.desc).map (fun d => d.parameters.length) = some 2 := ⟨by decide +kernel, by decide +kernel, by decide +kernel⟩
theorem p_X2_heapFrom : plainName q_X2_heapFrom.1.cls = true := by decide +kernel
set_option maxRecDepth 100000 in
theorem m_X2_isCell : zML[46]? = some q_X2_isCell := rfl
theorem h_X2_isCell : q_X2_isCell.1.cls ≠ "java/lang/invoke/MethodHandle" ∧ q_X2_isCell.1.cls ≠ "java/lang/invoke/VarHandle" ∧ (parseMethodDescriptor q_X2_isCell.1.desc).map (fun d => d.parameters.length) = some 1 := ⟨by decide +kernel, by decide +kernel, by decide +kernel⟩
theorem p_X2_isCell : plainName q_X2_isCell.1.cls = true := by decide +kernel
set_option maxRecDepth 100000 in
theorem m_X2_isPassage : zML[47]? = some q_X2_isPassage := rfl
theorem h_X2_isPassage : q_X2_isPassage.1.cls ≠ "java/lang/invoke/MethodHandle" ∧ q_X2_isPassage.1.cls ≠ "java/lang/invoke/VarHandle" ∧ (parseMethodDescriptor q_X2_isPassage.1.desc).map (fun d => d.parameters.length) = some 1 := ⟨by decide +kernel, by decide +kernel, by decide +kernel⟩
theorem p_X2_isPassage : plainName q_X2_isPassage.1.cls = true := by decide +kernel
set_option maxRecDepth 100000 in
theorem m_X2_isWater : zML[48]? = some q_X2_isWater := rfl
theorem h_X2_isWater : q_X2_isWater.1.cls ≠ "java/lang/invoke/MethodHandle" ∧ q_X2_isWater.1.cls ≠ "java/lang/invoke/VarHandle" ∧ (parseMethodDescriptor q_X2_isWater.1.desc).map (fun d => d.parameters.length) = some 1 := ⟨by decide +kernel, by decide +kernel, by decide +kernel⟩
theorem p_X2_isWater : plainName q_X2_isWater.1.cls = true := by decide +kernel
set_option maxRecDepth 100000 in
theorem m_X2_largestHeap : zML[49]? = some q_X2_largestHeap := rfl
theorem h_X2_largestHeap : q_X2_largestHeap.1.cls ≠ "java/lang/invoke/MethodHandle" ∧ q_X2_largestHeap.1.cls ≠ "java/lang/invoke/VarHandle" ∧ (parseMethodDescriptor q_X2_largestHeap.1.desc).map (fun d => d.parameters.length) = some 1 := ⟨by decide +kernel, by decide +kernel, by decide +kernel⟩
theorem p_X2_largestHeap : plainName q_X2_largestHeap.1.cls = true := by decide +kernel
set_option maxRecDepth 100000 in
theorem m_X2_letterOf : zML[50]? = some q_X2_letterOf := rfl
theorem h_X2_letterOf : q_X2_letterOf.1.cls ≠ "java/lang/invoke/MethodHandle" ∧ q_X2_letterOf.1.cls ≠ "java/lang/invoke/VarHandle" ∧ (parseMethodDescriptor q_X2_letterOf.1.desc).map (fun d => d.parameters.length) = some 1 := ⟨by decide +kernel, by decide +kernel, by decide +kernel⟩
theorem p_X2_letterOf : plainName q_X2_letterOf.1.cls = true := by decide +kernel
set_option maxRecDepth 100000 in
theorem m_X2_numberOf : zML[51]? = some q_X2_numberOf := rfl
theorem h_X2_numberOf : q_X2_numberOf.1.cls ≠ "java/lang/invoke/MethodHandle" ∧ q_X2_numberOf.1.cls ≠ "java/lang/invoke/VarHandle" ∧ (parseMethodDescriptor q_X2_numberOf.1.desc).map (fun d => d.parameters.length) = some 1 := ⟨by decide +kernel, by decide +kernel, by decide +kernel⟩
theorem p_X2_numberOf : plainName q_X2_numberOf.1.cls = true := by decide +kernel
set_option maxRecDepth 100000 in
theorem m_X2_sendHome : zML[52]? = some q_X2_sendHome := rfl
theorem h_X2_sendHome : q_X2_sendHome.1.cls ≠ "java/lang/invoke/MethodHandle" ∧ q_X2_sendHome.1.cls ≠ "java/lang/invoke/VarHandle" ∧ (parseMethodDescriptor q_X2_sendHome.1.desc).map (fun d => d.parameters.length) = some 0 := ⟨by decide +kernel, by decide +kernel, by decide +kernel⟩
theorem p_X2_sendHome : plainName q_X2_sendHome.1.cls = true := by decide +kernel
set_option maxRecDepth 100000 in
theorem m_X2_shownCost : zML[53]? = some q_X2_shownCost := rfl
theorem h_X2_shownCost : q_X2_shownCost.1.cls ≠ "java/lang/invoke/MethodHandle" ∧ q_X2_shownCost.1.cls ≠ "java/lang/invoke/VarHandle" ∧ (parseMethodDescriptor q_X2_shownCost.1.desc).map (fun d => d.parameters.length) = some 2 := ⟨by decide +kernel, by decide +kernel, by decide +kernel⟩
theorem p_X2_shownCost : plainName q_X2_shownCost.1.cls = true := by decide +kernel
set_option maxRecDepth 100000 in
theorem m_X2_shownKind : zML[54]? = some q_X2_shownKind := rfl
theorem h_X2_shownKind : q_X2_shownKind.1.cls ≠ "java/lang/invoke/MethodHandle" ∧ q_X2_shownKind.1.cls ≠ "java/lang/invoke/VarHandle" ∧ (parseMethodDescriptor q_X2_shownKind.1.desc).map (fun d => d.parameters.length) = some 2 := ⟨by decide +kernel, by decide +kernel, by decide +kernel⟩
theorem p_X2_shownKind : plainName q_X2_shownKind.1.cls = true := by decide +kernel
set_option maxRecDepth 100000 in
theorem m_X2_spreadHoney : zML[55]? = some q_X2_spreadHoney := rfl
theorem h_X2_spreadHoney : q_X2_spreadHoney.1.cls ≠ "java/lang/invoke/MethodHandle" ∧ q_X2_spreadHoney.1.cls ≠ "java/lang/invoke/VarHandle" ∧ (parseMethodDescriptor q_X2_spreadHoney.1.desc).map (fun d => d.parameters.length) = some 2 := ⟨by decide +kernel, by decide +kernel, by decide +kernel⟩
theorem p_X2_spreadHoney : plainName q_X2_spreadHoney.1.cls = true := by decide +kernel
set_option maxRecDepth 100000 in
theorem m_X2_stateOf : zML[56]? = some q_X2_stateOf := rfl
theorem h_X2_stateOf : q_X2_stateOf.1.cls ≠ "java/lang/invoke/MethodHandle" ∧ q_X2_stateOf.1.cls ≠ "java/lang/invoke/VarHandle" ∧ (parseMethodDescriptor q_X2_stateOf.1.desc).map (fun d => d.parameters.length) = some 2 := ⟨by decide +kernel, by decide +kernel, by decide +kernel⟩
theorem p_X2_stateOf : plainName q_X2_stateOf.1.cls = true := by decide +kernel
set_option maxRecDepth 100000 in
theorem m_X2_steamOff : zML[57]? = some q_X2_steamOff := rfl
theorem h_X2_steamOff : q_X2_steamOff.1.cls ≠ "java/lang/invoke/MethodHandle" ∧ q_X2_steamOff.1.cls ≠ "java/lang/invoke/VarHandle" ∧ (parseMethodDescriptor q_X2_steamOff.1.desc).map (fun d => d.parameters.length) = some 2 := ⟨by decide +kernel, by decide +kernel, by decide +kernel⟩
theorem p_X2_steamOff : plainName q_X2_steamOff.1.cls = true := by decide +kernel
set_option maxRecDepth 100000 in
theorem m_X2_wipe : zML[58]? = some q_X2_wipe := rfl
theorem h_X2_wipe : q_X2_wipe.1.cls ≠ "java/lang/invoke/MethodHandle" ∧ q_X2_wipe.1.cls ≠ "java/lang/invoke/VarHandle" ∧ (parseMethodDescriptor q_X2_wipe.1.desc).map (fun d => d.parameters.length) = some 2 := ⟨by decide +kernel, by decide +kernel, by decide +kernel⟩
theorem p_X2_wipe : plainName q_X2_wipe.1.cls = true := by decide +kernel
set_option maxRecDepth 100000 in
theorem m_X2_xOf : zML[59]? = some q_X2_xOf := rfl
theorem h_X2_xOf : q_X2_xOf.1.cls ≠ "java/lang/invoke/MethodHandle" ∧ q_X2_xOf.1.cls ≠ "java/lang/invoke/VarHandle" ∧ (parseMethodDescriptor q_X2_xOf.1.desc).map (fun d => d.parameters.length) = some 1 := ⟨by decide +kernel, by decide +kernel, by decide +kernel⟩
theorem p_X2_xOf : plainName q_X2_xOf.1.cls = true := by decide +kernel
set_option maxRecDepth 100000 in
theorem m_X2_yOf : zML[60]? = some q_X2_yOf := rfl
theorem h_X2_yOf : q_X2_yOf.1.cls ≠ "java/lang/invoke/MethodHandle" ∧ q_X2_yOf.1.cls ≠ "java/lang/invoke/VarHandle" ∧ (parseMethodDescriptor q_X2_yOf.1.desc).map (fun d => d.parameters.length) = some 1 := ⟨by decide +kernel, by decide +kernel, by decide +kernel⟩
theorem p_X2_yOf : plainName q_X2_yOf.1.cls = true := by decide +kernel
set_option maxRecDepth 100000 in
theorem m_X3_readBy : zML[61]? = some q_X3_readBy := rfl
theorem h_X3_readBy : q_X3_readBy.1.cls ≠ "java/lang/invoke/MethodHandle" ∧ q_X3_readBy.1.cls ≠ "java/lang/invoke/VarHandle" ∧ (parseMethodDescriptor q_X3_readBy.1.desc).map (fun d => d.parameters.length) = some 0 := ⟨by decide +kernel, by decide +kernel, by decide +kernel⟩
theorem p_X3_readBy : plainName q_X3_readBy.1.cls = true := by decide +kernel
set_option maxRecDepth 100000 in
theorem m_X3_readCompany : zML[62]? = some q_X3_readCompany := rfl
theorem h_X3_readCompany : q_X3_readCompany.1.cls ≠ "java/lang/invoke/MethodHandle" ∧ q_X3_readCompany.1.cls ≠ "java/lang/invoke/VarHandle" ∧ (parseMethodDescriptor q_X3_readCompany.1.desc).map (fun d => d.parameters.length) = some 0 := ⟨by decide +kernel, by decide +kernel, by decide +kernel⟩
theorem p_X3_readCompany : plainName q_X3_readCompany.1.cls = true := by decide +kernel
set_option maxRecDepth 100000 in
theorem m_X3_readCopies : zML[63]? = some q_X3_readCopies := rfl
theorem h_X3_readCopies : q_X3_readCopies.1.cls ≠ "java/lang/invoke/MethodHandle" ∧ q_X3_readCopies.1.cls ≠ "java/lang/invoke/VarHandle" ∧ (parseMethodDescriptor q_X3_readCopies.1.desc).map (fun d => d.parameters.length) = some 0 := ⟨by decide +kernel, by decide +kernel, by decide +kernel⟩
theorem p_X3_readCopies : plainName q_X3_readCopies.1.cls = true := by decide +kernel
set_option maxRecDepth 100000 in
theorem m_X3_readLetters : zML[64]? = some q_X3_readLetters := rfl
theorem h_X3_readLetters : q_X3_readLetters.1.cls ≠ "java/lang/invoke/MethodHandle" ∧ q_X3_readLetters.1.cls ≠ "java/lang/invoke/VarHandle" ∧ (parseMethodDescriptor q_X3_readLetters.1.desc).map (fun d => d.parameters.length) = some 0 := ⟨by decide +kernel, by decide +kernel, by decide +kernel⟩
theorem p_X3_readLetters : plainName q_X3_readLetters.1.cls = true := by decide +kernel
set_option maxRecDepth 100000 in
theorem m_X3_readPart : zML[65]? = some q_X3_readPart := rfl
theorem h_X3_readPart : q_X3_readPart.1.cls ≠ "java/lang/invoke/MethodHandle" ∧ q_X3_readPart.1.cls ≠ "java/lang/invoke/VarHandle" ∧ (parseMethodDescriptor q_X3_readPart.1.desc).map (fun d => d.parameters.length) = some 0 := ⟨by decide +kernel, by decide +kernel, by decide +kernel⟩
theorem p_X3_readPart : plainName q_X3_readPart.1.cls = true := by decide +kernel
set_option maxRecDepth 100000 in
theorem m_X3_readRise : zML[66]? = some q_X3_readRise := rfl
theorem h_X3_readRise : q_X3_readRise.1.cls ≠ "java/lang/invoke/MethodHandle" ∧ q_X3_readRise.1.cls ≠ "java/lang/invoke/VarHandle" ∧ (parseMethodDescriptor q_X3_readRise.1.desc).map (fun d => d.parameters.length) = some 0 := ⟨by decide +kernel, by decide +kernel, by decide +kernel⟩
theorem p_X3_readRise : plainName q_X3_readRise.1.cls = true := by decide +kernel
set_option maxRecDepth 100000 in
theorem m_X3_readRows : zML[67]? = some q_X3_readRows := rfl
theorem h_X3_readRows : q_X3_readRows.1.cls ≠ "java/lang/invoke/MethodHandle" ∧ q_X3_readRows.1.cls ≠ "java/lang/invoke/VarHandle" ∧ (parseMethodDescriptor q_X3_readRows.1.desc).map (fun d => d.parameters.length) = some 0 := ⟨by decide +kernel, by decide +kernel, by decide +kernel⟩
theorem p_X3_readRows : plainName q_X3_readRows.1.cls = true := by decide +kernel
set_option maxRecDepth 100000 in
theorem m_X3_readText : zML[68]? = some q_X3_readText := rfl
theorem h_X3_readText : q_X3_readText.1.cls ≠ "java/lang/invoke/MethodHandle" ∧ q_X3_readText.1.cls ≠ "java/lang/invoke/VarHandle" ∧ (parseMethodDescriptor q_X3_readText.1.desc).map (fun d => d.parameters.length) = some 2 := ⟨by decide +kernel, by decide +kernel, by decide +kernel⟩
theorem p_X3_readText : plainName q_X3_readText.1.cls = true := by decide +kernel
set_option maxRecDepth 100000 in
theorem m_X3_readWide : zML[69]? = some q_X3_readWide := rfl
theorem h_X3_readWide : q_X3_readWide.1.cls ≠ "java/lang/invoke/MethodHandle" ∧ q_X3_readWide.1.cls ≠ "java/lang/invoke/VarHandle" ∧ (parseMethodDescriptor q_X3_readWide.1.desc).map (fun d => d.parameters.length) = some 0 := ⟨by decide +kernel, by decide +kernel, by decide +kernel⟩
theorem p_X3_readWide : plainName q_X3_readWide.1.cls = true := by decide +kernel
set_option maxRecDepth 100000 in
theorem m_X4_allWalks : zML[70]? = some q_X4_allWalks := rfl
theorem h_X4_allWalks : q_X4_allWalks.1.cls ≠ "java/lang/invoke/MethodHandle" ∧ q_X4_allWalks.1.cls ≠ "java/lang/invoke/VarHandle" ∧ (parseMethodDescriptor q_X4_allWalks.1.desc).map (fun d => d.parameters.length) = some 1 := ⟨by decide +kernel, by decide +kernel, by decide +kernel⟩
theorem p_X4_allWalks : plainName q_X4_allWalks.1.cls = true := by decide +kernel
set_option maxRecDepth 100000 in
theorem m_X4_cellsOnAllWalks : zML[71]? = some q_X4_cellsOnAllWalks := rfl
theorem h_X4_cellsOnAllWalks : q_X4_cellsOnAllWalks.1.cls ≠ "java/lang/invoke/MethodHandle" ∧ q_X4_cellsOnAllWalks.1.cls ≠ "java/lang/invoke/VarHandle" ∧ (parseMethodDescriptor q_X4_cellsOnAllWalks.1.desc).map (fun d => d.parameters.length) = some 3 := ⟨by decide +kernel, by decide +kernel, by decide +kernel⟩
theorem p_X4_cellsOnAllWalks : plainName q_X4_cellsOnAllWalks.1.cls = true := by decide +kernel
set_option maxRecDepth 100000 in
theorem m_X4_walkOn : zML[72]? = some q_X4_walkOn := rfl
theorem h_X4_walkOn : q_X4_walkOn.1.cls ≠ "java/lang/invoke/MethodHandle" ∧ q_X4_walkOn.1.cls ≠ "java/lang/invoke/VarHandle" ∧ (parseMethodDescriptor q_X4_walkOn.1.desc).map (fun d => d.parameters.length) = some 2 := ⟨by decide +kernel, by decide +kernel, by decide +kernel⟩
theorem p_X4_walkOn : plainName q_X4_walkOn.1.cls = true := by decide +kernel
set_option maxRecDepth 100000 in
theorem m_X4_walksThrough : zML[73]? = some q_X4_walksThrough := rfl
theorem h_X4_walksThrough : q_X4_walksThrough.1.cls ≠ "java/lang/invoke/MethodHandle" ∧ q_X4_walksThrough.1.cls ≠ "java/lang/invoke/VarHandle" ∧ (parseMethodDescriptor q_X4_walksThrough.1.desc).map (fun d => d.parameters.length) = some 4 := ⟨by decide +kernel, by decide +kernel, by decide +kernel⟩
theorem p_X4_walksThrough : plainName q_X4_walksThrough.1.cls = true := by decide +kernel
set_option maxRecDepth 100000 in
theorem m_X5_add : zML[74]? = some q_X5_add := rfl
theorem h_X5_add : q_X5_add.1.cls ≠ "java/lang/invoke/MethodHandle" ∧ q_X5_add.1.cls ≠ "java/lang/invoke/VarHandle" ∧ (parseMethodDescriptor q_X5_add.1.desc).map (fun d => d.parameters.length) = some 3 := ⟨by decide +kernel, by decide +kernel, by decide +kernel⟩
theorem p_X5_add : plainName q_X5_add.1.cls = true := by decide +kernel
set_option maxRecDepth 100000 in
theorem m_X5_addEnd : zML[75]? = some q_X5_addEnd := rfl
theorem h_X5_addEnd : q_X5_addEnd.1.cls ≠ "java/lang/invoke/MethodHandle" ∧ q_X5_addEnd.1.cls ≠ "java/lang/invoke/VarHandle" ∧ (parseMethodDescriptor q_X5_addEnd.1.desc).map (fun d => d.parameters.length) = some 1 := ⟨by decide +kernel, by decide +kernel, by decide +kernel⟩
theorem p_X5_addEnd : plainName q_X5_addEnd.1.cls = true := by decide +kernel
set_option maxRecDepth 100000 in
theorem m_X5_areThere : zML[76]? = some q_X5_areThere := rfl
theorem h_X5_areThere : q_X5_areThere.1.cls ≠ "java/lang/invoke/MethodHandle" ∧ q_X5_areThere.1.cls ≠ "java/lang/invoke/VarHandle" ∧ (parseMethodDescriptor q_X5_areThere.1.desc).map (fun d => d.parameters.length) = some 0 := ⟨by decide +kernel, by decide +kernel, by decide +kernel⟩
theorem p_X5_areThere : plainName q_X5_areThere.1.cls = true := by decide +kernel
set_option maxRecDepth 100000 in
theorem m_X5_becomeLike : zML[77]? = some q_X5_becomeLike := rfl
theorem h_X5_becomeLike : q_X5_becomeLike.1.cls ≠ "java/lang/invoke/MethodHandle" ∧ q_X5_becomeLike.1.cls ≠ "java/lang/invoke/VarHandle" ∧ (parseMethodDescriptor q_X5_becomeLike.1.desc).map (fun d => d.parameters.length) = some 1 := ⟨by decide +kernel, by decide +kernel, by decide +kernel⟩
theorem p_X5_becomeLike : plainName q_X5_becomeLike.1.cls = true := by decide +kernel
set_option maxRecDepth 100000 in
theorem m_X5_clear : zML[78]? = some q_X5_clear := rfl
theorem h_X5_clear : q_X5_clear.1.cls ≠ "java/lang/invoke/MethodHandle" ∧ q_X5_clear.1.cls ≠ "java/lang/invoke/VarHandle" ∧ (parseMethodDescriptor q_X5_clear.1.desc).map (fun d => d.parameters.length) = some 0 := ⟨by decide +kernel, by decide +kernel, by decide +kernel⟩
theorem p_X5_clear : plainName q_X5_clear.1.cls = true := by decide +kernel
set_option maxRecDepth 100000 in
theorem m_X5_forget : zML[79]? = some q_X5_forget := rfl
theorem h_X5_forget : q_X5_forget.1.cls ≠ "java/lang/invoke/MethodHandle" ∧ q_X5_forget.1.cls ≠ "java/lang/invoke/VarHandle" ∧ (parseMethodDescriptor q_X5_forget.1.desc).map (fun d => d.parameters.length) = some 0 := ⟨by decide +kernel, by decide +kernel, by decide +kernel⟩
theorem p_X5_forget : plainName q_X5_forget.1.cls = true := by decide +kernel
set_option maxRecDepth 100000 in
theorem m_X6_beginStep : zML[80]? = some q_X6_beginStep := rfl
theorem h_X6_beginStep : q_X6_beginStep.1.cls ≠ "java/lang/invoke/MethodHandle" ∧ q_X6_beginStep.1.cls ≠ "java/lang/invoke/VarHandle" ∧ (parseMethodDescriptor q_X6_beginStep.1.desc).map (fun d => d.parameters.length) = some 0 := ⟨by decide +kernel, by decide +kernel, by decide +kernel⟩
theorem p_X6_beginStep : plainName q_X6_beginStep.1.cls = true := by decide +kernel
set_option maxRecDepth 100000 in
theorem m_X6_mayBegin : zML[81]? = some q_X6_mayBegin := rfl
theorem h_X6_mayBegin : q_X6_mayBegin.1.cls ≠ "java/lang/invoke/MethodHandle" ∧ q_X6_mayBegin.1.cls ≠ "java/lang/invoke/VarHandle" ∧ (parseMethodDescriptor q_X6_mayBegin.1.desc).map (fun d => d.parameters.length) = some 0 := ⟨by decide +kernel, by decide +kernel, by decide +kernel⟩
theorem p_X6_mayBegin : plainName q_X6_mayBegin.1.cls = true := by decide +kernel
set_option maxRecDepth 100000 in
theorem m_X6_readCopyAnd : zML[82]? = some q_X6_readCopyAnd := rfl
theorem h_X6_readCopyAnd : q_X6_readCopyAnd.1.cls ≠ "java/lang/invoke/MethodHandle" ∧ q_X6_readCopyAnd.1.cls ≠ "java/lang/invoke/VarHandle" ∧ (parseMethodDescriptor q_X6_readCopyAnd.1.desc).map (fun d => d.parameters.length) = some 3 := ⟨by decide +kernel, by decide +kernel, by decide +kernel⟩
theorem p_X6_readCopyAnd : plainName q_X6_readCopyAnd.1.cls = true := by decide +kernel
set_option maxRecDepth 100000 in
theorem m_X6_readCopyCell : zML[83]? = some q_X6_readCopyCell := rfl
theorem h_X6_readCopyCell : q_X6_readCopyCell.1.cls ≠ "java/lang/invoke/MethodHandle" ∧ q_X6_readCopyCell.1.cls ≠ "java/lang/invoke/VarHandle" ∧ (parseMethodDescriptor q_X6_readCopyCell.1.desc).map (fun d => d.parameters.length) = some 1 := ⟨by decide +kernel, by decide +kernel, by decide +kernel⟩
theorem p_X6_readCopyCell : plainName q_X6_readCopyCell.1.cls = true := by decide +kernel
set_option maxRecDepth 100000 in
theorem m_X6_readCrumbs : zML[84]? = some q_X6_readCrumbs := rfl
theorem h_X6_readCrumbs : q_X6_readCrumbs.1.cls ≠ "java/lang/invoke/MethodHandle" ∧ q_X6_readCrumbs.1.cls ≠ "java/lang/invoke/VarHandle" ∧ (parseMethodDescriptor q_X6_readCrumbs.1.desc).map (fun d => d.parameters.length) = some 0 := ⟨by decide +kernel, by decide +kernel, by decide +kernel⟩
theorem p_X6_readCrumbs : plainName q_X6_readCrumbs.1.cls = true := by decide +kernel
set_option maxRecDepth 100000 in
theorem m_X6_readEnd : zML[85]? = some q_X6_readEnd := rfl
theorem h_X6_readEnd : q_X6_readEnd.1.cls ≠ "java/lang/invoke/MethodHandle" ∧ q_X6_readEnd.1.cls ≠ "java/lang/invoke/VarHandle" ∧ (parseMethodDescriptor q_X6_readEnd.1.desc).map (fun d => d.parameters.length) = some 0 := ⟨by decide +kernel, by decide +kernel, by decide +kernel⟩
theorem p_X6_readEnd : plainName q_X6_readEnd.1.cls = true := by decide +kernel
set_option maxRecDepth 100000 in
theorem m_X6_readName : zML[86]? = some q_X6_readName := rfl
theorem h_X6_readName : q_X6_readName.1.cls ≠ "java/lang/invoke/MethodHandle" ∧ q_X6_readName.1.cls ≠ "java/lang/invoke/VarHandle" ∧ (parseMethodDescriptor q_X6_readName.1.desc).map (fun d => d.parameters.length) = some 1 := ⟨by decide +kernel, by decide +kernel, by decide +kernel⟩
theorem p_X6_readName : plainName q_X6_readName.1.cls = true := by decide +kernel
set_option maxRecDepth 100000 in
theorem m_X6_readStep : zML[87]? = some q_X6_readStep := rfl
theorem h_X6_readStep : q_X6_readStep.1.cls ≠ "java/lang/invoke/MethodHandle" ∧ q_X6_readStep.1.cls ≠ "java/lang/invoke/VarHandle" ∧ (parseMethodDescriptor q_X6_readStep.1.desc).map (fun d => d.parameters.length) = some 1 := ⟨by decide +kernel, by decide +kernel, by decide +kernel⟩
theorem p_X6_readStep : plainName q_X6_readStep.1.cls = true := by decide +kernel
set_option maxRecDepth 100000 in
theorem m_X6_readText : zML[88]? = some q_X6_readText := rfl
theorem h_X6_readText : q_X6_readText.1.cls ≠ "java/lang/invoke/MethodHandle" ∧ q_X6_readText.1.cls ≠ "java/lang/invoke/VarHandle" ∧ (parseMethodDescriptor q_X6_readText.1.desc).map (fun d => d.parameters.length) = some 2 := ⟨by decide +kernel, by decide +kernel, by decide +kernel⟩
theorem p_X6_readText : plainName q_X6_readText.1.cls = true := by decide +kernel
set_option maxRecDepth 100000 in
theorem m_X6_readTwo : zML[89]? = some q_X6_readTwo := rfl
theorem h_X6_readTwo : q_X6_readTwo.1.cls ≠ "java/lang/invoke/MethodHandle" ∧ q_X6_readTwo.1.cls ≠ "java/lang/invoke/VarHandle" ∧ (parseMethodDescriptor q_X6_readTwo.1.desc).map (fun d => d.parameters.length) = some 3 := ⟨by decide +kernel, by decide +kernel, by decide +kernel⟩
theorem p_X6_readTwo : plainName q_X6_readTwo.1.cls = true := by decide +kernel
set_option maxRecDepth 100000 in
theorem m_X7_carryOut : zML[90]? = some q_X7_carryOut := rfl
theorem h_X7_carryOut : q_X7_carryOut.1.cls ≠ "java/lang/invoke/MethodHandle" ∧ q_X7_carryOut.1.cls ≠ "java/lang/invoke/VarHandle" ∧ (parseMethodDescriptor q_X7_carryOut.1.desc).map (fun d => d.parameters.length) = some 2 := ⟨by decide +kernel, by decide +kernel, by decide +kernel⟩
theorem p_X7_carryOut : plainName q_X7_carryOut.1.cls = true := by decide +kernel
set_option maxRecDepth 100000 in
theorem m_X7_comeToEnd : zML[91]? = some q_X7_comeToEnd := rfl
theorem h_X7_comeToEnd : q_X7_comeToEnd.1.cls ≠ "java/lang/invoke/MethodHandle" ∧ q_X7_comeToEnd.1.cls ≠ "java/lang/invoke/VarHandle" ∧ (parseMethodDescriptor q_X7_comeToEnd.1.desc).map (fun d => d.parameters.length) = some 0 := ⟨by decide +kernel, by decide +kernel, by decide +kernel⟩
theorem p_X7_comeToEnd : plainName q_X7_comeToEnd.1.cls = true := by decide +kernel
set_option maxRecDepth 100000 in
theorem m_X7_doStep : zML[92]? = some q_X7_doStep := rfl
theorem h_X7_doStep : q_X7_doStep.1.cls ≠ "java/lang/invoke/MethodHandle" ∧ q_X7_doStep.1.cls ≠ "java/lang/invoke/VarHandle" ∧ (parseMethodDescriptor q_X7_doStep.1.desc).map (fun d => d.parameters.length) = some 0 := ⟨by decide +kernel, by decide +kernel, by decide +kernel⟩
theorem p_X7_doStep : plainName q_X7_doStep.1.cls = true := by decide +kernel
set_option maxRecDepth 100000 in
theorem m_X7_drawBy : zML[93]? = some q_X7_drawBy := rfl
theorem h_X7_drawBy : q_X7_drawBy.1.cls ≠ "java/lang/invoke/MethodHandle" ∧ q_X7_drawBy.1.cls ≠ "java/lang/invoke/VarHandle" ∧ (parseMethodDescriptor q_X7_drawBy.1.desc).map (fun d => d.parameters.length) = some 1 := ⟨by decide +kernel, by decide +kernel, by decide +kernel⟩
theorem p_X7_drawBy : plainName q_X7_drawBy.1.cls = true := by decide +kernel
set_option maxRecDepth 100000 in
theorem m_X7_drawCell : zML[94]? = some q_X7_drawCell := rfl
theorem h_X7_drawCell : q_X7_drawCell.1.cls ≠ "java/lang/invoke/MethodHandle" ∧ q_X7_drawCell.1.cls ≠ "java/lang/invoke/VarHandle" ∧ (parseMethodDescriptor q_X7_drawCell.1.desc).map (fun d => d.parameters.length) = some 0 := ⟨by decide +kernel, by decide +kernel, by decide +kernel⟩
theorem p_X7_drawCell : plainName q_X7_drawCell.1.cls = true := by decide +kernel
set_option maxRecDepth 100000 in
theorem m_X7_eatCell : zML[95]? = some q_X7_eatCell := rfl
theorem h_X7_eatCell : q_X7_eatCell.1.cls ≠ "java/lang/invoke/MethodHandle" ∧ q_X7_eatCell.1.cls ≠ "java/lang/invoke/VarHandle" ∧ (parseMethodDescriptor q_X7_eatCell.1.desc).map (fun d => d.parameters.length) = some 2 := ⟨by decide +kernel, by decide +kernel, by decide +kernel⟩
theorem p_X7_eatCell : plainName q_X7_eatCell.1.cls = true := by decide +kernel
set_option maxRecDepth 100000 in
theorem m_X7_goMarching : zML[96]? = some q_X7_goMarching := rfl
theorem h_X7_goMarching : q_X7_goMarching.1.cls ≠ "java/lang/invoke/MethodHandle" ∧ q_X7_goMarching.1.cls ≠ "java/lang/invoke/VarHandle" ∧ (parseMethodDescriptor q_X7_goMarching.1.desc).map (fun d => d.parameters.length) = some 1 := ⟨by decide +kernel, by decide +kernel, by decide +kernel⟩
theorem p_X7_goMarching : plainName q_X7_goMarching.1.cls = true := by decide +kernel
set_option maxRecDepth 100000 in
theorem m_X7_isSo : zML[97]? = some q_X7_isSo := rfl
theorem h_X7_isSo : q_X7_isSo.1.cls ≠ "java/lang/invoke/MethodHandle" ∧ q_X7_isSo.1.cls ≠ "java/lang/invoke/VarHandle" ∧ (parseMethodDescriptor q_X7_isSo.1.desc).map (fun d => d.parameters.length) = some 1 := ⟨by decide +kernel, by decide +kernel, by decide +kernel⟩
theorem p_X7_isSo : plainName q_X7_isSo.1.cls = true := by decide +kernel
set_option maxRecDepth 100000 in
theorem m_X7_letMouseWalk : zML[98]? = some q_X7_letMouseWalk := rfl
theorem h_X7_letMouseWalk : q_X7_letMouseWalk.1.cls ≠ "java/lang/invoke/MethodHandle" ∧ q_X7_letMouseWalk.1.cls ≠ "java/lang/invoke/VarHandle" ∧ (parseMethodDescriptor q_X7_letMouseWalk.1.desc).map (fun d => d.parameters.length) = some 2 := ⟨by decide +kernel, by decide +kernel, by decide +kernel⟩
theorem p_X7_letMouseWalk : plainName q_X7_letMouseWalk.1.cls = true := by decide +kernel
set_option maxRecDepth 100000 in
theorem m_X7_missUnless : zML[99]? = some q_X7_missUnless := rfl
theorem h_X7_missUnless : q_X7_missUnless.1.cls ≠ "java/lang/invoke/MethodHandle" ∧ q_X7_missUnless.1.cls ≠ "java/lang/invoke/VarHandle" ∧ (parseMethodDescriptor q_X7_missUnless.1.desc).map (fun d => d.parameters.length) = some 1 := ⟨by decide +kernel, by decide +kernel, by decide +kernel⟩
theorem p_X7_missUnless : plainName q_X7_missUnless.1.cls = true := by decide +kernel
set_option maxRecDepth 100000 in
theorem m_X8_advance : zML[100]? = some q_X8_advance := rfl
theorem h_X8_advance : q_X8_advance.1.cls ≠ "java/lang/invoke/MethodHandle" ∧ q_X8_advance.1.cls ≠ "java/lang/invoke/VarHandle" ∧ (parseMethodDescriptor q_X8_advance.1.desc).map (fun d => d.parameters.length) = some 0 := ⟨by decide +kernel, by decide +kernel, by decide +kernel⟩
theorem p_X8_advance : plainName q_X8_advance.1.cls = true := by decide +kernel
set_option maxRecDepth 100000 in
theorem m_X8_append : zML[101]? = some q_X8_append := rfl
theorem h_X8_append : q_X8_append.1.cls ≠ "java/lang/invoke/MethodHandle" ∧ q_X8_append.1.cls ≠ "java/lang/invoke/VarHandle" ∧ (parseMethodDescriptor q_X8_append.1.desc).map (fun d => d.parameters.length) = some 1 := ⟨by decide +kernel, by decide +kernel, by decide +kernel⟩
theorem p_X8_append : plainName q_X8_append.1.cls = true := by decide +kernel
set_option maxRecDepth 100000 in
theorem m_X8_beginText : zML[102]? = some q_X8_beginText := rfl
theorem h_X8_beginText : q_X8_beginText.1.cls ≠ "java/lang/invoke/MethodHandle" ∧ q_X8_beginText.1.cls ≠ "java/lang/invoke/VarHandle" ∧ (parseMethodDescriptor q_X8_beginText.1.desc).map (fun d => d.parameters.length) = some 1 := ⟨by decide +kernel, by decide +kernel, by decide +kernel⟩
theorem p_X8_beginText : plainName q_X8_beginText.1.cls = true := by decide +kernel
set_option maxRecDepth 100000 in
theorem m_X8_blame : zML[103]? = some q_X8_blame := rfl
theorem h_X8_blame : q_X8_blame.1.cls ≠ "java/lang/invoke/MethodHandle" ∧ q_X8_blame.1.cls ≠ "java/lang/invoke/VarHandle" ∧ (parseMethodDescriptor q_X8_blame.1.desc).map (fun d => d.parameters.length) = some 1 := ⟨by decide +kernel, by decide +kernel, by decide +kernel⟩
theorem p_X8_blame : plainName q_X8_blame.1.cls = true := by decide +kernel
set_option maxRecDepth 100000 in
theorem m_X8_byteHere : zML[104]? = some q_X8_byteHere := rfl
theorem h_X8_byteHere : q_X8_byteHere.1.cls ≠ "java/lang/invoke/MethodHandle" ∧ q_X8_byteHere.1.cls ≠ "java/lang/invoke/VarHandle" ∧ (parseMethodDescriptor q_X8_byteHere.1.desc).map (fun d => d.parameters.length) = some 1 := ⟨by decide +kernel, by decide +kernel, by decide +kernel⟩
theorem p_X8_byteHere : plainName q_X8_byteHere.1.cls = true := by decide +kernel
set_option maxRecDepth 100000 in
theorem m_X8_finishText : zML[105]? = some q_X8_finishText := rfl
theorem h_X8_finishText : q_X8_finishText.1.cls ≠ "java/lang/invoke/MethodHandle" ∧ q_X8_finishText.1.cls ≠ "java/lang/invoke/VarHandle" ∧ (parseMethodDescriptor q_X8_finishText.1.desc).map (fun d => d.parameters.length) = some 0 := ⟨by decide +kernel, by decide +kernel, by decide +kernel⟩
theorem p_X8_finishText : plainName q_X8_finishText.1.cls = true := by decide +kernel
set_option maxRecDepth 100000 in
theorem m_X8_hasRoom : zML[106]? = some q_X8_hasRoom := rfl
theorem h_X8_hasRoom : q_X8_hasRoom.1.cls ≠ "java/lang/invoke/MethodHandle" ∧ q_X8_hasRoom.1.cls ≠ "java/lang/invoke/VarHandle" ∧ (parseMethodDescriptor q_X8_hasRoom.1.desc).map (fun d => d.parameters.length) = some 0 := ⟨by decide +kernel, by decide +kernel, by decide +kernel⟩
theorem p_X8_hasRoom : plainName q_X8_hasRoom.1.cls = true := by decide +kernel
set_option maxRecDepth 100000 in
theorem m_X8_isBlank : zML[107]? = some q_X8_isBlank := rfl
theorem h_X8_isBlank : q_X8_isBlank.1.cls ≠ "java/lang/invoke/MethodHandle" ∧ q_X8_isBlank.1.cls ≠ "java/lang/invoke/VarHandle" ∧ (parseMethodDescriptor q_X8_isBlank.1.desc).map (fun d => d.parameters.length) = some 1 := ⟨by decide +kernel, by decide +kernel, by decide +kernel⟩
theorem p_X8_isBlank : plainName q_X8_isBlank.1.cls = true := by decide +kernel
set_option maxRecDepth 100000 in
theorem m_X8_isCompare : zML[108]? = some q_X8_isCompare := rfl
theorem h_X8_isCompare : q_X8_isCompare.1.cls ≠ "java/lang/invoke/MethodHandle" ∧ q_X8_isCompare.1.cls ≠ "java/lang/invoke/VarHandle" ∧ (parseMethodDescriptor q_X8_isCompare.1.desc).map (fun d => d.parameters.length) = some 1 := ⟨by decide +kernel, by decide +kernel, by decide +kernel⟩
theorem p_X8_isCompare : plainName q_X8_isCompare.1.cls = true := by decide +kernel
set_option maxRecDepth 100000 in
theorem m_X8_isDigit : zML[109]? = some q_X8_isDigit := rfl
theorem h_X8_isDigit : q_X8_isDigit.1.cls ≠ "java/lang/invoke/MethodHandle" ∧ q_X8_isDigit.1.cls ≠ "java/lang/invoke/VarHandle" ∧ (parseMethodDescriptor q_X8_isDigit.1.desc).map (fun d => d.parameters.length) = some 1 := ⟨by decide +kernel, by decide +kernel, by decide +kernel⟩
theorem p_X8_isDigit : plainName q_X8_isDigit.1.cls = true := by decide +kernel
set_option maxRecDepth 100000 in
theorem m_X8_isEnd : zML[110]? = some q_X8_isEnd := rfl
theorem h_X8_isEnd : q_X8_isEnd.1.cls ≠ "java/lang/invoke/MethodHandle" ∧ q_X8_isEnd.1.cls ≠ "java/lang/invoke/VarHandle" ∧ (parseMethodDescriptor q_X8_isEnd.1.desc).map (fun d => d.parameters.length) = some 0 := ⟨by decide +kernel, by decide +kernel, by decide +kernel⟩
theorem p_X8_isEnd : plainName q_X8_isEnd.1.cls = true := by decide +kernel
set_option maxRecDepth 100000 in
theorem m_X8_isLetter : zML[111]? = some q_X8_isLetter := rfl
theorem h_X8_isLetter : q_X8_isLetter.1.cls ≠ "java/lang/invoke/MethodHandle" ∧ q_X8_isLetter.1.cls ≠ "java/lang/invoke/VarHandle" ∧ (parseMethodDescriptor q_X8_isLetter.1.desc).map (fun d => d.parameters.length) = some 1 := ⟨by decide +kernel, by decide +kernel, by decide +kernel⟩
theorem p_X8_isLetter : plainName q_X8_isLetter.1.cls = true := by decide +kernel
set_option maxRecDepth 100000 in
theorem m_X8_isName : zML[112]? = some q_X8_isName := rfl
theorem h_X8_isName : q_X8_isName.1.cls ≠ "java/lang/invoke/MethodHandle" ∧ q_X8_isName.1.cls ≠ "java/lang/invoke/VarHandle" ∧ (parseMethodDescriptor q_X8_isName.1.desc).map (fun d => d.parameters.length) = some 0 := ⟨by decide +kernel, by decide +kernel, by decide +kernel⟩
theorem p_X8_isName : plainName q_X8_isName.1.cls = true := by decide +kernel
set_option maxRecDepth 100000 in
theorem m_X8_isSign : zML[113]? = some q_X8_isSign := rfl
theorem h_X8_isSign : q_X8_isSign.1.cls ≠ "java/lang/invoke/MethodHandle" ∧ q_X8_isSign.1.cls ≠ "java/lang/invoke/VarHandle" ∧ (parseMethodDescriptor q_X8_isSign.1.desc).map (fun d => d.parameters.length) = some 1 := ⟨by decide +kernel, by decide +kernel, by decide +kernel⟩
theorem p_X8_isSign : plainName q_X8_isSign.1.cls = true := by decide +kernel
set_option maxRecDepth 100000 in
theorem m_X8_isWord : zML[114]? = some q_X8_isWord := rfl
theorem h_X8_isWord : q_X8_isWord.1.cls ≠ "java/lang/invoke/MethodHandle" ∧ q_X8_isWord.1.cls ≠ "java/lang/invoke/VarHandle" ∧ (parseMethodDescriptor q_X8_isWord.1.desc).map (fun d => d.parameters.length) = some 1 := ⟨by decide +kernel, by decide +kernel, by decide +kernel⟩
theorem p_X8_isWord : plainName q_X8_isWord.1.cls = true := by decide +kernel
set_option maxRecDepth 100000 in
theorem m_X8_isWordOf : zML[115]? = some q_X8_isWordOf := rfl
theorem h_X8_isWordOf : q_X8_isWordOf.1.cls ≠ "java/lang/invoke/MethodHandle" ∧ q_X8_isWordOf.1.cls ≠ "java/lang/invoke/VarHandle" ∧ (parseMethodDescriptor q_X8_isWordOf.1.desc).map (fun d => d.parameters.length) = some 1 := ⟨by decide +kernel, by decide +kernel, by decide +kernel⟩
theorem p_X8_isWordOf : plainName q_X8_isWordOf.1.cls = true := by decide +kernel
set_option maxRecDepth 100000 in
theorem m_X8_nameHere : zML[116]? = some q_X8_nameHere := rfl
theorem h_X8_nameHere : q_X8_nameHere.1.cls ≠ "java/lang/invoke/MethodHandle" ∧ q_X8_nameHere.1.cls ≠ "java/lang/invoke/VarHandle" ∧ (parseMethodDescriptor q_X8_nameHere.1.desc).map (fun d => d.parameters.length) = some 0 := ⟨by decide +kernel, by decide +kernel, by decide +kernel⟩
theorem p_X8_nameHere : plainName q_X8_nameHere.1.cls = true := by decide +kernel
set_option maxRecDepth 100000 in
theorem m_X8_reservedIndex : zML[117]? = some q_X8_reservedIndex := rfl
theorem h_X8_reservedIndex : q_X8_reservedIndex.1.cls ≠ "java/lang/invoke/MethodHandle" ∧ q_X8_reservedIndex.1.cls ≠ "java/lang/invoke/VarHandle" ∧ (parseMethodDescriptor q_X8_reservedIndex.1.desc).map (fun d => d.parameters.length) = some 2 := ⟨by decide +kernel, by decide +kernel, by decide +kernel⟩
theorem p_X8_reservedIndex : plainName q_X8_reservedIndex.1.cls = true := by decide +kernel
set_option maxRecDepth 100000 in
theorem m_X8_scanNumber : zML[118]? = some q_X8_scanNumber := rfl
theorem h_X8_scanNumber : q_X8_scanNumber.1.cls ≠ "java/lang/invoke/MethodHandle" ∧ q_X8_scanNumber.1.cls ≠ "java/lang/invoke/VarHandle" ∧ (parseMethodDescriptor q_X8_scanNumber.1.desc).map (fun d => d.parameters.length) = some 2 := ⟨by decide +kernel, by decide +kernel, by decide +kernel⟩
theorem p_X8_scanNumber : plainName q_X8_scanNumber.1.cls = true := by decide +kernel
set_option maxRecDepth 100000 in
theorem m_X8_scanToken : zML[119]? = some q_X8_scanToken := rfl
theorem h_X8_scanToken : q_X8_scanToken.1.cls ≠ "java/lang/invoke/MethodHandle" ∧ q_X8_scanToken.1.cls ≠ "java/lang/invoke/VarHandle" ∧ (parseMethodDescriptor q_X8_scanToken.1.desc).map (fun d => d.parameters.length) = some 3 := ⟨by decide +kernel, by decide +kernel, by decide +kernel⟩
theorem p_X8_scanToken : plainName q_X8_scanToken.1.cls = true := by decide +kernel
set_option maxRecDepth 100000 in
theorem m_X8_scanWord : zML[120]? = some q_X8_scanWord := rfl
theorem h_X8_scanWord : q_X8_scanWord.1.cls ≠ "java/lang/invoke/MethodHandle" ∧ q_X8_scanWord.1.cls ≠ "java/lang/invoke/VarHandle" ∧ (parseMethodDescriptor q_X8_scanWord.1.desc).map (fun d => d.parameters.length) = some 2 := ⟨by decide +kernel, by decide +kernel, by decide +kernel⟩
theorem p_X8_scanWord : plainName q_X8_scanWord.1.cls = true := by decide +kernel
set_option maxRecDepth 100000 in
theorem m_X8_takeCell : zML[121]? = some q_X8_takeCell := rfl
theorem h_X8_takeCell : q_X8_takeCell.1.cls ≠ "java/lang/invoke/MethodHandle" ∧ q_X8_takeCell.1.cls ≠ "java/lang/invoke/VarHandle" ∧ (parseMethodDescriptor q_X8_takeCell.1.desc).map (fun d => d.parameters.length) = some 1 := ⟨by decide +kernel, by decide +kernel, by decide +kernel⟩
theorem p_X8_takeCell : plainName q_X8_takeCell.1.cls = true := by decide +kernel
set_option maxRecDepth 100000 in
theorem m_X8_takeCompare : zML[122]? = some q_X8_takeCompare := rfl
theorem h_X8_takeCompare : q_X8_takeCompare.1.cls ≠ "java/lang/invoke/MethodHandle" ∧ q_X8_takeCompare.1.cls ≠ "java/lang/invoke/VarHandle" ∧ (parseMethodDescriptor q_X8_takeCompare.1.desc).map (fun d => d.parameters.length) = some 0 := ⟨by decide +kernel, by decide +kernel, by decide +kernel⟩
theorem p_X8_takeCompare : plainName q_X8_takeCompare.1.cls = true := by decide +kernel
set_option maxRecDepth 100000 in
theorem m_X8_takeNumber : zML[123]? = some q_X8_takeNumber := rfl
theorem h_X8_takeNumber : q_X8_takeNumber.1.cls ≠ "java/lang/invoke/MethodHandle" ∧ q_X8_takeNumber.1.cls ≠ "java/lang/invoke/VarHandle" ∧ (parseMethodDescriptor q_X8_takeNumber.1.desc).map (fun d => d.parameters.length) = some 2 := ⟨by decide +kernel, by decide +kernel, by decide +kernel⟩
theorem p_X8_takeNumber : plainName q_X8_takeNumber.1.cls = true := by decide +kernel
set_option maxRecDepth 100000 in
theorem m_X8_takeStop : zML[124]? = some q_X8_takeStop := rfl
theorem h_X8_takeStop : q_X8_takeStop.1.cls ≠ "java/lang/invoke/MethodHandle" ∧ q_X8_takeStop.1.cls ≠ "java/lang/invoke/VarHandle" ∧ (parseMethodDescriptor q_X8_takeStop.1.desc).map (fun d => d.parameters.length) = some 0 := ⟨by decide +kernel, by decide +kernel, by decide +kernel⟩
theorem p_X8_takeStop : plainName q_X8_takeStop.1.cls = true := by decide +kernel
set_option maxRecDepth 100000 in
theorem m_X8_takeWord : zML[125]? = some q_X8_takeWord := rfl
theorem h_X8_takeWord : q_X8_takeWord.1.cls ≠ "java/lang/invoke/MethodHandle" ∧ q_X8_takeWord.1.cls ≠ "java/lang/invoke/VarHandle" ∧ (parseMethodDescriptor q_X8_takeWord.1.desc).map (fun d => d.parameters.length) = some 1 := ⟨by decide +kernel, by decide +kernel, by decide +kernel⟩
theorem p_X8_takeWord : plainName q_X8_takeWord.1.cls = true := by decide +kernel
set_option maxRecDepth 100000 in
theorem m_X8_wordHere : zML[126]? = some q_X8_wordHere := rfl
theorem h_X8_wordHere : q_X8_wordHere.1.cls ≠ "java/lang/invoke/MethodHandle" ∧ q_X8_wordHere.1.cls ≠ "java/lang/invoke/VarHandle" ∧ (parseMethodDescriptor q_X8_wordHere.1.desc).map (fun d => d.parameters.length) = some 0 := ⟨by decide +kernel, by decide +kernel, by decide +kernel⟩
theorem p_X8_wordHere : plainName q_X8_wordHere.1.cls = true := by decide +kernel
set_option maxRecDepth 100000 in
theorem m_X9_becomeZeros : zML[127]? = some q_X9_becomeZeros := rfl
theorem h_X9_becomeZeros : q_X9_becomeZeros.1.cls ≠ "java/lang/invoke/MethodHandle" ∧ q_X9_becomeZeros.1.cls ≠ "java/lang/invoke/VarHandle" ∧ (parseMethodDescriptor q_X9_becomeZeros.1.desc).map (fun d => d.parameters.length) = some 2 := ⟨by decide +kernel, by decide +kernel, by decide +kernel⟩
theorem p_X9_becomeZeros : plainName q_X9_becomeZeros.1.cls = true := by decide +kernel
set_option maxRecDepth 100000 in
theorem m_X9_cutToSort : zML[128]? = some q_X9_cutToSort := rfl
theorem h_X9_cutToSort : q_X9_cutToSort.1.cls ≠ "java/lang/invoke/MethodHandle" ∧ q_X9_cutToSort.1.cls ≠ "java/lang/invoke/VarHandle" ∧ (parseMethodDescriptor q_X9_cutToSort.1.desc).map (fun d => d.parameters.length) = some 1 := ⟨by decide +kernel, by decide +kernel, by decide +kernel⟩
theorem p_X9_cutToSort : plainName q_X9_cutToSort.1.cls = true := by decide +kernel
set_option maxRecDepth 100000 in
theorem m_X9_hasPlaces : zML[129]? = some q_X9_hasPlaces := rfl
theorem h_X9_hasPlaces : q_X9_hasPlaces.1.cls ≠ "java/lang/invoke/MethodHandle" ∧ q_X9_hasPlaces.1.cls ≠ "java/lang/invoke/VarHandle" ∧ (parseMethodDescriptor q_X9_hasPlaces.1.desc).map (fun d => d.parameters.length) = some 2 := ⟨by decide +kernel, by decide +kernel, by decide +kernel⟩
theorem p_X9_hasPlaces : plainName q_X9_hasPlaces.1.cls = true := by decide +kernel
set_option maxRecDepth 100000 in
theorem m_X9_isMissing : zML[130]? = some q_X9_isMissing := rfl
theorem h_X9_isMissing : q_X9_isMissing.1.cls ≠ "java/lang/invoke/MethodHandle" ∧ q_X9_isMissing.1.cls ≠ "java/lang/invoke/VarHandle" ∧ (parseMethodDescriptor q_X9_isMissing.1.desc).map (fun d => d.parameters.length) = some 0 := ⟨by decide +kernel, by decide +kernel, by decide +kernel⟩
theorem p_X9_isMissing : plainName q_X9_isMissing.1.cls = true := by decide +kernel
set_option maxRecDepth 100000 in
theorem m_X9_isSort : zML[131]? = some q_X9_isSort := rfl
theorem h_X9_isSort : q_X9_isSort.1.cls ≠ "java/lang/invoke/MethodHandle" ∧ q_X9_isSort.1.cls ≠ "java/lang/invoke/VarHandle" ∧ (parseMethodDescriptor q_X9_isSort.1.desc).map (fun d => d.parameters.length) = some 1 := ⟨by decide +kernel, by decide +kernel, by decide +kernel⟩
theorem p_X9_isSort : plainName q_X9_isSort.1.cls = true := by decide +kernel
set_option maxRecDepth 100000 in
theorem m_X10_findWay : zML[132]? = some q_X10_findWay := rfl
theorem h_X10_findWay : q_X10_findWay.1.cls ≠ "java/lang/invoke/MethodHandle" ∧ q_X10_findWay.1.cls ≠ "java/lang/invoke/VarHandle" ∧ (parseMethodDescriptor q_X10_findWay.1.desc).map (fun d => d.parameters.length) = some 2 := ⟨by decide +kernel, by decide +kernel, by decide +kernel⟩
theorem p_X10_findWay : plainName q_X10_findWay.1.cls = true := by decide +kernel
set_option maxRecDepth 100000 in
theorem m_X10_lead : zML[133]? = some q_X10_lead := rfl
theorem h_X10_lead : q_X10_lead.1.cls ≠ "java/lang/invoke/MethodHandle" ∧ q_X10_lead.1.cls ≠ "java/lang/invoke/VarHandle" ∧ (parseMethodDescriptor q_X10_lead.1.desc).map (fun d => d.parameters.length) = some 2 := ⟨by decide +kernel, by decide +kernel, by decide +kernel⟩
theorem p_X10_lead : plainName q_X10_lead.1.cls = true := by decide +kernel
set_option maxRecDepth 100000 in
theorem m_X10_lookAt : zML[134]? = some q_X10_lookAt := rfl
theorem h_X10_lookAt : q_X10_lookAt.1.cls ≠ "java/lang/invoke/MethodHandle" ∧ q_X10_lookAt.1.cls ≠ "java/lang/invoke/VarHandle" ∧ (parseMethodDescriptor q_X10_lookAt.1.desc).map (fun d => d.parameters.length) = some 2 := ⟨by decide +kernel, by decide +kernel, by decide +kernel⟩
theorem p_X10_lookAt : plainName q_X10_lookAt.1.cls = true := by decide +kernel
set_option maxRecDepth 100000 in
theorem m_X10_lookAtGround : zML[135]? = some q_X10_lookAtGround := rfl
theorem h_X10_lookAtGround : q_X10_lookAtGround.1.cls ≠ "java/lang/invoke/MethodHandle" ∧ q_X10_lookAtGround.1.cls ≠ "java/lang/invoke/VarHandle" ∧ (parseMethodDescriptor q_X10_lookAtGround.1.desc).map (fun d => d.parameters.length) = some 1 := ⟨by decide +kernel, by decide +kernel, by decide +kernel⟩
theorem p_X10_lookAtGround : plainName q_X10_lookAtGround.1.cls = true := by decide +kernel
set_option maxRecDepth 100000 in
theorem m_X10_measure : zML[136]? = some q_X10_measure := rfl
theorem h_X10_measure : q_X10_measure.1.cls ≠ "java/lang/invoke/MethodHandle" ∧ q_X10_measure.1.cls ≠ "java/lang/invoke/VarHandle" ∧ (parseMethodDescriptor q_X10_measure.1.desc).map (fun d => d.parameters.length) = some 3 := ⟨by decide +kernel, by decide +kernel, by decide +kernel⟩
theorem p_X10_measure : plainName q_X10_measure.1.cls = true := by decide +kernel
set_option maxRecDepth 100000 in
theorem m_X10_reachCell : zML[137]? = some q_X10_reachCell := rfl
theorem h_X10_reachCell : q_X10_reachCell.1.cls ≠ "java/lang/invoke/MethodHandle" ∧ q_X10_reachCell.1.cls ≠ "java/lang/invoke/VarHandle" ∧ (parseMethodDescriptor q_X10_reachCell.1.desc).map (fun d => d.parameters.length) = some 2 := ⟨by decide +kernel, by decide +kernel, by decide +kernel⟩
theorem p_X10_reachCell : plainName q_X10_reachCell.1.cls = true := by decide +kernel
set_option maxRecDepth 100000 in
theorem m_X10_retrace : zML[138]? = some q_X10_retrace := rfl
theorem h_X10_retrace : q_X10_retrace.1.cls ≠ "java/lang/invoke/MethodHandle" ∧ q_X10_retrace.1.cls ≠ "java/lang/invoke/VarHandle" ∧ (parseMethodDescriptor q_X10_retrace.1.desc).map (fun d => d.parameters.length) = some 2 := ⟨by decide +kernel, by decide +kernel, by decide +kernel⟩
theorem p_X10_retrace : plainName q_X10_retrace.1.cls = true := by decide +kernel
set_option maxRecDepth 100000 in
theorem m_X10_trace : zML[139]? = some q_X10_trace := rfl
theorem h_X10_trace : q_X10_trace.1.cls ≠ "java/lang/invoke/MethodHandle" ∧ q_X10_trace.1.cls ≠ "java/lang/invoke/VarHandle" ∧ (parseMethodDescriptor q_X10_trace.1.desc).map (fun d => d.parameters.length) = some 3 := ⟨by decide +kernel, by decide +kernel, by decide +kernel⟩
theorem p_X10_trace : plainName q_X10_trace.1.cls = true := by decide +kernel
set_option maxRecDepth 100000 in
theorem m_X10_trueCost : zML[140]? = some q_X10_trueCost := rfl
theorem h_X10_trueCost : q_X10_trueCost.1.cls ≠ "java/lang/invoke/MethodHandle" ∧ q_X10_trueCost.1.cls ≠ "java/lang/invoke/VarHandle" ∧ (parseMethodDescriptor q_X10_trueCost.1.desc).map (fun d => d.parameters.length) = some 1 := ⟨by decide +kernel, by decide +kernel, by decide +kernel⟩
theorem p_X10_trueCost : plainName q_X10_trueCost.1.cls = true := by decide +kernel
set_option maxRecDepth 100000 in
theorem m_X11_accept : zML[141]? = some q_X11_accept := rfl
theorem h_X11_accept : q_X11_accept.1.cls ≠ "java/lang/invoke/MethodHandle" ∧ q_X11_accept.1.cls ≠ "java/lang/invoke/VarHandle" ∧ (parseMethodDescriptor q_X11_accept.1.desc).map (fun d => d.parameters.length) = some 0 := ⟨by decide +kernel, by decide +kernel, by decide +kernel⟩
theorem p_X11_accept : plainName q_X11_accept.1.cls = true := by decide +kernel
set_option maxRecDepth 100000 in
theorem m_X11_answer : zML[142]? = some q_X11_answer := rfl
theorem h_X11_answer : q_X11_answer.1.cls ≠ "java/lang/invoke/MethodHandle" ∧ q_X11_answer.1.cls ≠ "java/lang/invoke/VarHandle" ∧ (parseMethodDescriptor q_X11_answer.1.desc).map (fun d => d.parameters.length) = some 1 := ⟨by decide +kernel, by decide +kernel, by decide +kernel⟩
theorem p_X11_answer : plainName q_X11_answer.1.cls = true := by decide +kernel
set_option maxRecDepth 100000 in
theorem m_X11_arrivals : zML[143]? = some q_X11_arrivals := rfl
theorem h_X11_arrivals : q_X11_arrivals.1.cls ≠ "java/lang/invoke/MethodHandle" ∧ q_X11_arrivals.1.cls ≠ "java/lang/invoke/VarHandle" ∧ (parseMethodDescriptor q_X11_arrivals.1.desc).map (fun d => d.parameters.length) = some 3 := ⟨by decide +kernel, by decide +kernel, by decide +kernel⟩
theorem p_X11_arrivals : plainName q_X11_arrivals.1.cls = true := by decide +kernel
set_option maxRecDepth 100000 in
theorem m_X11_back : zML[144]? = some q_X11_back := rfl
theorem h_X11_back : q_X11_back.1.cls ≠ "java/lang/invoke/MethodHandle" ∧ q_X11_back.1.cls ≠ "java/lang/invoke/VarHandle" ∧ (parseMethodDescriptor q_X11_back.1.desc).map (fun d => d.parameters.length) = some 0 := ⟨by decide +kernel, by decide +kernel, by decide +kernel⟩
theorem p_X11_back : plainName q_X11_back.1.cls = true := by decide +kernel
set_option maxRecDepth 100000 in
theorem m_X11_best : zML[145]? = some q_X11_best := rfl
theorem h_X11_best : q_X11_best.1.cls ≠ "java/lang/invoke/MethodHandle" ∧ q_X11_best.1.cls ≠ "java/lang/invoke/VarHandle" ∧ (parseMethodDescriptor q_X11_best.1.desc).map (fun d => d.parameters.length) = some 1 := ⟨by decide +kernel, by decide +kernel, by decide +kernel⟩
theorem p_X11_best : plainName q_X11_best.1.cls = true := by decide +kernel
set_option maxRecDepth 100000 in
theorem m_X11_bite : zML[146]? = some q_X11_bite := rfl
theorem h_X11_bite : q_X11_bite.1.cls ≠ "java/lang/invoke/MethodHandle" ∧ q_X11_bite.1.cls ≠ "java/lang/invoke/VarHandle" ∧ (parseMethodDescriptor q_X11_bite.1.desc).map (fun d => d.parameters.length) = some 3 := ⟨by decide +kernel, by decide +kernel, by decide +kernel⟩
theorem p_X11_bite : plainName q_X11_bite.1.cls = true := by decide +kernel
set_option maxRecDepth 100000 in
theorem m_X11_bottom : zML[147]? = some q_X11_bottom := rfl
theorem h_X11_bottom : q_X11_bottom.1.cls ≠ "java/lang/invoke/MethodHandle" ∧ q_X11_bottom.1.cls ≠ "java/lang/invoke/VarHandle" ∧ (parseMethodDescriptor q_X11_bottom.1.desc).map (fun d => d.parameters.length) = some 0 := ⟨by decide +kernel, by decide +kernel, by decide +kernel⟩
theorem p_X11_bottom : plainName q_X11_bottom.1.cls = true := by decide +kernel
set_option maxRecDepth 100000 in
theorem m_X11_cell : zML[148]? = some q_X11_cell := rfl
theorem h_X11_cell : q_X11_cell.1.cls ≠ "java/lang/invoke/MethodHandle" ∧ q_X11_cell.1.cls ≠ "java/lang/invoke/VarHandle" ∧ (parseMethodDescriptor q_X11_cell.1.desc).map (fun d => d.parameters.length) = some 3 := ⟨by decide +kernel, by decide +kernel, by decide +kernel⟩
theorem p_X11_cell : plainName q_X11_cell.1.cls = true := by decide +kernel
set_option maxRecDepth 100000 in
theorem m_X11_clean : zML[149]? = some q_X11_clean := rfl
theorem h_X11_clean : q_X11_clean.1.cls ≠ "java/lang/invoke/MethodHandle" ∧ q_X11_clean.1.cls ≠ "java/lang/invoke/VarHandle" ∧ (parseMethodDescriptor q_X11_clean.1.desc).map (fun d => d.parameters.length) = some 3 := ⟨by decide +kernel, by decide +kernel, by decide +kernel⟩
theorem p_X11_clean : plainName q_X11_clean.1.cls = true := by decide +kernel
set_option maxRecDepth 100000 in
theorem m_X11_commonDivisor : zML[150]? = some q_X11_commonDivisor := rfl
theorem h_X11_commonDivisor : q_X11_commonDivisor.1.cls ≠ "java/lang/invoke/MethodHandle" ∧ q_X11_commonDivisor.1.cls ≠ "java/lang/invoke/VarHandle" ∧ (parseMethodDescriptor q_X11_commonDivisor.1.desc).map (fun d => d.parameters.length) = some 2 := ⟨by decide +kernel, by decide +kernel, by decide +kernel⟩
theorem p_X11_commonDivisor : plainName q_X11_commonDivisor.1.cls = true := by decide +kernel
set_option maxRecDepth 100000 in
theorem m_X11_company : zML[151]? = some q_X11_company := rfl
theorem h_X11_company : q_X11_company.1.cls ≠ "java/lang/invoke/MethodHandle" ∧ q_X11_company.1.cls ≠ "java/lang/invoke/VarHandle" ∧ (parseMethodDescriptor q_X11_company.1.desc).map (fun d => d.parameters.length) = some 2 := ⟨by decide +kernel, by decide +kernel, by decide +kernel⟩
theorem p_X11_company : plainName q_X11_company.1.cls = true := by decide +kernel
set_option maxRecDepth 100000 in
theorem m_X11_count : zML[152]? = some q_X11_count := rfl
theorem h_X11_count : q_X11_count.1.cls ≠ "java/lang/invoke/MethodHandle" ∧ q_X11_count.1.cls ≠ "java/lang/invoke/VarHandle" ∧ (parseMethodDescriptor q_X11_count.1.desc).map (fun d => d.parameters.length) = some 2 := ⟨by decide +kernel, by decide +kernel, by decide +kernel⟩
theorem p_X11_count : plainName q_X11_count.1.cls = true := by decide +kernel
set_option maxRecDepth 100000 in
theorem m_X11_cut : zML[153]? = some q_X11_cut := rfl
theorem h_X11_cut : q_X11_cut.1.cls ≠ "java/lang/invoke/MethodHandle" ∧ q_X11_cut.1.cls ≠ "java/lang/invoke/VarHandle" ∧ (parseMethodDescriptor q_X11_cut.1.desc).map (fun d => d.parameters.length) = some 1 := ⟨by decide +kernel, by decide +kernel, by decide +kernel⟩
theorem p_X11_cut : plainName q_X11_cut.1.cls = true := by decide +kernel
set_option maxRecDepth 100000 in
theorem m_X11_fault : zML[154]? = some q_X11_fault := rfl
theorem h_X11_fault : q_X11_fault.1.cls ≠ "java/lang/invoke/MethodHandle" ∧ q_X11_fault.1.cls ≠ "java/lang/invoke/VarHandle" ∧ (parseMethodDescriptor q_X11_fault.1.desc).map (fun d => d.parameters.length) = some 1 := ⟨by decide +kernel, by decide +kernel, by decide +kernel⟩
theorem p_X11_fault : plainName q_X11_fault.1.cls = true := by decide +kernel
set_option maxRecDepth 100000 in
theorem m_X11_feed : zML[155]? = some q_X11_feed := rfl
theorem h_X11_feed : q_X11_feed.1.cls ≠ "java/lang/invoke/MethodHandle" ∧ q_X11_feed.1.cls ≠ "java/lang/invoke/VarHandle" ∧ (parseMethodDescriptor q_X11_feed.1.desc).map (fun d => d.parameters.length) = some 5 := ⟨by decide +kernel, by decide +kernel, by decide +kernel⟩
theorem p_X11_feed : plainName q_X11_feed.1.cls = true := by decide +kernel
set_option maxRecDepth 100000 in
theorem m_X11_ground : zML[156]? = some q_X11_ground := rfl
theorem h_X11_ground : q_X11_ground.1.cls ≠ "java/lang/invoke/MethodHandle" ∧ q_X11_ground.1.cls ≠ "java/lang/invoke/VarHandle" ∧ (parseMethodDescriptor q_X11_ground.1.desc).map (fun d => d.parameters.length) = some 3 := ⟨by decide +kernel, by decide +kernel, by decide +kernel⟩
theorem p_X11_ground : plainName q_X11_ground.1.cls = true := by decide +kernel
set_option maxRecDepth 100000 in
theorem m_X11_halves : zML[157]? = some q_X11_halves := rfl
theorem h_X11_halves : q_X11_halves.1.cls ≠ "java/lang/invoke/MethodHandle" ∧ q_X11_halves.1.cls ≠ "java/lang/invoke/VarHandle" ∧ (parseMethodDescriptor q_X11_halves.1.desc).map (fun d => d.parameters.length) = some 3 := ⟨by decide +kernel, by decide +kernel, by decide +kernel⟩
theorem p_X11_halves : plainName q_X11_halves.1.cls = true := by decide +kernel
set_option maxRecDepth 100000 in
theorem m_X11_hand : zML[158]? = some q_X11_hand := rfl
theorem h_X11_hand : q_X11_hand.1.cls ≠ "java/lang/invoke/MethodHandle" ∧ q_X11_hand.1.cls ≠ "java/lang/invoke/VarHandle" ∧ (parseMethodDescriptor q_X11_hand.1.desc).map (fun d => d.parameters.length) = some 2 := ⟨by decide +kernel, by decide +kernel, by decide +kernel⟩
theorem p_X11_hand : plainName q_X11_hand.1.cls = true := by decide +kernel
set_option maxRecDepth 100000 in
theorem m_X11_hole : zML[159]? = some q_X11_hole := rfl
theorem h_X11_hole : q_X11_hole.1.cls ≠ "java/lang/invoke/MethodHandle" ∧ q_X11_hole.1.cls ≠ "java/lang/invoke/VarHandle" ∧ (parseMethodDescriptor q_X11_hole.1.desc).map (fun d => d.parameters.length) = some 1 := ⟨by decide +kernel, by decide +kernel, by decide +kernel⟩
theorem p_X11_hole : plainName q_X11_hole.1.cls = true := by decide +kernel
set_option maxRecDepth 100000 in
theorem m_X11_honey : zML[160]? = some q_X11_honey := rfl
theorem h_X11_honey : q_X11_honey.1.cls ≠ "java/lang/invoke/MethodHandle" ∧ q_X11_honey.1.cls ≠ "java/lang/invoke/VarHandle" ∧ (parseMethodDescriptor q_X11_honey.1.desc).map (fun d => d.parameters.length) = some 3 := ⟨by decide +kernel, by decide +kernel, by decide +kernel⟩
theorem p_X11_honey : plainName q_X11_honey.1.cls = true := by decide +kernel
set_option maxRecDepth 100000 in
theorem m_X11_isTray : zML[161]? = some q_X11_isTray := rfl
theorem h_X11_isTray : q_X11_isTray.1.cls ≠ "java/lang/invoke/MethodHandle" ∧ q_X11_isTray.1.cls ≠ "java/lang/invoke/VarHandle" ∧ (parseMethodDescriptor q_X11_isTray.1.desc).map (fun d => d.parameters.length) = some 1 := ⟨by decide +kernel, by decide +kernel, by decide +kernel⟩
theorem p_X11_isTray : plainName q_X11_isTray.1.cls = true := by decide +kernel
set_option maxRecDepth 100000 in
theorem m_X11_land : zML[162]? = some q_X11_land := rfl
theorem h_X11_land : q_X11_land.1.cls ≠ "java/lang/invoke/MethodHandle" ∧ q_X11_land.1.cls ≠ "java/lang/invoke/VarHandle" ∧ (parseMethodDescriptor q_X11_land.1.desc).map (fun d => d.parameters.length) = some 1 := ⟨by decide +kernel, by decide +kernel, by decide +kernel⟩
theorem p_X11_land : plainName q_X11_land.1.cls = true := by decide +kernel
set_option maxRecDepth 100000 in
theorem m_X11_many : zML[163]? = some q_X11_many := rfl
theorem h_X11_many : q_X11_many.1.cls ≠ "java/lang/invoke/MethodHandle" ∧ q_X11_many.1.cls ≠ "java/lang/invoke/VarHandle" ∧ (parseMethodDescriptor q_X11_many.1.desc).map (fun d => d.parameters.length) = some 1 := ⟨by decide +kernel, by decide +kernel, by decide +kernel⟩
theorem p_X11_many : plainName q_X11_many.1.cls = true := by decide +kernel
set_option maxRecDepth 100000 in
theorem m_X11_march : zML[164]? = some q_X11_march := rfl
theorem h_X11_march : q_X11_march.1.cls ≠ "java/lang/invoke/MethodHandle" ∧ q_X11_march.1.cls ≠ "java/lang/invoke/VarHandle" ∧ (parseMethodDescriptor q_X11_march.1.desc).map (fun d => d.parameters.length) = some 1 := ⟨by decide +kernel, by decide +kernel, by decide +kernel⟩
theorem p_X11_march : plainName q_X11_march.1.cls = true := by decide +kernel
set_option maxRecDepth 100000 in
theorem m_X11_mark : zML[165]? = some q_X11_mark := rfl
theorem h_X11_mark : q_X11_mark.1.cls ≠ "java/lang/invoke/MethodHandle" ∧ q_X11_mark.1.cls ≠ "java/lang/invoke/VarHandle" ∧ (parseMethodDescriptor q_X11_mark.1.desc).map (fun d => d.parameters.length) = some 0 := ⟨by decide +kernel, by decide +kernel, by decide +kernel⟩
theorem p_X11_mark : plainName q_X11_mark.1.cls = true := by decide +kernel
set_option maxRecDepth 100000 in
theorem m_X11_mean : zML[166]? = some q_X11_mean := rfl
theorem h_X11_mean : q_X11_mean.1.cls ≠ "java/lang/invoke/MethodHandle" ∧ q_X11_mean.1.cls ≠ "java/lang/invoke/VarHandle" ∧ (parseMethodDescriptor q_X11_mean.1.desc).map (fun d => d.parameters.length) = some 3 := ⟨by decide +kernel, by decide +kernel, by decide +kernel⟩
theorem p_X11_mean : plainName q_X11_mean.1.cls = true := by decide +kernel
set_option maxRecDepth 100000 in
theorem m_X11_mostWorth : zML[167]? = some q_X11_mostWorth := rfl
theorem h_X11_mostWorth : q_X11_mostWorth.1.cls ≠ "java/lang/invoke/MethodHandle" ∧ q_X11_mostWorth.1.cls ≠ "java/lang/invoke/VarHandle" ∧ (parseMethodDescriptor q_X11_mostWorth.1.desc).map (fun d => d.parameters.length) = some 2 := ⟨by decide +kernel, by decide +kernel, by decide +kernel⟩
theorem p_X11_mostWorth : plainName q_X11_mostWorth.1.cls = true := by decide +kernel
set_option maxRecDepth 100000 in
theorem m_X11_mould : zML[168]? = some q_X11_mould := rfl
theorem h_X11_mould : q_X11_mould.1.cls ≠ "java/lang/invoke/MethodHandle" ∧ q_X11_mould.1.cls ≠ "java/lang/invoke/VarHandle" ∧ (parseMethodDescriptor q_X11_mould.1.desc).map (fun d => d.parameters.length) = some 3 := ⟨by decide +kernel, by decide +kernel, by decide +kernel⟩
theorem p_X11_mould : plainName q_X11_mould.1.cls = true := by decide +kernel
set_option maxRecDepth 100000 in
theorem m_X11_odds : zML[169]? = some q_X11_odds := rfl
theorem h_X11_odds : q_X11_odds.1.cls ≠ "java/lang/invoke/MethodHandle" ∧ q_X11_odds.1.cls ≠ "java/lang/invoke/VarHandle" ∧ (parseMethodDescriptor q_X11_odds.1.desc).map (fun d => d.parameters.length) = some 5 := ⟨by decide +kernel, by decide +kernel, by decide +kernel⟩
theorem p_X11_odds : plainName q_X11_odds.1.cls = true := by decide +kernel
set_option maxRecDepth 100000 in
theorem m_X11_orders : zML[170]? = some q_X11_orders := rfl
theorem h_X11_orders : q_X11_orders.1.cls ≠ "java/lang/invoke/MethodHandle" ∧ q_X11_orders.1.cls ≠ "java/lang/invoke/VarHandle" ∧ (parseMethodDescriptor q_X11_orders.1.desc).map (fun d => d.parameters.length) = some 1 := ⟨by decide +kernel, by decide +kernel, by decide +kernel⟩
theorem p_X11_orders : plainName q_X11_orders.1.cls = true := by decide +kernel
set_option maxRecDepth 100000 in
theorem m_X11_placeStatus : zML[171]? = some q_X11_placeStatus := rfl
theorem h_X11_placeStatus : q_X11_placeStatus.1.cls ≠ "java/lang/invoke/MethodHandle" ∧ q_X11_placeStatus.1.cls ≠ "java/lang/invoke/VarHandle" ∧ (parseMethodDescriptor q_X11_placeStatus.1.desc).map (fun d => d.parameters.length) = some 2 := ⟨by decide +kernel, by decide +kernel, by decide +kernel⟩
theorem p_X11_placeStatus : plainName q_X11_placeStatus.1.cls = true := by decide +kernel
set_option maxRecDepth 100000 in
theorem m_X11_pour : zML[172]? = some q_X11_pour := rfl
theorem h_X11_pour : q_X11_pour.1.cls ≠ "java/lang/invoke/MethodHandle" ∧ q_X11_pour.1.cls ≠ "java/lang/invoke/VarHandle" ∧ (parseMethodDescriptor q_X11_pour.1.desc).map (fun d => d.parameters.length) = some 5 := ⟨by decide +kernel, by decide +kernel, by decide +kernel⟩
theorem p_X11_pour : plainName q_X11_pour.1.cls = true := by decide +kernel
set_option maxRecDepth 100000 in
theorem m_X11_ran : zML[173]? = some q_X11_ran := rfl
theorem h_X11_ran : q_X11_ran.1.cls ≠ "java/lang/invoke/MethodHandle" ∧ q_X11_ran.1.cls ≠ "java/lang/invoke/VarHandle" ∧ (parseMethodDescriptor q_X11_ran.1.desc).map (fun d => d.parameters.length) = some 1 := ⟨by decide +kernel, by decide +kernel, by decide +kernel⟩
theorem p_X11_ran : plainName q_X11_ran.1.cls = true := by decide +kernel
set_option maxRecDepth 100000 in
theorem m_X11_reach : zML[174]? = some q_X11_reach := rfl
theorem h_X11_reach : q_X11_reach.1.cls ≠ "java/lang/invoke/MethodHandle" ∧ q_X11_reach.1.cls ≠ "java/lang/invoke/VarHandle" ∧ (parseMethodDescriptor q_X11_reach.1.desc).map (fun d => d.parameters.length) = some 0 := ⟨by decide +kernel, by decide +kernel, by decide +kernel⟩
theorem p_X11_reach : plainName q_X11_reach.1.cls = true := by decide +kernel
set_option maxRecDepth 100000 in
theorem m_X11_read : zML[175]? = some q_X11_read := rfl
theorem h_X11_read : q_X11_read.1.cls ≠ "java/lang/invoke/MethodHandle" ∧ q_X11_read.1.cls ≠ "java/lang/invoke/VarHandle" ∧ (parseMethodDescriptor q_X11_read.1.desc).map (fun d => d.parameters.length) = some 2 := ⟨by decide +kernel, by decide +kernel, by decide +kernel⟩
theorem p_X11_read : plainName q_X11_read.1.cls = true := by decide +kernel
set_option maxRecDepth 100000 in
theorem m_X11_refuse : zML[176]? = some q_X11_refuse := rfl
theorem h_X11_refuse : q_X11_refuse.1.cls ≠ "java/lang/invoke/MethodHandle" ∧ q_X11_refuse.1.cls ≠ "java/lang/invoke/VarHandle" ∧ (parseMethodDescriptor q_X11_refuse.1.desc).map (fun d => d.parameters.length) = some 1 := ⟨by decide +kernel, by decide +kernel, by decide +kernel⟩
theorem p_X11_refuse : plainName q_X11_refuse.1.cls = true := by decide +kernel
set_option maxRecDepth 100000 in
theorem m_X11_refused : zML[177]? = some q_X11_refused := rfl
theorem h_X11_refused : q_X11_refused.1.cls ≠ "java/lang/invoke/MethodHandle" ∧ q_X11_refused.1.cls ≠ "java/lang/invoke/VarHandle" ∧ (parseMethodDescriptor q_X11_refused.1.desc).map (fun d => d.parameters.length) = some 1 := ⟨by decide +kernel, by decide +kernel, by decide +kernel⟩
theorem p_X11_refused : plainName q_X11_refused.1.cls = true := by decide +kernel
set_option maxRecDepth 100000 in
theorem m_X11_run : zML[178]? = some q_X11_run := rfl
theorem h_X11_run : q_X11_run.1.cls ≠ "java/lang/invoke/MethodHandle" ∧ q_X11_run.1.cls ≠ "java/lang/invoke/VarHandle" ∧ (parseMethodDescriptor q_X11_run.1.desc).map (fun d => d.parameters.length) = some 1 := ⟨by decide +kernel, by decide +kernel, by decide +kernel⟩
theorem p_X11_run : plainName q_X11_run.1.cls = true := by decide +kernel
set_option maxRecDepth 100000 in
theorem m_X11_seen : zML[179]? = some q_X11_seen := rfl
theorem h_X11_seen : q_X11_seen.1.cls ≠ "java/lang/invoke/MethodHandle" ∧ q_X11_seen.1.cls ≠ "java/lang/invoke/VarHandle" ∧ (parseMethodDescriptor q_X11_seen.1.desc).map (fun d => d.parameters.length) = some 2 := ⟨by decide +kernel, by decide +kernel, by decide +kernel⟩
theorem p_X11_seen : plainName q_X11_seen.1.cls = true := by decide +kernel
set_option maxRecDepth 100000 in
theorem m_X11_shows : zML[180]? = some q_X11_shows := rfl
theorem h_X11_shows : q_X11_shows.1.cls ≠ "java/lang/invoke/MethodHandle" ∧ q_X11_shows.1.cls ≠ "java/lang/invoke/VarHandle" ∧ (parseMethodDescriptor q_X11_shows.1.desc).map (fun d => d.parameters.length) = some 3 := ⟨by decide +kernel, by decide +kernel, by decide +kernel⟩
theorem p_X11_shows : plainName q_X11_shows.1.cls = true := by decide +kernel
set_option maxRecDepth 100000 in
theorem m_X11_status : zML[181]? = some q_X11_status := rfl
theorem h_X11_status : q_X11_status.1.cls ≠ "java/lang/invoke/MethodHandle" ∧ q_X11_status.1.cls ≠ "java/lang/invoke/VarHandle" ∧ (parseMethodDescriptor q_X11_status.1.desc).map (fun d => d.parameters.length) = some 0 := ⟨by decide +kernel, by decide +kernel, by decide +kernel⟩
theorem p_X11_status : plainName q_X11_status.1.cls = true := by decide +kernel
set_option maxRecDepth 100000 in
theorem m_X11_steam : zML[182]? = some q_X11_steam := rfl
theorem h_X11_steam : q_X11_steam.1.cls ≠ "java/lang/invoke/MethodHandle" ∧ q_X11_steam.1.cls ≠ "java/lang/invoke/VarHandle" ∧ (parseMethodDescriptor q_X11_steam.1.desc).map (fun d => d.parameters.length) = some 2 := ⟨by decide +kernel, by decide +kernel, by decide +kernel⟩
theorem p_X11_steam : plainName q_X11_steam.1.cls = true := by decide +kernel
set_option maxRecDepth 100000 in
theorem m_X11_stuck : zML[183]? = some q_X11_stuck := rfl
theorem h_X11_stuck : q_X11_stuck.1.cls ≠ "java/lang/invoke/MethodHandle" ∧ q_X11_stuck.1.cls ≠ "java/lang/invoke/VarHandle" ∧ (parseMethodDescriptor q_X11_stuck.1.desc).map (fun d => d.parameters.length) = some 0 := ⟨by decide +kernel, by decide +kernel, by decide +kernel⟩
theorem p_X11_stuck : plainName q_X11_stuck.1.cls = true := by decide +kernel
set_option maxRecDepth 100000 in
theorem m_X11_supper : zML[184]? = some q_X11_supper := rfl
theorem h_X11_supper : q_X11_supper.1.cls ≠ "java/lang/invoke/MethodHandle" ∧ q_X11_supper.1.cls ≠ "java/lang/invoke/VarHandle" ∧ (parseMethodDescriptor q_X11_supper.1.desc).map (fun d => d.parameters.length) = some 3 := ⟨by decide +kernel, by decide +kernel, by decide +kernel⟩
theorem p_X11_supper : plainName q_X11_supper.1.cls = true := by decide +kernel
set_option maxRecDepth 100000 in
theorem m_X11_tellFraction : zML[185]? = some q_X11_tellFraction := rfl
theorem h_X11_tellFraction : q_X11_tellFraction.1.cls ≠ "java/lang/invoke/MethodHandle" ∧ q_X11_tellFraction.1.cls ≠ "java/lang/invoke/VarHandle" ∧ (parseMethodDescriptor q_X11_tellFraction.1.desc).map (fun d => d.parameters.length) = some 2 := ⟨by decide +kernel, by decide +kernel, by decide +kernel⟩
theorem p_X11_tellFraction : plainName q_X11_tellFraction.1.cls = true := by decide +kernel
set_option maxRecDepth 100000 in
theorem m_X11_told : zML[186]? = some q_X11_told := rfl
theorem h_X11_told : q_X11_told.1.cls ≠ "java/lang/invoke/MethodHandle" ∧ q_X11_told.1.cls ≠ "java/lang/invoke/VarHandle" ∧ (parseMethodDescriptor q_X11_told.1.desc).map (fun d => d.parameters.length) = some 2 := ⟨by decide +kernel, by decide +kernel, by decide +kernel⟩
theorem p_X11_told : plainName q_X11_told.1.cls = true := by decide +kernel
set_option maxRecDepth 100000 in
theorem m_X11_top : zML[187]? = some q_X11_top := rfl
theorem h_X11_top : q_X11_top.1.cls ≠ "java/lang/invoke/MethodHandle" ∧ q_X11_top.1.cls ≠ "java/lang/invoke/VarHandle" ∧ (parseMethodDescriptor q_X11_top.1.desc).map (fun d => d.parameters.length) = some 0 := ⟨by decide +kernel, by decide +kernel, by decide +kernel⟩
theorem p_X11_top : plainName q_X11_top.1.cls = true := by decide +kernel
set_option maxRecDepth 100000 in
theorem m_X11_tray : zML[188]? = some q_X11_tray := rfl
theorem h_X11_tray : q_X11_tray.1.cls ≠ "java/lang/invoke/MethodHandle" ∧ q_X11_tray.1.cls ≠ "java/lang/invoke/VarHandle" ∧ (parseMethodDescriptor q_X11_tray.1.desc).map (fun d => d.parameters.length) = some 3 := ⟨by decide +kernel, by decide +kernel, by decide +kernel⟩
theorem p_X11_tray : plainName q_X11_tray.1.cls = true := by decide +kernel
set_option maxRecDepth 100000 in
theorem m_X11_truly : zML[189]? = some q_X11_truly := rfl
theorem h_X11_truly : q_X11_truly.1.cls ≠ "java/lang/invoke/MethodHandle" ∧ q_X11_truly.1.cls ≠ "java/lang/invoke/VarHandle" ∧ (parseMethodDescriptor q_X11_truly.1.desc).map (fun d => d.parameters.length) = some 1 := ⟨by decide +kernel, by decide +kernel, by decide +kernel⟩
theorem p_X11_truly : plainName q_X11_truly.1.cls = true := by decide +kernel
set_option maxRecDepth 100000 in
theorem m_X11_unlike : zML[190]? = some q_X11_unlike := rfl
theorem h_X11_unlike : q_X11_unlike.1.cls ≠ "java/lang/invoke/MethodHandle" ∧ q_X11_unlike.1.cls ≠ "java/lang/invoke/VarHandle" ∧ (parseMethodDescriptor q_X11_unlike.1.desc).map (fun d => d.parameters.length) = some 2 := ⟨by decide +kernel, by decide +kernel, by decide +kernel⟩
theorem p_X11_unlike : plainName q_X11_unlike.1.cls = true := by decide +kernel
set_option maxRecDepth 100000 in
theorem m_X11_way : zML[191]? = some q_X11_way := rfl
theorem h_X11_way : q_X11_way.1.cls ≠ "java/lang/invoke/MethodHandle" ∧ q_X11_way.1.cls ≠ "java/lang/invoke/VarHandle" ∧ (parseMethodDescriptor q_X11_way.1.desc).map (fun d => d.parameters.length) = some 1 := ⟨by decide +kernel, by decide +kernel, by decide +kernel⟩
theorem p_X11_way : plainName q_X11_way.1.cls = true := by decide +kernel
set_option maxRecDepth 100000 in
theorem m_X11_wayAt : zML[192]? = some q_X11_wayAt := rfl
theorem h_X11_wayAt : q_X11_wayAt.1.cls ≠ "java/lang/invoke/MethodHandle" ∧ q_X11_wayAt.1.cls ≠ "java/lang/invoke/VarHandle" ∧ (parseMethodDescriptor q_X11_wayAt.1.desc).map (fun d => d.parameters.length) = some 2 := ⟨by decide +kernel, by decide +kernel, by decide +kernel⟩
theorem p_X11_wayAt : plainName q_X11_wayAt.1.cls = true := by decide +kernel
set_option maxRecDepth 100000 in
theorem m_X11_waysToLay : zML[193]? = some q_X11_waysToLay := rfl
theorem h_X11_waysToLay : q_X11_waysToLay.1.cls ≠ "java/lang/invoke/MethodHandle" ∧ q_X11_waysToLay.1.cls ≠ "java/lang/invoke/VarHandle" ∧ (parseMethodDescriptor q_X11_waysToLay.1.desc).map (fun d => d.parameters.length) = some 1 := ⟨by decide +kernel, by decide +kernel, by decide +kernel⟩
theorem p_X11_waysToLay : plainName q_X11_waysToLay.1.cls = true := by decide +kernel
set_option maxRecDepth 100000 in
theorem m_X11_worth : zML[194]? = some q_X11_worth := rfl
theorem h_X11_worth : q_X11_worth.1.cls ≠ "java/lang/invoke/MethodHandle" ∧ q_X11_worth.1.cls ≠ "java/lang/invoke/VarHandle" ∧ (parseMethodDescriptor q_X11_worth.1.desc).map (fun d => d.parameters.length) = some 3 := ⟨by decide +kernel, by decide +kernel, by decide +kernel⟩
theorem p_X11_worth : plainName q_X11_worth.1.cls = true := by decide +kernel
set_option maxRecDepth 100000 in
theorem m_X11_write : zML[195]? = some q_X11_write := rfl
theorem h_X11_write : q_X11_write.1.cls ≠ "java/lang/invoke/MethodHandle" ∧ q_X11_write.1.cls ≠ "java/lang/invoke/VarHandle" ∧ (parseMethodDescriptor q_X11_write.1.desc).map (fun d => d.parameters.length) = some 3 := ⟨by decide +kernel, by decide +kernel, by decide +kernel⟩
theorem p_X11_write : plainName q_X11_write.1.cls = true := by decide +kernel
set_option maxRecDepth 100000 in
theorem m_X12_arrivals : zML[196]? = some q_X12_arrivals := rfl
theorem h_X12_arrivals : q_X12_arrivals.1.cls ≠ "java/lang/invoke/MethodHandle" ∧ q_X12_arrivals.1.cls ≠ "java/lang/invoke/VarHandle" ∧ (parseMethodDescriptor q_X12_arrivals.1.desc).map (fun d => d.parameters.length) = some 3 := ⟨by decide +kernel, by decide +kernel, by decide +kernel⟩
theorem p_X12_arrivals : plainName q_X12_arrivals.1.cls = true := by decide +kernel
set_option maxRecDepth 100000 in
theorem m_X12_at2 : zML[197]? = some q_X12_at2 := rfl
theorem h_X12_at2 : q_X12_at2.1.cls ≠ "java/lang/invoke/MethodHandle" ∧ q_X12_at2.1.cls ≠ "java/lang/invoke/VarHandle" ∧ (parseMethodDescriptor q_X12_at2.1.desc).map (fun d => d.parameters.length) = some 2 := ⟨by decide +kernel, by decide +kernel, by decide +kernel⟩
theorem p_X12_at2 : plainName q_X12_at2.1.cls = true := by decide +kernel
set_option maxRecDepth 100000 in
theorem m_X12_avoids : zML[198]? = some q_X12_avoids := rfl
theorem h_X12_avoids : q_X12_avoids.1.cls ≠ "java/lang/invoke/MethodHandle" ∧ q_X12_avoids.1.cls ≠ "java/lang/invoke/VarHandle" ∧ (parseMethodDescriptor q_X12_avoids.1.desc).map (fun d => d.parameters.length) = some 3 := ⟨by decide +kernel, by decide +kernel, by decide +kernel⟩
theorem p_X12_avoids : plainName q_X12_avoids.1.cls = true := by decide +kernel
set_option maxRecDepth 100000 in
theorem m_X12_back : zML[199]? = some q_X12_back := rfl
theorem h_X12_back : q_X12_back.1.cls ≠ "java/lang/invoke/MethodHandle" ∧ q_X12_back.1.cls ≠ "java/lang/invoke/VarHandle" ∧ (parseMethodDescriptor q_X12_back.1.desc).map (fun d => d.parameters.length) = some 0 := ⟨by decide +kernel, by decide +kernel, by decide +kernel⟩
theorem p_X12_back : plainName q_X12_back.1.cls = true := by decide +kernel
set_option maxRecDepth 100000 in
theorem m_X12_beside : zML[200]? = some q_X12_beside := rfl
theorem h_X12_beside : q_X12_beside.1.cls ≠ "java/lang/invoke/MethodHandle" ∧ q_X12_beside.1.cls ≠ "java/lang/invoke/VarHandle" ∧ (parseMethodDescriptor q_X12_beside.1.desc).map (fun d => d.parameters.length) = some 2 := ⟨by decide +kernel, by decide +kernel, by decide +kernel⟩
theorem p_X12_beside : plainName q_X12_beside.1.cls = true := by decide +kernel
set_option maxRecDepth 100000 in
theorem m_X12_best : zML[201]? = some q_X12_best := rfl
theorem h_X12_best : q_X12_best.1.cls ≠ "java/lang/invoke/MethodHandle" ∧ q_X12_best.1.cls ≠ "java/lang/invoke/VarHandle" ∧ (parseMethodDescriptor q_X12_best.1.desc).map (fun d => d.parameters.length) = some 1 := ⟨by decide +kernel, by decide +kernel, by decide +kernel⟩
theorem p_X12_best : plainName q_X12_best.1.cls = true := by decide +kernel
set_option maxRecDepth 100000 in
theorem m_X12_bite : zML[202]? = some q_X12_bite := rfl
theorem h_X12_bite : q_X12_bite.1.cls ≠ "java/lang/invoke/MethodHandle" ∧ q_X12_bite.1.cls ≠ "java/lang/invoke/VarHandle" ∧ (parseMethodDescriptor q_X12_bite.1.desc).map (fun d => d.parameters.length) = some 3 := ⟨by decide +kernel, by decide +kernel, by decide +kernel⟩
theorem p_X12_bite : plainName q_X12_bite.1.cls = true := by decide +kernel
set_option maxRecDepth 100000 in
theorem m_X12_bites : zML[203]? = some q_X12_bites := rfl
theorem h_X12_bites : q_X12_bites.1.cls ≠ "java/lang/invoke/MethodHandle" ∧ q_X12_bites.1.cls ≠ "java/lang/invoke/VarHandle" ∧ (parseMethodDescriptor q_X12_bites.1.desc).map (fun d => d.parameters.length) = some 2 := ⟨by decide +kernel, by decide +kernel, by decide +kernel⟩
theorem p_X12_bites : plainName q_X12_bites.1.cls = true := by decide +kernel
set_option maxRecDepth 100000 in
theorem m_X12_bottom : zML[204]? = some q_X12_bottom := rfl
theorem h_X12_bottom : q_X12_bottom.1.cls ≠ "java/lang/invoke/MethodHandle" ∧ q_X12_bottom.1.cls ≠ "java/lang/invoke/VarHandle" ∧ (parseMethodDescriptor q_X12_bottom.1.desc).map (fun d => d.parameters.length) = some 0 := ⟨by decide +kernel, by decide +kernel, by decide +kernel⟩
theorem p_X12_bottom : plainName q_X12_bottom.1.cls = true := by decide +kernel
set_option maxRecDepth 100000 in
theorem m_X12_cell : zML[205]? = some q_X12_cell := rfl
theorem h_X12_cell : q_X12_cell.1.cls ≠ "java/lang/invoke/MethodHandle" ∧ q_X12_cell.1.cls ≠ "java/lang/invoke/VarHandle" ∧ (parseMethodDescriptor q_X12_cell.1.desc).map (fun d => d.parameters.length) = some 3 := ⟨by decide +kernel, by decide +kernel, by decide +kernel⟩
theorem p_X12_cell : plainName q_X12_cell.1.cls = true := by decide +kernel
set_option maxRecDepth 100000 in
theorem m_X12_cells : zML[206]? = some q_X12_cells := rfl
theorem h_X12_cells : q_X12_cells.1.cls ≠ "java/lang/invoke/MethodHandle" ∧ q_X12_cells.1.cls ≠ "java/lang/invoke/VarHandle" ∧ (parseMethodDescriptor q_X12_cells.1.desc).map (fun d => d.parameters.length) = some 0 := ⟨by decide +kernel, by decide +kernel, by decide +kernel⟩
theorem p_X12_cells : plainName q_X12_cells.1.cls = true := by decide +kernel
set_option maxRecDepth 100000 in
theorem m_X12_choose : zML[207]? = some q_X12_choose := rfl
theorem h_X12_choose : q_X12_choose.1.cls ≠ "java/lang/invoke/MethodHandle" ∧ q_X12_choose.1.cls ≠ "java/lang/invoke/VarHandle" ∧ (parseMethodDescriptor q_X12_choose.1.desc).map (fun d => d.parameters.length) = some 2 := ⟨by decide +kernel, by decide +kernel, by decide +kernel⟩
theorem p_X12_choose : plainName q_X12_choose.1.cls = true := by decide +kernel
set_option maxRecDepth 100000 in
theorem m_X12_clean : zML[208]? = some q_X12_clean := rfl
theorem h_X12_clean : q_X12_clean.1.cls ≠ "java/lang/invoke/MethodHandle" ∧ q_X12_clean.1.cls ≠ "java/lang/invoke/VarHandle" ∧ (parseMethodDescriptor q_X12_clean.1.desc).map (fun d => d.parameters.length) = some 3 := ⟨by decide +kernel, by decide +kernel, by decide +kernel⟩
theorem p_X12_clean : plainName q_X12_clean.1.cls = true := by decide +kernel
set_option maxRecDepth 100000 in
theorem m_X12_company : zML[209]? = some q_X12_company := rfl
theorem h_X12_company : q_X12_company.1.cls ≠ "java/lang/invoke/MethodHandle" ∧ q_X12_company.1.cls ≠ "java/lang/invoke/VarHandle" ∧ (parseMethodDescriptor q_X12_company.1.desc).map (fun d => d.parameters.length) = some 2 := ⟨by decide +kernel, by decide +kernel, by decide +kernel⟩
theorem p_X12_company : plainName q_X12_company.1.cls = true := by decide +kernel
set_option maxRecDepth 100000 in
theorem m_X12_companyWay : zML[210]? = some q_X12_companyWay := rfl
theorem h_X12_companyWay : q_X12_companyWay.1.cls ≠ "java/lang/invoke/MethodHandle" ∧ q_X12_companyWay.1.cls ≠ "java/lang/invoke/VarHandle" ∧ (parseMethodDescriptor q_X12_companyWay.1.desc).map (fun d => d.parameters.length) = some 1 := ⟨by decide +kernel, by decide +kernel, by decide +kernel⟩
theorem p_X12_companyWay : plainName q_X12_companyWay.1.cls = true := by decide +kernel
set_option maxRecDepth 100000 in
theorem m_X12_copy : zML[211]? = some q_X12_copy := rfl
theorem h_X12_copy : q_X12_copy.1.cls ≠ "java/lang/invoke/MethodHandle" ∧ q_X12_copy.1.cls ≠ "java/lang/invoke/VarHandle" ∧ (parseMethodDescriptor q_X12_copy.1.desc).map (fun d => d.parameters.length) = some 2 := ⟨by decide +kernel, by decide +kernel, by decide +kernel⟩
theorem p_X12_copy : plainName q_X12_copy.1.cls = true := by decide +kernel
set_option maxRecDepth 100000 in
theorem m_X12_costOf : zML[212]? = some q_X12_costOf := rfl
theorem h_X12_costOf : q_X12_costOf.1.cls ≠ "java/lang/invoke/MethodHandle" ∧ q_X12_costOf.1.cls ≠ "java/lang/invoke/VarHandle" ∧ (parseMethodDescriptor q_X12_costOf.1.desc).map (fun d => d.parameters.length) = some 2 := ⟨by decide +kernel, by decide +kernel, by decide +kernel⟩
theorem p_X12_costOf : plainName q_X12_costOf.1.cls = true := by decide +kernel
set_option maxRecDepth 100000 in
theorem m_X12_count : zML[213]? = some q_X12_count := rfl
theorem h_X12_count : q_X12_count.1.cls ≠ "java/lang/invoke/MethodHandle" ∧ q_X12_count.1.cls ≠ "java/lang/invoke/VarHandle" ∧ (parseMethodDescriptor q_X12_count.1.desc).map (fun d => d.parameters.length) = some 2 := ⟨by decide +kernel, by decide +kernel, by decide +kernel⟩
theorem p_X12_count : plainName q_X12_count.1.cls = true := by decide +kernel
set_option maxRecDepth 100000 in
theorem m_X12_countOf : zML[214]? = some q_X12_countOf := rfl
theorem h_X12_countOf : q_X12_countOf.1.cls ≠ "java/lang/invoke/MethodHandle" ∧ q_X12_countOf.1.cls ≠ "java/lang/invoke/VarHandle" ∧ (parseMethodDescriptor q_X12_countOf.1.desc).map (fun d => d.parameters.length) = some 2 := ⟨by decide +kernel, by decide +kernel, by decide +kernel⟩
theorem p_X12_countOf : plainName q_X12_countOf.1.cls = true := by decide +kernel
set_option maxRecDepth 100000 in
theorem m_X12_crumbsOf : zML[215]? = some q_X12_crumbsOf := rfl
theorem h_X12_crumbsOf : q_X12_crumbsOf.1.cls ≠ "java/lang/invoke/MethodHandle" ∧ q_X12_crumbsOf.1.cls ≠ "java/lang/invoke/VarHandle" ∧ (parseMethodDescriptor q_X12_crumbsOf.1.desc).map (fun d => d.parameters.length) = some 1 := ⟨by decide +kernel, by decide +kernel, by decide +kernel⟩
theorem p_X12_crumbsOf : plainName q_X12_crumbsOf.1.cls = true := by decide +kernel
set_option maxRecDepth 100000 in
theorem m_X12_cut : zML[216]? = some q_X12_cut := rfl
theorem h_X12_cut : q_X12_cut.1.cls ≠ "java/lang/invoke/MethodHandle" ∧ q_X12_cut.1.cls ≠ "java/lang/invoke/VarHandle" ∧ (parseMethodDescriptor q_X12_cut.1.desc).map (fun d => d.parameters.length) = some 2 := ⟨by decide +kernel, by decide +kernel, by decide +kernel⟩
theorem p_X12_cut : plainName q_X12_cut.1.cls = true := by decide +kernel
set_option maxRecDepth 100000 in
theorem m_X12_cut_ : zML[217]? = some q_X12_cut_ := rfl
theorem h_X12_cut_ : q_X12_cut_.1.cls ≠ "java/lang/invoke/MethodHandle" ∧ q_X12_cut_.1.cls ≠ "java/lang/invoke/VarHandle" ∧ (parseMethodDescriptor q_X12_cut_.1.desc).map (fun d => d.parameters.length) = some 1 := ⟨by decide +kernel, by decide +kernel, by decide +kernel⟩
theorem p_X12_cut_ : plainName q_X12_cut_.1.cls = true := by decide +kernel
set_option maxRecDepth 100000 in
theorem m_X12_cutsOff : zML[218]? = some q_X12_cutsOff := rfl
theorem h_X12_cutsOff : q_X12_cutsOff.1.cls ≠ "java/lang/invoke/MethodHandle" ∧ q_X12_cutsOff.1.cls ≠ "java/lang/invoke/VarHandle" ∧ (parseMethodDescriptor q_X12_cutsOff.1.desc).map (fun d => d.parameters.length) = some 3 := ⟨by decide +kernel, by decide +kernel, by decide +kernel⟩
theorem p_X12_cutsOff : plainName q_X12_cutsOff.1.cls = true := by decide +kernel
set_option maxRecDepth 100000 in
theorem m_X12_doAll : zML[219]? = some q_X12_doAll := rfl
theorem h_X12_doAll : q_X12_doAll.1.cls ≠ "java/lang/invoke/MethodHandle" ∧ q_X12_doAll.1.cls ≠ "java/lang/invoke/VarHandle" ∧ (parseMethodDescriptor q_X12_doAll.1.desc).map (fun d => d.parameters.length) = some 2 := ⟨by decide +kernel, by decide +kernel, by decide +kernel⟩
theorem p_X12_doAll : plainName q_X12_doAll.1.cls = true := by decide +kernel
set_option maxRecDepth 100000 in
theorem m_X12_doOne : zML[220]? = some q_X12_doOne := rfl
theorem h_X12_doOne : q_X12_doOne.1.cls ≠ "java/lang/invoke/MethodHandle" ∧ q_X12_doOne.1.cls ≠ "java/lang/invoke/VarHandle" ∧ (parseMethodDescriptor q_X12_doOne.1.desc).map (fun d => d.parameters.length) = some 1 := ⟨by decide +kernel, by decide +kernel, by decide +kernel⟩
theorem p_X12_doOne : plainName q_X12_doOne.1.cls = true := by decide +kernel
set_option maxRecDepth 100000 in
theorem m_X12_does : zML[221]? = some q_X12_does := rfl
theorem h_X12_does : q_X12_does.1.cls ≠ "java/lang/invoke/MethodHandle" ∧ q_X12_does.1.cls ≠ "java/lang/invoke/VarHandle" ∧ (parseMethodDescriptor q_X12_does.1.desc).map (fun d => d.parameters.length) = some 1 := ⟨by decide +kernel, by decide +kernel, by decide +kernel⟩
theorem p_X12_does : plainName q_X12_does.1.cls = true := by decide +kernel
set_option maxRecDepth 100000 in
theorem m_X12_draw : zML[222]? = some q_X12_draw := rfl
theorem h_X12_draw : q_X12_draw.1.cls ≠ "java/lang/invoke/MethodHandle" ∧ q_X12_draw.1.cls ≠ "java/lang/invoke/VarHandle" ∧ (parseMethodDescriptor q_X12_draw.1.desc).map (fun d => d.parameters.length) = some 1 := ⟨by decide +kernel, by decide +kernel, by decide +kernel⟩
theorem p_X12_draw : plainName q_X12_draw.1.cls = true := by decide +kernel
set_option maxRecDepth 100000 in
theorem m_X12_drawCell : zML[223]? = some q_X12_drawCell := rfl
theorem h_X12_drawCell : q_X12_drawCell.1.cls ≠ "java/lang/invoke/MethodHandle" ∧ q_X12_drawCell.1.cls ≠ "java/lang/invoke/VarHandle" ∧ (parseMethodDescriptor q_X12_drawCell.1.desc).map (fun d => d.parameters.length) = some 0 := ⟨by decide +kernel, by decide +kernel, by decide +kernel⟩
theorem p_X12_drawCell : plainName q_X12_drawCell.1.cls = true := by decide +kernel
set_option maxRecDepth 100000 in
theorem m_X12_eats : zML[224]? = some q_X12_eats := rfl
theorem h_X12_eats : q_X12_eats.1.cls ≠ "java/lang/invoke/MethodHandle" ∧ q_X12_eats.1.cls ≠ "java/lang/invoke/VarHandle" ∧ (parseMethodDescriptor q_X12_eats.1.desc).map (fun d => d.parameters.length) = some 2 := ⟨by decide +kernel, by decide +kernel, by decide +kernel⟩
theorem p_X12_eats : plainName q_X12_eats.1.cls = true := by decide +kernel
set_option maxRecDepth 100000 in
theorem m_X12_fail : zML[225]? = some q_X12_fail := rfl
theorem h_X12_fail : q_X12_fail.1.cls ≠ "java/lang/invoke/MethodHandle" ∧ q_X12_fail.1.cls ≠ "java/lang/invoke/VarHandle" ∧ (parseMethodDescriptor q_X12_fail.1.desc).map (fun d => d.parameters.length) = some 2 := ⟨by decide +kernel, by decide +kernel, by decide +kernel⟩
theorem p_X12_fail : plainName q_X12_fail.1.cls = true := by decide +kernel
set_option maxRecDepth 100000 in
theorem m_X12_fault : zML[226]? = some q_X12_fault := rfl
theorem h_X12_fault : q_X12_fault.1.cls ≠ "java/lang/invoke/MethodHandle" ∧ q_X12_fault.1.cls ≠ "java/lang/invoke/VarHandle" ∧ (parseMethodDescriptor q_X12_fault.1.desc).map (fun d => d.parameters.length) = some 1 := ⟨by decide +kernel, by decide +kernel, by decide +kernel⟩
theorem p_X12_fault : plainName q_X12_fault.1.cls = true := by decide +kernel
set_option maxRecDepth 100000 in
theorem m_X12_feed : zML[227]? = some q_X12_feed := rfl
theorem h_X12_feed : q_X12_feed.1.cls ≠ "java/lang/invoke/MethodHandle" ∧ q_X12_feed.1.cls ≠ "java/lang/invoke/VarHandle" ∧ (parseMethodDescriptor q_X12_feed.1.desc).map (fun d => d.parameters.length) = some 5 := ⟨by decide +kernel, by decide +kernel, by decide +kernel⟩
theorem p_X12_feed : plainName q_X12_feed.1.cls = true := by decide +kernel
set_option maxRecDepth 100000 in
theorem m_X12_fitting : zML[228]? = some q_X12_fitting := rfl
theorem h_X12_fitting : q_X12_fitting.1.cls ≠ "java/lang/invoke/MethodHandle" ∧ q_X12_fitting.1.cls ≠ "java/lang/invoke/VarHandle" ∧ (parseMethodDescriptor q_X12_fitting.1.desc).map (fun d => d.parameters.length) = some 3 := ⟨by decide +kernel, by decide +kernel, by decide +kernel⟩
theorem p_X12_fitting : plainName q_X12_fitting.1.cls = true := by decide +kernel
set_option maxRecDepth 100000 in
theorem m_X12_fours : zML[229]? = some q_X12_fours := rfl
theorem h_X12_fours : q_X12_fours.1.cls ≠ "java/lang/invoke/MethodHandle" ∧ q_X12_fours.1.cls ≠ "java/lang/invoke/VarHandle" ∧ (parseMethodDescriptor q_X12_fours.1.desc).map (fun d => d.parameters.length) = some 1 := ⟨by decide +kernel, by decide +kernel, by decide +kernel⟩
theorem p_X12_fours : plainName q_X12_fours.1.cls = true := by decide +kernel
set_option maxRecDepth 100000 in
theorem m_X12_fraction : zML[230]? = some q_X12_fraction := rfl
theorem h_X12_fraction : q_X12_fraction.1.cls ≠ "java/lang/invoke/MethodHandle" ∧ q_X12_fraction.1.cls ≠ "java/lang/invoke/VarHandle" ∧ (parseMethodDescriptor q_X12_fraction.1.desc).map (fun d => d.parameters.length) = some 2 := ⟨by decide +kernel, by decide +kernel, by decide +kernel⟩
theorem p_X12_fraction : plainName q_X12_fraction.1.cls = true := by decide +kernel
set_option maxRecDepth 100000 in
theorem m_X12_goes : zML[231]? = some q_X12_goes := rfl
theorem h_X12_goes : q_X12_goes.1.cls ≠ "java/lang/invoke/MethodHandle" ∧ q_X12_goes.1.cls ≠ "java/lang/invoke/VarHandle" ∧ (parseMethodDescriptor q_X12_goes.1.desc).map (fun d => d.parameters.length) = some 1 := ⟨by decide +kernel, by decide +kernel, by decide +kernel⟩
theorem p_X12_goes : plainName q_X12_goes.1.cls = true := by decide +kernel
set_option maxRecDepth 100000 in
theorem m_X12_goesBy : zML[232]? = some q_X12_goesBy := rfl
theorem h_X12_goesBy : q_X12_goesBy.1.cls ≠ "java/lang/invoke/MethodHandle" ∧ q_X12_goesBy.1.cls ≠ "java/lang/invoke/VarHandle" ∧ (parseMethodDescriptor q_X12_goesBy.1.desc).map (fun d => d.parameters.length) = some 3 := ⟨by decide +kernel, by decide +kernel, by decide +kernel⟩
theorem p_X12_goesBy : plainName q_X12_goesBy.1.cls = true := by decide +kernel
set_option maxRecDepth 100000 in
theorem m_X12_ground : zML[233]? = some q_X12_ground := rfl
theorem h_X12_ground : q_X12_ground.1.cls ≠ "java/lang/invoke/MethodHandle" ∧ q_X12_ground.1.cls ≠ "java/lang/invoke/VarHandle" ∧ (parseMethodDescriptor q_X12_ground.1.desc).map (fun d => d.parameters.length) = some 3 := ⟨by decide +kernel, by decide +kernel, by decide +kernel⟩
theorem p_X12_ground : plainName q_X12_ground.1.cls = true := by decide +kernel
set_option maxRecDepth 100000 in
theorem m_X12_groundOf : zML[234]? = some q_X12_groundOf := rfl
theorem h_X12_groundOf : q_X12_groundOf.1.cls ≠ "java/lang/invoke/MethodHandle" ∧ q_X12_groundOf.1.cls ≠ "java/lang/invoke/VarHandle" ∧ (parseMethodDescriptor q_X12_groundOf.1.desc).map (fun d => d.parameters.length) = some 1 := ⟨by decide +kernel, by decide +kernel, by decide +kernel⟩
theorem p_X12_groundOf : plainName q_X12_groundOf.1.cls = true := by decide +kernel
set_option maxRecDepth 100000 in
theorem m_X12_halves : zML[235]? = some q_X12_halves := rfl
theorem h_X12_halves : q_X12_halves.1.cls ≠ "java/lang/invoke/MethodHandle" ∧ q_X12_halves.1.cls ≠ "java/lang/invoke/VarHandle" ∧ (parseMethodDescriptor q_X12_halves.1.desc).map (fun d => d.parameters.length) = some 3 := ⟨by decide +kernel, by decide +kernel, by decide +kernel⟩
theorem p_X12_halves : plainName q_X12_halves.1.cls = true := by decide +kernel
set_option maxRecDepth 100000 in
theorem m_X12_hand : zML[236]? = some q_X12_hand := rfl
theorem h_X12_hand : q_X12_hand.1.cls ≠ "java/lang/invoke/MethodHandle" ∧ q_X12_hand.1.cls ≠ "java/lang/invoke/VarHandle" ∧ (parseMethodDescriptor q_X12_hand.1.desc).map (fun d => d.parameters.length) = some 2 := ⟨by decide +kernel, by decide +kernel, by decide +kernel⟩
theorem p_X12_hand : plainName q_X12_hand.1.cls = true := by decide +kernel
set_option maxRecDepth 100000 in
theorem m_X12_heapFrom : zML[237]? = some q_X12_heapFrom := rfl
theorem h_X12_heapFrom : q_X12_heapFrom.1.cls ≠ "java/lang/invoke/MethodHandle" ∧ q_X12_heapFrom.1.cls ≠ "java/lang/invoke/VarHandle" ∧ (parseMethodDescriptor q_X12_heapFrom.1.desc).map (fun d => d.parameters.length) = some 2 := ⟨by decide +kernel, by decide +kernel, by decide +kernel⟩
theorem p_X12_heapFrom : plainName q_X12_heapFrom.1.cls = true := by decide +kernel
set_option maxRecDepth 100000 in
theorem m_X12_hole : zML[238]? = some q_X12_hole := rfl
theorem h_X12_hole : q_X12_hole.1.cls ≠ "java/lang/invoke/MethodHandle" ∧ q_X12_hole.1.cls ≠ "java/lang/invoke/VarHandle" ∧ (parseMethodDescriptor q_X12_hole.1.desc).map (fun d => d.parameters.length) = some 1 := ⟨by decide +kernel, by decide +kernel, by decide +kernel⟩
theorem p_X12_hole : plainName q_X12_hole.1.cls = true := by decide +kernel
set_option maxRecDepth 100000 in
theorem m_X12_honey : zML[239]? = some q_X12_honey := rfl
theorem h_X12_honey : q_X12_honey.1.cls ≠ "java/lang/invoke/MethodHandle" ∧ q_X12_honey.1.cls ≠ "java/lang/invoke/VarHandle" ∧ (parseMethodDescriptor q_X12_honey.1.desc).map (fun d => d.parameters.length) = some 3 := ⟨by decide +kernel, by decide +kernel, by decide +kernel⟩
theorem p_X12_honey : plainName q_X12_honey.1.cls = true := by decide +kernel
set_option maxRecDepth 100000 in
theorem m_X12_honeys : zML[240]? = some q_X12_honeys := rfl
theorem h_X12_honeys : q_X12_honeys.1.cls ≠ "java/lang/invoke/MethodHandle" ∧ q_X12_honeys.1.cls ≠ "java/lang/invoke/VarHandle" ∧ (parseMethodDescriptor q_X12_honeys.1.desc).map (fun d => d.parameters.length) = some 2 := ⟨by decide +kernel, by decide +kernel, by decide +kernel⟩
theorem p_X12_honeys : plainName q_X12_honeys.1.cls = true := by decide +kernel
set_option maxRecDepth 100000 in
theorem m_X12_isAtWord : zML[241]? = some q_X12_isAtWord := rfl
theorem h_X12_isAtWord : q_X12_isAtWord.1.cls ≠ "java/lang/invoke/MethodHandle" ∧ q_X12_isAtWord.1.cls ≠ "java/lang/invoke/VarHandle" ∧ (parseMethodDescriptor q_X12_isAtWord.1.desc).map (fun d => d.parameters.length) = some 0 := ⟨by decide +kernel, by decide +kernel, by decide +kernel⟩
theorem p_X12_isAtWord : plainName q_X12_isAtWord.1.cls = true := by decide +kernel
set_option maxRecDepth 100000 in
theorem m_X12_isBeside : zML[242]? = some q_X12_isBeside := rfl
theorem h_X12_isBeside : q_X12_isBeside.1.cls ≠ "java/lang/invoke/MethodHandle" ∧ q_X12_isBeside.1.cls ≠ "java/lang/invoke/VarHandle" ∧ (parseMethodDescriptor q_X12_isBeside.1.desc).map (fun d => d.parameters.length) = some 2 := ⟨by decide +kernel, by decide +kernel, by decide +kernel⟩
theorem p_X12_isBeside : plainName q_X12_isBeside.1.cls = true := by decide +kernel
set_option maxRecDepth 100000 in
theorem m_X12_isBy : zML[243]? = some q_X12_isBy := rfl
theorem h_X12_isBy : q_X12_isBy.1.cls ≠ "java/lang/invoke/MethodHandle" ∧ q_X12_isBy.1.cls ≠ "java/lang/invoke/VarHandle" ∧ (parseMethodDescriptor q_X12_isBy.1.desc).map (fun d => d.parameters.length) = some 0 := ⟨by decide +kernel, by decide +kernel, by decide +kernel⟩
theorem p_X12_isBy : plainName q_X12_isBy.1.cls = true := by decide +kernel
set_option maxRecDepth 100000 in
theorem m_X12_isCell : zML[244]? = some q_X12_isCell := rfl
theorem h_X12_isCell : q_X12_isCell.1.cls ≠ "java/lang/invoke/MethodHandle" ∧ q_X12_isCell.1.cls ≠ "java/lang/invoke/VarHandle" ∧ (parseMethodDescriptor q_X12_isCell.1.desc).map (fun d => d.parameters.length) = some 2 := ⟨by decide +kernel, by decide +kernel, by decide +kernel⟩
theorem p_X12_isCell : plainName q_X12_isCell.1.cls = true := by decide +kernel
set_option maxRecDepth 100000 in
theorem m_X12_isCompany : zML[245]? = some q_X12_isCompany := rfl
theorem h_X12_isCompany : q_X12_isCompany.1.cls ≠ "java/lang/invoke/MethodHandle" ∧ q_X12_isCompany.1.cls ≠ "java/lang/invoke/VarHandle" ∧ (parseMethodDescriptor q_X12_isCompany.1.desc).map (fun d => d.parameters.length) = some 0 := ⟨by decide +kernel, by decide +kernel, by decide +kernel⟩
theorem p_X12_isCompany : plainName q_X12_isCompany.1.cls = true := by decide +kernel
set_option maxRecDepth 100000 in
theorem m_X12_isCompanyAt : zML[246]? = some q_X12_isCompanyAt := rfl
theorem h_X12_isCompanyAt : q_X12_isCompanyAt.1.cls ≠ "java/lang/invoke/MethodHandle" ∧ q_X12_isCompanyAt.1.cls ≠ "java/lang/invoke/VarHandle" ∧ (parseMethodDescriptor q_X12_isCompanyAt.1.desc).map (fun d => d.parameters.length) = some 1 := ⟨by decide +kernel, by decide +kernel, by decide +kernel⟩
theorem p_X12_isCompanyAt : plainName q_X12_isCompanyAt.1.cls = true := by decide +kernel
set_option maxRecDepth 100000 in
theorem m_X12_isCopies : zML[247]? = some q_X12_isCopies := rfl
theorem h_X12_isCopies : q_X12_isCopies.1.cls ≠ "java/lang/invoke/MethodHandle" ∧ q_X12_isCopies.1.cls ≠ "java/lang/invoke/VarHandle" ∧ (parseMethodDescriptor q_X12_isCopies.1.desc).map (fun d => d.parameters.length) = some 0 := ⟨by decide +kernel, by decide +kernel, by decide +kernel⟩
theorem p_X12_isCopies : plainName q_X12_isCopies.1.cls = true := by decide +kernel
set_option maxRecDepth 100000 in
theorem m_X12_isCopy : zML[248]? = some q_X12_isCopy := rfl
theorem h_X12_isCopy : q_X12_isCopy.1.cls ≠ "java/lang/invoke/MethodHandle" ∧ q_X12_isCopy.1.cls ≠ "java/lang/invoke/VarHandle" ∧ (parseMethodDescriptor q_X12_isCopy.1.desc).map (fun d => d.parameters.length) = some 1 := ⟨by decide +kernel, by decide +kernel, by decide +kernel⟩
theorem p_X12_isCopy : plainName q_X12_isCopy.1.cls = true := by decide +kernel
set_option maxRecDepth 100000 in
theorem m_X12_isDigit : zML[249]? = some q_X12_isDigit := rfl
theorem h_X12_isDigit : q_X12_isDigit.1.cls ≠ "java/lang/invoke/MethodHandle" ∧ q_X12_isDigit.1.cls ≠ "java/lang/invoke/VarHandle" ∧ (parseMethodDescriptor q_X12_isDigit.1.desc).map (fun d => d.parameters.length) = some 1 := ⟨by decide +kernel, by decide +kernel, by decide +kernel⟩
theorem p_X12_isDigit : plainName q_X12_isDigit.1.cls = true := by decide +kernel
set_option maxRecDepth 100000 in
theorem m_X12_isEnd : zML[250]? = some q_X12_isEnd := rfl
theorem h_X12_isEnd : q_X12_isEnd.1.cls ≠ "java/lang/invoke/MethodHandle" ∧ q_X12_isEnd.1.cls ≠ "java/lang/invoke/VarHandle" ∧ (parseMethodDescriptor q_X12_isEnd.1.desc).map (fun d => d.parameters.length) = some 0 := ⟨by decide +kernel, by decide +kernel, by decide +kernel⟩
theorem p_X12_isEnd : plainName q_X12_isEnd.1.cls = true := by decide +kernel
set_option maxRecDepth 100000 in
theorem m_X12_isFood : zML[251]? = some q_X12_isFood := rfl
theorem h_X12_isFood : q_X12_isFood.1.cls ≠ "java/lang/invoke/MethodHandle" ∧ q_X12_isFood.1.cls ≠ "java/lang/invoke/VarHandle" ∧ (parseMethodDescriptor q_X12_isFood.1.desc).map (fun d => d.parameters.length) = some 2 := ⟨by decide +kernel, by decide +kernel, by decide +kernel⟩
theorem p_X12_isFood : plainName q_X12_isFood.1.cls = true := by decide +kernel
set_option maxRecDepth 100000 in
theorem m_X12_isIn : zML[252]? = some q_X12_isIn := rfl
theorem h_X12_isIn : q_X12_isIn.1.cls ≠ "java/lang/invoke/MethodHandle" ∧ q_X12_isIn.1.cls ≠ "java/lang/invoke/VarHandle" ∧ (parseMethodDescriptor q_X12_isIn.1.desc).map (fun d => d.parameters.length) = some 3 := ⟨by decide +kernel, by decide +kernel, by decide +kernel⟩
theorem p_X12_isIn : plainName q_X12_isIn.1.cls = true := by decide +kernel
set_option maxRecDepth 100000 in
theorem m_X12_isKept : zML[253]? = some q_X12_isKept := rfl
theorem h_X12_isKept : q_X12_isKept.1.cls ≠ "java/lang/invoke/MethodHandle" ∧ q_X12_isKept.1.cls ≠ "java/lang/invoke/VarHandle" ∧ (parseMethodDescriptor q_X12_isKept.1.desc).map (fun d => d.parameters.length) = some 0 := ⟨by decide +kernel, by decide +kernel, by decide +kernel⟩
theorem p_X12_isKept : plainName q_X12_isKept.1.cls = true := by decide +kernel
set_option maxRecDepth 100000 in
theorem m_X12_isLetter : zML[254]? = some q_X12_isLetter := rfl
theorem h_X12_isLetter : q_X12_isLetter.1.cls ≠ "java/lang/invoke/MethodHandle" ∧ q_X12_isLetter.1.cls ≠ "java/lang/invoke/VarHandle" ∧ (parseMethodDescriptor q_X12_isLetter.1.desc).map (fun d => d.parameters.length) = some 1 := ⟨by decide +kernel, by decide +kernel, by decide +kernel⟩
theorem p_X12_isLetter : plainName q_X12_isLetter.1.cls = true := by decide +kernel
set_option maxRecDepth 100000 in
theorem m_X12_isName : zML[255]? = some q_X12_isName := rfl
theorem h_X12_isName : q_X12_isName.1.cls ≠ "java/lang/invoke/MethodHandle" ∧ q_X12_isName.1.cls ≠ "java/lang/invoke/VarHandle" ∧ (parseMethodDescriptor q_X12_isName.1.desc).map (fun d => d.parameters.length) = some 0 := ⟨by decide +kernel, by decide +kernel, by decide +kernel⟩
theorem p_X12_isName : plainName q_X12_isName.1.cls = true := by decide +kernel
set_option maxRecDepth 100000 in
theorem m_X12_isPath : zML[256]? = some q_X12_isPath := rfl
theorem h_X12_isPath : q_X12_isPath.1.cls ≠ "java/lang/invoke/MethodHandle" ∧ q_X12_isPath.1.cls ≠ "java/lang/invoke/VarHandle" ∧ (parseMethodDescriptor q_X12_isPath.1.desc).map (fun d => d.parameters.length) = some 1 := ⟨by decide +kernel, by decide +kernel, by decide +kernel⟩
theorem p_X12_isPath : plainName q_X12_isPath.1.cls = true := by decide +kernel
set_option maxRecDepth 100000 in
theorem m_X12_isRise : zML[257]? = some q_X12_isRise := rfl
theorem h_X12_isRise : q_X12_isRise.1.cls ≠ "java/lang/invoke/MethodHandle" ∧ q_X12_isRise.1.cls ≠ "java/lang/invoke/VarHandle" ∧ (parseMethodDescriptor q_X12_isRise.1.desc).map (fun d => d.parameters.length) = some 0 := ⟨by decide +kernel, by decide +kernel, by decide +kernel⟩
theorem p_X12_isRise : plainName q_X12_isRise.1.cls = true := by decide +kernel
set_option maxRecDepth 100000 in
theorem m_X12_isRow : zML[258]? = some q_X12_isRow := rfl
theorem h_X12_isRow : q_X12_isRow.1.cls ≠ "java/lang/invoke/MethodHandle" ∧ q_X12_isRow.1.cls ≠ "java/lang/invoke/VarHandle" ∧ (parseMethodDescriptor q_X12_isRow.1.desc).map (fun d => d.parameters.length) = some 0 := ⟨by decide +kernel, by decide +kernel, by decide +kernel⟩
theorem p_X12_isRow : plainName q_X12_isRow.1.cls = true := by decide +kernel
set_option maxRecDepth 100000 in
theorem m_X12_isSign : zML[259]? = some q_X12_isSign := rfl
theorem h_X12_isSign : q_X12_isSign.1.cls ≠ "java/lang/invoke/MethodHandle" ∧ q_X12_isSign.1.cls ≠ "java/lang/invoke/VarHandle" ∧ (parseMethodDescriptor q_X12_isSign.1.desc).map (fun d => d.parameters.length) = some 1 := ⟨by decide +kernel, by decide +kernel, by decide +kernel⟩
theorem p_X12_isSign : plainName q_X12_isSign.1.cls = true := by decide +kernel
set_option maxRecDepth 100000 in
theorem m_X12_isSignByte : zML[260]? = some q_X12_isSignByte := rfl
theorem h_X12_isSignByte : q_X12_isSignByte.1.cls ≠ "java/lang/invoke/MethodHandle" ∧ q_X12_isSignByte.1.cls ≠ "java/lang/invoke/VarHandle" ∧ (parseMethodDescriptor q_X12_isSignByte.1.desc).map (fun d => d.parameters.length) = some 1 := ⟨by decide +kernel, by decide +kernel, by decide +kernel⟩
theorem p_X12_isSignByte : plainName q_X12_isSignByte.1.cls = true := by decide +kernel
set_option maxRecDepth 100000 in
theorem m_X12_isSo : zML[261]? = some q_X12_isSo := rfl
theorem h_X12_isSo : q_X12_isSo.1.cls ≠ "java/lang/invoke/MethodHandle" ∧ q_X12_isSo.1.cls ≠ "java/lang/invoke/VarHandle" ∧ (parseMethodDescriptor q_X12_isSo.1.desc).map (fun d => d.parameters.length) = some 1 := ⟨by decide +kernel, by decide +kernel, by decide +kernel⟩
theorem p_X12_isSo : plainName q_X12_isSo.1.cls = true := by decide +kernel
set_option maxRecDepth 100000 in
theorem m_X12_isTo : zML[262]? = some q_X12_isTo := rfl
theorem h_X12_isTo : q_X12_isTo.1.cls ≠ "java/lang/invoke/MethodHandle" ∧ q_X12_isTo.1.cls ≠ "java/lang/invoke/VarHandle" ∧ (parseMethodDescriptor q_X12_isTo.1.desc).map (fun d => d.parameters.length) = some 0 := ⟨by decide +kernel, by decide +kernel, by decide +kernel⟩
theorem p_X12_isTo : plainName q_X12_isTo.1.cls = true := by decide +kernel
set_option maxRecDepth 100000 in
theorem m_X12_isTray : zML[263]? = some q_X12_isTray := rfl
theorem h_X12_isTray : q_X12_isTray.1.cls ≠ "java/lang/invoke/MethodHandle" ∧ q_X12_isTray.1.cls ≠ "java/lang/invoke/VarHandle" ∧ (parseMethodDescriptor q_X12_isTray.1.desc).map (fun d => d.parameters.length) = some 1 := ⟨by decide +kernel, by decide +kernel, by decide +kernel⟩
theorem p_X12_isTray : plainName q_X12_isTray.1.cls = true := by decide +kernel
set_option maxRecDepth 100000 in
theorem m_X12_isWanted : zML[264]? = some q_X12_isWanted := rfl
theorem h_X12_isWanted : q_X12_isWanted.1.cls ≠ "java/lang/invoke/MethodHandle" ∧ q_X12_isWanted.1.cls ≠ "java/lang/invoke/VarHandle" ∧ (parseMethodDescriptor q_X12_isWanted.1.desc).map (fun d => d.parameters.length) = some 2 := ⟨by decide +kernel, by decide +kernel, by decide +kernel⟩
theorem p_X12_isWanted : plainName q_X12_isWanted.1.cls = true := by decide +kernel
set_option maxRecDepth 100000 in
theorem m_X12_isWell : zML[265]? = some q_X12_isWell := rfl
theorem h_X12_isWell : q_X12_isWell.1.cls ≠ "java/lang/invoke/MethodHandle" ∧ q_X12_isWell.1.cls ≠ "java/lang/invoke/VarHandle" ∧ (parseMethodDescriptor q_X12_isWell.1.desc).map (fun d => d.parameters.length) = some 0 := ⟨by decide +kernel, by decide +kernel, by decide +kernel⟩
theorem p_X12_isWell : plainName q_X12_isWell.1.cls = true := by decide +kernel
set_option maxRecDepth 100000 in
theorem m_X12_isWide : zML[266]? = some q_X12_isWide := rfl
theorem h_X12_isWide : q_X12_isWide.1.cls ≠ "java/lang/invoke/MethodHandle" ∧ q_X12_isWide.1.cls ≠ "java/lang/invoke/VarHandle" ∧ (parseMethodDescriptor q_X12_isWide.1.desc).map (fun d => d.parameters.length) = some 0 := ⟨by decide +kernel, by decide +kernel, by decide +kernel⟩
theorem p_X12_isWide : plainName q_X12_isWide.1.cls = true := by decide +kernel
set_option maxRecDepth 100000 in
theorem m_X12_isWord : zML[267]? = some q_X12_isWord := rfl
theorem h_X12_isWord : q_X12_isWord.1.cls ≠ "java/lang/invoke/MethodHandle" ∧ q_X12_isWord.1.cls ≠ "java/lang/invoke/VarHandle" ∧ (parseMethodDescriptor q_X12_isWord.1.desc).map (fun d => d.parameters.length) = some 1 := ⟨by decide +kernel, by decide +kernel, by decide +kernel⟩
theorem p_X12_isWord : plainName q_X12_isWord.1.cls = true := by decide +kernel
set_option maxRecDepth 100000 in
theorem m_X12_land : zML[268]? = some q_X12_land := rfl
theorem h_X12_land : q_X12_land.1.cls ≠ "java/lang/invoke/MethodHandle" ∧ q_X12_land.1.cls ≠ "java/lang/invoke/VarHandle" ∧ (parseMethodDescriptor q_X12_land.1.desc).map (fun d => d.parameters.length) = some 1 := ⟨by decide +kernel, by decide +kernel, by decide +kernel⟩
theorem p_X12_land : plainName q_X12_land.1.cls = true := by decide +kernel
set_option maxRecDepth 100000 in
theorem m_X12_lay : zML[269]? = some q_X12_lay := rfl
theorem h_X12_lay : q_X12_lay.1.cls ≠ "java/lang/invoke/MethodHandle" ∧ q_X12_lay.1.cls ≠ "java/lang/invoke/VarHandle" ∧ (parseMethodDescriptor q_X12_lay.1.desc).map (fun d => d.parameters.length) = some 1 := ⟨by decide +kernel, by decide +kernel, by decide +kernel⟩
theorem p_X12_lay : plainName q_X12_lay.1.cls = true := by decide +kernel
set_option maxRecDepth 100000 in
theorem m_X12_left : zML[270]? = some q_X12_left := rfl
theorem h_X12_left : q_X12_left.1.cls ≠ "java/lang/invoke/MethodHandle" ∧ q_X12_left.1.cls ≠ "java/lang/invoke/VarHandle" ∧ (parseMethodDescriptor q_X12_left.1.desc).map (fun d => d.parameters.length) = some 0 := ⟨by decide +kernel, by decide +kernel, by decide +kernel⟩
theorem p_X12_left : plainName q_X12_left.1.cls = true := by decide +kernel
set_option maxRecDepth 100000 in
theorem m_X12_letterCost : zML[271]? = some q_X12_letterCost := rfl
theorem h_X12_letterCost : q_X12_letterCost.1.cls ≠ "java/lang/invoke/MethodHandle" ∧ q_X12_letterCost.1.cls ≠ "java/lang/invoke/VarHandle" ∧ (parseMethodDescriptor q_X12_letterCost.1.desc).map (fun d => d.parameters.length) = some 1 := ⟨by decide +kernel, by decide +kernel, by decide +kernel⟩
theorem p_X12_letterCost : plainName q_X12_letterCost.1.cls = true := by decide +kernel
set_option maxRecDepth 100000 in
theorem m_X12_look2 : zML[272]? = some q_X12_look2 := rfl
theorem h_X12_look2 : q_X12_look2.1.cls ≠ "java/lang/invoke/MethodHandle" ∧ q_X12_look2.1.cls ≠ "java/lang/invoke/VarHandle" ∧ (parseMethodDescriptor q_X12_look2.1.desc).map (fun d => d.parameters.length) = some 1 := ⟨by decide +kernel, by decide +kernel, by decide +kernel⟩
theorem p_X12_look2 : plainName q_X12_look2.1.cls = true := by decide +kernel
set_option maxRecDepth 100000 in
theorem m_X12_many : zML[273]? = some q_X12_many := rfl
theorem h_X12_many : q_X12_many.1.cls ≠ "java/lang/invoke/MethodHandle" ∧ q_X12_many.1.cls ≠ "java/lang/invoke/VarHandle" ∧ (parseMethodDescriptor q_X12_many.1.desc).map (fun d => d.parameters.length) = some 1 := ⟨by decide +kernel, by decide +kernel, by decide +kernel⟩
theorem p_X12_many : plainName q_X12_many.1.cls = true := by decide +kernel
set_option maxRecDepth 100000 in
theorem m_X12_march : zML[274]? = some q_X12_march := rfl
theorem h_X12_march : q_X12_march.1.cls ≠ "java/lang/invoke/MethodHandle" ∧ q_X12_march.1.cls ≠ "java/lang/invoke/VarHandle" ∧ (parseMethodDescriptor q_X12_march.1.desc).map (fun d => d.parameters.length) = some 1 := ⟨by decide +kernel, by decide +kernel, by decide +kernel⟩
theorem p_X12_march : plainName q_X12_march.1.cls = true := by decide +kernel
set_option maxRecDepth 100000 in
theorem m_X12_marches : zML[275]? = some q_X12_marches := rfl
theorem h_X12_marches : q_X12_marches.1.cls ≠ "java/lang/invoke/MethodHandle" ∧ q_X12_marches.1.cls ≠ "java/lang/invoke/VarHandle" ∧ (parseMethodDescriptor q_X12_marches.1.desc).map (fun d => d.parameters.length) = some 1 := ⟨by decide +kernel, by decide +kernel, by decide +kernel⟩
theorem p_X12_marches : plainName q_X12_marches.1.cls = true := by decide +kernel
set_option maxRecDepth 100000 in
theorem m_X12_mark : zML[276]? = some q_X12_mark := rfl
theorem h_X12_mark : q_X12_mark.1.cls ≠ "java/lang/invoke/MethodHandle" ∧ q_X12_mark.1.cls ≠ "java/lang/invoke/VarHandle" ∧ (parseMethodDescriptor q_X12_mark.1.desc).map (fun d => d.parameters.length) = some 0 := ⟨by decide +kernel, by decide +kernel, by decide +kernel⟩
theorem p_X12_mark : plainName q_X12_mark.1.cls = true := by decide +kernel
set_option maxRecDepth 100000 in
theorem m_X12_mean : zML[277]? = some q_X12_mean := rfl
theorem h_X12_mean : q_X12_mean.1.cls ≠ "java/lang/invoke/MethodHandle" ∧ q_X12_mean.1.cls ≠ "java/lang/invoke/VarHandle" ∧ (parseMethodDescriptor q_X12_mean.1.desc).map (fun d => d.parameters.length) = some 3 := ⟨by decide +kernel, by decide +kernel, by decide +kernel⟩
theorem p_X12_mean : plainName q_X12_mean.1.cls = true := by decide +kernel
set_option maxRecDepth 100000 in
theorem m_X12_mostWorth : zML[278]? = some q_X12_mostWorth := rfl
theorem h_X12_mostWorth : q_X12_mostWorth.1.cls ≠ "java/lang/invoke/MethodHandle" ∧ q_X12_mostWorth.1.cls ≠ "java/lang/invoke/VarHandle" ∧ (parseMethodDescriptor q_X12_mostWorth.1.desc).map (fun d => d.parameters.length) = some 2 := ⟨by decide +kernel, by decide +kernel, by decide +kernel⟩
theorem p_X12_mostWorth : plainName q_X12_mostWorth.1.cls = true := by decide +kernel
set_option maxRecDepth 100000 in
theorem m_X12_mould : zML[279]? = some q_X12_mould := rfl
theorem h_X12_mould : q_X12_mould.1.cls ≠ "java/lang/invoke/MethodHandle" ∧ q_X12_mould.1.cls ≠ "java/lang/invoke/VarHandle" ∧ (parseMethodDescriptor q_X12_mould.1.desc).map (fun d => d.parameters.length) = some 3 := ⟨by decide +kernel, by decide +kernel, by decide +kernel⟩
theorem p_X12_mould : plainName q_X12_mould.1.cls = true := by decide +kernel
set_option maxRecDepth 100000 in
theorem m_X12_moulds : zML[280]? = some q_X12_moulds := rfl
theorem h_X12_moulds : q_X12_moulds.1.cls ≠ "java/lang/invoke/MethodHandle" ∧ q_X12_moulds.1.cls ≠ "java/lang/invoke/VarHandle" ∧ (parseMethodDescriptor q_X12_moulds.1.desc).map (fun d => d.parameters.length) = some 2 := ⟨by decide +kernel, by decide +kernel, by decide +kernel⟩
theorem p_X12_moulds : plainName q_X12_moulds.1.cls = true := by decide +kernel
set_option maxRecDepth 100000 in
theorem m_X12_mouse : zML[281]? = some q_X12_mouse := rfl
theorem h_X12_mouse : q_X12_mouse.1.cls ≠ "java/lang/invoke/MethodHandle" ∧ q_X12_mouse.1.cls ≠ "java/lang/invoke/VarHandle" ∧ (parseMethodDescriptor q_X12_mouse.1.desc).map (fun d => d.parameters.length) = some 2 := ⟨by decide +kernel, by decide +kernel, by decide +kernel⟩
theorem p_X12_mouse : plainName q_X12_mouse.1.cls = true := by decide +kernel
set_option maxRecDepth 100000 in
theorem m_X12_must : zML[282]? = some q_X12_must := rfl
theorem h_X12_must : q_X12_must.1.cls ≠ "java/lang/invoke/MethodHandle" ∧ q_X12_must.1.cls ≠ "java/lang/invoke/VarHandle" ∧ (parseMethodDescriptor q_X12_must.1.desc).map (fun d => d.parameters.length) = some 1 := ⟨by decide +kernel, by decide +kernel, by decide +kernel⟩
theorem p_X12_must : plainName q_X12_must.1.cls = true := by decide +kernel
set_option maxRecDepth 100000 in
theorem m_X12_named : zML[283]? = some q_X12_named := rfl
theorem h_X12_named : q_X12_named.1.cls ≠ "java/lang/invoke/MethodHandle" ∧ q_X12_named.1.cls ≠ "java/lang/invoke/VarHandle" ∧ (parseMethodDescriptor q_X12_named.1.desc).map (fun d => d.parameters.length) = some 2 := ⟨by decide +kernel, by decide +kernel, by decide +kernel⟩
theorem p_X12_named : plainName q_X12_named.1.cls = true := by decide +kernel
set_option maxRecDepth 100000 in
theorem m_X12_next : zML[284]? = some q_X12_next := rfl
theorem h_X12_next : q_X12_next.1.cls ≠ "java/lang/invoke/MethodHandle" ∧ q_X12_next.1.cls ≠ "java/lang/invoke/VarHandle" ∧ (parseMethodDescriptor q_X12_next.1.desc).map (fun d => d.parameters.length) = some 0 := ⟨by decide +kernel, by decide +kernel, by decide +kernel⟩
theorem p_X12_next : plainName q_X12_next.1.cls = true := by decide +kernel
set_option maxRecDepth 100000 in
theorem m_X12_no : zML[285]? = some q_X12_no := rfl
theorem h_X12_no : q_X12_no.1.cls ≠ "java/lang/invoke/MethodHandle" ∧ q_X12_no.1.cls ≠ "java/lang/invoke/VarHandle" ∧ (parseMethodDescriptor q_X12_no.1.desc).map (fun d => d.parameters.length) = some 1 := ⟨by decide +kernel, by decide +kernel, by decide +kernel⟩
theorem p_X12_no : plainName q_X12_no.1.cls = true := by decide +kernel
set_option maxRecDepth 100000 in
theorem m_X12_numberOf : zML[286]? = some q_X12_numberOf := rfl
theorem h_X12_numberOf : q_X12_numberOf.1.cls ≠ "java/lang/invoke/MethodHandle" ∧ q_X12_numberOf.1.cls ≠ "java/lang/invoke/VarHandle" ∧ (parseMethodDescriptor q_X12_numberOf.1.desc).map (fun d => d.parameters.length) = some 2 := ⟨by decide +kernel, by decide +kernel, by decide +kernel⟩
theorem p_X12_numberOf : plainName q_X12_numberOf.1.cls = true := by decide +kernel
set_option maxRecDepth 100000 in
theorem m_X12_odds : zML[287]? = some q_X12_odds := rfl
theorem h_X12_odds : q_X12_odds.1.cls ≠ "java/lang/invoke/MethodHandle" ∧ q_X12_odds.1.cls ≠ "java/lang/invoke/VarHandle" ∧ (parseMethodDescriptor q_X12_odds.1.desc).map (fun d => d.parameters.length) = some 5 := ⟨by decide +kernel, by decide +kernel, by decide +kernel⟩
theorem p_X12_odds : plainName q_X12_odds.1.cls = true := by decide +kernel
set_option maxRecDepth 100000 in
theorem m_X12_opens : zML[288]? = some q_X12_opens := rfl
theorem h_X12_opens : q_X12_opens.1.cls ≠ "java/lang/invoke/MethodHandle" ∧ q_X12_opens.1.cls ≠ "java/lang/invoke/VarHandle" ∧ (parseMethodDescriptor q_X12_opens.1.desc).map (fun d => d.parameters.length) = some 2 := ⟨by decide +kernel, by decide +kernel, by decide +kernel⟩
theorem p_X12_opens : plainName q_X12_opens.1.cls = true := by decide +kernel
set_option maxRecDepth 100000 in
theorem m_X12_orders : zML[289]? = some q_X12_orders := rfl
theorem h_X12_orders : q_X12_orders.1.cls ≠ "java/lang/invoke/MethodHandle" ∧ q_X12_orders.1.cls ≠ "java/lang/invoke/VarHandle" ∧ (parseMethodDescriptor q_X12_orders.1.desc).map (fun d => d.parameters.length) = some 1 := ⟨by decide +kernel, by decide +kernel, by decide +kernel⟩
theorem p_X12_orders : plainName q_X12_orders.1.cls = true := by decide +kernel
set_option maxRecDepth 100000 in
theorem m_X12_placed : zML[290]? = some q_X12_placed := rfl
theorem h_X12_placed : q_X12_placed.1.cls ≠ "java/lang/invoke/MethodHandle" ∧ q_X12_placed.1.cls ≠ "java/lang/invoke/VarHandle" ∧ (parseMethodDescriptor q_X12_placed.1.desc).map (fun d => d.parameters.length) = some 2 := ⟨by decide +kernel, by decide +kernel, by decide +kernel⟩
theorem p_X12_placed : plainName q_X12_placed.1.cls = true := by decide +kernel
set_option maxRecDepth 100000 in
theorem m_X12_pour : zML[291]? = some q_X12_pour := rfl
theorem h_X12_pour : q_X12_pour.1.cls ≠ "java/lang/invoke/MethodHandle" ∧ q_X12_pour.1.cls ≠ "java/lang/invoke/VarHandle" ∧ (parseMethodDescriptor q_X12_pour.1.desc).map (fun d => d.parameters.length) = some 5 := ⟨by decide +kernel, by decide +kernel, by decide +kernel⟩
theorem p_X12_pour : plainName q_X12_pour.1.cls = true := by decide +kernel
set_option maxRecDepth 100000 in
theorem m_X12_ran : zML[292]? = some q_X12_ran := rfl
theorem h_X12_ran : q_X12_ran.1.cls ≠ "java/lang/invoke/MethodHandle" ∧ q_X12_ran.1.cls ≠ "java/lang/invoke/VarHandle" ∧ (parseMethodDescriptor q_X12_ran.1.desc).map (fun d => d.parameters.length) = some 1 := ⟨by decide +kernel, by decide +kernel, by decide +kernel⟩
theorem p_X12_ran : plainName q_X12_ran.1.cls = true := by decide +kernel
set_option maxRecDepth 100000 in
theorem m_X12_reach : zML[293]? = some q_X12_reach := rfl
theorem h_X12_reach : q_X12_reach.1.cls ≠ "java/lang/invoke/MethodHandle" ∧ q_X12_reach.1.cls ≠ "java/lang/invoke/VarHandle" ∧ (parseMethodDescriptor q_X12_reach.1.desc).map (fun d => d.parameters.length) = some 0 := ⟨by decide +kernel, by decide +kernel, by decide +kernel⟩
theorem p_X12_reach : plainName q_X12_reach.1.cls = true := by decide +kernel
set_option maxRecDepth 100000 in
theorem m_X12_read : zML[294]? = some q_X12_read := rfl
theorem h_X12_read : q_X12_read.1.cls ≠ "java/lang/invoke/MethodHandle" ∧ q_X12_read.1.cls ≠ "java/lang/invoke/VarHandle" ∧ (parseMethodDescriptor q_X12_read.1.desc).map (fun d => d.parameters.length) = some 2 := ⟨by decide +kernel, by decide +kernel, by decide +kernel⟩
theorem p_X12_read : plainName q_X12_read.1.cls = true := by decide +kernel
set_option maxRecDepth 100000 in
theorem m_X12_readCell : zML[295]? = some q_X12_readCell := rfl
theorem h_X12_readCell : q_X12_readCell.1.cls ≠ "java/lang/invoke/MethodHandle" ∧ q_X12_readCell.1.cls ≠ "java/lang/invoke/VarHandle" ∧ (parseMethodDescriptor q_X12_readCell.1.desc).map (fun d => d.parameters.length) = some 1 := ⟨by decide +kernel, by decide +kernel, by decide +kernel⟩
theorem p_X12_readCell : plainName q_X12_readCell.1.cls = true := by decide +kernel
set_option maxRecDepth 100000 in
theorem m_X12_readCompany : zML[296]? = some q_X12_readCompany := rfl
theorem h_X12_readCompany : q_X12_readCompany.1.cls ≠ "java/lang/invoke/MethodHandle" ∧ q_X12_readCompany.1.cls ≠ "java/lang/invoke/VarHandle" ∧ (parseMethodDescriptor q_X12_readCompany.1.desc).map (fun d => d.parameters.length) = some 0 := ⟨by decide +kernel, by decide +kernel, by decide +kernel⟩
theorem p_X12_readCompany : plainName q_X12_readCompany.1.cls = true := by decide +kernel
set_option maxRecDepth 100000 in
theorem m_X12_readCompanyName : zML[297]? = some q_X12_readCompanyName := rfl
theorem h_X12_readCompanyName : q_X12_readCompanyName.1.cls ≠ "java/lang/invoke/MethodHandle" ∧ q_X12_readCompanyName.1.cls ≠ "java/lang/invoke/VarHandle" ∧ (parseMethodDescriptor q_X12_readCompanyName.1.desc).map (fun d => d.parameters.length) = some 0 := ⟨by decide +kernel, by decide +kernel, by decide +kernel⟩
theorem p_X12_readCompanyName : plainName q_X12_readCompanyName.1.cls = true := by decide +kernel
set_option maxRecDepth 100000 in
theorem m_X12_readCopies : zML[298]? = some q_X12_readCopies := rfl
theorem h_X12_readCopies : q_X12_readCopies.1.cls ≠ "java/lang/invoke/MethodHandle" ∧ q_X12_readCopies.1.cls ≠ "java/lang/invoke/VarHandle" ∧ (parseMethodDescriptor q_X12_readCopies.1.desc).map (fun d => d.parameters.length) = some 0 := ⟨by decide +kernel, by decide +kernel, by decide +kernel⟩
theorem p_X12_readCopies : plainName q_X12_readCopies.1.cls = true := by decide +kernel
set_option maxRecDepth 100000 in
theorem m_X12_readCopy : zML[299]? = some q_X12_readCopy := rfl
theorem h_X12_readCopy : q_X12_readCopy.1.cls ≠ "java/lang/invoke/MethodHandle" ∧ q_X12_readCopy.1.cls ≠ "java/lang/invoke/VarHandle" ∧ (parseMethodDescriptor q_X12_readCopy.1.desc).map (fun d => d.parameters.length) = some 0 := ⟨by decide +kernel, by decide +kernel, by decide +kernel⟩
theorem p_X12_readCopy : plainName q_X12_readCopy.1.cls = true := by decide +kernel
set_option maxRecDepth 100000 in
theorem m_X12_readNumber : zML[300]? = some q_X12_readNumber := rfl
theorem h_X12_readNumber : q_X12_readNumber.1.cls ≠ "java/lang/invoke/MethodHandle" ∧ q_X12_readNumber.1.cls ≠ "java/lang/invoke/VarHandle" ∧ (parseMethodDescriptor q_X12_readNumber.1.desc).map (fun d => d.parameters.length) = some 2 := ⟨by decide +kernel, by decide +kernel, by decide +kernel⟩
theorem p_X12_readNumber : plainName q_X12_readNumber.1.cls = true := by decide +kernel
set_option maxRecDepth 100000 in
theorem m_X12_readRest : zML[301]? = some q_X12_readRest := rfl
theorem h_X12_readRest : q_X12_readRest.1.cls ≠ "java/lang/invoke/MethodHandle" ∧ q_X12_readRest.1.cls ≠ "java/lang/invoke/VarHandle" ∧ (parseMethodDescriptor q_X12_readRest.1.desc).map (fun d => d.parameters.length) = some 1 := ⟨by decide +kernel, by decide +kernel, by decide +kernel⟩
theorem p_X12_readRest : plainName q_X12_readRest.1.cls = true := by decide +kernel
set_option maxRecDepth 100000 in
theorem m_X12_readRise : zML[302]? = some q_X12_readRise := rfl
theorem h_X12_readRise : q_X12_readRise.1.cls ≠ "java/lang/invoke/MethodHandle" ∧ q_X12_readRise.1.cls ≠ "java/lang/invoke/VarHandle" ∧ (parseMethodDescriptor q_X12_readRise.1.desc).map (fun d => d.parameters.length) = some 0 := ⟨by decide +kernel, by decide +kernel, by decide +kernel⟩
theorem p_X12_readRise : plainName q_X12_readRise.1.cls = true := by decide +kernel
set_option maxRecDepth 100000 in
theorem m_X12_readRow : zML[303]? = some q_X12_readRow := rfl
theorem h_X12_readRow : q_X12_readRow.1.cls ≠ "java/lang/invoke/MethodHandle" ∧ q_X12_readRow.1.cls ≠ "java/lang/invoke/VarHandle" ∧ (parseMethodDescriptor q_X12_readRow.1.desc).map (fun d => d.parameters.length) = some 0 := ⟨by decide +kernel, by decide +kernel, by decide +kernel⟩
theorem p_X12_readRow : plainName q_X12_readRow.1.cls = true := by decide +kernel
set_option maxRecDepth 100000 in
theorem m_X12_readStep : zML[304]? = some q_X12_readStep := rfl
theorem h_X12_readStep : q_X12_readStep.1.cls ≠ "java/lang/invoke/MethodHandle" ∧ q_X12_readStep.1.cls ≠ "java/lang/invoke/VarHandle" ∧ (parseMethodDescriptor q_X12_readStep.1.desc).map (fun d => d.parameters.length) = some 1 := ⟨by decide +kernel, by decide +kernel, by decide +kernel⟩
theorem p_X12_readStep : plainName q_X12_readStep.1.cls = true := by decide +kernel
set_option maxRecDepth 100000 in
theorem m_X12_readTest : zML[305]? = some q_X12_readTest := rfl
theorem h_X12_readTest : q_X12_readTest.1.cls ≠ "java/lang/invoke/MethodHandle" ∧ q_X12_readTest.1.cls ≠ "java/lang/invoke/VarHandle" ∧ (parseMethodDescriptor q_X12_readTest.1.desc).map (fun d => d.parameters.length) = some 1 := ⟨by decide +kernel, by decide +kernel, by decide +kernel⟩
theorem p_X12_readTest : plainName q_X12_readTest.1.cls = true := by decide +kernel
set_option maxRecDepth 100000 in
theorem m_X12_refuse : zML[306]? = some q_X12_refuse := rfl
theorem h_X12_refuse : q_X12_refuse.1.cls ≠ "java/lang/invoke/MethodHandle" ∧ q_X12_refuse.1.cls ≠ "java/lang/invoke/VarHandle" ∧ (parseMethodDescriptor q_X12_refuse.1.desc).map (fun d => d.parameters.length) = some 1 := ⟨by decide +kernel, by decide +kernel, by decide +kernel⟩
theorem p_X12_refuse : plainName q_X12_refuse.1.cls = true := by decide +kernel
set_option maxRecDepth 100000 in
theorem m_X12_run : zML[307]? = some q_X12_run := rfl
theorem h_X12_run : q_X12_run.1.cls ≠ "java/lang/invoke/MethodHandle" ∧ q_X12_run.1.cls ≠ "java/lang/invoke/VarHandle" ∧ (parseMethodDescriptor q_X12_run.1.desc).map (fun d => d.parameters.length) = some 1 := ⟨by decide +kernel, by decide +kernel, by decide +kernel⟩
theorem p_X12_run : plainName q_X12_run.1.cls = true := by decide +kernel
set_option maxRecDepth 100000 in
theorem m_X12_runs : zML[308]? = some q_X12_runs := rfl
theorem h_X12_runs : q_X12_runs.1.cls ≠ "java/lang/invoke/MethodHandle" ∧ q_X12_runs.1.cls ≠ "java/lang/invoke/VarHandle" ∧ (parseMethodDescriptor q_X12_runs.1.desc).map (fun d => d.parameters.length) = some 1 := ⟨by decide +kernel, by decide +kernel, by decide +kernel⟩
theorem p_X12_runs : plainName q_X12_runs.1.cls = true := by decide +kernel
set_option maxRecDepth 100000 in
theorem m_X12_seen : zML[309]? = some q_X12_seen := rfl
theorem h_X12_seen : q_X12_seen.1.cls ≠ "java/lang/invoke/MethodHandle" ∧ q_X12_seen.1.cls ≠ "java/lang/invoke/VarHandle" ∧ (parseMethodDescriptor q_X12_seen.1.desc).map (fun d => d.parameters.length) = some 2 := ⟨by decide +kernel, by decide +kernel, by decide +kernel⟩
theorem p_X12_seen : plainName q_X12_seen.1.cls = true := by decide +kernel
set_option maxRecDepth 100000 in
theorem m_X12_shows : zML[310]? = some q_X12_shows := rfl
theorem h_X12_shows : q_X12_shows.1.cls ≠ "java/lang/invoke/MethodHandle" ∧ q_X12_shows.1.cls ≠ "java/lang/invoke/VarHandle" ∧ (parseMethodDescriptor q_X12_shows.1.desc).map (fun d => d.parameters.length) = some 3 := ⟨by decide +kernel, by decide +kernel, by decide +kernel⟩
theorem p_X12_shows : plainName q_X12_shows.1.cls = true := by decide +kernel
set_option maxRecDepth 100000 in
theorem m_X12_showsOf : zML[311]? = some q_X12_showsOf := rfl
theorem h_X12_showsOf : q_X12_showsOf.1.cls ≠ "java/lang/invoke/MethodHandle" ∧ q_X12_showsOf.1.cls ≠ "java/lang/invoke/VarHandle" ∧ (parseMethodDescriptor q_X12_showsOf.1.desc).map (fun d => d.parameters.length) = some 2 := ⟨by decide +kernel, by decide +kernel, by decide +kernel⟩
theorem p_X12_showsOf : plainName q_X12_showsOf.1.cls = true := by decide +kernel
set_option maxRecDepth 100000 in
theorem m_X12_spelled : zML[312]? = some q_X12_spelled := rfl
theorem h_X12_spelled : q_X12_spelled.1.cls ≠ "java/lang/invoke/MethodHandle" ∧ q_X12_spelled.1.cls ≠ "java/lang/invoke/VarHandle" ∧ (parseMethodDescriptor q_X12_spelled.1.desc).map (fun d => d.parameters.length) = some 6 := ⟨by decide +kernel, by decide +kernel, by decide +kernel⟩
theorem p_X12_spelled : plainName q_X12_spelled.1.cls = true := by decide +kernel
set_option maxRecDepth 100000 in
theorem m_X12_state : zML[313]? = some q_X12_state := rfl
theorem h_X12_state : q_X12_state.1.cls ≠ "java/lang/invoke/MethodHandle" ∧ q_X12_state.1.cls ≠ "java/lang/invoke/VarHandle" ∧ (parseMethodDescriptor q_X12_state.1.desc).map (fun d => d.parameters.length) = some 2 := ⟨by decide +kernel, by decide +kernel, by decide +kernel⟩
theorem p_X12_state : plainName q_X12_state.1.cls = true := by decide +kernel
set_option maxRecDepth 100000 in
theorem m_X12_stateOf : zML[314]? = some q_X12_stateOf := rfl
theorem h_X12_stateOf : q_X12_stateOf.1.cls ≠ "java/lang/invoke/MethodHandle" ∧ q_X12_stateOf.1.cls ≠ "java/lang/invoke/VarHandle" ∧ (parseMethodDescriptor q_X12_stateOf.1.desc).map (fun d => d.parameters.length) = some 2 := ⟨by decide +kernel, by decide +kernel, by decide +kernel⟩
theorem p_X12_stateOf : plainName q_X12_stateOf.1.cls = true := by decide +kernel
set_option maxRecDepth 100000 in
theorem m_X12_status : zML[315]? = some q_X12_status := rfl
theorem h_X12_status : q_X12_status.1.cls ≠ "java/lang/invoke/MethodHandle" ∧ q_X12_status.1.cls ≠ "java/lang/invoke/VarHandle" ∧ (parseMethodDescriptor q_X12_status.1.desc).map (fun d => d.parameters.length) = some 0 := ⟨by decide +kernel, by decide +kernel, by decide +kernel⟩
theorem p_X12_status : plainName q_X12_status.1.cls = true := by decide +kernel
set_option maxRecDepth 100000 in
theorem m_X12_steam : zML[316]? = some q_X12_steam := rfl
theorem h_X12_steam : q_X12_steam.1.cls ≠ "java/lang/invoke/MethodHandle" ∧ q_X12_steam.1.cls ≠ "java/lang/invoke/VarHandle" ∧ (parseMethodDescriptor q_X12_steam.1.desc).map (fun d => d.parameters.length) = some 2 := ⟨by decide +kernel, by decide +kernel, by decide +kernel⟩
theorem p_X12_steam : plainName q_X12_steam.1.cls = true := by decide +kernel
set_option maxRecDepth 100000 in
theorem m_X12_steams : zML[317]? = some q_X12_steams := rfl
theorem h_X12_steams : q_X12_steams.1.cls ≠ "java/lang/invoke/MethodHandle" ∧ q_X12_steams.1.cls ≠ "java/lang/invoke/VarHandle" ∧ (parseMethodDescriptor q_X12_steams.1.desc).map (fun d => d.parameters.length) = some 2 := ⟨by decide +kernel, by decide +kernel, by decide +kernel⟩
theorem p_X12_steams : plainName q_X12_steams.1.cls = true := by decide +kernel
set_option maxRecDepth 100000 in
theorem m_X12_stepWord : zML[318]? = some q_X12_stepWord := rfl
theorem h_X12_stepWord : q_X12_stepWord.1.cls ≠ "java/lang/invoke/MethodHandle" ∧ q_X12_stepWord.1.cls ≠ "java/lang/invoke/VarHandle" ∧ (parseMethodDescriptor q_X12_stepWord.1.desc).map (fun d => d.parameters.length) = some 0 := ⟨by decide +kernel, by decide +kernel, by decide +kernel⟩
theorem p_X12_stepWord : plainName q_X12_stepWord.1.cls = true := by decide +kernel
set_option maxRecDepth 100000 in
theorem m_X12_stuck : zML[319]? = some q_X12_stuck := rfl
theorem h_X12_stuck : q_X12_stuck.1.cls ≠ "java/lang/invoke/MethodHandle" ∧ q_X12_stuck.1.cls ≠ "java/lang/invoke/VarHandle" ∧ (parseMethodDescriptor q_X12_stuck.1.desc).map (fun d => d.parameters.length) = some 0 := ⟨by decide +kernel, by decide +kernel, by decide +kernel⟩
theorem p_X12_stuck : plainName q_X12_stuck.1.cls = true := by decide +kernel
set_option maxRecDepth 100000 in
theorem m_X12_sums : zML[320]? = some q_X12_sums := rfl
theorem h_X12_sums : q_X12_sums.1.cls ≠ "java/lang/invoke/MethodHandle" ∧ q_X12_sums.1.cls ≠ "java/lang/invoke/VarHandle" ∧ (parseMethodDescriptor q_X12_sums.1.desc).map (fun d => d.parameters.length) = some 1 := ⟨by decide +kernel, by decide +kernel, by decide +kernel⟩
theorem p_X12_sums : plainName q_X12_sums.1.cls = true := by decide +kernel
set_option maxRecDepth 100000 in
theorem m_X12_supper : zML[321]? = some q_X12_supper := rfl
theorem h_X12_supper : q_X12_supper.1.cls ≠ "java/lang/invoke/MethodHandle" ∧ q_X12_supper.1.cls ≠ "java/lang/invoke/VarHandle" ∧ (parseMethodDescriptor q_X12_supper.1.desc).map (fun d => d.parameters.length) = some 3 := ⟨by decide +kernel, by decide +kernel, by decide +kernel⟩
theorem p_X12_supper : plainName q_X12_supper.1.cls = true := by decide +kernel
set_option maxRecDepth 100000 in
theorem m_X12_tastes : zML[322]? = some q_X12_tastes := rfl
theorem h_X12_tastes : q_X12_tastes.1.cls ≠ "java/lang/invoke/MethodHandle" ∧ q_X12_tastes.1.cls ≠ "java/lang/invoke/VarHandle" ∧ (parseMethodDescriptor q_X12_tastes.1.desc).map (fun d => d.parameters.length) = some 3 := ⟨by decide +kernel, by decide +kernel, by decide +kernel⟩
theorem p_X12_tastes : plainName q_X12_tastes.1.cls = true := by decide +kernel
set_option maxRecDepth 100000 in
theorem m_X12_tellCompany : zML[323]? = some q_X12_tellCompany := rfl
theorem h_X12_tellCompany : q_X12_tellCompany.1.cls ≠ "java/lang/invoke/MethodHandle" ∧ q_X12_tellCompany.1.cls ≠ "java/lang/invoke/VarHandle" ∧ (parseMethodDescriptor q_X12_tellCompany.1.desc).map (fun d => d.parameters.length) = some 1 := ⟨by decide +kernel, by decide +kernel, by decide +kernel⟩
theorem p_X12_tellCompany : plainName q_X12_tellCompany.1.cls = true := by decide +kernel
set_option maxRecDepth 100000 in
theorem m_X12_tellWay : zML[324]? = some q_X12_tellWay := rfl
theorem h_X12_tellWay : q_X12_tellWay.1.cls ≠ "java/lang/invoke/MethodHandle" ∧ q_X12_tellWay.1.cls ≠ "java/lang/invoke/VarHandle" ∧ (parseMethodDescriptor q_X12_tellWay.1.desc).map (fun d => d.parameters.length) = some 3 := ⟨by decide +kernel, by decide +kernel, by decide +kernel⟩
theorem p_X12_tellWay : plainName q_X12_tellWay.1.cls = true := by decide +kernel
set_option maxRecDepth 100000 in
theorem m_X12_testWord : zML[325]? = some q_X12_testWord := rfl
theorem h_X12_testWord : q_X12_testWord.1.cls ≠ "java/lang/invoke/MethodHandle" ∧ q_X12_testWord.1.cls ≠ "java/lang/invoke/VarHandle" ∧ (parseMethodDescriptor q_X12_testWord.1.desc).map (fun d => d.parameters.length) = some 0 := ⟨by decide +kernel, by decide +kernel, by decide +kernel⟩
theorem p_X12_testWord : plainName q_X12_testWord.1.cls = true := by decide +kernel
set_option maxRecDepth 100000 in
theorem m_X12_times : zML[326]? = some q_X12_times := rfl
theorem h_X12_times : q_X12_times.1.cls ≠ "java/lang/invoke/MethodHandle" ∧ q_X12_times.1.cls ≠ "java/lang/invoke/VarHandle" ∧ (parseMethodDescriptor q_X12_times.1.desc).map (fun d => d.parameters.length) = some 2 := ⟨by decide +kernel, by decide +kernel, by decide +kernel⟩
theorem p_X12_times : plainName q_X12_times.1.cls = true := by decide +kernel
set_option maxRecDepth 100000 in
theorem m_X12_told : zML[327]? = some q_X12_told := rfl
theorem h_X12_told : q_X12_told.1.cls ≠ "java/lang/invoke/MethodHandle" ∧ q_X12_told.1.cls ≠ "java/lang/invoke/VarHandle" ∧ (parseMethodDescriptor q_X12_told.1.desc).map (fun d => d.parameters.length) = some 2 := ⟨by decide +kernel, by decide +kernel, by decide +kernel⟩
theorem p_X12_told : plainName q_X12_told.1.cls = true := by decide +kernel
set_option maxRecDepth 100000 in
theorem m_X12_top : zML[328]? = some q_X12_top := rfl
theorem h_X12_top : q_X12_top.1.cls ≠ "java/lang/invoke/MethodHandle" ∧ q_X12_top.1.cls ≠ "java/lang/invoke/VarHandle" ∧ (parseMethodDescriptor q_X12_top.1.desc).map (fun d => d.parameters.length) = some 0 := ⟨by decide +kernel, by decide +kernel, by decide +kernel⟩
theorem p_X12_top : plainName q_X12_top.1.cls = true := by decide +kernel
set_option maxRecDepth 100000 in
theorem m_X12_tray : zML[329]? = some q_X12_tray := rfl
theorem h_X12_tray : q_X12_tray.1.cls ≠ "java/lang/invoke/MethodHandle" ∧ q_X12_tray.1.cls ≠ "java/lang/invoke/VarHandle" ∧ (parseMethodDescriptor q_X12_tray.1.desc).map (fun d => d.parameters.length) = some 3 := ⟨by decide +kernel, by decide +kernel, by decide +kernel⟩
theorem p_X12_tray : plainName q_X12_tray.1.cls = true := by decide +kernel
set_option maxRecDepth 100000 in
theorem m_X12_trayed : zML[330]? = some q_X12_trayed := rfl
theorem h_X12_trayed : q_X12_trayed.1.cls ≠ "java/lang/invoke/MethodHandle" ∧ q_X12_trayed.1.cls ≠ "java/lang/invoke/VarHandle" ∧ (parseMethodDescriptor q_X12_trayed.1.desc).map (fun d => d.parameters.length) = some 1 := ⟨by decide +kernel, by decide +kernel, by decide +kernel⟩
theorem p_X12_trayed : plainName q_X12_trayed.1.cls = true := by decide +kernel
set_option maxRecDepth 100000 in
theorem m_X12_truly : zML[331]? = some q_X12_truly := rfl
theorem h_X12_truly : q_X12_truly.1.cls ≠ "java/lang/invoke/MethodHandle" ∧ q_X12_truly.1.cls ≠ "java/lang/invoke/VarHandle" ∧ (parseMethodDescriptor q_X12_truly.1.desc).map (fun d => d.parameters.length) = some 1 := ⟨by decide +kernel, by decide +kernel, by decide +kernel⟩
theorem p_X12_truly : plainName q_X12_truly.1.cls = true := by decide +kernel
set_option maxRecDepth 100000 in
theorem m_X12_unlike : zML[332]? = some q_X12_unlike := rfl
theorem h_X12_unlike : q_X12_unlike.1.cls ≠ "java/lang/invoke/MethodHandle" ∧ q_X12_unlike.1.cls ≠ "java/lang/invoke/VarHandle" ∧ (parseMethodDescriptor q_X12_unlike.1.desc).map (fun d => d.parameters.length) = some 2 := ⟨by decide +kernel, by decide +kernel, by decide +kernel⟩
theorem p_X12_unlike : plainName q_X12_unlike.1.cls = true := by decide +kernel
set_option maxRecDepth 100000 in
theorem m_X12_unlikeOf : zML[333]? = some q_X12_unlikeOf := rfl
theorem h_X12_unlikeOf : q_X12_unlikeOf.1.cls ≠ "java/lang/invoke/MethodHandle" ∧ q_X12_unlikeOf.1.cls ≠ "java/lang/invoke/VarHandle" ∧ (parseMethodDescriptor q_X12_unlikeOf.1.desc).map (fun d => d.parameters.length) = some 2 := ⟨by decide +kernel, by decide +kernel, by decide +kernel⟩
theorem p_X12_unlikeOf : plainName q_X12_unlikeOf.1.cls = true := by decide +kernel
set_option maxRecDepth 100000 in
theorem m_X12_way : zML[334]? = some q_X12_way := rfl
theorem h_X12_way : q_X12_way.1.cls ≠ "java/lang/invoke/MethodHandle" ∧ q_X12_way.1.cls ≠ "java/lang/invoke/VarHandle" ∧ (parseMethodDescriptor q_X12_way.1.desc).map (fun d => d.parameters.length) = some 1 := ⟨by decide +kernel, by decide +kernel, by decide +kernel⟩
theorem p_X12_way : plainName q_X12_way.1.cls = true := by decide +kernel
set_option maxRecDepth 100000 in
theorem m_X12_wayAt : zML[335]? = some q_X12_wayAt := rfl
theorem h_X12_wayAt : q_X12_wayAt.1.cls ≠ "java/lang/invoke/MethodHandle" ∧ q_X12_wayAt.1.cls ≠ "java/lang/invoke/VarHandle" ∧ (parseMethodDescriptor q_X12_wayAt.1.desc).map (fun d => d.parameters.length) = some 2 := ⟨by decide +kernel, by decide +kernel, by decide +kernel⟩
theorem p_X12_wayAt : plainName q_X12_wayAt.1.cls = true := by decide +kernel
set_option maxRecDepth 100000 in
theorem m_X12_wayOf : zML[336]? = some q_X12_wayOf := rfl
theorem h_X12_wayOf : q_X12_wayOf.1.cls ≠ "java/lang/invoke/MethodHandle" ∧ q_X12_wayOf.1.cls ≠ "java/lang/invoke/VarHandle" ∧ (parseMethodDescriptor q_X12_wayOf.1.desc).map (fun d => d.parameters.length) = some 3 := ⟨by decide +kernel, by decide +kernel, by decide +kernel⟩
theorem p_X12_wayOf : plainName q_X12_wayOf.1.cls = true := by decide +kernel
set_option maxRecDepth 100000 in
theorem m_X12_worth : zML[337]? = some q_X12_worth := rfl
theorem h_X12_worth : q_X12_worth.1.cls ≠ "java/lang/invoke/MethodHandle" ∧ q_X12_worth.1.cls ≠ "java/lang/invoke/VarHandle" ∧ (parseMethodDescriptor q_X12_worth.1.desc).map (fun d => d.parameters.length) = some 3 := ⟨by decide +kernel, by decide +kernel, by decide +kernel⟩
theorem p_X12_worth : plainName q_X12_worth.1.cls = true := by decide +kernel
set_option maxRecDepth 100000 in
theorem m_X12_worthOf : zML[338]? = some q_X12_worthOf := rfl
theorem h_X12_worthOf : q_X12_worthOf.1.cls ≠ "java/lang/invoke/MethodHandle" ∧ q_X12_worthOf.1.cls ≠ "java/lang/invoke/VarHandle" ∧ (parseMethodDescriptor q_X12_worthOf.1.desc).map (fun d => d.parameters.length) = some 2 := ⟨by decide +kernel, by decide +kernel, by decide +kernel⟩
theorem p_X12_worthOf : plainName q_X12_worthOf.1.cls = true := by decide +kernel
set_option maxRecDepth 100000 in
theorem m_X12_write : zML[339]? = some q_X12_write := rfl
theorem h_X12_write : q_X12_write.1.cls ≠ "java/lang/invoke/MethodHandle" ∧ q_X12_write.1.cls ≠ "java/lang/invoke/VarHandle" ∧ (parseMethodDescriptor q_X12_write.1.desc).map (fun d => d.parameters.length) = some 3 := ⟨by decide +kernel, by decide +kernel, by decide +kernel⟩
theorem p_X12_write : plainName q_X12_write.1.cls = true := by decide +kernel
set_option maxRecDepth 100000 in
theorem m_X12_wrong : zML[340]? = some q_X12_wrong := rfl
theorem h_X12_wrong : q_X12_wrong.1.cls ≠ "java/lang/invoke/MethodHandle" ∧ q_X12_wrong.1.cls ≠ "java/lang/invoke/VarHandle" ∧ (parseMethodDescriptor q_X12_wrong.1.desc).map (fun d => d.parameters.length) = some 0 := ⟨by decide +kernel, by decide +kernel, by decide +kernel⟩
theorem p_X12_wrong : plainName q_X12_wrong.1.cls = true := by decide +kernel
set_option maxRecDepth 100000 in
theorem m_L_law : zML[341]? = some q_L_law := rfl
theorem h_L_law : q_L_law.1.cls ≠ "java/lang/invoke/MethodHandle" ∧ q_L_law.1.cls ≠ "java/lang/invoke/VarHandle" ∧ (parseMethodDescriptor q_L_law.1.desc).map (fun d => d.parameters.length) = some 1 := ⟨by decide +kernel, by decide +kernel, by decide +kernel⟩
theorem p_L_law : plainName q_L_law.1.cls = true := by decide +kernel
