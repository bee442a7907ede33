/-! printed: what is asked of each method once -/
theorem m_J7_fill_53178 : xMT[0]? = some (q_J7_fill_53178, t_J7_fill_53178) := rfl
theorem h_J7_fill_53178 : q_J7_fill_53178.1.cls ≠ "java/lang/invoke/MethodHandle" ∧ q_J7_fill_53178.1.cls ≠ "java/lang/invoke/VarHandle" ∧ (parseMethodDescriptor q_J7_fill_53178.1.desc).map (fun d => d.parameters.length) = some 2 := ⟨by decide +kernel, by decide +kernel, by decide +kernel⟩
theorem p_J7_fill_53178 : plainName q_J7_fill_53178.1.cls = true := by decide +kernel
theorem m_J7_fill_d0a16 : xMT[1]? = some (q_J7_fill_d0a16, t_J7_fill_d0a16) := rfl
theorem h_J7_fill_d0a16 : q_J7_fill_d0a16.1.cls ≠ "java/lang/invoke/MethodHandle" ∧ q_J7_fill_d0a16.1.cls ≠ "java/lang/invoke/VarHandle" ∧ (parseMethodDescriptor q_J7_fill_d0a16.1.desc).map (fun d => d.parameters.length) = some 2 := ⟨by decide +kernel, by decide +kernel, by decide +kernel⟩
theorem p_J7_fill_d0a16 : plainName q_J7_fill_d0a16.1.cls = true := by decide +kernel
theorem m_J13_bitCount_95d88 : xMT[2]? = some (q_J13_bitCount_95d88, t_J13_bitCount_95d88) := rfl
theorem h_J13_bitCount_95d88 : q_J13_bitCount_95d88.1.cls ≠ "java/lang/invoke/MethodHandle" ∧ q_J13_bitCount_95d88.1.cls ≠ "java/lang/invoke/VarHandle" ∧ (parseMethodDescriptor q_J13_bitCount_95d88.1.desc).map (fun d => d.parameters.length) = some 1 := ⟨by decide +kernel, by decide +kernel, by decide +kernel⟩
theorem p_J13_bitCount_95d88 : plainName q_J13_bitCount_95d88.1.cls = true := by decide +kernel
theorem m_X0_init : xMT[3]? = some (q_X0_init, t_X0_init) := rfl
theorem h_X0_init : q_X0_init.1.cls ≠ "java/lang/invoke/MethodHandle" ∧ q_X0_init.1.cls ≠ "java/lang/invoke/VarHandle" ∧ (parseMethodDescriptor q_X0_init.1.desc).map (fun d => d.parameters.length) = some 0 := ⟨by decide +kernel, by decide +kernel, by decide +kernel⟩
theorem p_X0_init : plainName q_X0_init.1.cls = true := by decide +kernel
theorem m_X1_choose : xMT[4]? = some (q_X1_choose, t_X1_choose) := rfl
theorem h_X1_choose : q_X1_choose.1.cls ≠ "java/lang/invoke/MethodHandle" ∧ q_X1_choose.1.cls ≠ "java/lang/invoke/VarHandle" ∧ (parseMethodDescriptor q_X1_choose.1.desc).map (fun d => d.parameters.length) = some 1 := ⟨by decide +kernel, by decide +kernel, by decide +kernel⟩
theorem p_X1_choose : plainName q_X1_choose.1.cls = true := by decide +kernel
theorem m_X1_consider : xMT[5]? = some (q_X1_consider, t_X1_consider) := rfl
theorem h_X1_consider : q_X1_consider.1.cls ≠ "java/lang/invoke/MethodHandle" ∧ q_X1_consider.1.cls ≠ "java/lang/invoke/VarHandle" ∧ (parseMethodDescriptor q_X1_consider.1.desc).map (fun d => d.parameters.length) = some 2 := ⟨by decide +kernel, by decide +kernel, by decide +kernel⟩
theorem p_X1_consider : plainName q_X1_consider.1.cls = true := by decide +kernel
theorem m_X1_dearestCell : xMT[6]? = some (q_X1_dearestCell, t_X1_dearestCell) := rfl
theorem h_X1_dearestCell : q_X1_dearestCell.1.cls ≠ "java/lang/invoke/MethodHandle" ∧ q_X1_dearestCell.1.cls ≠ "java/lang/invoke/VarHandle" ∧ (parseMethodDescriptor q_X1_dearestCell.1.desc).map (fun d => d.parameters.length) = some 0 := ⟨by decide +kernel, by decide +kernel, by decide +kernel⟩
theorem p_X1_dearestCell : plainName q_X1_dearestCell.1.cls = true := by decide +kernel
theorem m_X1_holds : xMT[7]? = some (q_X1_holds, t_X1_holds) := rfl
theorem h_X1_holds : q_X1_holds.1.cls ≠ "java/lang/invoke/MethodHandle" ∧ q_X1_holds.1.cls ≠ "java/lang/invoke/VarHandle" ∧ (parseMethodDescriptor q_X1_holds.1.desc).map (fun d => d.parameters.length) = some 2 := ⟨by decide +kernel, by decide +kernel, by decide +kernel⟩
theorem p_X1_holds : plainName q_X1_holds.1.cls = true := by decide +kernel
theorem m_X1_init : xMT[8]? = some (q_X1_init, t_X1_init) := rfl
theorem h_X1_init : q_X1_init.1.cls ≠ "java/lang/invoke/MethodHandle" ∧ q_X1_init.1.cls ≠ "java/lang/invoke/VarHandle" ∧ (parseMethodDescriptor q_X1_init.1.desc).map (fun d => d.parameters.length) = some 1 := ⟨by decide +kernel, by decide +kernel, by decide +kernel⟩
theorem p_X1_init : plainName q_X1_init.1.cls = true := by decide +kernel
theorem m_X1_lossBy : xMT[9]? = some (q_X1_lossBy, t_X1_lossBy) := rfl
theorem h_X1_lossBy : q_X1_lossBy.1.cls ≠ "java/lang/invoke/MethodHandle" ∧ q_X1_lossBy.1.cls ≠ "java/lang/invoke/VarHandle" ∧ (parseMethodDescriptor q_X1_lossBy.1.desc).map (fun d => d.parameters.length) = some 1 := ⟨by decide +kernel, by decide +kernel, by decide +kernel⟩
theorem p_X1_lossBy : plainName q_X1_lossBy.1.cls = true := by decide +kernel
theorem m_X1_sitDown : xMT[10]? = some (q_X1_sitDown, t_X1_sitDown) := rfl
theorem h_X1_sitDown : q_X1_sitDown.1.cls ≠ "java/lang/invoke/MethodHandle" ∧ q_X1_sitDown.1.cls ≠ "java/lang/invoke/VarHandle" ∧ (parseMethodDescriptor q_X1_sitDown.1.desc).map (fun d => d.parameters.length) = some 2 := ⟨by decide +kernel, by decide +kernel, by decide +kernel⟩
theorem p_X1_sitDown : plainName q_X1_sitDown.1.cls = true := by decide +kernel
theorem m_X2_becomeLike : xMT[11]? = some (q_X2_becomeLike, t_X2_becomeLike) := rfl
theorem h_X2_becomeLike : q_X2_becomeLike.1.cls ≠ "java/lang/invoke/MethodHandle" ∧ q_X2_becomeLike.1.cls ≠ "java/lang/invoke/VarHandle" ∧ (parseMethodDescriptor q_X2_becomeLike.1.desc).map (fun d => d.parameters.length) = some 1 := ⟨by decide +kernel, by decide +kernel, by decide +kernel⟩
theorem p_X2_becomeLike : plainName q_X2_becomeLike.1.cls = true := by decide +kernel
theorem m_X2_becomePlains : xMT[12]? = some (q_X2_becomePlains, t_X2_becomePlains) := rfl
theorem h_X2_becomePlains : q_X2_becomePlains.1.cls ≠ "java/lang/invoke/MethodHandle" ∧ q_X2_becomePlains.1.cls ≠ "java/lang/invoke/VarHandle" ∧ (parseMethodDescriptor q_X2_becomePlains.1.desc).map (fun d => d.parameters.length) = some 2 := ⟨by decide +kernel, by decide +kernel, by decide +kernel⟩
theorem p_X2_becomePlains : plainName q_X2_becomePlains.1.cls = true := by decide +kernel
theorem m_X2_beside : xMT[13]? = some (q_X2_beside, t_X2_beside) := rfl
theorem h_X2_beside : q_X2_beside.1.cls ≠ "java/lang/invoke/MethodHandle" ∧ q_X2_beside.1.cls ≠ "java/lang/invoke/VarHandle" ∧ (parseMethodDescriptor q_X2_beside.1.desc).map (fun d => d.parameters.length) = some 2 := ⟨by decide +kernel, by decide +kernel, by decide +kernel⟩
theorem p_X2_beside : plainName q_X2_beside.1.cls = true := by decide +kernel
theorem m_X2_cellAt : xMT[14]? = some (q_X2_cellAt, t_X2_cellAt) := rfl
theorem h_X2_cellAt : q_X2_cellAt.1.cls ≠ "java/lang/invoke/MethodHandle" ∧ q_X2_cellAt.1.cls ≠ "java/lang/invoke/VarHandle" ∧ (parseMethodDescriptor q_X2_cellAt.1.desc).map (fun d => d.parameters.length) = some 2 := ⟨by decide +kernel, by decide +kernel, by decide +kernel⟩
theorem p_X2_cellAt : plainName q_X2_cellAt.1.cls = true := by decide +kernel
theorem m_X2_cellsThatAre : xMT[15]? = some (q_X2_cellsThatAre, t_X2_cellsThatAre) := rfl
theorem h_X2_cellsThatAre : q_X2_cellsThatAre.1.cls ≠ "java/lang/invoke/MethodHandle" ∧ q_X2_cellsThatAre.1.cls ≠ "java/lang/invoke/VarHandle" ∧ (parseMethodDescriptor q_X2_cellsThatAre.1.desc).map (fun d => d.parameters.length) = some 2 := ⟨by decide +kernel, by decide +kernel, by decide +kernel⟩
theorem p_X2_cellsThatAre : plainName q_X2_cellsThatAre.1.cls = true := by decide +kernel
theorem m_X2_clear : xMT[16]? = some (q_X2_clear, t_X2_clear) := rfl
theorem h_X2_clear : q_X2_clear.1.cls ≠ "java/lang/invoke/MethodHandle" ∧ q_X2_clear.1.cls ≠ "java/lang/invoke/VarHandle" ∧ (parseMethodDescriptor q_X2_clear.1.desc).map (fun d => d.parameters.length) = some 0 := ⟨by decide +kernel, by decide +kernel, by decide +kernel⟩
theorem p_X2_clear : plainName q_X2_clear.1.cls = true := by decide +kernel
theorem m_X2_crumbsLeft : xMT[17]? = some (q_X2_crumbsLeft, t_X2_crumbsLeft) := rfl
theorem h_X2_crumbsLeft : q_X2_crumbsLeft.1.cls ≠ "java/lang/invoke/MethodHandle" ∧ q_X2_crumbsLeft.1.cls ≠ "java/lang/invoke/VarHandle" ∧ (parseMethodDescriptor q_X2_crumbsLeft.1.desc).map (fun d => d.parameters.length) = some 0 := ⟨by decide +kernel, by decide +kernel, by decide +kernel⟩
theorem p_X2_crumbsLeft : plainName q_X2_crumbsLeft.1.cls = true := by decide +kernel
theorem m_X2_crumbsOf : xMT[18]? = some (q_X2_crumbsOf, t_X2_crumbsOf) := rfl
theorem h_X2_crumbsOf : q_X2_crumbsOf.1.cls ≠ "java/lang/invoke/MethodHandle" ∧ q_X2_crumbsOf.1.cls ≠ "java/lang/invoke/VarHandle" ∧ (parseMethodDescriptor q_X2_crumbsOf.1.desc).map (fun d => d.parameters.length) = some 1 := ⟨by decide +kernel, by decide +kernel, by decide +kernel⟩
theorem p_X2_crumbsOf : plainName q_X2_crumbsOf.1.cls = true := by decide +kernel
theorem m_X2_differences : xMT[19]? = some (q_X2_differences, t_X2_differences) := rfl
theorem h_X2_differences : q_X2_differences.1.cls ≠ "java/lang/invoke/MethodHandle" ∧ q_X2_differences.1.cls ≠ "java/lang/invoke/VarHandle" ∧ (parseMethodDescriptor q_X2_differences.1.desc).map (fun d => d.parameters.length) = some 2 := ⟨by decide +kernel, by decide +kernel, by decide +kernel⟩
theorem p_X2_differences : plainName q_X2_differences.1.cls = true := by decide +kernel
theorem m_X2_eat : xMT[20]? = some (q_X2_eat, t_X2_eat) := rfl
theorem h_X2_eat : q_X2_eat.1.cls ≠ "java/lang/invoke/MethodHandle" ∧ q_X2_eat.1.cls ≠ "java/lang/invoke/VarHandle" ∧ (parseMethodDescriptor q_X2_eat.1.desc).map (fun d => d.parameters.length) = some 2 := ⟨by decide +kernel, by decide +kernel, by decide +kernel⟩
theorem p_X2_eat : plainName q_X2_eat.1.cls = true := by decide +kernel
theorem m_X2_fitTogether : xMT[21]? = some (q_X2_fitTogether, t_X2_fitTogether) := rfl
theorem h_X2_fitTogether : q_X2_fitTogether.1.cls ≠ "java/lang/invoke/MethodHandle" ∧ q_X2_fitTogether.1.cls ≠ "java/lang/invoke/VarHandle" ∧ (parseMethodDescriptor q_X2_fitTogether.1.desc).map (fun d => d.parameters.length) = some 2 := ⟨by decide +kernel, by decide +kernel, by decide +kernel⟩
theorem p_X2_fitTogether : plainName q_X2_fitTogether.1.cls = true := by decide +kernel
theorem m_X2_fitting : xMT[22]? = some (q_X2_fitting, t_X2_fitting) := rfl
theorem h_X2_fitting : q_X2_fitting.1.cls ≠ "java/lang/invoke/MethodHandle" ∧ q_X2_fitting.1.cls ≠ "java/lang/invoke/VarHandle" ∧ (parseMethodDescriptor q_X2_fitting.1.desc).map (fun d => d.parameters.length) = some 3 := ⟨by decide +kernel, by decide +kernel, by decide +kernel⟩
theorem p_X2_fitting : plainName q_X2_fitting.1.cls = true := by decide +kernel
theorem m_X2_groundCost : xMT[23]? = some (q_X2_groundCost, t_X2_groundCost) := rfl
theorem h_X2_groundCost : q_X2_groundCost.1.cls ≠ "java/lang/invoke/MethodHandle" ∧ q_X2_groundCost.1.cls ≠ "java/lang/invoke/VarHandle" ∧ (parseMethodDescriptor q_X2_groundCost.1.desc).map (fun d => d.parameters.length) = some 1 := ⟨by decide +kernel, by decide +kernel, by decide +kernel⟩
theorem p_X2_groundCost : plainName q_X2_groundCost.1.cls = true := by decide +kernel
theorem m_X2_growMould : xMT[24]? = some (q_X2_growMould, t_X2_growMould) := rfl
theorem h_X2_growMould : q_X2_growMould.1.cls ≠ "java/lang/invoke/MethodHandle" ∧ q_X2_growMould.1.cls ≠ "java/lang/invoke/VarHandle" ∧ (parseMethodDescriptor q_X2_growMould.1.desc).map (fun d => d.parameters.length) = some 2 := ⟨by decide +kernel, by decide +kernel, by decide +kernel⟩
theorem p_X2_growMould : plainName q_X2_growMould.1.cls = true := by decide +kernel
theorem m_X2_hasCell : xMT[25]? = some (q_X2_hasCell, t_X2_hasCell) := rfl
theorem h_X2_hasCell : q_X2_hasCell.1.cls ≠ "java/lang/invoke/MethodHandle" ∧ q_X2_hasCell.1.cls ≠ "java/lang/invoke/VarHandle" ∧ (parseMethodDescriptor q_X2_hasCell.1.desc).map (fun d => d.parameters.length) = some 2 := ⟨by decide +kernel, by decide +kernel, by decide +kernel⟩
theorem p_X2_hasCell : plainName q_X2_hasCell.1.cls = true := by decide +kernel
theorem m_X2_hasCompany : xMT[26]? = some (q_X2_hasCompany, t_X2_hasCompany) := rfl
theorem h_X2_hasCompany : q_X2_hasCompany.1.cls ≠ "java/lang/invoke/MethodHandle" ∧ q_X2_hasCompany.1.cls ≠ "java/lang/invoke/VarHandle" ∧ (parseMethodDescriptor q_X2_hasCompany.1.desc).map (fun d => d.parameters.length) = some 1 := ⟨by decide +kernel, by decide +kernel, by decide +kernel⟩
theorem p_X2_hasCompany : plainName q_X2_hasCompany.1.cls = true := by decide +kernel
theorem m_X2_hasCopy : xMT[27]? = some (q_X2_hasCopy, t_X2_hasCopy) := rfl
theorem h_X2_hasCopy : q_X2_hasCopy.1.cls ≠ "java/lang/invoke/MethodHandle" ∧ q_X2_hasCopy.1.cls ≠ "java/lang/invoke/VarHandle" ∧ (parseMethodDescriptor q_X2_hasCopy.1.desc).map (fun d => d.parameters.length) = some 1 := ⟨by decide +kernel, by decide +kernel, by decide +kernel⟩
theorem p_X2_hasCopy : plainName q_X2_hasCopy.1.cls = true := by decide +kernel
theorem m_X2_hasCopyCell : xMT[28]? = some (q_X2_hasCopyCell, t_X2_hasCopyCell) := rfl
theorem h_X2_hasCopyCell : q_X2_hasCopyCell.1.cls ≠ "java/lang/invoke/MethodHandle" ∧ q_X2_hasCopyCell.1.cls ≠ "java/lang/invoke/VarHandle" ∧ (parseMethodDescriptor q_X2_hasCopyCell.1.desc).map (fun d => d.parameters.length) = some 3 := ⟨by decide +kernel, by decide +kernel, by decide +kernel⟩
theorem p_X2_hasCopyCell : plainName q_X2_hasCopyCell.1.cls = true := by decide +kernel
theorem m_X2_init : xMT[29]? = some (q_X2_init, t_X2_init) := rfl
theorem h_X2_init : q_X2_init.1.cls ≠ "java/lang/invoke/MethodHandle" ∧ q_X2_init.1.cls ≠ "java/lang/invoke/VarHandle" ∧ (parseMethodDescriptor q_X2_init.1.desc).map (fun d => d.parameters.length) = some 0 := ⟨by decide +kernel, by decide +kernel, by decide +kernel⟩
theorem p_X2_init : plainName q_X2_init.1.cls = true := by decide +kernel
theorem m_X2_isCell : xMT[30]? = some (q_X2_isCell, t_X2_isCell) := rfl
theorem h_X2_isCell : q_X2_isCell.1.cls ≠ "java/lang/invoke/MethodHandle" ∧ q_X2_isCell.1.cls ≠ "java/lang/invoke/VarHandle" ∧ (parseMethodDescriptor q_X2_isCell.1.desc).map (fun d => d.parameters.length) = some 1 := ⟨by decide +kernel, by decide +kernel, by decide +kernel⟩
theorem p_X2_isCell : plainName q_X2_isCell.1.cls = true := by decide +kernel
theorem m_X2_isWater : xMT[31]? = some (q_X2_isWater, t_X2_isWater) := rfl
theorem h_X2_isWater : q_X2_isWater.1.cls ≠ "java/lang/invoke/MethodHandle" ∧ q_X2_isWater.1.cls ≠ "java/lang/invoke/VarHandle" ∧ (parseMethodDescriptor q_X2_isWater.1.desc).map (fun d => d.parameters.length) = some 1 := ⟨by decide +kernel, by decide +kernel, by decide +kernel⟩
theorem p_X2_isWater : plainName q_X2_isWater.1.cls = true := by decide +kernel
theorem m_X2_largestHeap : xMT[32]? = some (q_X2_largestHeap, t_X2_largestHeap) := rfl
theorem h_X2_largestHeap : q_X2_largestHeap.1.cls ≠ "java/lang/invoke/MethodHandle" ∧ q_X2_largestHeap.1.cls ≠ "java/lang/invoke/VarHandle" ∧ (parseMethodDescriptor q_X2_largestHeap.1.desc).map (fun d => d.parameters.length) = some 1 := ⟨by decide +kernel, by decide +kernel, by decide +kernel⟩
theorem p_X2_largestHeap : plainName q_X2_largestHeap.1.cls = true := by decide +kernel
theorem m_X2_numberOf : xMT[33]? = some (q_X2_numberOf, t_X2_numberOf) := rfl
theorem h_X2_numberOf : q_X2_numberOf.1.cls ≠ "java/lang/invoke/MethodHandle" ∧ q_X2_numberOf.1.cls ≠ "java/lang/invoke/VarHandle" ∧ (parseMethodDescriptor q_X2_numberOf.1.desc).map (fun d => d.parameters.length) = some 1 := ⟨by decide +kernel, by decide +kernel, by decide +kernel⟩
theorem p_X2_numberOf : plainName q_X2_numberOf.1.cls = true := by decide +kernel
theorem m_X2_shownCost : xMT[34]? = some (q_X2_shownCost, t_X2_shownCost) := rfl
theorem h_X2_shownCost : q_X2_shownCost.1.cls ≠ "java/lang/invoke/MethodHandle" ∧ q_X2_shownCost.1.cls ≠ "java/lang/invoke/VarHandle" ∧ (parseMethodDescriptor q_X2_shownCost.1.desc).map (fun d => d.parameters.length) = some 2 := ⟨by decide +kernel, by decide +kernel, by decide +kernel⟩
theorem p_X2_shownCost : plainName q_X2_shownCost.1.cls = true := by decide +kernel
theorem m_X2_shownKind : xMT[35]? = some (q_X2_shownKind, t_X2_shownKind) := rfl
theorem h_X2_shownKind : q_X2_shownKind.1.cls ≠ "java/lang/invoke/MethodHandle" ∧ q_X2_shownKind.1.cls ≠ "java/lang/invoke/VarHandle" ∧ (parseMethodDescriptor q_X2_shownKind.1.desc).map (fun d => d.parameters.length) = some 2 := ⟨by decide +kernel, by decide +kernel, by decide +kernel⟩
theorem p_X2_shownKind : plainName q_X2_shownKind.1.cls = true := by decide +kernel
theorem m_X2_spreadHoney : xMT[36]? = some (q_X2_spreadHoney, t_X2_spreadHoney) := rfl
theorem h_X2_spreadHoney : q_X2_spreadHoney.1.cls ≠ "java/lang/invoke/MethodHandle" ∧ q_X2_spreadHoney.1.cls ≠ "java/lang/invoke/VarHandle" ∧ (parseMethodDescriptor q_X2_spreadHoney.1.desc).map (fun d => d.parameters.length) = some 2 := ⟨by decide +kernel, by decide +kernel, by decide +kernel⟩
theorem p_X2_spreadHoney : plainName q_X2_spreadHoney.1.cls = true := by decide +kernel
theorem m_X2_stateOf : xMT[37]? = some (q_X2_stateOf, t_X2_stateOf) := rfl
theorem h_X2_stateOf : q_X2_stateOf.1.cls ≠ "java/lang/invoke/MethodHandle" ∧ q_X2_stateOf.1.cls ≠ "java/lang/invoke/VarHandle" ∧ (parseMethodDescriptor q_X2_stateOf.1.desc).map (fun d => d.parameters.length) = some 2 := ⟨by decide +kernel, by decide +kernel, by decide +kernel⟩
theorem p_X2_stateOf : plainName q_X2_stateOf.1.cls = true := by decide +kernel
theorem m_X2_wipe : xMT[38]? = some (q_X2_wipe, t_X2_wipe) := rfl
theorem h_X2_wipe : q_X2_wipe.1.cls ≠ "java/lang/invoke/MethodHandle" ∧ q_X2_wipe.1.cls ≠ "java/lang/invoke/VarHandle" ∧ (parseMethodDescriptor q_X2_wipe.1.desc).map (fun d => d.parameters.length) = some 2 := ⟨by decide +kernel, by decide +kernel, by decide +kernel⟩
theorem p_X2_wipe : plainName q_X2_wipe.1.cls = true := by decide +kernel
theorem m_X2_xOf : xMT[39]? = some (q_X2_xOf, t_X2_xOf) := rfl
theorem h_X2_xOf : q_X2_xOf.1.cls ≠ "java/lang/invoke/MethodHandle" ∧ q_X2_xOf.1.cls ≠ "java/lang/invoke/VarHandle" ∧ (parseMethodDescriptor q_X2_xOf.1.desc).map (fun d => d.parameters.length) = some 1 := ⟨by decide +kernel, by decide +kernel, by decide +kernel⟩
theorem p_X2_xOf : plainName q_X2_xOf.1.cls = true := by decide +kernel
theorem m_X2_yOf : xMT[40]? = some (q_X2_yOf, t_X2_yOf) := rfl
theorem h_X2_yOf : q_X2_yOf.1.cls ≠ "java/lang/invoke/MethodHandle" ∧ q_X2_yOf.1.cls ≠ "java/lang/invoke/VarHandle" ∧ (parseMethodDescriptor q_X2_yOf.1.desc).map (fun d => d.parameters.length) = some 1 := ⟨by decide +kernel, by decide +kernel, by decide +kernel⟩
theorem p_X2_yOf : plainName q_X2_yOf.1.cls = true := by decide +kernel
theorem m_X3_init : xMT[41]? = some (q_X3_init, t_X3_init) := rfl
theorem h_X3_init : q_X3_init.1.cls ≠ "java/lang/invoke/MethodHandle" ∧ q_X3_init.1.cls ≠ "java/lang/invoke/VarHandle" ∧ (parseMethodDescriptor q_X3_init.1.desc).map (fun d => d.parameters.length) = some 1 := ⟨by decide +kernel, by decide +kernel, by decide +kernel⟩
theorem p_X3_init : plainName q_X3_init.1.cls = true := by decide +kernel
theorem m_X3_readText : xMT[42]? = some (q_X3_readText, t_X3_readText) := rfl
theorem h_X3_readText : q_X3_readText.1.cls ≠ "java/lang/invoke/MethodHandle" ∧ q_X3_readText.1.cls ≠ "java/lang/invoke/VarHandle" ∧ (parseMethodDescriptor q_X3_readText.1.desc).map (fun d => d.parameters.length) = some 2 := ⟨by decide +kernel, by decide +kernel, by decide +kernel⟩
theorem p_X3_readText : plainName q_X3_readText.1.cls = true := by decide +kernel
theorem m_X3_readWide : xMT[43]? = some (q_X3_readWide, t_X3_readWide) := rfl
theorem h_X3_readWide : q_X3_readWide.1.cls ≠ "java/lang/invoke/MethodHandle" ∧ q_X3_readWide.1.cls ≠ "java/lang/invoke/VarHandle" ∧ (parseMethodDescriptor q_X3_readWide.1.desc).map (fun d => d.parameters.length) = some 0 := ⟨by decide +kernel, by decide +kernel, by decide +kernel⟩
theorem p_X3_readWide : plainName q_X3_readWide.1.cls = true := by decide +kernel
theorem m_X4_allWalks : xMT[44]? = some (q_X4_allWalks, t_X4_allWalks) := rfl
theorem h_X4_allWalks : q_X4_allWalks.1.cls ≠ "java/lang/invoke/MethodHandle" ∧ q_X4_allWalks.1.cls ≠ "java/lang/invoke/VarHandle" ∧ (parseMethodDescriptor q_X4_allWalks.1.desc).map (fun d => d.parameters.length) = some 1 := ⟨by decide +kernel, by decide +kernel, by decide +kernel⟩
theorem p_X4_allWalks : plainName q_X4_allWalks.1.cls = true := by decide +kernel
theorem m_X4_cellsOnAllWalks : xMT[45]? = some (q_X4_cellsOnAllWalks, t_X4_cellsOnAllWalks) := rfl
theorem h_X4_cellsOnAllWalks : q_X4_cellsOnAllWalks.1.cls ≠ "java/lang/invoke/MethodHandle" ∧ q_X4_cellsOnAllWalks.1.cls ≠ "java/lang/invoke/VarHandle" ∧ (parseMethodDescriptor q_X4_cellsOnAllWalks.1.desc).map (fun d => d.parameters.length) = some 3 := ⟨by decide +kernel, by decide +kernel, by decide +kernel⟩
theorem p_X4_cellsOnAllWalks : plainName q_X4_cellsOnAllWalks.1.cls = true := by decide +kernel
theorem m_X4_init : xMT[46]? = some (q_X4_init, t_X4_init) := rfl
theorem h_X4_init : q_X4_init.1.cls ≠ "java/lang/invoke/MethodHandle" ∧ q_X4_init.1.cls ≠ "java/lang/invoke/VarHandle" ∧ (parseMethodDescriptor q_X4_init.1.desc).map (fun d => d.parameters.length) = some 0 := ⟨by decide +kernel, by decide +kernel, by decide +kernel⟩
theorem p_X4_init : plainName q_X4_init.1.cls = true := by decide +kernel
theorem m_X4_walkOn : xMT[47]? = some (q_X4_walkOn, t_X4_walkOn) := rfl
theorem h_X4_walkOn : q_X4_walkOn.1.cls ≠ "java/lang/invoke/MethodHandle" ∧ q_X4_walkOn.1.cls ≠ "java/lang/invoke/VarHandle" ∧ (parseMethodDescriptor q_X4_walkOn.1.desc).map (fun d => d.parameters.length) = some 2 := ⟨by decide +kernel, by decide +kernel, by decide +kernel⟩
theorem p_X4_walkOn : plainName q_X4_walkOn.1.cls = true := by decide +kernel
theorem m_X4_walksThrough : xMT[48]? = some (q_X4_walksThrough, t_X4_walksThrough) := rfl
theorem h_X4_walksThrough : q_X4_walksThrough.1.cls ≠ "java/lang/invoke/MethodHandle" ∧ q_X4_walksThrough.1.cls ≠ "java/lang/invoke/VarHandle" ∧ (parseMethodDescriptor q_X4_walksThrough.1.desc).map (fun d => d.parameters.length) = some 4 := ⟨by decide +kernel, by decide +kernel, by decide +kernel⟩
theorem p_X4_walksThrough : plainName q_X4_walksThrough.1.cls = true := by decide +kernel
theorem m_X5_areThere : xMT[49]? = some (q_X5_areThere, t_X5_areThere) := rfl
theorem h_X5_areThere : q_X5_areThere.1.cls ≠ "java/lang/invoke/MethodHandle" ∧ q_X5_areThere.1.cls ≠ "java/lang/invoke/VarHandle" ∧ (parseMethodDescriptor q_X5_areThere.1.desc).map (fun d => d.parameters.length) = some 0 := ⟨by decide +kernel, by decide +kernel, by decide +kernel⟩
theorem p_X5_areThere : plainName q_X5_areThere.1.cls = true := by decide +kernel
theorem m_X5_becomeLike : xMT[50]? = some (q_X5_becomeLike, t_X5_becomeLike) := rfl
theorem h_X5_becomeLike : q_X5_becomeLike.1.cls ≠ "java/lang/invoke/MethodHandle" ∧ q_X5_becomeLike.1.cls ≠ "java/lang/invoke/VarHandle" ∧ (parseMethodDescriptor q_X5_becomeLike.1.desc).map (fun d => d.parameters.length) = some 1 := ⟨by decide +kernel, by decide +kernel, by decide +kernel⟩
theorem p_X5_becomeLike : plainName q_X5_becomeLike.1.cls = true := by decide +kernel
theorem m_X5_clear : xMT[51]? = some (q_X5_clear, t_X5_clear) := rfl
theorem h_X5_clear : q_X5_clear.1.cls ≠ "java/lang/invoke/MethodHandle" ∧ q_X5_clear.1.cls ≠ "java/lang/invoke/VarHandle" ∧ (parseMethodDescriptor q_X5_clear.1.desc).map (fun d => d.parameters.length) = some 0 := ⟨by decide +kernel, by decide +kernel, by decide +kernel⟩
theorem p_X5_clear : plainName q_X5_clear.1.cls = true := by decide +kernel
theorem m_X5_forget : xMT[52]? = some (q_X5_forget, t_X5_forget) := rfl
theorem h_X5_forget : q_X5_forget.1.cls ≠ "java/lang/invoke/MethodHandle" ∧ q_X5_forget.1.cls ≠ "java/lang/invoke/VarHandle" ∧ (parseMethodDescriptor q_X5_forget.1.desc).map (fun d => d.parameters.length) = some 0 := ⟨by decide +kernel, by decide +kernel, by decide +kernel⟩
theorem p_X5_forget : plainName q_X5_forget.1.cls = true := by decide +kernel
theorem m_X5_init : xMT[53]? = some (q_X5_init, t_X5_init) := rfl
theorem h_X5_init : q_X5_init.1.cls ≠ "java/lang/invoke/MethodHandle" ∧ q_X5_init.1.cls ≠ "java/lang/invoke/VarHandle" ∧ (parseMethodDescriptor q_X5_init.1.desc).map (fun d => d.parameters.length) = some 0 := ⟨by decide +kernel, by decide +kernel, by decide +kernel⟩
theorem p_X5_init : plainName q_X5_init.1.cls = true := by decide +kernel
theorem m_X6_init : xMT[54]? = some (q_X6_init, t_X6_init) := rfl
theorem h_X6_init : q_X6_init.1.cls ≠ "java/lang/invoke/MethodHandle" ∧ q_X6_init.1.cls ≠ "java/lang/invoke/VarHandle" ∧ (parseMethodDescriptor q_X6_init.1.desc).map (fun d => d.parameters.length) = some 1 := ⟨by decide +kernel, by decide +kernel, by decide +kernel⟩
theorem p_X6_init : plainName q_X6_init.1.cls = true := by decide +kernel
theorem m_X6_readText : xMT[55]? = some (q_X6_readText, t_X6_readText) := rfl
theorem h_X6_readText : q_X6_readText.1.cls ≠ "java/lang/invoke/MethodHandle" ∧ q_X6_readText.1.cls ≠ "java/lang/invoke/VarHandle" ∧ (parseMethodDescriptor q_X6_readText.1.desc).map (fun d => d.parameters.length) = some 2 := ⟨by decide +kernel, by decide +kernel, by decide +kernel⟩
theorem p_X6_readText : plainName q_X6_readText.1.cls = true := by decide +kernel
theorem m_X7_init : xMT[56]? = some (q_X7_init, t_X7_init) := rfl
theorem h_X7_init : q_X7_init.1.cls ≠ "java/lang/invoke/MethodHandle" ∧ q_X7_init.1.cls ≠ "java/lang/invoke/VarHandle" ∧ (parseMethodDescriptor q_X7_init.1.desc).map (fun d => d.parameters.length) = some 1 := ⟨by decide +kernel, by decide +kernel, by decide +kernel⟩
theorem p_X7_init : plainName q_X7_init.1.cls = true := by decide +kernel
theorem m_X8_append : xMT[57]? = some (q_X8_append, t_X8_append) := rfl
theorem h_X8_append : q_X8_append.1.cls ≠ "java/lang/invoke/MethodHandle" ∧ q_X8_append.1.cls ≠ "java/lang/invoke/VarHandle" ∧ (parseMethodDescriptor q_X8_append.1.desc).map (fun d => d.parameters.length) = some 1 := ⟨by decide +kernel, by decide +kernel, by decide +kernel⟩
theorem p_X8_append : plainName q_X8_append.1.cls = true := by decide +kernel
theorem m_X8_beginText : xMT[58]? = some (q_X8_beginText, t_X8_beginText) := rfl
theorem h_X8_beginText : q_X8_beginText.1.cls ≠ "java/lang/invoke/MethodHandle" ∧ q_X8_beginText.1.cls ≠ "java/lang/invoke/VarHandle" ∧ (parseMethodDescriptor q_X8_beginText.1.desc).map (fun d => d.parameters.length) = some 1 := ⟨by decide +kernel, by decide +kernel, by decide +kernel⟩
theorem p_X8_beginText : plainName q_X8_beginText.1.cls = true := by decide +kernel
theorem m_X8_blame : xMT[59]? = some (q_X8_blame, t_X8_blame) := rfl
theorem h_X8_blame : q_X8_blame.1.cls ≠ "java/lang/invoke/MethodHandle" ∧ q_X8_blame.1.cls ≠ "java/lang/invoke/VarHandle" ∧ (parseMethodDescriptor q_X8_blame.1.desc).map (fun d => d.parameters.length) = some 1 := ⟨by decide +kernel, by decide +kernel, by decide +kernel⟩
theorem p_X8_blame : plainName q_X8_blame.1.cls = true := by decide +kernel
theorem m_X8_finishText : xMT[60]? = some (q_X8_finishText, t_X8_finishText) := rfl
theorem h_X8_finishText : q_X8_finishText.1.cls ≠ "java/lang/invoke/MethodHandle" ∧ q_X8_finishText.1.cls ≠ "java/lang/invoke/VarHandle" ∧ (parseMethodDescriptor q_X8_finishText.1.desc).map (fun d => d.parameters.length) = some 0 := ⟨by decide +kernel, by decide +kernel, by decide +kernel⟩
theorem p_X8_finishText : plainName q_X8_finishText.1.cls = true := by decide +kernel
theorem m_X8_hasRoom : xMT[61]? = some (q_X8_hasRoom, t_X8_hasRoom) := rfl
theorem h_X8_hasRoom : q_X8_hasRoom.1.cls ≠ "java/lang/invoke/MethodHandle" ∧ q_X8_hasRoom.1.cls ≠ "java/lang/invoke/VarHandle" ∧ (parseMethodDescriptor q_X8_hasRoom.1.desc).map (fun d => d.parameters.length) = some 0 := ⟨by decide +kernel, by decide +kernel, by decide +kernel⟩
theorem p_X8_hasRoom : plainName q_X8_hasRoom.1.cls = true := by decide +kernel
theorem m_X8_init : xMT[62]? = some (q_X8_init, t_X8_init) := rfl
theorem h_X8_init : q_X8_init.1.cls ≠ "java/lang/invoke/MethodHandle" ∧ q_X8_init.1.cls ≠ "java/lang/invoke/VarHandle" ∧ (parseMethodDescriptor q_X8_init.1.desc).map (fun d => d.parameters.length) = some 0 := ⟨by decide +kernel, by decide +kernel, by decide +kernel⟩
theorem p_X8_init : plainName q_X8_init.1.cls = true := by decide +kernel
theorem m_X8_isEnd : xMT[63]? = some (q_X8_isEnd, t_X8_isEnd) := rfl
theorem h_X8_isEnd : q_X8_isEnd.1.cls ≠ "java/lang/invoke/MethodHandle" ∧ q_X8_isEnd.1.cls ≠ "java/lang/invoke/VarHandle" ∧ (parseMethodDescriptor q_X8_isEnd.1.desc).map (fun d => d.parameters.length) = some 0 := ⟨by decide +kernel, by decide +kernel, by decide +kernel⟩
theorem p_X8_isEnd : plainName q_X8_isEnd.1.cls = true := by decide +kernel
theorem m_X8_isWord : xMT[64]? = some (q_X8_isWord, t_X8_isWord) := rfl
theorem h_X8_isWord : q_X8_isWord.1.cls ≠ "java/lang/invoke/MethodHandle" ∧ q_X8_isWord.1.cls ≠ "java/lang/invoke/VarHandle" ∧ (parseMethodDescriptor q_X8_isWord.1.desc).map (fun d => d.parameters.length) = some 1 := ⟨by decide +kernel, by decide +kernel, by decide +kernel⟩
theorem p_X8_isWord : plainName q_X8_isWord.1.cls = true := by decide +kernel
theorem m_X8_scanToken : xMT[65]? = some (q_X8_scanToken, t_X8_scanToken) := rfl
theorem h_X8_scanToken : q_X8_scanToken.1.cls ≠ "java/lang/invoke/MethodHandle" ∧ q_X8_scanToken.1.cls ≠ "java/lang/invoke/VarHandle" ∧ (parseMethodDescriptor q_X8_scanToken.1.desc).map (fun d => d.parameters.length) = some 3 := ⟨by decide +kernel, by decide +kernel, by decide +kernel⟩
theorem p_X8_scanToken : plainName q_X8_scanToken.1.cls = true := by decide +kernel
theorem m_X8_takeWord : xMT[66]? = some (q_X8_takeWord, t_X8_takeWord) := rfl
theorem h_X8_takeWord : q_X8_takeWord.1.cls ≠ "java/lang/invoke/MethodHandle" ∧ q_X8_takeWord.1.cls ≠ "java/lang/invoke/VarHandle" ∧ (parseMethodDescriptor q_X8_takeWord.1.desc).map (fun d => d.parameters.length) = some 1 := ⟨by decide +kernel, by decide +kernel, by decide +kernel⟩
theorem p_X8_takeWord : plainName q_X8_takeWord.1.cls = true := by decide +kernel
theorem m_X9_becomeZeros : xMT[67]? = some (q_X9_becomeZeros, t_X9_becomeZeros) := rfl
theorem h_X9_becomeZeros : q_X9_becomeZeros.1.cls ≠ "java/lang/invoke/MethodHandle" ∧ q_X9_becomeZeros.1.cls ≠ "java/lang/invoke/VarHandle" ∧ (parseMethodDescriptor q_X9_becomeZeros.1.desc).map (fun d => d.parameters.length) = some 2 := ⟨by decide +kernel, by decide +kernel, by decide +kernel⟩
theorem p_X9_becomeZeros : plainName q_X9_becomeZeros.1.cls = true := by decide +kernel
theorem m_X9_init : xMT[68]? = some (q_X9_init, t_X9_init) := rfl
theorem h_X9_init : q_X9_init.1.cls ≠ "java/lang/invoke/MethodHandle" ∧ q_X9_init.1.cls ≠ "java/lang/invoke/VarHandle" ∧ (parseMethodDescriptor q_X9_init.1.desc).map (fun d => d.parameters.length) = some 0 := ⟨by decide +kernel, by decide +kernel, by decide +kernel⟩
theorem p_X9_init : plainName q_X9_init.1.cls = true := by decide +kernel
theorem m_X9_isMissing : xMT[69]? = some (q_X9_isMissing, t_X9_isMissing) := rfl
theorem h_X9_isMissing : q_X9_isMissing.1.cls ≠ "java/lang/invoke/MethodHandle" ∧ q_X9_isMissing.1.cls ≠ "java/lang/invoke/VarHandle" ∧ (parseMethodDescriptor q_X9_isMissing.1.desc).map (fun d => d.parameters.length) = some 0 := ⟨by decide +kernel, by decide +kernel, by decide +kernel⟩
theorem p_X9_isMissing : plainName q_X9_isMissing.1.cls = true := by decide +kernel
theorem m_X9_isSort : xMT[70]? = some (q_X9_isSort, t_X9_isSort) := rfl
theorem h_X9_isSort : q_X9_isSort.1.cls ≠ "java/lang/invoke/MethodHandle" ∧ q_X9_isSort.1.cls ≠ "java/lang/invoke/VarHandle" ∧ (parseMethodDescriptor q_X9_isSort.1.desc).map (fun d => d.parameters.length) = some 1 := ⟨by decide +kernel, by decide +kernel, by decide +kernel⟩
theorem p_X9_isSort : plainName q_X9_isSort.1.cls = true := by decide +kernel
theorem m_X10_init : xMT[71]? = some (q_X10_init, t_X10_init) := rfl
theorem h_X10_init : q_X10_init.1.cls ≠ "java/lang/invoke/MethodHandle" ∧ q_X10_init.1.cls ≠ "java/lang/invoke/VarHandle" ∧ (parseMethodDescriptor q_X10_init.1.desc).map (fun d => d.parameters.length) = some 0 := ⟨by decide +kernel, by decide +kernel, by decide +kernel⟩
theorem p_X10_init : plainName q_X10_init.1.cls = true := by decide +kernel
theorem m_X10_lookAt : xMT[72]? = some (q_X10_lookAt, t_X10_lookAt) := rfl
theorem h_X10_lookAt : q_X10_lookAt.1.cls ≠ "java/lang/invoke/MethodHandle" ∧ q_X10_lookAt.1.cls ≠ "java/lang/invoke/VarHandle" ∧ (parseMethodDescriptor q_X10_lookAt.1.desc).map (fun d => d.parameters.length) = some 2 := ⟨by decide +kernel, by decide +kernel, by decide +kernel⟩
theorem p_X10_lookAt : plainName q_X10_lookAt.1.cls = true := by decide +kernel
theorem m_X11_accept : xMT[73]? = some (q_X11_accept, t_X11_accept) := rfl
theorem h_X11_accept : q_X11_accept.1.cls ≠ "java/lang/invoke/MethodHandle" ∧ q_X11_accept.1.cls ≠ "java/lang/invoke/VarHandle" ∧ (parseMethodDescriptor q_X11_accept.1.desc).map (fun d => d.parameters.length) = some 0 := ⟨by decide +kernel, by decide +kernel, by decide +kernel⟩
theorem p_X11_accept : plainName q_X11_accept.1.cls = true := by decide +kernel
theorem m_X11_answer : xMT[74]? = some (q_X11_answer, t_X11_answer) := rfl
theorem h_X11_answer : q_X11_answer.1.cls ≠ "java/lang/invoke/MethodHandle" ∧ q_X11_answer.1.cls ≠ "java/lang/invoke/VarHandle" ∧ (parseMethodDescriptor q_X11_answer.1.desc).map (fun d => d.parameters.length) = some 1 := ⟨by decide +kernel, by decide +kernel, by decide +kernel⟩
theorem p_X11_answer : plainName q_X11_answer.1.cls = true := by decide +kernel
theorem m_X11_arrivals : xMT[75]? = some (q_X11_arrivals, t_X11_arrivals) := rfl
theorem h_X11_arrivals : q_X11_arrivals.1.cls ≠ "java/lang/invoke/MethodHandle" ∧ q_X11_arrivals.1.cls ≠ "java/lang/invoke/VarHandle" ∧ (parseMethodDescriptor q_X11_arrivals.1.desc).map (fun d => d.parameters.length) = some 3 := ⟨by decide +kernel, by decide +kernel, by decide +kernel⟩
theorem p_X11_arrivals : plainName q_X11_arrivals.1.cls = true := by decide +kernel
theorem m_X11_back : xMT[76]? = some (q_X11_back, t_X11_back) := rfl
theorem h_X11_back : q_X11_back.1.cls ≠ "java/lang/invoke/MethodHandle" ∧ q_X11_back.1.cls ≠ "java/lang/invoke/VarHandle" ∧ (parseMethodDescriptor q_X11_back.1.desc).map (fun d => d.parameters.length) = some 0 := ⟨by decide +kernel, by decide +kernel, by decide +kernel⟩
theorem p_X11_back : plainName q_X11_back.1.cls = true := by decide +kernel
theorem m_X11_best : xMT[77]? = some (q_X11_best, t_X11_best) := rfl
theorem h_X11_best : q_X11_best.1.cls ≠ "java/lang/invoke/MethodHandle" ∧ q_X11_best.1.cls ≠ "java/lang/invoke/VarHandle" ∧ (parseMethodDescriptor q_X11_best.1.desc).map (fun d => d.parameters.length) = some 1 := ⟨by decide +kernel, by decide +kernel, by decide +kernel⟩
theorem p_X11_best : plainName q_X11_best.1.cls = true := by decide +kernel
theorem m_X11_bite : xMT[78]? = some (q_X11_bite, t_X11_bite) := rfl
theorem h_X11_bite : q_X11_bite.1.cls ≠ "java/lang/invoke/MethodHandle" ∧ q_X11_bite.1.cls ≠ "java/lang/invoke/VarHandle" ∧ (parseMethodDescriptor q_X11_bite.1.desc).map (fun d => d.parameters.length) = some 3 := ⟨by decide +kernel, by decide +kernel, by decide +kernel⟩
theorem p_X11_bite : plainName q_X11_bite.1.cls = true := by decide +kernel
theorem m_X11_bottom : xMT[79]? = some (q_X11_bottom, t_X11_bottom) := rfl
theorem h_X11_bottom : q_X11_bottom.1.cls ≠ "java/lang/invoke/MethodHandle" ∧ q_X11_bottom.1.cls ≠ "java/lang/invoke/VarHandle" ∧ (parseMethodDescriptor q_X11_bottom.1.desc).map (fun d => d.parameters.length) = some 0 := ⟨by decide +kernel, by decide +kernel, by decide +kernel⟩
theorem p_X11_bottom : plainName q_X11_bottom.1.cls = true := by decide +kernel
theorem m_X11_cell : xMT[80]? = some (q_X11_cell, t_X11_cell) := rfl
theorem h_X11_cell : q_X11_cell.1.cls ≠ "java/lang/invoke/MethodHandle" ∧ q_X11_cell.1.cls ≠ "java/lang/invoke/VarHandle" ∧ (parseMethodDescriptor q_X11_cell.1.desc).map (fun d => d.parameters.length) = some 3 := ⟨by decide +kernel, by decide +kernel, by decide +kernel⟩
theorem p_X11_cell : plainName q_X11_cell.1.cls = true := by decide +kernel
theorem m_X11_clean : xMT[81]? = some (q_X11_clean, t_X11_clean) := rfl
theorem h_X11_clean : q_X11_clean.1.cls ≠ "java/lang/invoke/MethodHandle" ∧ q_X11_clean.1.cls ≠ "java/lang/invoke/VarHandle" ∧ (parseMethodDescriptor q_X11_clean.1.desc).map (fun d => d.parameters.length) = some 3 := ⟨by decide +kernel, by decide +kernel, by decide +kernel⟩
theorem p_X11_clean : plainName q_X11_clean.1.cls = true := by decide +kernel
theorem m_X11_commonDivisor : xMT[82]? = some (q_X11_commonDivisor, t_X11_commonDivisor) := rfl
theorem h_X11_commonDivisor : q_X11_commonDivisor.1.cls ≠ "java/lang/invoke/MethodHandle" ∧ q_X11_commonDivisor.1.cls ≠ "java/lang/invoke/VarHandle" ∧ (parseMethodDescriptor q_X11_commonDivisor.1.desc).map (fun d => d.parameters.length) = some 2 := ⟨by decide +kernel, by decide +kernel, by decide +kernel⟩
theorem p_X11_commonDivisor : plainName q_X11_commonDivisor.1.cls = true := by decide +kernel
theorem m_X11_company : xMT[83]? = some (q_X11_company, t_X11_company) := rfl
theorem h_X11_company : q_X11_company.1.cls ≠ "java/lang/invoke/MethodHandle" ∧ q_X11_company.1.cls ≠ "java/lang/invoke/VarHandle" ∧ (parseMethodDescriptor q_X11_company.1.desc).map (fun d => d.parameters.length) = some 2 := ⟨by decide +kernel, by decide +kernel, by decide +kernel⟩
theorem p_X11_company : plainName q_X11_company.1.cls = true := by decide +kernel
theorem m_X11_count : xMT[84]? = some (q_X11_count, t_X11_count) := rfl
theorem h_X11_count : q_X11_count.1.cls ≠ "java/lang/invoke/MethodHandle" ∧ q_X11_count.1.cls ≠ "java/lang/invoke/VarHandle" ∧ (parseMethodDescriptor q_X11_count.1.desc).map (fun d => d.parameters.length) = some 2 := ⟨by decide +kernel, by decide +kernel, by decide +kernel⟩
theorem p_X11_count : plainName q_X11_count.1.cls = true := by decide +kernel
theorem m_X11_cut : xMT[85]? = some (q_X11_cut, t_X11_cut) := rfl
theorem h_X11_cut : q_X11_cut.1.cls ≠ "java/lang/invoke/MethodHandle" ∧ q_X11_cut.1.cls ≠ "java/lang/invoke/VarHandle" ∧ (parseMethodDescriptor q_X11_cut.1.desc).map (fun d => d.parameters.length) = some 1 := ⟨by decide +kernel, by decide +kernel, by decide +kernel⟩
theorem p_X11_cut : plainName q_X11_cut.1.cls = true := by decide +kernel
theorem m_X11_fault : xMT[86]? = some (q_X11_fault, t_X11_fault) := rfl
theorem h_X11_fault : q_X11_fault.1.cls ≠ "java/lang/invoke/MethodHandle" ∧ q_X11_fault.1.cls ≠ "java/lang/invoke/VarHandle" ∧ (parseMethodDescriptor q_X11_fault.1.desc).map (fun d => d.parameters.length) = some 1 := ⟨by decide +kernel, by decide +kernel, by decide +kernel⟩
theorem p_X11_fault : plainName q_X11_fault.1.cls = true := by decide +kernel
theorem m_X11_feed : xMT[87]? = some (q_X11_feed, t_X11_feed) := rfl
theorem h_X11_feed : q_X11_feed.1.cls ≠ "java/lang/invoke/MethodHandle" ∧ q_X11_feed.1.cls ≠ "java/lang/invoke/VarHandle" ∧ (parseMethodDescriptor q_X11_feed.1.desc).map (fun d => d.parameters.length) = some 5 := ⟨by decide +kernel, by decide +kernel, by decide +kernel⟩
theorem p_X11_feed : plainName q_X11_feed.1.cls = true := by decide +kernel
theorem m_X11_ground : xMT[88]? = some (q_X11_ground, t_X11_ground) := rfl
theorem h_X11_ground : q_X11_ground.1.cls ≠ "java/lang/invoke/MethodHandle" ∧ q_X11_ground.1.cls ≠ "java/lang/invoke/VarHandle" ∧ (parseMethodDescriptor q_X11_ground.1.desc).map (fun d => d.parameters.length) = some 3 := ⟨by decide +kernel, by decide +kernel, by decide +kernel⟩
theorem p_X11_ground : plainName q_X11_ground.1.cls = true := by decide +kernel
theorem m_X11_halves : xMT[89]? = some (q_X11_halves, t_X11_halves) := rfl
theorem h_X11_halves : q_X11_halves.1.cls ≠ "java/lang/invoke/MethodHandle" ∧ q_X11_halves.1.cls ≠ "java/lang/invoke/VarHandle" ∧ (parseMethodDescriptor q_X11_halves.1.desc).map (fun d => d.parameters.length) = some 3 := ⟨by decide +kernel, by decide +kernel, by decide +kernel⟩
theorem p_X11_halves : plainName q_X11_halves.1.cls = true := by decide +kernel
theorem m_X11_hand : xMT[90]? = some (q_X11_hand, t_X11_hand) := rfl
theorem h_X11_hand : q_X11_hand.1.cls ≠ "java/lang/invoke/MethodHandle" ∧ q_X11_hand.1.cls ≠ "java/lang/invoke/VarHandle" ∧ (parseMethodDescriptor q_X11_hand.1.desc).map (fun d => d.parameters.length) = some 2 := ⟨by decide +kernel, by decide +kernel, by decide +kernel⟩
theorem p_X11_hand : plainName q_X11_hand.1.cls = true := by decide +kernel
theorem m_X11_hole : xMT[91]? = some (q_X11_hole, t_X11_hole) := rfl
theorem h_X11_hole : q_X11_hole.1.cls ≠ "java/lang/invoke/MethodHandle" ∧ q_X11_hole.1.cls ≠ "java/lang/invoke/VarHandle" ∧ (parseMethodDescriptor q_X11_hole.1.desc).map (fun d => d.parameters.length) = some 1 := ⟨by decide +kernel, by decide +kernel, by decide +kernel⟩
theorem p_X11_hole : plainName q_X11_hole.1.cls = true := by decide +kernel
theorem m_X11_honey : xMT[92]? = some (q_X11_honey, t_X11_honey) := rfl
theorem h_X11_honey : q_X11_honey.1.cls ≠ "java/lang/invoke/MethodHandle" ∧ q_X11_honey.1.cls ≠ "java/lang/invoke/VarHandle" ∧ (parseMethodDescriptor q_X11_honey.1.desc).map (fun d => d.parameters.length) = some 3 := ⟨by decide +kernel, by decide +kernel, by decide +kernel⟩
theorem p_X11_honey : plainName q_X11_honey.1.cls = true := by decide +kernel
theorem m_X11_init : xMT[93]? = some (q_X11_init, t_X11_init) := rfl
theorem h_X11_init : q_X11_init.1.cls ≠ "java/lang/invoke/MethodHandle" ∧ q_X11_init.1.cls ≠ "java/lang/invoke/VarHandle" ∧ (parseMethodDescriptor q_X11_init.1.desc).map (fun d => d.parameters.length) = some 0 := ⟨by decide +kernel, by decide +kernel, by decide +kernel⟩
theorem p_X11_init : plainName q_X11_init.1.cls = true := by decide +kernel
theorem m_X11_isTray : xMT[94]? = some (q_X11_isTray, t_X11_isTray) := rfl
theorem h_X11_isTray : q_X11_isTray.1.cls ≠ "java/lang/invoke/MethodHandle" ∧ q_X11_isTray.1.cls ≠ "java/lang/invoke/VarHandle" ∧ (parseMethodDescriptor q_X11_isTray.1.desc).map (fun d => d.parameters.length) = some 1 := ⟨by decide +kernel, by decide +kernel, by decide +kernel⟩
theorem p_X11_isTray : plainName q_X11_isTray.1.cls = true := by decide +kernel
theorem m_X11_land : xMT[95]? = some (q_X11_land, t_X11_land) := rfl
theorem h_X11_land : q_X11_land.1.cls ≠ "java/lang/invoke/MethodHandle" ∧ q_X11_land.1.cls ≠ "java/lang/invoke/VarHandle" ∧ (parseMethodDescriptor q_X11_land.1.desc).map (fun d => d.parameters.length) = some 1 := ⟨by decide +kernel, by decide +kernel, by decide +kernel⟩
theorem p_X11_land : plainName q_X11_land.1.cls = true := by decide +kernel
theorem m_X11_many : xMT[96]? = some (q_X11_many, t_X11_many) := rfl
theorem h_X11_many : q_X11_many.1.cls ≠ "java/lang/invoke/MethodHandle" ∧ q_X11_many.1.cls ≠ "java/lang/invoke/VarHandle" ∧ (parseMethodDescriptor q_X11_many.1.desc).map (fun d => d.parameters.length) = some 1 := ⟨by decide +kernel, by decide +kernel, by decide +kernel⟩
theorem p_X11_many : plainName q_X11_many.1.cls = true := by decide +kernel
theorem m_X11_march : xMT[97]? = some (q_X11_march, t_X11_march) := rfl
theorem h_X11_march : q_X11_march.1.cls ≠ "java/lang/invoke/MethodHandle" ∧ q_X11_march.1.cls ≠ "java/lang/invoke/VarHandle" ∧ (parseMethodDescriptor q_X11_march.1.desc).map (fun d => d.parameters.length) = some 1 := ⟨by decide +kernel, by decide +kernel, by decide +kernel⟩
theorem p_X11_march : plainName q_X11_march.1.cls = true := by decide +kernel
theorem m_X11_mark : xMT[98]? = some (q_X11_mark, t_X11_mark) := rfl
theorem h_X11_mark : q_X11_mark.1.cls ≠ "java/lang/invoke/MethodHandle" ∧ q_X11_mark.1.cls ≠ "java/lang/invoke/VarHandle" ∧ (parseMethodDescriptor q_X11_mark.1.desc).map (fun d => d.parameters.length) = some 0 := ⟨by decide +kernel, by decide +kernel, by decide +kernel⟩
theorem p_X11_mark : plainName q_X11_mark.1.cls = true := by decide +kernel
theorem m_X11_mean : xMT[99]? = some (q_X11_mean, t_X11_mean) := rfl
theorem h_X11_mean : q_X11_mean.1.cls ≠ "java/lang/invoke/MethodHandle" ∧ q_X11_mean.1.cls ≠ "java/lang/invoke/VarHandle" ∧ (parseMethodDescriptor q_X11_mean.1.desc).map (fun d => d.parameters.length) = some 3 := ⟨by decide +kernel, by decide +kernel, by decide +kernel⟩
theorem p_X11_mean : plainName q_X11_mean.1.cls = true := by decide +kernel
theorem m_X11_mostWorth : xMT[100]? = some (q_X11_mostWorth, t_X11_mostWorth) := rfl
theorem h_X11_mostWorth : q_X11_mostWorth.1.cls ≠ "java/lang/invoke/MethodHandle" ∧ q_X11_mostWorth.1.cls ≠ "java/lang/invoke/VarHandle" ∧ (parseMethodDescriptor q_X11_mostWorth.1.desc).map (fun d => d.parameters.length) = some 2 := ⟨by decide +kernel, by decide +kernel, by decide +kernel⟩
theorem p_X11_mostWorth : plainName q_X11_mostWorth.1.cls = true := by decide +kernel
theorem m_X11_mould : xMT[101]? = some (q_X11_mould, t_X11_mould) := rfl
theorem h_X11_mould : q_X11_mould.1.cls ≠ "java/lang/invoke/MethodHandle" ∧ q_X11_mould.1.cls ≠ "java/lang/invoke/VarHandle" ∧ (parseMethodDescriptor q_X11_mould.1.desc).map (fun d => d.parameters.length) = some 3 := ⟨by decide +kernel, by decide +kernel, by decide +kernel⟩
theorem p_X11_mould : plainName q_X11_mould.1.cls = true := by decide +kernel
theorem m_X11_odds : xMT[102]? = some (q_X11_odds, t_X11_odds) := rfl
theorem h_X11_odds : q_X11_odds.1.cls ≠ "java/lang/invoke/MethodHandle" ∧ q_X11_odds.1.cls ≠ "java/lang/invoke/VarHandle" ∧ (parseMethodDescriptor q_X11_odds.1.desc).map (fun d => d.parameters.length) = some 5 := ⟨by decide +kernel, by decide +kernel, by decide +kernel⟩
theorem p_X11_odds : plainName q_X11_odds.1.cls = true := by decide +kernel
theorem m_X11_orders : xMT[103]? = some (q_X11_orders, t_X11_orders) := rfl
theorem h_X11_orders : q_X11_orders.1.cls ≠ "java/lang/invoke/MethodHandle" ∧ q_X11_orders.1.cls ≠ "java/lang/invoke/VarHandle" ∧ (parseMethodDescriptor q_X11_orders.1.desc).map (fun d => d.parameters.length) = some 1 := ⟨by decide +kernel, by decide +kernel, by decide +kernel⟩
theorem p_X11_orders : plainName q_X11_orders.1.cls = true := by decide +kernel
theorem m_X11_placeStatus : xMT[104]? = some (q_X11_placeStatus, t_X11_placeStatus) := rfl
theorem h_X11_placeStatus : q_X11_placeStatus.1.cls ≠ "java/lang/invoke/MethodHandle" ∧ q_X11_placeStatus.1.cls ≠ "java/lang/invoke/VarHandle" ∧ (parseMethodDescriptor q_X11_placeStatus.1.desc).map (fun d => d.parameters.length) = some 2 := ⟨by decide +kernel, by decide +kernel, by decide +kernel⟩
theorem p_X11_placeStatus : plainName q_X11_placeStatus.1.cls = true := by decide +kernel
theorem m_X11_pour : xMT[105]? = some (q_X11_pour, t_X11_pour) := rfl
theorem h_X11_pour : q_X11_pour.1.cls ≠ "java/lang/invoke/MethodHandle" ∧ q_X11_pour.1.cls ≠ "java/lang/invoke/VarHandle" ∧ (parseMethodDescriptor q_X11_pour.1.desc).map (fun d => d.parameters.length) = some 5 := ⟨by decide +kernel, by decide +kernel, by decide +kernel⟩
theorem p_X11_pour : plainName q_X11_pour.1.cls = true := by decide +kernel
theorem m_X11_ran : xMT[106]? = some (q_X11_ran, t_X11_ran) := rfl
theorem h_X11_ran : q_X11_ran.1.cls ≠ "java/lang/invoke/MethodHandle" ∧ q_X11_ran.1.cls ≠ "java/lang/invoke/VarHandle" ∧ (parseMethodDescriptor q_X11_ran.1.desc).map (fun d => d.parameters.length) = some 1 := ⟨by decide +kernel, by decide +kernel, by decide +kernel⟩
theorem p_X11_ran : plainName q_X11_ran.1.cls = true := by decide +kernel
theorem m_X11_reach : xMT[107]? = some (q_X11_reach, t_X11_reach) := rfl
theorem h_X11_reach : q_X11_reach.1.cls ≠ "java/lang/invoke/MethodHandle" ∧ q_X11_reach.1.cls ≠ "java/lang/invoke/VarHandle" ∧ (parseMethodDescriptor q_X11_reach.1.desc).map (fun d => d.parameters.length) = some 0 := ⟨by decide +kernel, by decide +kernel, by decide +kernel⟩
theorem p_X11_reach : plainName q_X11_reach.1.cls = true := by decide +kernel
theorem m_X11_read : xMT[108]? = some (q_X11_read, t_X11_read) := rfl
theorem h_X11_read : q_X11_read.1.cls ≠ "java/lang/invoke/MethodHandle" ∧ q_X11_read.1.cls ≠ "java/lang/invoke/VarHandle" ∧ (parseMethodDescriptor q_X11_read.1.desc).map (fun d => d.parameters.length) = some 2 := ⟨by decide +kernel, by decide +kernel, by decide +kernel⟩
theorem p_X11_read : plainName q_X11_read.1.cls = true := by decide +kernel
theorem m_X11_refuse : xMT[109]? = some (q_X11_refuse, t_X11_refuse) := rfl
theorem h_X11_refuse : q_X11_refuse.1.cls ≠ "java/lang/invoke/MethodHandle" ∧ q_X11_refuse.1.cls ≠ "java/lang/invoke/VarHandle" ∧ (parseMethodDescriptor q_X11_refuse.1.desc).map (fun d => d.parameters.length) = some 1 := ⟨by decide +kernel, by decide +kernel, by decide +kernel⟩
theorem p_X11_refuse : plainName q_X11_refuse.1.cls = true := by decide +kernel
theorem m_X11_refused : xMT[110]? = some (q_X11_refused, t_X11_refused) := rfl
theorem h_X11_refused : q_X11_refused.1.cls ≠ "java/lang/invoke/MethodHandle" ∧ q_X11_refused.1.cls ≠ "java/lang/invoke/VarHandle" ∧ (parseMethodDescriptor q_X11_refused.1.desc).map (fun d => d.parameters.length) = some 1 := ⟨by decide +kernel, by decide +kernel, by decide +kernel⟩
theorem p_X11_refused : plainName q_X11_refused.1.cls = true := by decide +kernel
theorem m_X11_run : xMT[111]? = some (q_X11_run, t_X11_run) := rfl
theorem h_X11_run : q_X11_run.1.cls ≠ "java/lang/invoke/MethodHandle" ∧ q_X11_run.1.cls ≠ "java/lang/invoke/VarHandle" ∧ (parseMethodDescriptor q_X11_run.1.desc).map (fun d => d.parameters.length) = some 1 := ⟨by decide +kernel, by decide +kernel, by decide +kernel⟩
theorem p_X11_run : plainName q_X11_run.1.cls = true := by decide +kernel
theorem m_X11_seen : xMT[112]? = some (q_X11_seen, t_X11_seen) := rfl
theorem h_X11_seen : q_X11_seen.1.cls ≠ "java/lang/invoke/MethodHandle" ∧ q_X11_seen.1.cls ≠ "java/lang/invoke/VarHandle" ∧ (parseMethodDescriptor q_X11_seen.1.desc).map (fun d => d.parameters.length) = some 2 := ⟨by decide +kernel, by decide +kernel, by decide +kernel⟩
theorem p_X11_seen : plainName q_X11_seen.1.cls = true := by decide +kernel
theorem m_X11_shows : xMT[113]? = some (q_X11_shows, t_X11_shows) := rfl
theorem h_X11_shows : q_X11_shows.1.cls ≠ "java/lang/invoke/MethodHandle" ∧ q_X11_shows.1.cls ≠ "java/lang/invoke/VarHandle" ∧ (parseMethodDescriptor q_X11_shows.1.desc).map (fun d => d.parameters.length) = some 3 := ⟨by decide +kernel, by decide +kernel, by decide +kernel⟩
theorem p_X11_shows : plainName q_X11_shows.1.cls = true := by decide +kernel
theorem m_X11_status : xMT[114]? = some (q_X11_status, t_X11_status) := rfl
theorem h_X11_status : q_X11_status.1.cls ≠ "java/lang/invoke/MethodHandle" ∧ q_X11_status.1.cls ≠ "java/lang/invoke/VarHandle" ∧ (parseMethodDescriptor q_X11_status.1.desc).map (fun d => d.parameters.length) = some 0 := ⟨by decide +kernel, by decide +kernel, by decide +kernel⟩
theorem p_X11_status : plainName q_X11_status.1.cls = true := by decide +kernel
theorem m_X11_steam : xMT[115]? = some (q_X11_steam, t_X11_steam) := rfl
theorem h_X11_steam : q_X11_steam.1.cls ≠ "java/lang/invoke/MethodHandle" ∧ q_X11_steam.1.cls ≠ "java/lang/invoke/VarHandle" ∧ (parseMethodDescriptor q_X11_steam.1.desc).map (fun d => d.parameters.length) = some 2 := ⟨by decide +kernel, by decide +kernel, by decide +kernel⟩
theorem p_X11_steam : plainName q_X11_steam.1.cls = true := by decide +kernel
theorem m_X11_stuck : xMT[116]? = some (q_X11_stuck, t_X11_stuck) := rfl
theorem h_X11_stuck : q_X11_stuck.1.cls ≠ "java/lang/invoke/MethodHandle" ∧ q_X11_stuck.1.cls ≠ "java/lang/invoke/VarHandle" ∧ (parseMethodDescriptor q_X11_stuck.1.desc).map (fun d => d.parameters.length) = some 0 := ⟨by decide +kernel, by decide +kernel, by decide +kernel⟩
theorem p_X11_stuck : plainName q_X11_stuck.1.cls = true := by decide +kernel
theorem m_X11_supper : xMT[117]? = some (q_X11_supper, t_X11_supper) := rfl
theorem h_X11_supper : q_X11_supper.1.cls ≠ "java/lang/invoke/MethodHandle" ∧ q_X11_supper.1.cls ≠ "java/lang/invoke/VarHandle" ∧ (parseMethodDescriptor q_X11_supper.1.desc).map (fun d => d.parameters.length) = some 3 := ⟨by decide +kernel, by decide +kernel, by decide +kernel⟩
theorem p_X11_supper : plainName q_X11_supper.1.cls = true := by decide +kernel
theorem m_X11_tellFraction : xMT[118]? = some (q_X11_tellFraction, t_X11_tellFraction) := rfl
theorem h_X11_tellFraction : q_X11_tellFraction.1.cls ≠ "java/lang/invoke/MethodHandle" ∧ q_X11_tellFraction.1.cls ≠ "java/lang/invoke/VarHandle" ∧ (parseMethodDescriptor q_X11_tellFraction.1.desc).map (fun d => d.parameters.length) = some 2 := ⟨by decide +kernel, by decide +kernel, by decide +kernel⟩
theorem p_X11_tellFraction : plainName q_X11_tellFraction.1.cls = true := by decide +kernel
theorem m_X11_told : xMT[119]? = some (q_X11_told, t_X11_told) := rfl
theorem h_X11_told : q_X11_told.1.cls ≠ "java/lang/invoke/MethodHandle" ∧ q_X11_told.1.cls ≠ "java/lang/invoke/VarHandle" ∧ (parseMethodDescriptor q_X11_told.1.desc).map (fun d => d.parameters.length) = some 2 := ⟨by decide +kernel, by decide +kernel, by decide +kernel⟩
theorem p_X11_told : plainName q_X11_told.1.cls = true := by decide +kernel
theorem m_X11_top : xMT[120]? = some (q_X11_top, t_X11_top) := rfl
theorem h_X11_top : q_X11_top.1.cls ≠ "java/lang/invoke/MethodHandle" ∧ q_X11_top.1.cls ≠ "java/lang/invoke/VarHandle" ∧ (parseMethodDescriptor q_X11_top.1.desc).map (fun d => d.parameters.length) = some 0 := ⟨by decide +kernel, by decide +kernel, by decide +kernel⟩
theorem p_X11_top : plainName q_X11_top.1.cls = true := by decide +kernel
theorem m_X11_tray : xMT[121]? = some (q_X11_tray, t_X11_tray) := rfl
theorem h_X11_tray : q_X11_tray.1.cls ≠ "java/lang/invoke/MethodHandle" ∧ q_X11_tray.1.cls ≠ "java/lang/invoke/VarHandle" ∧ (parseMethodDescriptor q_X11_tray.1.desc).map (fun d => d.parameters.length) = some 3 := ⟨by decide +kernel, by decide +kernel, by decide +kernel⟩
theorem p_X11_tray : plainName q_X11_tray.1.cls = true := by decide +kernel
theorem m_X11_truly : xMT[122]? = some (q_X11_truly, t_X11_truly) := rfl
theorem h_X11_truly : q_X11_truly.1.cls ≠ "java/lang/invoke/MethodHandle" ∧ q_X11_truly.1.cls ≠ "java/lang/invoke/VarHandle" ∧ (parseMethodDescriptor q_X11_truly.1.desc).map (fun d => d.parameters.length) = some 1 := ⟨by decide +kernel, by decide +kernel, by decide +kernel⟩
theorem p_X11_truly : plainName q_X11_truly.1.cls = true := by decide +kernel
theorem m_X11_unlike : xMT[123]? = some (q_X11_unlike, t_X11_unlike) := rfl
theorem h_X11_unlike : q_X11_unlike.1.cls ≠ "java/lang/invoke/MethodHandle" ∧ q_X11_unlike.1.cls ≠ "java/lang/invoke/VarHandle" ∧ (parseMethodDescriptor q_X11_unlike.1.desc).map (fun d => d.parameters.length) = some 2 := ⟨by decide +kernel, by decide +kernel, by decide +kernel⟩
theorem p_X11_unlike : plainName q_X11_unlike.1.cls = true := by decide +kernel
theorem m_X11_way : xMT[124]? = some (q_X11_way, t_X11_way) := rfl
theorem h_X11_way : q_X11_way.1.cls ≠ "java/lang/invoke/MethodHandle" ∧ q_X11_way.1.cls ≠ "java/lang/invoke/VarHandle" ∧ (parseMethodDescriptor q_X11_way.1.desc).map (fun d => d.parameters.length) = some 1 := ⟨by decide +kernel, by decide +kernel, by decide +kernel⟩
theorem p_X11_way : plainName q_X11_way.1.cls = true := by decide +kernel
theorem m_X11_wayAt : xMT[125]? = some (q_X11_wayAt, t_X11_wayAt) := rfl
theorem h_X11_wayAt : q_X11_wayAt.1.cls ≠ "java/lang/invoke/MethodHandle" ∧ q_X11_wayAt.1.cls ≠ "java/lang/invoke/VarHandle" ∧ (parseMethodDescriptor q_X11_wayAt.1.desc).map (fun d => d.parameters.length) = some 2 := ⟨by decide +kernel, by decide +kernel, by decide +kernel⟩
theorem p_X11_wayAt : plainName q_X11_wayAt.1.cls = true := by decide +kernel
theorem m_X11_worth : xMT[126]? = some (q_X11_worth, t_X11_worth) := rfl
theorem h_X11_worth : q_X11_worth.1.cls ≠ "java/lang/invoke/MethodHandle" ∧ q_X11_worth.1.cls ≠ "java/lang/invoke/VarHandle" ∧ (parseMethodDescriptor q_X11_worth.1.desc).map (fun d => d.parameters.length) = some 3 := ⟨by decide +kernel, by decide +kernel, by decide +kernel⟩
theorem p_X11_worth : plainName q_X11_worth.1.cls = true := by decide +kernel
theorem m_X11_write : xMT[127]? = some (q_X11_write, t_X11_write) := rfl
theorem h_X11_write : q_X11_write.1.cls ≠ "java/lang/invoke/MethodHandle" ∧ q_X11_write.1.cls ≠ "java/lang/invoke/VarHandle" ∧ (parseMethodDescriptor q_X11_write.1.desc).map (fun d => d.parameters.length) = some 3 := ⟨by decide +kernel, by decide +kernel, by decide +kernel⟩
theorem p_X11_write : plainName q_X11_write.1.cls = true := by decide +kernel
theorem m_X12_arrivals : xMT[128]? = some (q_X12_arrivals, t_X12_arrivals) := rfl
theorem h_X12_arrivals : q_X12_arrivals.1.cls ≠ "java/lang/invoke/MethodHandle" ∧ q_X12_arrivals.1.cls ≠ "java/lang/invoke/VarHandle" ∧ (parseMethodDescriptor q_X12_arrivals.1.desc).map (fun d => d.parameters.length) = some 3 := ⟨by decide +kernel, by decide +kernel, by decide +kernel⟩
theorem p_X12_arrivals : plainName q_X12_arrivals.1.cls = true := by decide +kernel
theorem m_X12_at2 : xMT[129]? = some (q_X12_at2, t_X12_at2) := rfl
theorem h_X12_at2 : q_X12_at2.1.cls ≠ "java/lang/invoke/MethodHandle" ∧ q_X12_at2.1.cls ≠ "java/lang/invoke/VarHandle" ∧ (parseMethodDescriptor q_X12_at2.1.desc).map (fun d => d.parameters.length) = some 2 := ⟨by decide +kernel, by decide +kernel, by decide +kernel⟩
theorem p_X12_at2 : plainName q_X12_at2.1.cls = true := by decide +kernel
theorem m_X12_avoids : xMT[130]? = some (q_X12_avoids, t_X12_avoids) := rfl
theorem h_X12_avoids : q_X12_avoids.1.cls ≠ "java/lang/invoke/MethodHandle" ∧ q_X12_avoids.1.cls ≠ "java/lang/invoke/VarHandle" ∧ (parseMethodDescriptor q_X12_avoids.1.desc).map (fun d => d.parameters.length) = some 3 := ⟨by decide +kernel, by decide +kernel, by decide +kernel⟩
theorem p_X12_avoids : plainName q_X12_avoids.1.cls = true := by decide +kernel
theorem m_X12_back : xMT[131]? = some (q_X12_back, t_X12_back) := rfl
theorem h_X12_back : q_X12_back.1.cls ≠ "java/lang/invoke/MethodHandle" ∧ q_X12_back.1.cls ≠ "java/lang/invoke/VarHandle" ∧ (parseMethodDescriptor q_X12_back.1.desc).map (fun d => d.parameters.length) = some 0 := ⟨by decide +kernel, by decide +kernel, by decide +kernel⟩
theorem p_X12_back : plainName q_X12_back.1.cls = true := by decide +kernel
theorem m_X12_beside : xMT[132]? = some (q_X12_beside, t_X12_beside) := rfl
theorem h_X12_beside : q_X12_beside.1.cls ≠ "java/lang/invoke/MethodHandle" ∧ q_X12_beside.1.cls ≠ "java/lang/invoke/VarHandle" ∧ (parseMethodDescriptor q_X12_beside.1.desc).map (fun d => d.parameters.length) = some 2 := ⟨by decide +kernel, by decide +kernel, by decide +kernel⟩
theorem p_X12_beside : plainName q_X12_beside.1.cls = true := by decide +kernel
theorem m_X12_best : xMT[133]? = some (q_X12_best, t_X12_best) := rfl
theorem h_X12_best : q_X12_best.1.cls ≠ "java/lang/invoke/MethodHandle" ∧ q_X12_best.1.cls ≠ "java/lang/invoke/VarHandle" ∧ (parseMethodDescriptor q_X12_best.1.desc).map (fun d => d.parameters.length) = some 1 := ⟨by decide +kernel, by decide +kernel, by decide +kernel⟩
theorem p_X12_best : plainName q_X12_best.1.cls = true := by decide +kernel
theorem m_X12_bite : xMT[134]? = some (q_X12_bite, t_X12_bite) := rfl
theorem h_X12_bite : q_X12_bite.1.cls ≠ "java/lang/invoke/MethodHandle" ∧ q_X12_bite.1.cls ≠ "java/lang/invoke/VarHandle" ∧ (parseMethodDescriptor q_X12_bite.1.desc).map (fun d => d.parameters.length) = some 3 := ⟨by decide +kernel, by decide +kernel, by decide +kernel⟩
theorem p_X12_bite : plainName q_X12_bite.1.cls = true := by decide +kernel
theorem m_X12_bites : xMT[135]? = some (q_X12_bites, t_X12_bites) := rfl
theorem h_X12_bites : q_X12_bites.1.cls ≠ "java/lang/invoke/MethodHandle" ∧ q_X12_bites.1.cls ≠ "java/lang/invoke/VarHandle" ∧ (parseMethodDescriptor q_X12_bites.1.desc).map (fun d => d.parameters.length) = some 2 := ⟨by decide +kernel, by decide +kernel, by decide +kernel⟩
theorem p_X12_bites : plainName q_X12_bites.1.cls = true := by decide +kernel
theorem m_X12_bottom : xMT[136]? = some (q_X12_bottom, t_X12_bottom) := rfl
theorem h_X12_bottom : q_X12_bottom.1.cls ≠ "java/lang/invoke/MethodHandle" ∧ q_X12_bottom.1.cls ≠ "java/lang/invoke/VarHandle" ∧ (parseMethodDescriptor q_X12_bottom.1.desc).map (fun d => d.parameters.length) = some 0 := ⟨by decide +kernel, by decide +kernel, by decide +kernel⟩
theorem p_X12_bottom : plainName q_X12_bottom.1.cls = true := by decide +kernel
theorem m_X12_cell : xMT[137]? = some (q_X12_cell, t_X12_cell) := rfl
theorem h_X12_cell : q_X12_cell.1.cls ≠ "java/lang/invoke/MethodHandle" ∧ q_X12_cell.1.cls ≠ "java/lang/invoke/VarHandle" ∧ (parseMethodDescriptor q_X12_cell.1.desc).map (fun d => d.parameters.length) = some 3 := ⟨by decide +kernel, by decide +kernel, by decide +kernel⟩
theorem p_X12_cell : plainName q_X12_cell.1.cls = true := by decide +kernel
theorem m_X12_cells : xMT[138]? = some (q_X12_cells, t_X12_cells) := rfl
theorem h_X12_cells : q_X12_cells.1.cls ≠ "java/lang/invoke/MethodHandle" ∧ q_X12_cells.1.cls ≠ "java/lang/invoke/VarHandle" ∧ (parseMethodDescriptor q_X12_cells.1.desc).map (fun d => d.parameters.length) = some 0 := ⟨by decide +kernel, by decide +kernel, by decide +kernel⟩
theorem p_X12_cells : plainName q_X12_cells.1.cls = true := by decide +kernel
theorem m_X12_clean : xMT[139]? = some (q_X12_clean, t_X12_clean) := rfl
theorem h_X12_clean : q_X12_clean.1.cls ≠ "java/lang/invoke/MethodHandle" ∧ q_X12_clean.1.cls ≠ "java/lang/invoke/VarHandle" ∧ (parseMethodDescriptor q_X12_clean.1.desc).map (fun d => d.parameters.length) = some 3 := ⟨by decide +kernel, by decide +kernel, by decide +kernel⟩
theorem p_X12_clean : plainName q_X12_clean.1.cls = true := by decide +kernel
theorem m_X12_company : xMT[140]? = some (q_X12_company, t_X12_company) := rfl
theorem h_X12_company : q_X12_company.1.cls ≠ "java/lang/invoke/MethodHandle" ∧ q_X12_company.1.cls ≠ "java/lang/invoke/VarHandle" ∧ (parseMethodDescriptor q_X12_company.1.desc).map (fun d => d.parameters.length) = some 2 := ⟨by decide +kernel, by decide +kernel, by decide +kernel⟩
theorem p_X12_company : plainName q_X12_company.1.cls = true := by decide +kernel
theorem m_X12_copy : xMT[141]? = some (q_X12_copy, t_X12_copy) := rfl
theorem h_X12_copy : q_X12_copy.1.cls ≠ "java/lang/invoke/MethodHandle" ∧ q_X12_copy.1.cls ≠ "java/lang/invoke/VarHandle" ∧ (parseMethodDescriptor q_X12_copy.1.desc).map (fun d => d.parameters.length) = some 2 := ⟨by decide +kernel, by decide +kernel, by decide +kernel⟩
theorem p_X12_copy : plainName q_X12_copy.1.cls = true := by decide +kernel
theorem m_X12_count : xMT[142]? = some (q_X12_count, t_X12_count) := rfl
theorem h_X12_count : q_X12_count.1.cls ≠ "java/lang/invoke/MethodHandle" ∧ q_X12_count.1.cls ≠ "java/lang/invoke/VarHandle" ∧ (parseMethodDescriptor q_X12_count.1.desc).map (fun d => d.parameters.length) = some 2 := ⟨by decide +kernel, by decide +kernel, by decide +kernel⟩
theorem p_X12_count : plainName q_X12_count.1.cls = true := by decide +kernel
theorem m_X12_countOf : xMT[143]? = some (q_X12_countOf, t_X12_countOf) := rfl
theorem h_X12_countOf : q_X12_countOf.1.cls ≠ "java/lang/invoke/MethodHandle" ∧ q_X12_countOf.1.cls ≠ "java/lang/invoke/VarHandle" ∧ (parseMethodDescriptor q_X12_countOf.1.desc).map (fun d => d.parameters.length) = some 2 := ⟨by decide +kernel, by decide +kernel, by decide +kernel⟩
theorem p_X12_countOf : plainName q_X12_countOf.1.cls = true := by decide +kernel
theorem m_X12_crumbsOf : xMT[144]? = some (q_X12_crumbsOf, t_X12_crumbsOf) := rfl
theorem h_X12_crumbsOf : q_X12_crumbsOf.1.cls ≠ "java/lang/invoke/MethodHandle" ∧ q_X12_crumbsOf.1.cls ≠ "java/lang/invoke/VarHandle" ∧ (parseMethodDescriptor q_X12_crumbsOf.1.desc).map (fun d => d.parameters.length) = some 1 := ⟨by decide +kernel, by decide +kernel, by decide +kernel⟩
theorem p_X12_crumbsOf : plainName q_X12_crumbsOf.1.cls = true := by decide +kernel
theorem m_X12_cut_ : xMT[145]? = some (q_X12_cut_, t_X12_cut_) := rfl
theorem h_X12_cut_ : q_X12_cut_.1.cls ≠ "java/lang/invoke/MethodHandle" ∧ q_X12_cut_.1.cls ≠ "java/lang/invoke/VarHandle" ∧ (parseMethodDescriptor q_X12_cut_.1.desc).map (fun d => d.parameters.length) = some 1 := ⟨by decide +kernel, by decide +kernel, by decide +kernel⟩
theorem p_X12_cut_ : plainName q_X12_cut_.1.cls = true := by decide +kernel
theorem m_X12_fail : xMT[146]? = some (q_X12_fail, t_X12_fail) := rfl
theorem h_X12_fail : q_X12_fail.1.cls ≠ "java/lang/invoke/MethodHandle" ∧ q_X12_fail.1.cls ≠ "java/lang/invoke/VarHandle" ∧ (parseMethodDescriptor q_X12_fail.1.desc).map (fun d => d.parameters.length) = some 2 := ⟨by decide +kernel, by decide +kernel, by decide +kernel⟩
theorem p_X12_fail : plainName q_X12_fail.1.cls = true := by decide +kernel
theorem m_X12_fault : xMT[147]? = some (q_X12_fault, t_X12_fault) := rfl
theorem h_X12_fault : q_X12_fault.1.cls ≠ "java/lang/invoke/MethodHandle" ∧ q_X12_fault.1.cls ≠ "java/lang/invoke/VarHandle" ∧ (parseMethodDescriptor q_X12_fault.1.desc).map (fun d => d.parameters.length) = some 1 := ⟨by decide +kernel, by decide +kernel, by decide +kernel⟩
theorem p_X12_fault : plainName q_X12_fault.1.cls = true := by decide +kernel
theorem m_X12_feed : xMT[148]? = some (q_X12_feed, t_X12_feed) := rfl
theorem h_X12_feed : q_X12_feed.1.cls ≠ "java/lang/invoke/MethodHandle" ∧ q_X12_feed.1.cls ≠ "java/lang/invoke/VarHandle" ∧ (parseMethodDescriptor q_X12_feed.1.desc).map (fun d => d.parameters.length) = some 5 := ⟨by decide +kernel, by decide +kernel, by decide +kernel⟩
theorem p_X12_feed : plainName q_X12_feed.1.cls = true := by decide +kernel
theorem m_X12_fitting : xMT[149]? = some (q_X12_fitting, t_X12_fitting) := rfl
theorem h_X12_fitting : q_X12_fitting.1.cls ≠ "java/lang/invoke/MethodHandle" ∧ q_X12_fitting.1.cls ≠ "java/lang/invoke/VarHandle" ∧ (parseMethodDescriptor q_X12_fitting.1.desc).map (fun d => d.parameters.length) = some 3 := ⟨by decide +kernel, by decide +kernel, by decide +kernel⟩
theorem p_X12_fitting : plainName q_X12_fitting.1.cls = true := by decide +kernel
theorem m_X12_fours : xMT[150]? = some (q_X12_fours, t_X12_fours) := rfl
theorem h_X12_fours : q_X12_fours.1.cls ≠ "java/lang/invoke/MethodHandle" ∧ q_X12_fours.1.cls ≠ "java/lang/invoke/VarHandle" ∧ (parseMethodDescriptor q_X12_fours.1.desc).map (fun d => d.parameters.length) = some 1 := ⟨by decide +kernel, by decide +kernel, by decide +kernel⟩
theorem p_X12_fours : plainName q_X12_fours.1.cls = true := by decide +kernel
theorem m_X12_fraction : xMT[151]? = some (q_X12_fraction, t_X12_fraction) := rfl
theorem h_X12_fraction : q_X12_fraction.1.cls ≠ "java/lang/invoke/MethodHandle" ∧ q_X12_fraction.1.cls ≠ "java/lang/invoke/VarHandle" ∧ (parseMethodDescriptor q_X12_fraction.1.desc).map (fun d => d.parameters.length) = some 2 := ⟨by decide +kernel, by decide +kernel, by decide +kernel⟩
theorem p_X12_fraction : plainName q_X12_fraction.1.cls = true := by decide +kernel
theorem m_X12_ground : xMT[152]? = some (q_X12_ground, t_X12_ground) := rfl
theorem h_X12_ground : q_X12_ground.1.cls ≠ "java/lang/invoke/MethodHandle" ∧ q_X12_ground.1.cls ≠ "java/lang/invoke/VarHandle" ∧ (parseMethodDescriptor q_X12_ground.1.desc).map (fun d => d.parameters.length) = some 3 := ⟨by decide +kernel, by decide +kernel, by decide +kernel⟩
theorem p_X12_ground : plainName q_X12_ground.1.cls = true := by decide +kernel
theorem m_X12_halves : xMT[153]? = some (q_X12_halves, t_X12_halves) := rfl
theorem h_X12_halves : q_X12_halves.1.cls ≠ "java/lang/invoke/MethodHandle" ∧ q_X12_halves.1.cls ≠ "java/lang/invoke/VarHandle" ∧ (parseMethodDescriptor q_X12_halves.1.desc).map (fun d => d.parameters.length) = some 3 := ⟨by decide +kernel, by decide +kernel, by decide +kernel⟩
theorem p_X12_halves : plainName q_X12_halves.1.cls = true := by decide +kernel
theorem m_X12_hand : xMT[154]? = some (q_X12_hand, t_X12_hand) := rfl
theorem h_X12_hand : q_X12_hand.1.cls ≠ "java/lang/invoke/MethodHandle" ∧ q_X12_hand.1.cls ≠ "java/lang/invoke/VarHandle" ∧ (parseMethodDescriptor q_X12_hand.1.desc).map (fun d => d.parameters.length) = some 2 := ⟨by decide +kernel, by decide +kernel, by decide +kernel⟩
theorem p_X12_hand : plainName q_X12_hand.1.cls = true := by decide +kernel
theorem m_X12_hole : xMT[155]? = some (q_X12_hole, t_X12_hole) := rfl
theorem h_X12_hole : q_X12_hole.1.cls ≠ "java/lang/invoke/MethodHandle" ∧ q_X12_hole.1.cls ≠ "java/lang/invoke/VarHandle" ∧ (parseMethodDescriptor q_X12_hole.1.desc).map (fun d => d.parameters.length) = some 1 := ⟨by decide +kernel, by decide +kernel, by decide +kernel⟩
theorem p_X12_hole : plainName q_X12_hole.1.cls = true := by decide +kernel
theorem m_X12_honey : xMT[156]? = some (q_X12_honey, t_X12_honey) := rfl
theorem h_X12_honey : q_X12_honey.1.cls ≠ "java/lang/invoke/MethodHandle" ∧ q_X12_honey.1.cls ≠ "java/lang/invoke/VarHandle" ∧ (parseMethodDescriptor q_X12_honey.1.desc).map (fun d => d.parameters.length) = some 3 := ⟨by decide +kernel, by decide +kernel, by decide +kernel⟩
theorem p_X12_honey : plainName q_X12_honey.1.cls = true := by decide +kernel
theorem m_X12_honeys : xMT[157]? = some (q_X12_honeys, t_X12_honeys) := rfl
theorem h_X12_honeys : q_X12_honeys.1.cls ≠ "java/lang/invoke/MethodHandle" ∧ q_X12_honeys.1.cls ≠ "java/lang/invoke/VarHandle" ∧ (parseMethodDescriptor q_X12_honeys.1.desc).map (fun d => d.parameters.length) = some 2 := ⟨by decide +kernel, by decide +kernel, by decide +kernel⟩
theorem p_X12_honeys : plainName q_X12_honeys.1.cls = true := by decide +kernel
theorem m_X12_init : xMT[158]? = some (q_X12_init, t_X12_init) := rfl
theorem h_X12_init : q_X12_init.1.cls ≠ "java/lang/invoke/MethodHandle" ∧ q_X12_init.1.cls ≠ "java/lang/invoke/VarHandle" ∧ (parseMethodDescriptor q_X12_init.1.desc).map (fun d => d.parameters.length) = some 0 := ⟨by decide +kernel, by decide +kernel, by decide +kernel⟩
theorem p_X12_init : plainName q_X12_init.1.cls = true := by decide +kernel
theorem m_X12_isCell : xMT[159]? = some (q_X12_isCell, t_X12_isCell) := rfl
theorem h_X12_isCell : q_X12_isCell.1.cls ≠ "java/lang/invoke/MethodHandle" ∧ q_X12_isCell.1.cls ≠ "java/lang/invoke/VarHandle" ∧ (parseMethodDescriptor q_X12_isCell.1.desc).map (fun d => d.parameters.length) = some 2 := ⟨by decide +kernel, by decide +kernel, by decide +kernel⟩
theorem p_X12_isCell : plainName q_X12_isCell.1.cls = true := by decide +kernel
theorem m_X12_isCompanyAt : xMT[160]? = some (q_X12_isCompanyAt, t_X12_isCompanyAt) := rfl
theorem h_X12_isCompanyAt : q_X12_isCompanyAt.1.cls ≠ "java/lang/invoke/MethodHandle" ∧ q_X12_isCompanyAt.1.cls ≠ "java/lang/invoke/VarHandle" ∧ (parseMethodDescriptor q_X12_isCompanyAt.1.desc).map (fun d => d.parameters.length) = some 1 := ⟨by decide +kernel, by decide +kernel, by decide +kernel⟩
theorem p_X12_isCompanyAt : plainName q_X12_isCompanyAt.1.cls = true := by decide +kernel
theorem m_X12_isCopy : xMT[161]? = some (q_X12_isCopy, t_X12_isCopy) := rfl
theorem h_X12_isCopy : q_X12_isCopy.1.cls ≠ "java/lang/invoke/MethodHandle" ∧ q_X12_isCopy.1.cls ≠ "java/lang/invoke/VarHandle" ∧ (parseMethodDescriptor q_X12_isCopy.1.desc).map (fun d => d.parameters.length) = some 1 := ⟨by decide +kernel, by decide +kernel, by decide +kernel⟩
theorem p_X12_isCopy : plainName q_X12_isCopy.1.cls = true := by decide +kernel
theorem m_X12_isFood : xMT[162]? = some (q_X12_isFood, t_X12_isFood) := rfl
theorem h_X12_isFood : q_X12_isFood.1.cls ≠ "java/lang/invoke/MethodHandle" ∧ q_X12_isFood.1.cls ≠ "java/lang/invoke/VarHandle" ∧ (parseMethodDescriptor q_X12_isFood.1.desc).map (fun d => d.parameters.length) = some 2 := ⟨by decide +kernel, by decide +kernel, by decide +kernel⟩
theorem p_X12_isFood : plainName q_X12_isFood.1.cls = true := by decide +kernel
theorem m_X12_isIn : xMT[163]? = some (q_X12_isIn, t_X12_isIn) := rfl
theorem h_X12_isIn : q_X12_isIn.1.cls ≠ "java/lang/invoke/MethodHandle" ∧ q_X12_isIn.1.cls ≠ "java/lang/invoke/VarHandle" ∧ (parseMethodDescriptor q_X12_isIn.1.desc).map (fun d => d.parameters.length) = some 3 := ⟨by decide +kernel, by decide +kernel, by decide +kernel⟩
theorem p_X12_isIn : plainName q_X12_isIn.1.cls = true := by decide +kernel
theorem m_X12_isSign : xMT[164]? = some (q_X12_isSign, t_X12_isSign) := rfl
theorem h_X12_isSign : q_X12_isSign.1.cls ≠ "java/lang/invoke/MethodHandle" ∧ q_X12_isSign.1.cls ≠ "java/lang/invoke/VarHandle" ∧ (parseMethodDescriptor q_X12_isSign.1.desc).map (fun d => d.parameters.length) = some 1 := ⟨by decide +kernel, by decide +kernel, by decide +kernel⟩
theorem p_X12_isSign : plainName q_X12_isSign.1.cls = true := by decide +kernel
theorem m_X12_isTray : xMT[165]? = some (q_X12_isTray, t_X12_isTray) := rfl
theorem h_X12_isTray : q_X12_isTray.1.cls ≠ "java/lang/invoke/MethodHandle" ∧ q_X12_isTray.1.cls ≠ "java/lang/invoke/VarHandle" ∧ (parseMethodDescriptor q_X12_isTray.1.desc).map (fun d => d.parameters.length) = some 1 := ⟨by decide +kernel, by decide +kernel, by decide +kernel⟩
theorem p_X12_isTray : plainName q_X12_isTray.1.cls = true := by decide +kernel
theorem m_X12_isWanted : xMT[166]? = some (q_X12_isWanted, t_X12_isWanted) := rfl
theorem h_X12_isWanted : q_X12_isWanted.1.cls ≠ "java/lang/invoke/MethodHandle" ∧ q_X12_isWanted.1.cls ≠ "java/lang/invoke/VarHandle" ∧ (parseMethodDescriptor q_X12_isWanted.1.desc).map (fun d => d.parameters.length) = some 2 := ⟨by decide +kernel, by decide +kernel, by decide +kernel⟩
theorem p_X12_isWanted : plainName q_X12_isWanted.1.cls = true := by decide +kernel
theorem m_X12_isWell : xMT[167]? = some (q_X12_isWell, t_X12_isWell) := rfl
theorem h_X12_isWell : q_X12_isWell.1.cls ≠ "java/lang/invoke/MethodHandle" ∧ q_X12_isWell.1.cls ≠ "java/lang/invoke/VarHandle" ∧ (parseMethodDescriptor q_X12_isWell.1.desc).map (fun d => d.parameters.length) = some 0 := ⟨by decide +kernel, by decide +kernel, by decide +kernel⟩
theorem p_X12_isWell : plainName q_X12_isWell.1.cls = true := by decide +kernel
theorem m_X12_isWide : xMT[168]? = some (q_X12_isWide, t_X12_isWide) := rfl
theorem h_X12_isWide : q_X12_isWide.1.cls ≠ "java/lang/invoke/MethodHandle" ∧ q_X12_isWide.1.cls ≠ "java/lang/invoke/VarHandle" ∧ (parseMethodDescriptor q_X12_isWide.1.desc).map (fun d => d.parameters.length) = some 0 := ⟨by decide +kernel, by decide +kernel, by decide +kernel⟩
theorem p_X12_isWide : plainName q_X12_isWide.1.cls = true := by decide +kernel
theorem m_X12_isWord : xMT[169]? = some (q_X12_isWord, t_X12_isWord) := rfl
theorem h_X12_isWord : q_X12_isWord.1.cls ≠ "java/lang/invoke/MethodHandle" ∧ q_X12_isWord.1.cls ≠ "java/lang/invoke/VarHandle" ∧ (parseMethodDescriptor q_X12_isWord.1.desc).map (fun d => d.parameters.length) = some 1 := ⟨by decide +kernel, by decide +kernel, by decide +kernel⟩
theorem p_X12_isWord : plainName q_X12_isWord.1.cls = true := by decide +kernel
theorem m_X12_land : xMT[170]? = some (q_X12_land, t_X12_land) := rfl
theorem h_X12_land : q_X12_land.1.cls ≠ "java/lang/invoke/MethodHandle" ∧ q_X12_land.1.cls ≠ "java/lang/invoke/VarHandle" ∧ (parseMethodDescriptor q_X12_land.1.desc).map (fun d => d.parameters.length) = some 1 := ⟨by decide +kernel, by decide +kernel, by decide +kernel⟩
theorem p_X12_land : plainName q_X12_land.1.cls = true := by decide +kernel
theorem m_X12_lay : xMT[171]? = some (q_X12_lay, t_X12_lay) := rfl
theorem h_X12_lay : q_X12_lay.1.cls ≠ "java/lang/invoke/MethodHandle" ∧ q_X12_lay.1.cls ≠ "java/lang/invoke/VarHandle" ∧ (parseMethodDescriptor q_X12_lay.1.desc).map (fun d => d.parameters.length) = some 1 := ⟨by decide +kernel, by decide +kernel, by decide +kernel⟩
theorem p_X12_lay : plainName q_X12_lay.1.cls = true := by decide +kernel
theorem m_X12_left : xMT[172]? = some (q_X12_left, t_X12_left) := rfl
theorem h_X12_left : q_X12_left.1.cls ≠ "java/lang/invoke/MethodHandle" ∧ q_X12_left.1.cls ≠ "java/lang/invoke/VarHandle" ∧ (parseMethodDescriptor q_X12_left.1.desc).map (fun d => d.parameters.length) = some 0 := ⟨by decide +kernel, by decide +kernel, by decide +kernel⟩
theorem p_X12_left : plainName q_X12_left.1.cls = true := by decide +kernel
theorem m_X12_letterCost : xMT[173]? = some (q_X12_letterCost, t_X12_letterCost) := rfl
theorem h_X12_letterCost : q_X12_letterCost.1.cls ≠ "java/lang/invoke/MethodHandle" ∧ q_X12_letterCost.1.cls ≠ "java/lang/invoke/VarHandle" ∧ (parseMethodDescriptor q_X12_letterCost.1.desc).map (fun d => d.parameters.length) = some 1 := ⟨by decide +kernel, by decide +kernel, by decide +kernel⟩
theorem p_X12_letterCost : plainName q_X12_letterCost.1.cls = true := by decide +kernel
theorem m_X12_many : xMT[174]? = some (q_X12_many, t_X12_many) := rfl
theorem h_X12_many : q_X12_many.1.cls ≠ "java/lang/invoke/MethodHandle" ∧ q_X12_many.1.cls ≠ "java/lang/invoke/VarHandle" ∧ (parseMethodDescriptor q_X12_many.1.desc).map (fun d => d.parameters.length) = some 1 := ⟨by decide +kernel, by decide +kernel, by decide +kernel⟩
theorem p_X12_many : plainName q_X12_many.1.cls = true := by decide +kernel
theorem m_X12_march : xMT[175]? = some (q_X12_march, t_X12_march) := rfl
theorem h_X12_march : q_X12_march.1.cls ≠ "java/lang/invoke/MethodHandle" ∧ q_X12_march.1.cls ≠ "java/lang/invoke/VarHandle" ∧ (parseMethodDescriptor q_X12_march.1.desc).map (fun d => d.parameters.length) = some 1 := ⟨by decide +kernel, by decide +kernel, by decide +kernel⟩
theorem p_X12_march : plainName q_X12_march.1.cls = true := by decide +kernel
theorem m_X12_mark : xMT[176]? = some (q_X12_mark, t_X12_mark) := rfl
theorem h_X12_mark : q_X12_mark.1.cls ≠ "java/lang/invoke/MethodHandle" ∧ q_X12_mark.1.cls ≠ "java/lang/invoke/VarHandle" ∧ (parseMethodDescriptor q_X12_mark.1.desc).map (fun d => d.parameters.length) = some 0 := ⟨by decide +kernel, by decide +kernel, by decide +kernel⟩
theorem p_X12_mark : plainName q_X12_mark.1.cls = true := by decide +kernel
theorem m_X12_mean : xMT[177]? = some (q_X12_mean, t_X12_mean) := rfl
theorem h_X12_mean : q_X12_mean.1.cls ≠ "java/lang/invoke/MethodHandle" ∧ q_X12_mean.1.cls ≠ "java/lang/invoke/VarHandle" ∧ (parseMethodDescriptor q_X12_mean.1.desc).map (fun d => d.parameters.length) = some 3 := ⟨by decide +kernel, by decide +kernel, by decide +kernel⟩
theorem p_X12_mean : plainName q_X12_mean.1.cls = true := by decide +kernel
theorem m_X12_mostWorth : xMT[178]? = some (q_X12_mostWorth, t_X12_mostWorth) := rfl
theorem h_X12_mostWorth : q_X12_mostWorth.1.cls ≠ "java/lang/invoke/MethodHandle" ∧ q_X12_mostWorth.1.cls ≠ "java/lang/invoke/VarHandle" ∧ (parseMethodDescriptor q_X12_mostWorth.1.desc).map (fun d => d.parameters.length) = some 2 := ⟨by decide +kernel, by decide +kernel, by decide +kernel⟩
theorem p_X12_mostWorth : plainName q_X12_mostWorth.1.cls = true := by decide +kernel
theorem m_X12_mould : xMT[179]? = some (q_X12_mould, t_X12_mould) := rfl
theorem h_X12_mould : q_X12_mould.1.cls ≠ "java/lang/invoke/MethodHandle" ∧ q_X12_mould.1.cls ≠ "java/lang/invoke/VarHandle" ∧ (parseMethodDescriptor q_X12_mould.1.desc).map (fun d => d.parameters.length) = some 3 := ⟨by decide +kernel, by decide +kernel, by decide +kernel⟩
theorem p_X12_mould : plainName q_X12_mould.1.cls = true := by decide +kernel
theorem m_X12_moulds : xMT[180]? = some (q_X12_moulds, t_X12_moulds) := rfl
theorem h_X12_moulds : q_X12_moulds.1.cls ≠ "java/lang/invoke/MethodHandle" ∧ q_X12_moulds.1.cls ≠ "java/lang/invoke/VarHandle" ∧ (parseMethodDescriptor q_X12_moulds.1.desc).map (fun d => d.parameters.length) = some 2 := ⟨by decide +kernel, by decide +kernel, by decide +kernel⟩
theorem p_X12_moulds : plainName q_X12_moulds.1.cls = true := by decide +kernel
theorem m_X12_must : xMT[181]? = some (q_X12_must, t_X12_must) := rfl
theorem h_X12_must : q_X12_must.1.cls ≠ "java/lang/invoke/MethodHandle" ∧ q_X12_must.1.cls ≠ "java/lang/invoke/VarHandle" ∧ (parseMethodDescriptor q_X12_must.1.desc).map (fun d => d.parameters.length) = some 1 := ⟨by decide +kernel, by decide +kernel, by decide +kernel⟩
theorem p_X12_must : plainName q_X12_must.1.cls = true := by decide +kernel
theorem m_X12_next : xMT[182]? = some (q_X12_next, t_X12_next) := rfl
theorem h_X12_next : q_X12_next.1.cls ≠ "java/lang/invoke/MethodHandle" ∧ q_X12_next.1.cls ≠ "java/lang/invoke/VarHandle" ∧ (parseMethodDescriptor q_X12_next.1.desc).map (fun d => d.parameters.length) = some 0 := ⟨by decide +kernel, by decide +kernel, by decide +kernel⟩
theorem p_X12_next : plainName q_X12_next.1.cls = true := by decide +kernel
theorem m_X12_no : xMT[183]? = some (q_X12_no, t_X12_no) := rfl
theorem h_X12_no : q_X12_no.1.cls ≠ "java/lang/invoke/MethodHandle" ∧ q_X12_no.1.cls ≠ "java/lang/invoke/VarHandle" ∧ (parseMethodDescriptor q_X12_no.1.desc).map (fun d => d.parameters.length) = some 1 := ⟨by decide +kernel, by decide +kernel, by decide +kernel⟩
theorem p_X12_no : plainName q_X12_no.1.cls = true := by decide +kernel
theorem m_X12_odds : xMT[184]? = some (q_X12_odds, t_X12_odds) := rfl
theorem h_X12_odds : q_X12_odds.1.cls ≠ "java/lang/invoke/MethodHandle" ∧ q_X12_odds.1.cls ≠ "java/lang/invoke/VarHandle" ∧ (parseMethodDescriptor q_X12_odds.1.desc).map (fun d => d.parameters.length) = some 5 := ⟨by decide +kernel, by decide +kernel, by decide +kernel⟩
theorem p_X12_odds : plainName q_X12_odds.1.cls = true := by decide +kernel
theorem m_X12_opens : xMT[185]? = some (q_X12_opens, t_X12_opens) := rfl
theorem h_X12_opens : q_X12_opens.1.cls ≠ "java/lang/invoke/MethodHandle" ∧ q_X12_opens.1.cls ≠ "java/lang/invoke/VarHandle" ∧ (parseMethodDescriptor q_X12_opens.1.desc).map (fun d => d.parameters.length) = some 2 := ⟨by decide +kernel, by decide +kernel, by decide +kernel⟩
theorem p_X12_opens : plainName q_X12_opens.1.cls = true := by decide +kernel
theorem m_X12_orders : xMT[186]? = some (q_X12_orders, t_X12_orders) := rfl
theorem h_X12_orders : q_X12_orders.1.cls ≠ "java/lang/invoke/MethodHandle" ∧ q_X12_orders.1.cls ≠ "java/lang/invoke/VarHandle" ∧ (parseMethodDescriptor q_X12_orders.1.desc).map (fun d => d.parameters.length) = some 1 := ⟨by decide +kernel, by decide +kernel, by decide +kernel⟩
theorem p_X12_orders : plainName q_X12_orders.1.cls = true := by decide +kernel
theorem m_X12_placed : xMT[187]? = some (q_X12_placed, t_X12_placed) := rfl
theorem h_X12_placed : q_X12_placed.1.cls ≠ "java/lang/invoke/MethodHandle" ∧ q_X12_placed.1.cls ≠ "java/lang/invoke/VarHandle" ∧ (parseMethodDescriptor q_X12_placed.1.desc).map (fun d => d.parameters.length) = some 2 := ⟨by decide +kernel, by decide +kernel, by decide +kernel⟩
theorem p_X12_placed : plainName q_X12_placed.1.cls = true := by decide +kernel
theorem m_X12_pour : xMT[188]? = some (q_X12_pour, t_X12_pour) := rfl
theorem h_X12_pour : q_X12_pour.1.cls ≠ "java/lang/invoke/MethodHandle" ∧ q_X12_pour.1.cls ≠ "java/lang/invoke/VarHandle" ∧ (parseMethodDescriptor q_X12_pour.1.desc).map (fun d => d.parameters.length) = some 5 := ⟨by decide +kernel, by decide +kernel, by decide +kernel⟩
theorem p_X12_pour : plainName q_X12_pour.1.cls = true := by decide +kernel
theorem m_X12_ran : xMT[189]? = some (q_X12_ran, t_X12_ran) := rfl
theorem h_X12_ran : q_X12_ran.1.cls ≠ "java/lang/invoke/MethodHandle" ∧ q_X12_ran.1.cls ≠ "java/lang/invoke/VarHandle" ∧ (parseMethodDescriptor q_X12_ran.1.desc).map (fun d => d.parameters.length) = some 1 := ⟨by decide +kernel, by decide +kernel, by decide +kernel⟩
theorem p_X12_ran : plainName q_X12_ran.1.cls = true := by decide +kernel
theorem m_X12_reach : xMT[190]? = some (q_X12_reach, t_X12_reach) := rfl
theorem h_X12_reach : q_X12_reach.1.cls ≠ "java/lang/invoke/MethodHandle" ∧ q_X12_reach.1.cls ≠ "java/lang/invoke/VarHandle" ∧ (parseMethodDescriptor q_X12_reach.1.desc).map (fun d => d.parameters.length) = some 0 := ⟨by decide +kernel, by decide +kernel, by decide +kernel⟩
theorem p_X12_reach : plainName q_X12_reach.1.cls = true := by decide +kernel
theorem m_X12_read : xMT[191]? = some (q_X12_read, t_X12_read) := rfl
theorem h_X12_read : q_X12_read.1.cls ≠ "java/lang/invoke/MethodHandle" ∧ q_X12_read.1.cls ≠ "java/lang/invoke/VarHandle" ∧ (parseMethodDescriptor q_X12_read.1.desc).map (fun d => d.parameters.length) = some 2 := ⟨by decide +kernel, by decide +kernel, by decide +kernel⟩
theorem p_X12_read : plainName q_X12_read.1.cls = true := by decide +kernel
theorem m_X12_readNumber : xMT[192]? = some (q_X12_readNumber, t_X12_readNumber) := rfl
theorem h_X12_readNumber : q_X12_readNumber.1.cls ≠ "java/lang/invoke/MethodHandle" ∧ q_X12_readNumber.1.cls ≠ "java/lang/invoke/VarHandle" ∧ (parseMethodDescriptor q_X12_readNumber.1.desc).map (fun d => d.parameters.length) = some 2 := ⟨by decide +kernel, by decide +kernel, by decide +kernel⟩
theorem p_X12_readNumber : plainName q_X12_readNumber.1.cls = true := by decide +kernel
theorem m_X12_refuse : xMT[193]? = some (q_X12_refuse, t_X12_refuse) := rfl
theorem h_X12_refuse : q_X12_refuse.1.cls ≠ "java/lang/invoke/MethodHandle" ∧ q_X12_refuse.1.cls ≠ "java/lang/invoke/VarHandle" ∧ (parseMethodDescriptor q_X12_refuse.1.desc).map (fun d => d.parameters.length) = some 1 := ⟨by decide +kernel, by decide +kernel, by decide +kernel⟩
theorem p_X12_refuse : plainName q_X12_refuse.1.cls = true := by decide +kernel
theorem m_X12_run : xMT[194]? = some (q_X12_run, t_X12_run) := rfl
theorem h_X12_run : q_X12_run.1.cls ≠ "java/lang/invoke/MethodHandle" ∧ q_X12_run.1.cls ≠ "java/lang/invoke/VarHandle" ∧ (parseMethodDescriptor q_X12_run.1.desc).map (fun d => d.parameters.length) = some 1 := ⟨by decide +kernel, by decide +kernel, by decide +kernel⟩
theorem p_X12_run : plainName q_X12_run.1.cls = true := by decide +kernel
theorem m_X12_seen : xMT[195]? = some (q_X12_seen, t_X12_seen) := rfl
theorem h_X12_seen : q_X12_seen.1.cls ≠ "java/lang/invoke/MethodHandle" ∧ q_X12_seen.1.cls ≠ "java/lang/invoke/VarHandle" ∧ (parseMethodDescriptor q_X12_seen.1.desc).map (fun d => d.parameters.length) = some 2 := ⟨by decide +kernel, by decide +kernel, by decide +kernel⟩
theorem p_X12_seen : plainName q_X12_seen.1.cls = true := by decide +kernel
theorem m_X12_shows : xMT[196]? = some (q_X12_shows, t_X12_shows) := rfl
theorem h_X12_shows : q_X12_shows.1.cls ≠ "java/lang/invoke/MethodHandle" ∧ q_X12_shows.1.cls ≠ "java/lang/invoke/VarHandle" ∧ (parseMethodDescriptor q_X12_shows.1.desc).map (fun d => d.parameters.length) = some 3 := ⟨by decide +kernel, by decide +kernel, by decide +kernel⟩
theorem p_X12_shows : plainName q_X12_shows.1.cls = true := by decide +kernel
theorem m_X12_showsOf : xMT[197]? = some (q_X12_showsOf, t_X12_showsOf) := rfl
theorem h_X12_showsOf : q_X12_showsOf.1.cls ≠ "java/lang/invoke/MethodHandle" ∧ q_X12_showsOf.1.cls ≠ "java/lang/invoke/VarHandle" ∧ (parseMethodDescriptor q_X12_showsOf.1.desc).map (fun d => d.parameters.length) = some 2 := ⟨by decide +kernel, by decide +kernel, by decide +kernel⟩
theorem p_X12_showsOf : plainName q_X12_showsOf.1.cls = true := by decide +kernel
theorem m_X12_spelled : xMT[198]? = some (q_X12_spelled, t_X12_spelled) := rfl
theorem h_X12_spelled : q_X12_spelled.1.cls ≠ "java/lang/invoke/MethodHandle" ∧ q_X12_spelled.1.cls ≠ "java/lang/invoke/VarHandle" ∧ (parseMethodDescriptor q_X12_spelled.1.desc).map (fun d => d.parameters.length) = some 6 := ⟨by decide +kernel, by decide +kernel, by decide +kernel⟩
theorem p_X12_spelled : plainName q_X12_spelled.1.cls = true := by decide +kernel
theorem m_X12_state : xMT[199]? = some (q_X12_state, t_X12_state) := rfl
theorem h_X12_state : q_X12_state.1.cls ≠ "java/lang/invoke/MethodHandle" ∧ q_X12_state.1.cls ≠ "java/lang/invoke/VarHandle" ∧ (parseMethodDescriptor q_X12_state.1.desc).map (fun d => d.parameters.length) = some 2 := ⟨by decide +kernel, by decide +kernel, by decide +kernel⟩
theorem p_X12_state : plainName q_X12_state.1.cls = true := by decide +kernel
theorem m_X12_stateOf : xMT[200]? = some (q_X12_stateOf, t_X12_stateOf) := rfl
theorem h_X12_stateOf : q_X12_stateOf.1.cls ≠ "java/lang/invoke/MethodHandle" ∧ q_X12_stateOf.1.cls ≠ "java/lang/invoke/VarHandle" ∧ (parseMethodDescriptor q_X12_stateOf.1.desc).map (fun d => d.parameters.length) = some 2 := ⟨by decide +kernel, by decide +kernel, by decide +kernel⟩
theorem p_X12_stateOf : plainName q_X12_stateOf.1.cls = true := by decide +kernel
theorem m_X12_status : xMT[201]? = some (q_X12_status, t_X12_status) := rfl
theorem h_X12_status : q_X12_status.1.cls ≠ "java/lang/invoke/MethodHandle" ∧ q_X12_status.1.cls ≠ "java/lang/invoke/VarHandle" ∧ (parseMethodDescriptor q_X12_status.1.desc).map (fun d => d.parameters.length) = some 0 := ⟨by decide +kernel, by decide +kernel, by decide +kernel⟩
theorem p_X12_status : plainName q_X12_status.1.cls = true := by decide +kernel
theorem m_X12_steam : xMT[202]? = some (q_X12_steam, t_X12_steam) := rfl
theorem h_X12_steam : q_X12_steam.1.cls ≠ "java/lang/invoke/MethodHandle" ∧ q_X12_steam.1.cls ≠ "java/lang/invoke/VarHandle" ∧ (parseMethodDescriptor q_X12_steam.1.desc).map (fun d => d.parameters.length) = some 2 := ⟨by decide +kernel, by decide +kernel, by decide +kernel⟩
theorem p_X12_steam : plainName q_X12_steam.1.cls = true := by decide +kernel
theorem m_X12_stuck : xMT[203]? = some (q_X12_stuck, t_X12_stuck) := rfl
theorem h_X12_stuck : q_X12_stuck.1.cls ≠ "java/lang/invoke/MethodHandle" ∧ q_X12_stuck.1.cls ≠ "java/lang/invoke/VarHandle" ∧ (parseMethodDescriptor q_X12_stuck.1.desc).map (fun d => d.parameters.length) = some 0 := ⟨by decide +kernel, by decide +kernel, by decide +kernel⟩
theorem p_X12_stuck : plainName q_X12_stuck.1.cls = true := by decide +kernel
theorem m_X12_sums : xMT[204]? = some (q_X12_sums, t_X12_sums) := rfl
theorem h_X12_sums : q_X12_sums.1.cls ≠ "java/lang/invoke/MethodHandle" ∧ q_X12_sums.1.cls ≠ "java/lang/invoke/VarHandle" ∧ (parseMethodDescriptor q_X12_sums.1.desc).map (fun d => d.parameters.length) = some 1 := ⟨by decide +kernel, by decide +kernel, by decide +kernel⟩
theorem p_X12_sums : plainName q_X12_sums.1.cls = true := by decide +kernel
theorem m_X12_supper : xMT[205]? = some (q_X12_supper, t_X12_supper) := rfl
theorem h_X12_supper : q_X12_supper.1.cls ≠ "java/lang/invoke/MethodHandle" ∧ q_X12_supper.1.cls ≠ "java/lang/invoke/VarHandle" ∧ (parseMethodDescriptor q_X12_supper.1.desc).map (fun d => d.parameters.length) = some 3 := ⟨by decide +kernel, by decide +kernel, by decide +kernel⟩
theorem p_X12_supper : plainName q_X12_supper.1.cls = true := by decide +kernel
theorem m_X12_tastes : xMT[206]? = some (q_X12_tastes, t_X12_tastes) := rfl
theorem h_X12_tastes : q_X12_tastes.1.cls ≠ "java/lang/invoke/MethodHandle" ∧ q_X12_tastes.1.cls ≠ "java/lang/invoke/VarHandle" ∧ (parseMethodDescriptor q_X12_tastes.1.desc).map (fun d => d.parameters.length) = some 3 := ⟨by decide +kernel, by decide +kernel, by decide +kernel⟩
theorem p_X12_tastes : plainName q_X12_tastes.1.cls = true := by decide +kernel
theorem m_X12_told : xMT[207]? = some (q_X12_told, t_X12_told) := rfl
theorem h_X12_told : q_X12_told.1.cls ≠ "java/lang/invoke/MethodHandle" ∧ q_X12_told.1.cls ≠ "java/lang/invoke/VarHandle" ∧ (parseMethodDescriptor q_X12_told.1.desc).map (fun d => d.parameters.length) = some 2 := ⟨by decide +kernel, by decide +kernel, by decide +kernel⟩
theorem p_X12_told : plainName q_X12_told.1.cls = true := by decide +kernel
theorem m_X12_top : xMT[208]? = some (q_X12_top, t_X12_top) := rfl
theorem h_X12_top : q_X12_top.1.cls ≠ "java/lang/invoke/MethodHandle" ∧ q_X12_top.1.cls ≠ "java/lang/invoke/VarHandle" ∧ (parseMethodDescriptor q_X12_top.1.desc).map (fun d => d.parameters.length) = some 0 := ⟨by decide +kernel, by decide +kernel, by decide +kernel⟩
theorem p_X12_top : plainName q_X12_top.1.cls = true := by decide +kernel
theorem m_X12_tray : xMT[209]? = some (q_X12_tray, t_X12_tray) := rfl
theorem h_X12_tray : q_X12_tray.1.cls ≠ "java/lang/invoke/MethodHandle" ∧ q_X12_tray.1.cls ≠ "java/lang/invoke/VarHandle" ∧ (parseMethodDescriptor q_X12_tray.1.desc).map (fun d => d.parameters.length) = some 3 := ⟨by decide +kernel, by decide +kernel, by decide +kernel⟩
theorem p_X12_tray : plainName q_X12_tray.1.cls = true := by decide +kernel
theorem m_X12_trayed : xMT[210]? = some (q_X12_trayed, t_X12_trayed) := rfl
theorem h_X12_trayed : q_X12_trayed.1.cls ≠ "java/lang/invoke/MethodHandle" ∧ q_X12_trayed.1.cls ≠ "java/lang/invoke/VarHandle" ∧ (parseMethodDescriptor q_X12_trayed.1.desc).map (fun d => d.parameters.length) = some 1 := ⟨by decide +kernel, by decide +kernel, by decide +kernel⟩
theorem p_X12_trayed : plainName q_X12_trayed.1.cls = true := by decide +kernel
theorem m_X12_truly : xMT[211]? = some (q_X12_truly, t_X12_truly) := rfl
theorem h_X12_truly : q_X12_truly.1.cls ≠ "java/lang/invoke/MethodHandle" ∧ q_X12_truly.1.cls ≠ "java/lang/invoke/VarHandle" ∧ (parseMethodDescriptor q_X12_truly.1.desc).map (fun d => d.parameters.length) = some 1 := ⟨by decide +kernel, by decide +kernel, by decide +kernel⟩
theorem p_X12_truly : plainName q_X12_truly.1.cls = true := by decide +kernel
theorem m_X12_unlike : xMT[212]? = some (q_X12_unlike, t_X12_unlike) := rfl
theorem h_X12_unlike : q_X12_unlike.1.cls ≠ "java/lang/invoke/MethodHandle" ∧ q_X12_unlike.1.cls ≠ "java/lang/invoke/VarHandle" ∧ (parseMethodDescriptor q_X12_unlike.1.desc).map (fun d => d.parameters.length) = some 2 := ⟨by decide +kernel, by decide +kernel, by decide +kernel⟩
theorem p_X12_unlike : plainName q_X12_unlike.1.cls = true := by decide +kernel
theorem m_X12_unlikeOf : xMT[213]? = some (q_X12_unlikeOf, t_X12_unlikeOf) := rfl
theorem h_X12_unlikeOf : q_X12_unlikeOf.1.cls ≠ "java/lang/invoke/MethodHandle" ∧ q_X12_unlikeOf.1.cls ≠ "java/lang/invoke/VarHandle" ∧ (parseMethodDescriptor q_X12_unlikeOf.1.desc).map (fun d => d.parameters.length) = some 2 := ⟨by decide +kernel, by decide +kernel, by decide +kernel⟩
theorem p_X12_unlikeOf : plainName q_X12_unlikeOf.1.cls = true := by decide +kernel
theorem m_X12_way : xMT[214]? = some (q_X12_way, t_X12_way) := rfl
theorem h_X12_way : q_X12_way.1.cls ≠ "java/lang/invoke/MethodHandle" ∧ q_X12_way.1.cls ≠ "java/lang/invoke/VarHandle" ∧ (parseMethodDescriptor q_X12_way.1.desc).map (fun d => d.parameters.length) = some 1 := ⟨by decide +kernel, by decide +kernel, by decide +kernel⟩
theorem p_X12_way : plainName q_X12_way.1.cls = true := by decide +kernel
theorem m_X12_wayAt : xMT[215]? = some (q_X12_wayAt, t_X12_wayAt) := rfl
theorem h_X12_wayAt : q_X12_wayAt.1.cls ≠ "java/lang/invoke/MethodHandle" ∧ q_X12_wayAt.1.cls ≠ "java/lang/invoke/VarHandle" ∧ (parseMethodDescriptor q_X12_wayAt.1.desc).map (fun d => d.parameters.length) = some 2 := ⟨by decide +kernel, by decide +kernel, by decide +kernel⟩
theorem p_X12_wayAt : plainName q_X12_wayAt.1.cls = true := by decide +kernel
theorem m_X12_worth : xMT[216]? = some (q_X12_worth, t_X12_worth) := rfl
theorem h_X12_worth : q_X12_worth.1.cls ≠ "java/lang/invoke/MethodHandle" ∧ q_X12_worth.1.cls ≠ "java/lang/invoke/VarHandle" ∧ (parseMethodDescriptor q_X12_worth.1.desc).map (fun d => d.parameters.length) = some 3 := ⟨by decide +kernel, by decide +kernel, by decide +kernel⟩
theorem p_X12_worth : plainName q_X12_worth.1.cls = true := by decide +kernel
theorem m_X12_worthOf : xMT[217]? = some (q_X12_worthOf, t_X12_worthOf) := rfl
theorem h_X12_worthOf : q_X12_worthOf.1.cls ≠ "java/lang/invoke/MethodHandle" ∧ q_X12_worthOf.1.cls ≠ "java/lang/invoke/VarHandle" ∧ (parseMethodDescriptor q_X12_worthOf.1.desc).map (fun d => d.parameters.length) = some 2 := ⟨by decide +kernel, by decide +kernel, by decide +kernel⟩
theorem p_X12_worthOf : plainName q_X12_worthOf.1.cls = true := by decide +kernel
theorem m_X12_write : xMT[218]? = some (q_X12_write, t_X12_write) := rfl
theorem h_X12_write : q_X12_write.1.cls ≠ "java/lang/invoke/MethodHandle" ∧ q_X12_write.1.cls ≠ "java/lang/invoke/VarHandle" ∧ (parseMethodDescriptor q_X12_write.1.desc).map (fun d => d.parameters.length) = some 3 := ⟨by decide +kernel, by decide +kernel, by decide +kernel⟩
theorem p_X12_write : plainName q_X12_write.1.cls = true := by decide +kernel
theorem m_X12_wrong : xMT[219]? = some (q_X12_wrong, t_X12_wrong) := rfl
theorem h_X12_wrong : q_X12_wrong.1.cls ≠ "java/lang/invoke/MethodHandle" ∧ q_X12_wrong.1.cls ≠ "java/lang/invoke/VarHandle" ∧ (parseMethodDescriptor q_X12_wrong.1.desc).map (fun d => d.parameters.length) = some 0 := ⟨by decide +kernel, by decide +kernel, by decide +kernel⟩
theorem p_X12_wrong : plainName q_X12_wrong.1.cls = true := by decide +kernel
