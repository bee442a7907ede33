/-! printed: what the kernel checks of each method once -/
set_option maxRecDepth 100000 in
theorem f_J7_fill_53178 : zmchk q_J7_fill_53178.1 q_J7_fill_53178.2 = true ∧ Cond.code q_J7_fill_53178.1.1 q_J7_fill_53178.1.2.1 q_J7_fill_53178.1.2.2.1 q_J7_fill_53178.1.2.2.2 ∈ xTB := ⟨by decide +kernel, xTB_in (zTb_in (k := 2) (List.mem_of_getElem? (i := 25) rfl)) rfl⟩
set_option maxRecDepth 100000 in
theorem f_J7_fill_d0a16 : zmchk q_J7_fill_d0a16.1 q_J7_fill_d0a16.2 = true ∧ Cond.code q_J7_fill_d0a16.1.1 q_J7_fill_d0a16.1.2.1 q_J7_fill_d0a16.1.2.2.1 q_J7_fill_d0a16.1.2.2.2 ∈ xTB := ⟨by decide +kernel, xTB_in (zTb_in (k := 3) (List.mem_of_getElem? (i := 64) rfl)) rfl⟩
set_option maxRecDepth 100000 in
theorem f_J13_bitCount_95d88 : zmchk q_J13_bitCount_95d88.1 q_J13_bitCount_95d88.2 = true ∧ Cond.code q_J13_bitCount_95d88.1.1 q_J13_bitCount_95d88.1.2.1 q_J13_bitCount_95d88.1.2.2.1 q_J13_bitCount_95d88.1.2.2.2 ∈ xTB := ⟨by decide +kernel, xTB_in (zTb_in (k := 5) (List.mem_of_getElem? (i := 70) rfl)) rfl⟩
set_option maxRecDepth 100000 in
theorem f_X0_come : zmchk q_X0_come.1 q_X0_come.2 = true ∧ Cond.code q_X0_come.1.1 q_X0_come.1.2.1 q_X0_come.1.2.2.1 q_X0_come.1.2.2.2 ∈ xTB := ⟨by decide +kernel, xTB_in (zTb_in (k := 5) (List.mem_of_getElem? (i := 238) rfl)) rfl⟩
set_option maxRecDepth 100000 in
theorem f_X0_doorIn : zmchk q_X0_doorIn.1 q_X0_doorIn.2 = true ∧ Cond.code q_X0_doorIn.1.1 q_X0_doorIn.1.2.1 q_X0_doorIn.1.2.2.1 q_X0_doorIn.1.2.2.2 ∈ xTB := ⟨by decide +kernel, xTB_in (zTb_in (k := 6) (List.mem_of_getElem? (i := 1) rfl)) rfl⟩
set_option maxRecDepth 100000 in
theorem f_X0_doorOut : zmchk q_X0_doorOut.1 q_X0_doorOut.2 = true ∧ Cond.code q_X0_doorOut.1.1 q_X0_doorOut.1.2.1 q_X0_doorOut.1.2.2.1 q_X0_doorOut.1.2.2.2 ∈ xTB := ⟨by decide +kernel, xTB_in (zTb_in (k := 5) (List.mem_of_getElem? (i := 234) rfl)) rfl⟩
set_option maxRecDepth 100000 in
theorem f_X0_fewest : zmchk q_X0_fewest.1 q_X0_fewest.2 = true ∧ Cond.code q_X0_fewest.1.1 q_X0_fewest.1.2.1 q_X0_fewest.1.2.2.1 q_X0_fewest.1.2.2.2 ∈ xTB := ⟨by decide +kernel, xTB_in (zTb_in (k := 5) (List.mem_of_getElem? (i := 226) rfl)) rfl⟩
set_option maxRecDepth 100000 in
theorem f_X0_findRow : zmchk q_X0_findRow.1 q_X0_findRow.2 = true ∧ Cond.code q_X0_findRow.1.1 q_X0_findRow.1.2.1 q_X0_findRow.1.2.2.1 q_X0_findRow.1.2.2.2 ∈ xTB := ⟨by decide +kernel, xTB_in (zTb_in (k := 5) (List.mem_of_getElem? (i := 231) rfl)) rfl⟩
set_option maxRecDepth 100000 in
theorem f_X0_goIn : zmchk q_X0_goIn.1 q_X0_goIn.2 = true ∧ Cond.code q_X0_goIn.1.1 q_X0_goIn.1.2.1 q_X0_goIn.1.2.2.1 q_X0_goIn.1.2.2.2 ∈ xTB := ⟨by decide +kernel, xTB_in (zTb_in (k := 6) (List.mem_of_getElem? (i := 18) rfl)) rfl⟩
set_option maxRecDepth 100000 in
theorem f_X0_goOut : zmchk q_X0_goOut.1 q_X0_goOut.2 = true ∧ Cond.code q_X0_goOut.1.1 q_X0_goOut.1.2.1 q_X0_goOut.1.2.2.1 q_X0_goOut.1.2.2.2 ∈ xTB := ⟨by decide +kernel, xTB_in (zTb_in (k := 6) (List.mem_of_getElem? (i := 5) rfl)) rfl⟩
set_option maxRecDepth 100000 in
theorem f_X0_goesOn : zmchk q_X0_goesOn.1 q_X0_goesOn.2 = true ∧ Cond.code q_X0_goesOn.1.1 q_X0_goesOn.1.2.1 q_X0_goesOn.1.2.2.1 q_X0_goesOn.1.2.2.2 ∈ xTB := ⟨by decide +kernel, xTB_in (zTb_in (k := 6) (List.mem_of_getElem? (i := 10) rfl)) rfl⟩
set_option maxRecDepth 100000 in
theorem f_X0_isPassed : zmchk q_X0_isPassed.1 q_X0_isPassed.2 = true ∧ Cond.code q_X0_isPassed.1.1 q_X0_isPassed.1.2.1 q_X0_isPassed.1.2.2.1 q_X0_isPassed.1.2.2.2 ∈ xTB := ⟨by decide +kernel, xTB_in (zTb_in (k := 6) (List.mem_of_getElem? (i := 14) rfl)) rfl⟩
set_option maxRecDepth 100000 in
theorem f_X0_lay : zmchk q_X0_lay.1 q_X0_lay.2 = true ∧ Cond.code q_X0_lay.1.1 q_X0_lay.1.2.1 q_X0_lay.1.2.2.1 q_X0_lay.1.2.2.2 ∈ xTB := ⟨by decide +kernel, xTB_in (zTb_in (k := 6) (List.mem_of_getElem? (i := 29) rfl)) rfl⟩
set_option maxRecDepth 100000 in
theorem f_X0_layRow : zmchk q_X0_layRow.1 q_X0_layRow.2 = true ∧ Cond.code q_X0_layRow.1.1 q_X0_layRow.1.2.1 q_X0_layRow.1.2.2.1 q_X0_layRow.1.2.2.2 ∈ xTB := ⟨by decide +kernel, xTB_in (zTb_in (k := 6) (List.mem_of_getElem? (i := 25) rfl)) rfl⟩
set_option maxRecDepth 100000 in
theorem f_X0_turned : zmchk q_X0_turned.1 q_X0_turned.2 = true ∧ Cond.code q_X0_turned.1.1 q_X0_turned.1.2.1 q_X0_turned.1.2.2.1 q_X0_turned.1.2.2.2 ∈ xTB := ⟨by decide +kernel, xTB_in (zTb_in (k := 6) (List.mem_of_getElem? (i := 21) rfl)) rfl⟩
set_option maxRecDepth 100000 in
theorem f_X1_choose : zmchk q_X1_choose.1 q_X1_choose.2 = true ∧ Cond.code q_X1_choose.1.1 q_X1_choose.1.2.1 q_X1_choose.1.2.2.1 q_X1_choose.1.2.2.2 ∈ xTB := ⟨by decide +kernel, xTB_in (zTb_in (k := 5) (List.mem_of_getElem? (i := 195) rfl)) rfl⟩
set_option maxRecDepth 100000 in
theorem f_X1_consider : zmchk q_X1_consider.1 q_X1_consider.2 = true ∧ Cond.code q_X1_consider.1.1 q_X1_consider.1.2.1 q_X1_consider.1.2.2.1 q_X1_consider.1.2.2.2 ∈ xTB := ⟨by decide +kernel, xTB_in (zTb_in (k := 5) (List.mem_of_getElem? (i := 202) rfl)) rfl⟩
set_option maxRecDepth 100000 in
theorem f_X1_dearestCell : zmchk q_X1_dearestCell.1 q_X1_dearestCell.2 = true ∧ Cond.code q_X1_dearestCell.1.1 q_X1_dearestCell.1.2.1 q_X1_dearestCell.1.2.2.1 q_X1_dearestCell.1.2.2.2 ∈ xTB := ⟨by decide +kernel, xTB_in (zTb_in (k := 6) (List.mem_of_getElem? (i := 46) rfl)) rfl⟩
set_option maxRecDepth 100000 in
theorem f_X1_holds : zmchk q_X1_holds.1 q_X1_holds.2 = true ∧ Cond.code q_X1_holds.1.1 q_X1_holds.1.2.1 q_X1_holds.1.2.2.1 q_X1_holds.1.2.2.2 ∈ xTB := ⟨by decide +kernel, xTB_in (zTb_in (k := 5) (List.mem_of_getElem? (i := 198) rfl)) rfl⟩
set_option maxRecDepth 100000 in
theorem f_X1_lossBy : zmchk q_X1_lossBy.1 q_X1_lossBy.2 = true ∧ Cond.code q_X1_lossBy.1.1 q_X1_lossBy.1.2.1 q_X1_lossBy.1.2.2.1 q_X1_lossBy.1.2.2.2 ∈ xTB := ⟨by decide +kernel, xTB_in (zTb_in (k := 6) (List.mem_of_getElem? (i := 38) rfl)) rfl⟩
set_option maxRecDepth 100000 in
theorem f_X1_priceWithout : zmchk q_X1_priceWithout.1 q_X1_priceWithout.2 = true ∧ Cond.code q_X1_priceWithout.1.1 q_X1_priceWithout.1.2.1 q_X1_priceWithout.1.2.2.1 q_X1_priceWithout.1.2.2.2 ∈ xTB := ⟨by decide +kernel, xTB_in (zTb_in (k := 5) (List.mem_of_getElem? (i := 206) rfl)) rfl⟩
set_option maxRecDepth 100000 in
theorem f_X1_priceWithoutBoth : zmchk q_X1_priceWithoutBoth.1 q_X1_priceWithoutBoth.2 = true ∧ Cond.code q_X1_priceWithoutBoth.1.1 q_X1_priceWithoutBoth.1.2.1 q_X1_priceWithoutBoth.1.2.2.1 q_X1_priceWithoutBoth.1.2.2.2 ∈ xTB := ⟨by decide +kernel, xTB_in (zTb_in (k := 5) (List.mem_of_getElem? (i := 213) rfl)) rfl⟩
set_option maxRecDepth 100000 in
theorem f_X1_sitDown : zmchk q_X1_sitDown.1 q_X1_sitDown.2 = true ∧ Cond.code q_X1_sitDown.1.1 q_X1_sitDown.1.2.1 q_X1_sitDown.1.2.2.1 q_X1_sitDown.1.2.2.2 ∈ xTB := ⟨by decide +kernel, xTB_in (zTb_in (k := 5) (List.mem_of_getElem? (i := 185) rfl)) rfl⟩
set_option maxRecDepth 100000 in
theorem f_X1_slot : zmchk q_X1_slot.1 q_X1_slot.2 = true ∧ Cond.code q_X1_slot.1.1 q_X1_slot.1.2.1 q_X1_slot.1.2.2.1 q_X1_slot.1.2.2.2 ∈ xTB := ⟨by decide +kernel, xTB_in (zTb_in (k := 5) (List.mem_of_getElem? (i := 209) rfl)) rfl⟩
set_option maxRecDepth 100000 in
theorem f_X2_addCompany : zmchk q_X2_addCompany.1 q_X2_addCompany.2 = true ∧ Cond.code q_X2_addCompany.1.1 q_X2_addCompany.1.2.1 q_X2_addCompany.1.2.2.1 q_X2_addCompany.1.2.2.2 ∈ xTB := ⟨by decide +kernel, xTB_in (zTb_in (k := 4) (List.mem_of_getElem? (i := 77) rfl)) rfl⟩
set_option maxRecDepth 100000 in
theorem f_X2_becomeLike : zmchk q_X2_becomeLike.1 q_X2_becomeLike.2 = true ∧ Cond.code q_X2_becomeLike.1.1 q_X2_becomeLike.1.2.1 q_X2_becomeLike.1.2.2.1 q_X2_becomeLike.1.2.2.2 ∈ xTB := ⟨by decide +kernel, xTB_in (zTb_in (k := 6) (List.mem_of_getElem? (i := 190) rfl)) rfl⟩
set_option maxRecDepth 100000 in
theorem f_X2_becomePlains : zmchk q_X2_becomePlains.1 q_X2_becomePlains.2 = true ∧ Cond.code q_X2_becomePlains.1.1 q_X2_becomePlains.1.2.1 q_X2_becomePlains.1.2.2.1 q_X2_becomePlains.1.2.2.2 ∈ xTB := ⟨by decide +kernel, xTB_in (zTb_in (k := 2) (List.mem_of_getElem? (i := 18) rfl)) rfl⟩
set_option maxRecDepth 100000 in
theorem f_X2_beside : zmchk q_X2_beside.1 q_X2_beside.2 = true ∧ Cond.code q_X2_beside.1.1 q_X2_beside.1.2.1 q_X2_beside.1.2.2.1 q_X2_beside.1.2.2.2 ∈ xTB := ⟨by decide +kernel, xTB_in (zTb_in (k := 5) (List.mem_of_getElem? (i := 126) rfl)) rfl⟩
set_option maxRecDepth 100000 in
theorem f_X2_cellAt : zmchk q_X2_cellAt.1 q_X2_cellAt.2 = true ∧ Cond.code q_X2_cellAt.1.1 q_X2_cellAt.1.2.1 q_X2_cellAt.1.2.2.1 q_X2_cellAt.1.2.2.2 ∈ xTB := ⟨by decide +kernel, xTB_in (zTb_in (k := 4) (List.mem_of_getElem? (i := 30) rfl)) rfl⟩
set_option maxRecDepth 100000 in
theorem f_X2_cellsThatAre : zmchk q_X2_cellsThatAre.1 q_X2_cellsThatAre.2 = true ∧ Cond.code q_X2_cellsThatAre.1.1 q_X2_cellsThatAre.1.2.1 q_X2_cellsThatAre.1.2.2.1 q_X2_cellsThatAre.1.2.2.2 ∈ xTB := ⟨by decide +kernel, xTB_in (zTb_in (k := 5) (List.mem_of_getElem? (i := 67) rfl)) rfl⟩
set_option maxRecDepth 100000 in
theorem f_X2_clear : zmchk q_X2_clear.1 q_X2_clear.2 = true ∧ Cond.code q_X2_clear.1.1 q_X2_clear.1.2.1 q_X2_clear.1.2.2.1 q_X2_clear.1.2.2.2 ∈ xTB := ⟨by decide +kernel, xTB_in (zTb_in (k := 2) (List.mem_of_getElem? (i := 22) rfl)) rfl⟩
set_option maxRecDepth 100000 in
theorem f_X2_companyNamed : zmchk q_X2_companyNamed.1 q_X2_companyNamed.2 = true ∧ Cond.code q_X2_companyNamed.1.1 q_X2_companyNamed.1.2.1 q_X2_companyNamed.1.2.2.1 q_X2_companyNamed.1.2.2.2 ∈ xTB := ⟨by decide +kernel, xTB_in (zTb_in (k := 4) (List.mem_of_getElem? (i := 69) rfl)) rfl⟩
set_option maxRecDepth 100000 in
theorem f_X2_crumbsLeft : zmchk q_X2_crumbsLeft.1 q_X2_crumbsLeft.2 = true ∧ Cond.code q_X2_crumbsLeft.1.1 q_X2_crumbsLeft.1.2.1 q_X2_crumbsLeft.1.2.2.1 q_X2_crumbsLeft.1.2.2.2 ∈ xTB := ⟨by decide +kernel, xTB_in (zTb_in (k := 4) (List.mem_of_getElem? (i := 179) rfl)) rfl⟩
set_option maxRecDepth 100000 in
theorem f_X2_crumbsOf : zmchk q_X2_crumbsOf.1 q_X2_crumbsOf.2 = true ∧ Cond.code q_X2_crumbsOf.1.1 q_X2_crumbsOf.1.2.1 q_X2_crumbsOf.1.2.2.1 q_X2_crumbsOf.1.2.2.2 ∈ xTB := ⟨by decide +kernel, xTB_in (zTb_in (k := 4) (List.mem_of_getElem? (i := 201) rfl)) rfl⟩
set_option maxRecDepth 100000 in
theorem f_X2_differences : zmchk q_X2_differences.1 q_X2_differences.2 = true ∧ Cond.code q_X2_differences.1.1 q_X2_differences.1.2.1 q_X2_differences.1.2.2.1 q_X2_differences.1.2.2.2 ∈ xTB := ⟨by decide +kernel, xTB_in (zTb_in (k := 5) (List.mem_of_getElem? (i := 50) rfl)) rfl⟩
set_option maxRecDepth 100000 in
theorem f_X2_eat : zmchk q_X2_eat.1 q_X2_eat.2 = true ∧ Cond.code q_X2_eat.1.1 q_X2_eat.1.2.1 q_X2_eat.1.2.2.1 q_X2_eat.1.2.2.2 ∈ xTB := ⟨by decide +kernel, xTB_in (zTb_in (k := 5) (List.mem_of_getElem? (i := 17) rfl)) rfl⟩
set_option maxRecDepth 100000 in
theorem f_X2_fitTogether : zmchk q_X2_fitTogether.1 q_X2_fitTogether.2 = true ∧ Cond.code q_X2_fitTogether.1.1 q_X2_fitTogether.1.2.1 q_X2_fitTogether.1.2.2.1 q_X2_fitTogether.1.2.2.2 ∈ xTB := ⟨by decide +kernel, xTB_in (zTb_in (k := 6) (List.mem_of_getElem? (i := 74) rfl)) rfl⟩
set_option maxRecDepth 100000 in
theorem f_X2_fitting : zmchk q_X2_fitting.1 q_X2_fitting.2 = true ∧ Cond.code q_X2_fitting.1.1 q_X2_fitting.1.2.1 q_X2_fitting.1.2.2.1 q_X2_fitting.1.2.2.2 ∈ xTB := ⟨by decide +kernel, xTB_in (zTb_in (k := 6) (List.mem_of_getElem? (i := 69) rfl)) rfl⟩
set_option maxRecDepth 100000 in
theorem f_X2_groundCost : zmchk q_X2_groundCost.1 q_X2_groundCost.2 = true ∧ Cond.code q_X2_groundCost.1.1 q_X2_groundCost.1.2.1 q_X2_groundCost.1.2.2.1 q_X2_groundCost.1.2.2.2 ∈ xTB := ⟨by decide +kernel, xTB_in (zTb_in (k := 4) (List.mem_of_getElem? (i := 217) rfl)) rfl⟩
set_option maxRecDepth 100000 in
theorem f_X2_growMould : zmchk q_X2_growMould.1 q_X2_growMould.2 = true ∧ Cond.code q_X2_growMould.1.1 q_X2_growMould.1.2.1 q_X2_growMould.1.2.2.1 q_X2_growMould.1.2.2.2 ∈ xTB := ⟨by decide +kernel, xTB_in (zTb_in (k := 5) (List.mem_of_getElem? (i := 25) rfl)) rfl⟩
set_option maxRecDepth 100000 in
theorem f_X2_hasArrived : zmchk q_X2_hasArrived.1 q_X2_hasArrived.2 = true ∧ Cond.code q_X2_hasArrived.1.1 q_X2_hasArrived.1.2.1 q_X2_hasArrived.1.2.2.1 q_X2_hasArrived.1.2.2.2 ∈ xTB := ⟨by decide +kernel, xTB_in (zTb_in (k := 6) (List.mem_of_getElem? (i := 178) rfl)) rfl⟩
set_option maxRecDepth 100000 in
theorem f_X2_hasCell : zmchk q_X2_hasCell.1 q_X2_hasCell.2 = true ∧ Cond.code q_X2_hasCell.1.1 q_X2_hasCell.1.2.1 q_X2_hasCell.1.2.2.1 q_X2_hasCell.1.2.2.2 ∈ xTB := ⟨by decide +kernel, xTB_in (zTb_in (k := 4) (List.mem_of_getElem? (i := 193) rfl)) rfl⟩
set_option maxRecDepth 100000 in
theorem f_X2_hasCompany : zmchk q_X2_hasCompany.1 q_X2_hasCompany.2 = true ∧ Cond.code q_X2_hasCompany.1.1 q_X2_hasCompany.1.2.1 q_X2_hasCompany.1.2.2.1 q_X2_hasCompany.1.2.2.2 ∈ xTB := ⟨by decide +kernel, xTB_in (zTb_in (k := 5) (List.mem_of_getElem? (i := 7) rfl)) rfl⟩
set_option maxRecDepth 100000 in
theorem f_X2_hasCopy : zmchk q_X2_hasCopy.1 q_X2_hasCopy.2 = true ∧ Cond.code q_X2_hasCopy.1.1 q_X2_hasCopy.1.2.1 q_X2_hasCopy.1.2.2.1 q_X2_hasCopy.1.2.2.2 ∈ xTB := ⟨by decide +kernel, xTB_in (zTb_in (k := 4) (List.mem_of_getElem? (i := 230) rfl)) rfl⟩
set_option maxRecDepth 100000 in
theorem f_X2_hasCopyCell : zmchk q_X2_hasCopyCell.1 q_X2_hasCopyCell.2 = true ∧ Cond.code q_X2_hasCopyCell.1.1 q_X2_hasCopyCell.1.2.1 q_X2_hasCopyCell.1.2.2.1 q_X2_hasCopyCell.1.2.2.2 ∈ xTB := ⟨by decide +kernel, xTB_in (zTb_in (k := 4) (List.mem_of_getElem? (i := 226) rfl)) rfl⟩
set_option maxRecDepth 100000 in
theorem f_X2_heapFrom : zmchk q_X2_heapFrom.1 q_X2_heapFrom.2 = true ∧ Cond.code q_X2_heapFrom.1.1 q_X2_heapFrom.1.2.1 q_X2_heapFrom.1.2.2.1 q_X2_heapFrom.1.2.2.2 ∈ xTB := ⟨by decide +kernel, xTB_in (zTb_in (k := 5) (List.mem_of_getElem? (i := 84) rfl)) rfl⟩
set_option maxRecDepth 100000 in
theorem f_X2_isCell : zmchk q_X2_isCell.1 q_X2_isCell.2 = true ∧ Cond.code q_X2_isCell.1.1 q_X2_isCell.1.2.1 q_X2_isCell.1.2.2.1 q_X2_isCell.1.2.2.2 ∈ xTB := ⟨by decide +kernel, xTB_in (zTb_in (k := 4) (List.mem_of_getElem? (i := 183) rfl)) rfl⟩
set_option maxRecDepth 100000 in
theorem f_X2_isPassage : zmchk q_X2_isPassage.1 q_X2_isPassage.2 = true ∧ Cond.code q_X2_isPassage.1.1 q_X2_isPassage.1.2.1 q_X2_isPassage.1.2.2.1 q_X2_isPassage.1.2.2.2 ∈ xTB := ⟨by decide +kernel, xTB_in (zTb_in (k := 6) (List.mem_of_getElem? (i := 77) rfl)) rfl⟩
set_option maxRecDepth 100000 in
theorem f_X2_isWater : zmchk q_X2_isWater.1 q_X2_isWater.2 = true ∧ Cond.code q_X2_isWater.1.1 q_X2_isWater.1.2.1 q_X2_isWater.1.2.2.1 q_X2_isWater.1.2.2.2 ∈ xTB := ⟨by decide +kernel, xTB_in (zTb_in (k := 4) (List.mem_of_getElem? (i := 213) rfl)) rfl⟩
set_option maxRecDepth 100000 in
theorem f_X2_largestHeap : zmchk q_X2_largestHeap.1 q_X2_largestHeap.2 = true ∧ Cond.code q_X2_largestHeap.1.1 q_X2_largestHeap.1.2.1 q_X2_largestHeap.1.2.2.1 q_X2_largestHeap.1.2.2.2 ∈ xTB := ⟨by decide +kernel, xTB_in (zTb_in (k := 5) (List.mem_of_getElem? (i := 81) rfl)) rfl⟩
set_option maxRecDepth 100000 in
theorem f_X2_letterOf : zmchk q_X2_letterOf.1 q_X2_letterOf.2 = true ∧ Cond.code q_X2_letterOf.1.1 q_X2_letterOf.1.2.1 q_X2_letterOf.1.2.2.1 q_X2_letterOf.1.2.2.2 ∈ xTB := ⟨by decide +kernel, xTB_in (zTb_in (k := 4) (List.mem_of_getElem? (i := 24) rfl)) rfl⟩
set_option maxRecDepth 100000 in
theorem f_X2_numberOf : zmchk q_X2_numberOf.1 q_X2_numberOf.2 = true ∧ Cond.code q_X2_numberOf.1.1 q_X2_numberOf.1.2.1 q_X2_numberOf.1.2.2.1 q_X2_numberOf.1.2.2.2 ∈ xTB := ⟨by decide +kernel, xTB_in (zTb_in (k := 5) (List.mem_of_getElem? (i := 218) rfl)) rfl⟩
set_option maxRecDepth 100000 in
theorem f_X2_sendHome : zmchk q_X2_sendHome.1 q_X2_sendHome.2 = true ∧ Cond.code q_X2_sendHome.1.1 q_X2_sendHome.1.2.1 q_X2_sendHome.1.2.2.1 q_X2_sendHome.1.2.2.2 ∈ xTB := ⟨by decide +kernel, xTB_in (zTb_in (k := 6) (List.mem_of_getElem? (i := 169) rfl)) rfl⟩
set_option maxRecDepth 100000 in
theorem f_X2_shownCost : zmchk q_X2_shownCost.1 q_X2_shownCost.2 = true ∧ Cond.code q_X2_shownCost.1.1 q_X2_shownCost.1.2.1 q_X2_shownCost.1.2.2.1 q_X2_shownCost.1.2.2.2 ∈ xTB := ⟨by decide +kernel, xTB_in (zTb_in (k := 5) (List.mem_of_getElem? (i := 106) rfl)) rfl⟩
set_option maxRecDepth 100000 in
theorem f_X2_shownKind : zmchk q_X2_shownKind.1 q_X2_shownKind.2 = true ∧ Cond.code q_X2_shownKind.1.1 q_X2_shownKind.1.2.1 q_X2_shownKind.1.2.2.1 q_X2_shownKind.1.2.2.2 ∈ xTB := ⟨by decide +kernel, xTB_in (zTb_in (k := 4) (List.mem_of_getElem? (i := 239) rfl)) rfl⟩
set_option maxRecDepth 100000 in
theorem f_X2_spreadHoney : zmchk q_X2_spreadHoney.1 q_X2_spreadHoney.2 = true ∧ Cond.code q_X2_spreadHoney.1.1 q_X2_spreadHoney.1.2.1 q_X2_spreadHoney.1.2.2.1 q_X2_spreadHoney.1.2.2.2 ∈ xTB := ⟨by decide +kernel, xTB_in (zTb_in (k := 5) (List.mem_of_getElem? (i := 33) rfl)) rfl⟩
set_option maxRecDepth 100000 in
theorem f_X2_stateOf : zmchk q_X2_stateOf.1 q_X2_stateOf.2 = true ∧ Cond.code q_X2_stateOf.1.1 q_X2_stateOf.1.2.1 q_X2_stateOf.1.2.2.1 q_X2_stateOf.1.2.2.2 ∈ xTB := ⟨by decide +kernel, xTB_in (zTb_in (k := 4) (List.mem_of_getElem? (i := 197) rfl)) rfl⟩
set_option maxRecDepth 100000 in
theorem f_X2_steamOff : zmchk q_X2_steamOff.1 q_X2_steamOff.2 = true ∧ Cond.code q_X2_steamOff.1.1 q_X2_steamOff.1.2.1 q_X2_steamOff.1.2.2.1 q_X2_steamOff.1.2.2.2 ∈ xTB := ⟨by decide +kernel, xTB_in (zTb_in (k := 5) (List.mem_of_getElem? (i := 54) rfl)) rfl⟩
set_option maxRecDepth 100000 in
theorem f_X2_wipe : zmchk q_X2_wipe.1 q_X2_wipe.2 = true ∧ Cond.code q_X2_wipe.1.1 q_X2_wipe.1.2.1 q_X2_wipe.1.2.2.1 q_X2_wipe.1.2.2.2 ∈ xTB := ⟨by decide +kernel, xTB_in (zTb_in (k := 5) (List.mem_of_getElem? (i := 41) rfl)) rfl⟩
set_option maxRecDepth 100000 in
theorem f_X2_xOf : zmchk q_X2_xOf.1 q_X2_xOf.2 = true ∧ Cond.code q_X2_xOf.1.1 q_X2_xOf.1.2.1 q_X2_xOf.1.2.2.1 q_X2_xOf.1.2.2.2 ∈ xTB := ⟨by decide +kernel, xTB_in (zTb_in (k := 4) (List.mem_of_getElem? (i := 186) rfl)) rfl⟩
set_option maxRecDepth 100000 in
theorem f_X2_yOf : zmchk q_X2_yOf.1 q_X2_yOf.2 = true ∧ Cond.code q_X2_yOf.1.1 q_X2_yOf.1.2.1 q_X2_yOf.1.2.2.1 q_X2_yOf.1.2.2.2 ∈ xTB := ⟨by decide +kernel, xTB_in (zTb_in (k := 4) (List.mem_of_getElem? (i := 189) rfl)) rfl⟩
set_option maxRecDepth 100000 in
theorem f_X3_readBy : zmchk q_X3_readBy.1 q_X3_readBy.2 = true ∧ Cond.code q_X3_readBy.1.1 q_X3_readBy.1.2.1 q_X3_readBy.1.2.2.1 q_X3_readBy.1.2.2.2 ∈ xTB := ⟨by decide +kernel, xTB_in (zTb_in (k := 4) (List.mem_of_getElem? (i := 73) rfl)) rfl⟩
set_option maxRecDepth 100000 in
theorem f_X3_readCompany : zmchk q_X3_readCompany.1 q_X3_readCompany.2 = true ∧ Cond.code q_X3_readCompany.1.1 q_X3_readCompany.1.2.1 q_X3_readCompany.1.2.2.1 q_X3_readCompany.1.2.2.2 ∈ xTB := ⟨by decide +kernel, xTB_in (zTb_in (k := 4) (List.mem_of_getElem? (i := 56) rfl)) rfl⟩
set_option maxRecDepth 100000 in
theorem f_X3_readCopies : zmchk q_X3_readCopies.1 q_X3_readCopies.2 = true ∧ Cond.code q_X3_readCopies.1.1 q_X3_readCopies.1.2.1 q_X3_readCopies.1.2.2.1 q_X3_readCopies.1.2.2.2 ∈ xTB := ⟨by decide +kernel, xTB_in (zTb_in (k := 4) (List.mem_of_getElem? (i := 52) rfl)) rfl⟩
set_option maxRecDepth 100000 in
theorem f_X3_readLetters : zmchk q_X3_readLetters.1 q_X3_readLetters.2 = true ∧ Cond.code q_X3_readLetters.1.1 q_X3_readLetters.1.2.1 q_X3_readLetters.1.2.2.1 q_X3_readLetters.1.2.2.2 ∈ xTB := ⟨by decide +kernel, xTB_in (zTb_in (k := 4) (List.mem_of_getElem? (i := 13) rfl)) rfl⟩
set_option maxRecDepth 100000 in
theorem f_X3_readPart : zmchk q_X3_readPart.1 q_X3_readPart.2 = true ∧ Cond.code q_X3_readPart.1.1 q_X3_readPart.1.2.1 q_X3_readPart.1.2.2.1 q_X3_readPart.1.2.2.2 ∈ xTB := ⟨by decide +kernel, xTB_in (zTb_in (k := 4) (List.mem_of_getElem? (i := 38) rfl)) rfl⟩
set_option maxRecDepth 100000 in
theorem f_X3_readRise : zmchk q_X3_readRise.1 q_X3_readRise.2 = true ∧ Cond.code q_X3_readRise.1.1 q_X3_readRise.1.2.1 q_X3_readRise.1.2.2.1 q_X3_readRise.1.2.2.2 ∈ xTB := ⟨by decide +kernel, xTB_in (zTb_in (k := 4) (List.mem_of_getElem? (i := 42) rfl)) rfl⟩
set_option maxRecDepth 100000 in
theorem f_X3_readRows : zmchk q_X3_readRows.1 q_X3_readRows.2 = true ∧ Cond.code q_X3_readRows.1.1 q_X3_readRows.1.2.1 q_X3_readRows.1.2.2.1 q_X3_readRows.1.2.2.2 ∈ xTB := ⟨by decide +kernel, xTB_in (zTb_in (k := 4) (List.mem_of_getElem? (i := 6) rfl)) rfl⟩
set_option maxRecDepth 100000 in
theorem f_X3_readText : zmchk q_X3_readText.1 q_X3_readText.2 = true ∧ Cond.code q_X3_readText.1.1 q_X3_readText.1.2.1 q_X3_readText.1.2.2.1 q_X3_readText.1.2.2.2 ∈ xTB := ⟨by decide +kernel, xTB_in (zTb_in (k := 3) (List.mem_of_getElem? (i := 123) rfl)) rfl⟩
set_option maxRecDepth 100000 in
theorem f_X3_readWide : zmchk q_X3_readWide.1 q_X3_readWide.2 = true ∧ Cond.code q_X3_readWide.1.1 q_X3_readWide.1.2.1 q_X3_readWide.1.2.2.1 q_X3_readWide.1.2.2.2 ∈ xTB := ⟨by decide +kernel, xTB_in (zTb_in (k := 3) (List.mem_of_getElem? (i := 218) rfl)) rfl⟩
set_option maxRecDepth 100000 in
theorem f_X4_allWalks : zmchk q_X4_allWalks.1 q_X4_allWalks.2 = true ∧ Cond.code q_X4_allWalks.1.1 q_X4_allWalks.1.2.1 q_X4_allWalks.1.2.2.1 q_X4_allWalks.1.2.2.2 ∈ xTB := ⟨by decide +kernel, xTB_in (zTb_in (k := 6) (List.mem_of_getElem? (i := 88) rfl)) rfl⟩
set_option maxRecDepth 100000 in
theorem f_X4_cellsOnAllWalks : zmchk q_X4_cellsOnAllWalks.1 q_X4_cellsOnAllWalks.2 = true ∧ Cond.code q_X4_cellsOnAllWalks.1.1 q_X4_cellsOnAllWalks.1.2.1 q_X4_cellsOnAllWalks.1.2.2.1 q_X4_cellsOnAllWalks.1.2.2.2 ∈ xTB := ⟨by decide +kernel, xTB_in (zTb_in (k := 6) (List.mem_of_getElem? (i := 110) rfl)) rfl⟩
set_option maxRecDepth 100000 in
theorem f_X4_walkOn : zmchk q_X4_walkOn.1 q_X4_walkOn.2 = true ∧ Cond.code q_X4_walkOn.1.1 q_X4_walkOn.1.2.1 q_X4_walkOn.1.2.2.1 q_X4_walkOn.1.2.2.2 ∈ xTB := ⟨by decide +kernel, xTB_in (zTb_in (k := 6) (List.mem_of_getElem? (i := 93) rfl)) rfl⟩
set_option maxRecDepth 100000 in
theorem f_X4_walksThrough : zmchk q_X4_walksThrough.1 q_X4_walksThrough.2 = true ∧ Cond.code q_X4_walksThrough.1.1 q_X4_walksThrough.1.2.1 q_X4_walksThrough.1.2.2.1 q_X4_walksThrough.1.2.2.2 ∈ xTB := ⟨by decide +kernel, xTB_in (zTb_in (k := 6) (List.mem_of_getElem? (i := 85) rfl)) rfl⟩
set_option maxRecDepth 100000 in
theorem f_X5_add : zmchk q_X5_add.1 q_X5_add.2 = true ∧ Cond.code q_X5_add.1.1 q_X5_add.1.2.1 q_X5_add.1.2.2.1 q_X5_add.1.2.2.2 ∈ xTB := ⟨by decide +kernel, xTB_in (zTb_in (k := 4) (List.mem_of_getElem? (i := 114) rfl)) rfl⟩
set_option maxRecDepth 100000 in
theorem f_X5_addEnd : zmchk q_X5_addEnd.1 q_X5_addEnd.2 = true ∧ Cond.code q_X5_addEnd.1.1 q_X5_addEnd.1.2.1 q_X5_addEnd.1.2.2.1 q_X5_addEnd.1.2.2.2 ∈ xTB := ⟨by decide +kernel, xTB_in (zTb_in (k := 4) (List.mem_of_getElem? (i := 110) rfl)) rfl⟩
set_option maxRecDepth 100000 in
theorem f_X5_areThere : zmchk q_X5_areThere.1 q_X5_areThere.2 = true ∧ Cond.code q_X5_areThere.1.1 q_X5_areThere.1.2.1 q_X5_areThere.1.2.2.1 q_X5_areThere.1.2.2.2 ∈ xTB := ⟨by decide +kernel, xTB_in (zTb_in (k := 6) (List.mem_of_getElem? (i := 120) rfl)) rfl⟩
set_option maxRecDepth 100000 in
theorem f_X5_becomeLike : zmchk q_X5_becomeLike.1 q_X5_becomeLike.2 = true ∧ Cond.code q_X5_becomeLike.1.1 q_X5_becomeLike.1.2.1 q_X5_becomeLike.1.2.2.1 q_X5_becomeLike.1.2.2.2 ∈ xTB := ⟨by decide +kernel, xTB_in (zTb_in (k := 4) (List.mem_of_getElem? (i := 166) rfl)) rfl⟩
set_option maxRecDepth 100000 in
theorem f_X5_clear : zmchk q_X5_clear.1 q_X5_clear.2 = true ∧ Cond.code q_X5_clear.1.1 q_X5_clear.1.2.1 q_X5_clear.1.2.2.1 q_X5_clear.1.2.2.2 ∈ xTB := ⟨by decide +kernel, xTB_in (zTb_in (k := 4) (List.mem_of_getElem? (i := 97) rfl)) rfl⟩
set_option maxRecDepth 100000 in
theorem f_X5_forget : zmchk q_X5_forget.1 q_X5_forget.2 = true ∧ Cond.code q_X5_forget.1.1 q_X5_forget.1.2.1 q_X5_forget.1.2.2.1 q_X5_forget.1.2.2.2 ∈ xTB := ⟨by decide +kernel, xTB_in (zTb_in (k := 2) (List.mem_of_getElem? (i := 29) rfl)) rfl⟩
set_option maxRecDepth 100000 in
theorem f_X6_beginStep : zmchk q_X6_beginStep.1 q_X6_beginStep.2 = true ∧ Cond.code q_X6_beginStep.1.1 q_X6_beginStep.1.2.1 q_X6_beginStep.1.2.2.1 q_X6_beginStep.1.2.2.2 ∈ xTB := ⟨by decide +kernel, xTB_in (zTb_in (k := 4) (List.mem_of_getElem? (i := 126) rfl)) rfl⟩
set_option maxRecDepth 100000 in
theorem f_X6_mayBegin : zmchk q_X6_mayBegin.1 q_X6_mayBegin.2 = true ∧ Cond.code q_X6_mayBegin.1.1 q_X6_mayBegin.1.2.1 q_X6_mayBegin.1.2.2.1 q_X6_mayBegin.1.2.2.2 ∈ xTB := ⟨by decide +kernel, xTB_in (zTb_in (k := 4) (List.mem_of_getElem? (i := 118) rfl)) rfl⟩
set_option maxRecDepth 100000 in
theorem f_X6_readCopyAnd : zmchk q_X6_readCopyAnd.1 q_X6_readCopyAnd.2 = true ∧ Cond.code q_X6_readCopyAnd.1.1 q_X6_readCopyAnd.1.2.1 q_X6_readCopyAnd.1.2.2.1 q_X6_readCopyAnd.1.2.2.2 ∈ xTB := ⟨by decide +kernel, xTB_in (zTb_in (k := 4) (List.mem_of_getElem? (i := 146) rfl)) rfl⟩
set_option maxRecDepth 100000 in
theorem f_X6_readCopyCell : zmchk q_X6_readCopyCell.1 q_X6_readCopyCell.2 = true ∧ Cond.code q_X6_readCopyCell.1.1 q_X6_readCopyCell.1.2.1 q_X6_readCopyCell.1.2.2.1 q_X6_readCopyCell.1.2.2.2 ∈ xTB := ⟨by decide +kernel, xTB_in (zTb_in (k := 4) (List.mem_of_getElem? (i := 134) rfl)) rfl⟩
set_option maxRecDepth 100000 in
theorem f_X6_readCrumbs : zmchk q_X6_readCrumbs.1 q_X6_readCrumbs.2 = true ∧ Cond.code q_X6_readCrumbs.1.1 q_X6_readCrumbs.1.2.1 q_X6_readCrumbs.1.2.2.1 q_X6_readCrumbs.1.2.2.2 ∈ xTB := ⟨by decide +kernel, xTB_in (zTb_in (k := 4) (List.mem_of_getElem? (i := 157) rfl)) rfl⟩
set_option maxRecDepth 100000 in
theorem f_X6_readEnd : zmchk q_X6_readEnd.1 q_X6_readEnd.2 = true ∧ Cond.code q_X6_readEnd.1.1 q_X6_readEnd.1.2.1 q_X6_readEnd.1.2.2.1 q_X6_readEnd.1.2.2.2 ∈ xTB := ⟨by decide +kernel, xTB_in (zTb_in (k := 4) (List.mem_of_getElem? (i := 104) rfl)) rfl⟩
set_option maxRecDepth 100000 in
theorem f_X6_readName : zmchk q_X6_readName.1 q_X6_readName.2 = true ∧ Cond.code q_X6_readName.1.1 q_X6_readName.1.2.1 q_X6_readName.1.2.2.1 q_X6_readName.1.2.2.2 ∈ xTB := ⟨by decide +kernel, xTB_in (zTb_in (k := 4) (List.mem_of_getElem? (i := 150) rfl)) rfl⟩
set_option maxRecDepth 100000 in
theorem f_X6_readStep : zmchk q_X6_readStep.1 q_X6_readStep.2 = true ∧ Cond.code q_X6_readStep.1.1 q_X6_readStep.1.2.1 q_X6_readStep.1.2.2.1 q_X6_readStep.1.2.2.2 ∈ xTB := ⟨by decide +kernel, xTB_in (zTb_in (k := 4) (List.mem_of_getElem? (i := 130) rfl)) rfl⟩
set_option maxRecDepth 100000 in
theorem f_X6_readText : zmchk q_X6_readText.1 q_X6_readText.2 = true ∧ Cond.code q_X6_readText.1.1 q_X6_readText.1.2.1 q_X6_readText.1.2.2.1 q_X6_readText.1.2.2.2 ∈ xTB := ⟨by decide +kernel, xTB_in (zTb_in (k := 4) (List.mem_of_getElem? (i := 93) rfl)) rfl⟩
set_option maxRecDepth 100000 in
theorem f_X6_readTwo : zmchk q_X6_readTwo.1 q_X6_readTwo.2 = true ∧ Cond.code q_X6_readTwo.1.1 q_X6_readTwo.1.2.1 q_X6_readTwo.1.2.2.1 q_X6_readTwo.1.2.2.2 ∈ xTB := ⟨by decide +kernel, xTB_in (zTb_in (k := 4) (List.mem_of_getElem? (i := 141) rfl)) rfl⟩
set_option maxRecDepth 100000 in
theorem f_X7_carryOut : zmchk q_X7_carryOut.1 q_X7_carryOut.2 = true ∧ Cond.code q_X7_carryOut.1.1 q_X7_carryOut.1.2.1 q_X7_carryOut.1.2.2.1 q_X7_carryOut.1.2.2.2 ∈ xTB := ⟨by decide +kernel, xTB_in (zTb_in (k := 6) (List.mem_of_getElem? (i := 124) rfl)) rfl⟩
set_option maxRecDepth 100000 in
theorem f_X7_comeToEnd : zmchk q_X7_comeToEnd.1 q_X7_comeToEnd.2 = true ∧ Cond.code q_X7_comeToEnd.1.1 q_X7_comeToEnd.1.2.1 q_X7_comeToEnd.1.2.2.1 q_X7_comeToEnd.1.2.2.2 ∈ xTB := ⟨by decide +kernel, xTB_in (zTb_in (k := 6) (List.mem_of_getElem? (i := 128) rfl)) rfl⟩
set_option maxRecDepth 100000 in
theorem f_X7_doStep : zmchk q_X7_doStep.1 q_X7_doStep.2 = true ∧ Cond.code q_X7_doStep.1.1 q_X7_doStep.1.2.1 q_X7_doStep.1.2.2.1 q_X7_doStep.1.2.2.2 ∈ xTB := ⟨by decide +kernel, xTB_in (zTb_in (k := 6) (List.mem_of_getElem? (i := 132) rfl)) rfl⟩
set_option maxRecDepth 100000 in
theorem f_X7_drawBy : zmchk q_X7_drawBy.1 q_X7_drawBy.2 = true ∧ Cond.code q_X7_drawBy.1.1 q_X7_drawBy.1.2.1 q_X7_drawBy.1.2.2.1 q_X7_drawBy.1.2.2.2 ∈ xTB := ⟨by decide +kernel, xTB_in (zTb_in (k := 6) (List.mem_of_getElem? (i := 149) rfl)) rfl⟩
set_option maxRecDepth 100000 in
theorem f_X7_drawCell : zmchk q_X7_drawCell.1 q_X7_drawCell.2 = true ∧ Cond.code q_X7_drawCell.1.1 q_X7_drawCell.1.2.1 q_X7_drawCell.1.2.2.1 q_X7_drawCell.1.2.2.2 ∈ xTB := ⟨by decide +kernel, xTB_in (zTb_in (k := 6) (List.mem_of_getElem? (i := 145) rfl)) rfl⟩
set_option maxRecDepth 100000 in
theorem f_X7_eatCell : zmchk q_X7_eatCell.1 q_X7_eatCell.2 = true ∧ Cond.code q_X7_eatCell.1.1 q_X7_eatCell.1.2.1 q_X7_eatCell.1.2.2.1 q_X7_eatCell.1.2.2.2 ∈ xTB := ⟨by decide +kernel, xTB_in (zTb_in (k := 6) (List.mem_of_getElem? (i := 136) rfl)) rfl⟩
set_option maxRecDepth 100000 in
theorem f_X7_goMarching : zmchk q_X7_goMarching.1 q_X7_goMarching.2 = true ∧ Cond.code q_X7_goMarching.1.1 q_X7_goMarching.1.2.1 q_X7_goMarching.1.2.2.1 q_X7_goMarching.1.2.2.2 ∈ xTB := ⟨by decide +kernel, xTB_in (zTb_in (k := 6) (List.mem_of_getElem? (i := 163) rfl)) rfl⟩
set_option maxRecDepth 100000 in
theorem f_X7_isSo : zmchk q_X7_isSo.1 q_X7_isSo.2 = true ∧ Cond.code q_X7_isSo.1.1 q_X7_isSo.1.2.1 q_X7_isSo.1.2.2.1 q_X7_isSo.1.2.2.2 ∈ xTB := ⟨by decide +kernel, xTB_in (zTb_in (k := 6) (List.mem_of_getElem? (i := 173) rfl)) rfl⟩
set_option maxRecDepth 100000 in
theorem f_X7_letMouseWalk : zmchk q_X7_letMouseWalk.1 q_X7_letMouseWalk.2 = true ∧ Cond.code q_X7_letMouseWalk.1.1 q_X7_letMouseWalk.1.2.1 q_X7_letMouseWalk.1.2.2.1 q_X7_letMouseWalk.1.2.2.2 ∈ xTB := ⟨by decide +kernel, xTB_in (zTb_in (k := 6) (List.mem_of_getElem? (i := 158) rfl)) rfl⟩
set_option maxRecDepth 100000 in
theorem f_X7_missUnless : zmchk q_X7_missUnless.1 q_X7_missUnless.2 = true ∧ Cond.code q_X7_missUnless.1.1 q_X7_missUnless.1.2.1 q_X7_missUnless.1.2.2.1 q_X7_missUnless.1.2.2.2 ∈ xTB := ⟨by decide +kernel, xTB_in (zTb_in (k := 6) (List.mem_of_getElem? (i := 141) rfl)) rfl⟩
set_option maxRecDepth 100000 in
theorem f_X8_advance : zmchk q_X8_advance.1 q_X8_advance.2 = true ∧ Cond.code q_X8_advance.1.1 q_X8_advance.1.2.1 q_X8_advance.1.2.2.1 q_X8_advance.1.2.2.2 ∈ xTB := ⟨by decide +kernel, xTB_in (zTb_in (k := 3) (List.mem_of_getElem? (i := 234) rfl)) rfl⟩
set_option maxRecDepth 100000 in
theorem f_X8_append : zmchk q_X8_append.1 q_X8_append.2 = true ∧ Cond.code q_X8_append.1.1 q_X8_append.1.2.1 q_X8_append.1.2.2.1 q_X8_append.1.2.2.2 ∈ xTB := ⟨by decide +kernel, xTB_in (zTb_in (k := 3) (List.mem_of_getElem? (i := 115) rfl)) rfl⟩
set_option maxRecDepth 100000 in
theorem f_X8_beginText : zmchk q_X8_beginText.1 q_X8_beginText.2 = true ∧ Cond.code q_X8_beginText.1.1 q_X8_beginText.1.2.1 q_X8_beginText.1.2.2.1 q_X8_beginText.1.2.2.2 ∈ xTB := ⟨by decide +kernel, xTB_in (zTb_in (k := 3) (List.mem_of_getElem? (i := 128) rfl)) rfl⟩
set_option maxRecDepth 100000 in
theorem f_X8_blame : zmchk q_X8_blame.1 q_X8_blame.2 = true ∧ Cond.code q_X8_blame.1.1 q_X8_blame.1.2.1 q_X8_blame.1.2.2.1 q_X8_blame.1.2.2.2 ∈ xTB := ⟨by decide +kernel, xTB_in (zTb_in (k := 3) (List.mem_of_getElem? (i := 230) rfl)) rfl⟩
set_option maxRecDepth 100000 in
theorem f_X8_byteHere : zmchk q_X8_byteHere.1 q_X8_byteHere.2 = true ∧ Cond.code q_X8_byteHere.1.1 q_X8_byteHere.1.2.1 q_X8_byteHere.1.2.2.1 q_X8_byteHere.1.2.2.2 ∈ xTB := ⟨by decide +kernel, xTB_in (zTb_in (k := 4) (List.mem_of_getElem? (i := 21) rfl)) rfl⟩
set_option maxRecDepth 100000 in
theorem f_X8_finishText : zmchk q_X8_finishText.1 q_X8_finishText.2 = true ∧ Cond.code q_X8_finishText.1.1 q_X8_finishText.1.2.1 q_X8_finishText.1.2.2.1 q_X8_finishText.1.2.2.2 ∈ xTB := ⟨by decide +kernel, xTB_in (zTb_in (k := 4) (List.mem_of_getElem? (i := 81) rfl)) rfl⟩
set_option maxRecDepth 100000 in
theorem f_X8_hasRoom : zmchk q_X8_hasRoom.1 q_X8_hasRoom.2 = true ∧ Cond.code q_X8_hasRoom.1.1 q_X8_hasRoom.1.2.1 q_X8_hasRoom.1.2.2.1 q_X8_hasRoom.1.2.2.2 ∈ xTB := ⟨by decide +kernel, xTB_in (zTb_in (k := 3) (List.mem_of_getElem? (i := 111) rfl)) rfl⟩
set_option maxRecDepth 100000 in
theorem f_X8_isBlank : zmchk q_X8_isBlank.1 q_X8_isBlank.2 = true ∧ Cond.code q_X8_isBlank.1.1 q_X8_isBlank.1.2.1 q_X8_isBlank.1.2.2.1 q_X8_isBlank.1.2.2.2 ∈ xTB := ⟨by decide +kernel, xTB_in (zTb_in (k := 3) (List.mem_of_getElem? (i := 141) rfl)) rfl⟩
set_option maxRecDepth 100000 in
theorem f_X8_isCompare : zmchk q_X8_isCompare.1 q_X8_isCompare.2 = true ∧ Cond.code q_X8_isCompare.1.1 q_X8_isCompare.1.2.1 q_X8_isCompare.1.2.2.1 q_X8_isCompare.1.2.2.2 ∈ xTB := ⟨by decide +kernel, xTB_in (zTb_in (k := 3) (List.mem_of_getElem? (i := 214) rfl)) rfl⟩
set_option maxRecDepth 100000 in
theorem f_X8_isDigit : zmchk q_X8_isDigit.1 q_X8_isDigit.2 = true ∧ Cond.code q_X8_isDigit.1.1 q_X8_isDigit.1.2.1 q_X8_isDigit.1.2.2.1 q_X8_isDigit.1.2.2.2 ∈ xTB := ⟨by decide +kernel, xTB_in (zTb_in (k := 3) (List.mem_of_getElem? (i := 204) rfl)) rfl⟩
set_option maxRecDepth 100000 in
theorem f_X8_isEnd : zmchk q_X8_isEnd.1 q_X8_isEnd.2 = true ∧ Cond.code q_X8_isEnd.1.1 q_X8_isEnd.1.2.1 q_X8_isEnd.1.2.2.1 q_X8_isEnd.1.2.2.2 ∈ xTB := ⟨by decide +kernel, xTB_in (zTb_in (k := 4) (List.mem_of_getElem? (i := 34) rfl)) rfl⟩
set_option maxRecDepth 100000 in
theorem f_X8_isLetter : zmchk q_X8_isLetter.1 q_X8_isLetter.2 = true ∧ Cond.code q_X8_isLetter.1.1 q_X8_isLetter.1.2.1 q_X8_isLetter.1.2.2.1 q_X8_isLetter.1.2.2.2 ∈ xTB := ⟨by decide +kernel, xTB_in (zTb_in (k := 3) (List.mem_of_getElem? (i := 144) rfl)) rfl⟩
set_option maxRecDepth 100000 in
theorem f_X8_isName : zmchk q_X8_isName.1 q_X8_isName.2 = true ∧ Cond.code q_X8_isName.1.1 q_X8_isName.1.2.1 q_X8_isName.1.2.2.1 q_X8_isName.1.2.2.2 ∈ xTB := ⟨by decide +kernel, xTB_in (zTb_in (k := 4) (List.mem_of_getElem? (i := 60) rfl)) rfl⟩
set_option maxRecDepth 100000 in
theorem f_X8_isSign : zmchk q_X8_isSign.1 q_X8_isSign.2 = true ∧ Cond.code q_X8_isSign.1.1 q_X8_isSign.1.2.1 q_X8_isSign.1.2.2.1 q_X8_isSign.1.2.2.2 ∈ xTB := ⟨by decide +kernel, xTB_in (zTb_in (k := 3) (List.mem_of_getElem? (i := 211) rfl)) rfl⟩
set_option maxRecDepth 100000 in
theorem f_X8_isWord : zmchk q_X8_isWord.1 q_X8_isWord.2 = true ∧ Cond.code q_X8_isWord.1.1 q_X8_isWord.1.2.1 q_X8_isWord.1.2.2.1 q_X8_isWord.1.2.2.2 ∈ xTB := ⟨by decide +kernel, xTB_in (zTb_in (k := 3) (List.mem_of_getElem? (i := 226) rfl)) rfl⟩
set_option maxRecDepth 100000 in
theorem f_X8_isWordOf : zmchk q_X8_isWordOf.1 q_X8_isWordOf.2 = true ∧ Cond.code q_X8_isWordOf.1.1 q_X8_isWordOf.1.2.1 q_X8_isWordOf.1.2.2.1 q_X8_isWordOf.1.2.2.2 ∈ xTB := ⟨by decide +kernel, xTB_in (zTb_in (k := 4) (List.mem_of_getElem? (i := 17) rfl)) rfl⟩
set_option maxRecDepth 100000 in
theorem f_X8_nameHere : zmchk q_X8_nameHere.1 q_X8_nameHere.2 = true ∧ Cond.code q_X8_nameHere.1.1 q_X8_nameHere.1.2.1 q_X8_nameHere.1.2.2.1 q_X8_nameHere.1.2.2.2 ∈ xTB := ⟨by decide +kernel, xTB_in (zTb_in (k := 4) (List.mem_of_getElem? (i := 64) rfl)) rfl⟩
set_option maxRecDepth 100000 in
theorem f_X8_reservedIndex : zmchk q_X8_reservedIndex.1 q_X8_reservedIndex.2 = true ∧ Cond.code q_X8_reservedIndex.1.1 q_X8_reservedIndex.1.2.1 q_X8_reservedIndex.1.2.2.1 q_X8_reservedIndex.1.2.2.2 ∈ xTB := ⟨by decide +kernel, xTB_in (zTb_in (k := 3) (List.mem_of_getElem? (i := 152) rfl)) rfl⟩
set_option maxRecDepth 100000 in
theorem f_X8_scanNumber : zmchk q_X8_scanNumber.1 q_X8_scanNumber.2 = true ∧ Cond.code q_X8_scanNumber.1.1 q_X8_scanNumber.1.2.1 q_X8_scanNumber.1.2.2.1 q_X8_scanNumber.1.2.2.2 ∈ xTB := ⟨by decide +kernel, xTB_in (zTb_in (k := 3) (List.mem_of_getElem? (i := 208) rfl)) rfl⟩
set_option maxRecDepth 100000 in
theorem f_X8_scanToken : zmchk q_X8_scanToken.1 q_X8_scanToken.2 = true ∧ Cond.code q_X8_scanToken.1.1 q_X8_scanToken.1.2.1 q_X8_scanToken.1.2.2.1 q_X8_scanToken.1.2.2.2 ∈ xTB := ⟨by decide +kernel, xTB_in (zTb_in (k := 3) (List.mem_of_getElem? (i := 138) rfl)) rfl⟩
set_option maxRecDepth 100000 in
theorem f_X8_scanWord : zmchk q_X8_scanWord.1 q_X8_scanWord.2 = true ∧ Cond.code q_X8_scanWord.1.1 q_X8_scanWord.1.2.1 q_X8_scanWord.1.2.2.1 q_X8_scanWord.1.2.2.2 ∈ xTB := ⟨by decide +kernel, xTB_in (zTb_in (k := 3) (List.mem_of_getElem? (i := 148) rfl)) rfl⟩
set_option maxRecDepth 100000 in
theorem f_X8_takeCell : zmchk q_X8_takeCell.1 q_X8_takeCell.2 = true ∧ Cond.code q_X8_takeCell.1.1 q_X8_takeCell.1.2.1 q_X8_takeCell.1.2.2.1 q_X8_takeCell.1.2.2.2 ∈ xTB := ⟨by decide +kernel, xTB_in (zTb_in (k := 4) (List.mem_of_getElem? (i := 46) rfl)) rfl⟩
set_option maxRecDepth 100000 in
theorem f_X8_takeCompare : zmchk q_X8_takeCompare.1 q_X8_takeCompare.2 = true ∧ Cond.code q_X8_takeCompare.1.1 q_X8_takeCompare.1.2.1 q_X8_takeCompare.1.2.2.1 q_X8_takeCompare.1.2.2.2 ∈ xTB := ⟨by decide +kernel, xTB_in (zTb_in (k := 4) (List.mem_of_getElem? (i := 161) rfl)) rfl⟩
set_option maxRecDepth 100000 in
theorem f_X8_takeNumber : zmchk q_X8_takeNumber.1 q_X8_takeNumber.2 = true ∧ Cond.code q_X8_takeNumber.1.1 q_X8_takeNumber.1.2.1 q_X8_takeNumber.1.2.2.1 q_X8_takeNumber.1.2.2.2 ∈ xTB := ⟨by decide +kernel, xTB_in (zTb_in (k := 3) (List.mem_of_getElem? (i := 238) rfl)) rfl⟩
set_option maxRecDepth 100000 in
theorem f_X8_takeStop : zmchk q_X8_takeStop.1 q_X8_takeStop.2 = true ∧ Cond.code q_X8_takeStop.1.1 q_X8_takeStop.1.2.1 q_X8_takeStop.1.2.2.1 q_X8_takeStop.1.2.2.2 ∈ xTB := ⟨by decide +kernel, xTB_in (zTb_in (k := 4) (List.mem_of_getElem? (i := 2) rfl)) rfl⟩
set_option maxRecDepth 100000 in
theorem f_X8_takeWord : zmchk q_X8_takeWord.1 q_X8_takeWord.2 = true ∧ Cond.code q_X8_takeWord.1.1 q_X8_takeWord.1.2.1 q_X8_takeWord.1.2.2.1 q_X8_takeWord.1.2.2.2 ∈ xTB := ⟨by decide +kernel, xTB_in (zTb_in (k := 3) (List.mem_of_getElem? (i := 222) rfl)) rfl⟩
set_option maxRecDepth 100000 in
theorem f_X8_wordHere : zmchk q_X8_wordHere.1 q_X8_wordHere.2 = true ∧ Cond.code q_X8_wordHere.1.1 q_X8_wordHere.1.2.1 q_X8_wordHere.1.2.2.1 q_X8_wordHere.1.2.2.2 ∈ xTB := ⟨by decide +kernel, xTB_in (zTb_in (k := 4) (List.mem_of_getElem? (i := 122) rfl)) rfl⟩
set_option maxRecDepth 100000 in
theorem f_X9_becomeZeros : zmchk q_X9_becomeZeros.1 q_X9_becomeZeros.2 = true ∧ Cond.code q_X9_becomeZeros.1.1 q_X9_becomeZeros.1.2.1 q_X9_becomeZeros.1.2.2.1 q_X9_becomeZeros.1.2.2.2 ∈ xTB := ⟨by decide +kernel, xTB_in (zTb_in (k := 3) (List.mem_of_getElem? (i := 61) rfl)) rfl⟩
set_option maxRecDepth 100000 in
theorem f_X9_cutToSort : zmchk q_X9_cutToSort.1 q_X9_cutToSort.2 = true ∧ Cond.code q_X9_cutToSort.1.1 q_X9_cutToSort.1.2.1 q_X9_cutToSort.1.2.2.1 q_X9_cutToSort.1.2.2.2 ∈ xTB := ⟨by decide +kernel, xTB_in (zTb_in (k := 3) (List.mem_of_getElem? (i := 88) rfl)) rfl⟩
set_option maxRecDepth 100000 in
theorem f_X9_hasPlaces : zmchk q_X9_hasPlaces.1 q_X9_hasPlaces.2 = true ∧ Cond.code q_X9_hasPlaces.1.1 q_X9_hasPlaces.1.2.1 q_X9_hasPlaces.1.2.2.1 q_X9_hasPlaces.1.2.2.2 ∈ xTB := ⟨by decide +kernel, xTB_in (zTb_in (k := 3) (List.mem_of_getElem? (i := 84) rfl)) rfl⟩
set_option maxRecDepth 100000 in
theorem f_X9_isMissing : zmchk q_X9_isMissing.1 q_X9_isMissing.2 = true ∧ Cond.code q_X9_isMissing.1.1 q_X9_isMissing.1.2.1 q_X9_isMissing.1.2.2.1 q_X9_isMissing.1.2.2.2 ∈ xTB := ⟨by decide +kernel, xTB_in (zTb_in (k := 3) (List.mem_of_getElem? (i := 80) rfl)) rfl⟩
set_option maxRecDepth 100000 in
theorem f_X9_isSort : zmchk q_X9_isSort.1 q_X9_isSort.2 = true ∧ Cond.code q_X9_isSort.1.1 q_X9_isSort.1.2.1 q_X9_isSort.1.2.2.1 q_X9_isSort.1.2.2.2 ∈ xTB := ⟨by decide +kernel, xTB_in (zTb_in (k := 3) (List.mem_of_getElem? (i := 53) rfl)) rfl⟩
set_option maxRecDepth 100000 in
theorem f_X10_findWay : zmchk q_X10_findWay.1 q_X10_findWay.2 = true ∧ Cond.code q_X10_findWay.1.1 q_X10_findWay.1.2.1 q_X10_findWay.1.2.2.1 q_X10_findWay.1.2.2.2 ∈ xTB := ⟨by decide +kernel, xTB_in (zTb_in (k := 5) (List.mem_of_getElem? (i := 97) rfl)) rfl⟩
set_option maxRecDepth 100000 in
theorem f_X10_lead : zmchk q_X10_lead.1 q_X10_lead.2 = true ∧ Cond.code q_X10_lead.1.1 q_X10_lead.1.2.1 q_X10_lead.1.2.2.1 q_X10_lead.1.2.2.2 ∈ xTB := ⟨by decide +kernel, xTB_in (zTb_in (k := 5) (List.mem_of_getElem? (i := 142) rfl)) rfl⟩
set_option maxRecDepth 100000 in
theorem f_X10_lookAt : zmchk q_X10_lookAt.1 q_X10_lookAt.2 = true ∧ Cond.code q_X10_lookAt.1.1 q_X10_lookAt.1.2.1 q_X10_lookAt.1.2.2.1 q_X10_lookAt.1.2.2.2 ∈ xTB := ⟨by decide +kernel, xTB_in (zTb_in (k := 5) (List.mem_of_getElem? (i := 101) rfl)) rfl⟩
set_option maxRecDepth 100000 in
theorem f_X10_lookAtGround : zmchk q_X10_lookAtGround.1 q_X10_lookAtGround.2 = true ∧ Cond.code q_X10_lookAtGround.1.1 q_X10_lookAtGround.1.2.1 q_X10_lookAtGround.1.2.2.1 q_X10_lookAtGround.1.2.2.2 ∈ xTB := ⟨by decide +kernel, xTB_in (zTb_in (k := 5) (List.mem_of_getElem? (i := 164) rfl)) rfl⟩
set_option maxRecDepth 100000 in
theorem f_X10_measure : zmchk q_X10_measure.1 q_X10_measure.2 = true ∧ Cond.code q_X10_measure.1.1 q_X10_measure.1.2.1 q_X10_measure.1.2.2.1 q_X10_measure.1.2.2.2 ∈ xTB := ⟨by decide +kernel, xTB_in (zTb_in (k := 5) (List.mem_of_getElem? (i := 115) rfl)) rfl⟩
set_option maxRecDepth 100000 in
theorem f_X10_reachCell : zmchk q_X10_reachCell.1 q_X10_reachCell.2 = true ∧ Cond.code q_X10_reachCell.1.1 q_X10_reachCell.1.2.1 q_X10_reachCell.1.2.2.1 q_X10_reachCell.1.2.2.2 ∈ xTB := ⟨by decide +kernel, xTB_in (zTb_in (k := 5) (List.mem_of_getElem? (i := 121) rfl)) rfl⟩
set_option maxRecDepth 100000 in
theorem f_X10_retrace : zmchk q_X10_retrace.1 q_X10_retrace.2 = true ∧ Cond.code q_X10_retrace.1.1 q_X10_retrace.1.2.1 q_X10_retrace.1.2.2.1 q_X10_retrace.1.2.2.2 ∈ xTB := ⟨by decide +kernel, xTB_in (zTb_in (k := 5) (List.mem_of_getElem? (i := 111) rfl)) rfl⟩
set_option maxRecDepth 100000 in
theorem f_X10_trace : zmchk q_X10_trace.1 q_X10_trace.2 = true ∧ Cond.code q_X10_trace.1.1 q_X10_trace.1.2.1 q_X10_trace.1.2.2.1 q_X10_trace.1.2.2.2 ∈ xTB := ⟨by decide +kernel, xTB_in (zTb_in (k := 5) (List.mem_of_getElem? (i := 130) rfl)) rfl⟩
set_option maxRecDepth 100000 in
theorem f_X10_trueCost : zmchk q_X10_trueCost.1 q_X10_trueCost.2 = true ∧ Cond.code q_X10_trueCost.1.1 q_X10_trueCost.1.2.1 q_X10_trueCost.1.2.2.1 q_X10_trueCost.1.2.2.2 ∈ xTB := ⟨by decide +kernel, xTB_in (zTb_in (k := 5) (List.mem_of_getElem? (i := 156) rfl)) rfl⟩
set_option maxRecDepth 100000 in
theorem f_X11_accept : zmchk q_X11_accept.1 q_X11_accept.2 = true ∧ Cond.code q_X11_accept.1.1 q_X11_accept.1.2.1 q_X11_accept.1.2.2.1 q_X11_accept.1.2.2.2 ∈ xTB := ⟨by decide +kernel, xTB_in (zTb_in (k := 3) (List.mem_of_getElem? (i := 68) rfl)) rfl⟩
set_option maxRecDepth 100000 in
theorem f_X11_answer : zmchk q_X11_answer.1 q_X11_answer.2 = true ∧ Cond.code q_X11_answer.1.1 q_X11_answer.1.2.1 q_X11_answer.1.2.2.1 q_X11_answer.1.2.2.2 ∈ xTB := ⟨by decide +kernel, xTB_in (zTb_in (k := 4) (List.mem_of_getElem? (i := 85) rfl)) rfl⟩
set_option maxRecDepth 100000 in
theorem f_X11_arrivals : zmchk q_X11_arrivals.1 q_X11_arrivals.2 = true ∧ Cond.code q_X11_arrivals.1.1 q_X11_arrivals.1.2.1 q_X11_arrivals.1.2.2.1 q_X11_arrivals.1.2.2.2 ∈ xTB := ⟨by decide +kernel, xTB_in (zTb_in (k := 6) (List.mem_of_getElem? (i := 186) rfl)) rfl⟩
set_option maxRecDepth 100000 in
theorem f_X11_back : zmchk q_X11_back.1 q_X11_back.2 = true ∧ Cond.code q_X11_back.1.1 q_X11_back.1.2.1 q_X11_back.1.2.2.1 q_X11_back.1.2.2.2 ∈ xTB := ⟨by decide +kernel, xTB_in (zTb_in (k := 6) (List.mem_of_getElem? (i := 200) rfl)) rfl⟩
set_option maxRecDepth 100000 in
theorem f_X11_best : zmchk q_X11_best.1 q_X11_best.2 = true ∧ Cond.code q_X11_best.1.1 q_X11_best.1.2.1 q_X11_best.1.2.2.1 q_X11_best.1.2.2.2 ∈ xTB := ⟨by decide +kernel, xTB_in (zTb_in (k := 5) (List.mem_of_getElem? (i := 160) rfl)) rfl⟩
set_option maxRecDepth 100000 in
theorem f_X11_bite : zmchk q_X11_bite.1 q_X11_bite.2 = true ∧ Cond.code q_X11_bite.1.1 q_X11_bite.1.2.1 q_X11_bite.1.2.2.1 q_X11_bite.1.2.2.2 ∈ xTB := ⟨by decide +kernel, xTB_in (zTb_in (k := 5) (List.mem_of_getElem? (i := 13) rfl)) rfl⟩
set_option maxRecDepth 100000 in
theorem f_X11_bottom : zmchk q_X11_bottom.1 q_X11_bottom.2 = true ∧ Cond.code q_X11_bottom.1.1 q_X11_bottom.1.2.1 q_X11_bottom.1.2.2.1 q_X11_bottom.1.2.2.2 ∈ xTB := ⟨by decide +kernel, xTB_in (zTb_in (k := 3) (List.mem_of_getElem? (i := 43) rfl)) rfl⟩
set_option maxRecDepth 100000 in
theorem f_X11_cell : zmchk q_X11_cell.1 q_X11_cell.2 = true ∧ Cond.code q_X11_cell.1.1 q_X11_cell.1.2.1 q_X11_cell.1.2.2.1 q_X11_cell.1.2.2.2 ∈ xTB := ⟨by decide +kernel, xTB_in (zTb_in (k := 4) (List.mem_of_getElem? (i := 222) rfl)) rfl⟩
set_option maxRecDepth 100000 in
theorem f_X11_clean : zmchk q_X11_clean.1 q_X11_clean.2 = true ∧ Cond.code q_X11_clean.1.1 q_X11_clean.1.2.1 q_X11_clean.1.2.2.1 q_X11_clean.1.2.2.2 ∈ xTB := ⟨by decide +kernel, xTB_in (zTb_in (k := 5) (List.mem_of_getElem? (i := 37) rfl)) rfl⟩
set_option maxRecDepth 100000 in
theorem f_X11_commonDivisor : zmchk q_X11_commonDivisor.1 q_X11_commonDivisor.2 = true ∧ Cond.code q_X11_commonDivisor.1.1 q_X11_commonDivisor.1.2.1 q_X11_commonDivisor.1.2.2.1 q_X11_commonDivisor.1.2.2.2 ∈ xTB := ⟨by decide +kernel, xTB_in (zTb_in (k := 6) (List.mem_of_getElem? (i := 102) rfl)) rfl⟩
set_option maxRecDepth 100000 in
theorem f_X11_company : zmchk q_X11_company.1 q_X11_company.2 = true ∧ Cond.code q_X11_company.1.1 q_X11_company.1.2.1 q_X11_company.1.2.2.1 q_X11_company.1.2.2.2 ∈ xTB := ⟨by decide +kernel, xTB_in (zTb_in (k := 5) (List.mem_of_getElem? (i := 3) rfl)) rfl⟩
set_option maxRecDepth 100000 in
theorem f_X11_count : zmchk q_X11_count.1 q_X11_count.2 = true ∧ Cond.code q_X11_count.1.1 q_X11_count.1.2.1 q_X11_count.1.2.2.1 q_X11_count.1.2.2.2 ∈ xTB := ⟨by decide +kernel, xTB_in (zTb_in (k := 5) (List.mem_of_getElem? (i := 63) rfl)) rfl⟩
set_option maxRecDepth 100000 in
theorem f_X11_cut : zmchk q_X11_cut.1 q_X11_cut.2 = true ∧ Cond.code q_X11_cut.1.1 q_X11_cut.1.2.1 q_X11_cut.1.2.2.1 q_X11_cut.1.2.2.2 ∈ xTB := ⟨by decide +kernel, xTB_in (zTb_in (k := 5) (List.mem_of_getElem? (i := 222) rfl)) rfl⟩
set_option maxRecDepth 100000 in
theorem f_X11_fault : zmchk q_X11_fault.1 q_X11_fault.2 = true ∧ Cond.code q_X11_fault.1.1 q_X11_fault.1.2.1 q_X11_fault.1.2.2.1 q_X11_fault.1.2.2.2 ∈ xTB := ⟨by decide +kernel, xTB_in (zTb_in (k := 4) (List.mem_of_getElem? (i := 171) rfl)) rfl⟩
set_option maxRecDepth 100000 in
theorem f_X11_feed : zmchk q_X11_feed.1 q_X11_feed.2 = true ∧ Cond.code q_X11_feed.1.1 q_X11_feed.1.2.1 q_X11_feed.1.2.2.1 q_X11_feed.1.2.2.2 ∈ xTB := ⟨by decide +kernel, xTB_in (zTb_in (k := 3) (List.mem_of_getElem? (i := 107) rfl)) rfl⟩
set_option maxRecDepth 100000 in
theorem f_X11_ground : zmchk q_X11_ground.1 q_X11_ground.2 = true ∧ Cond.code q_X11_ground.1.1 q_X11_ground.1.2.1 q_X11_ground.1.2.2.1 q_X11_ground.1.2.2.2 ∈ xTB := ⟨by decide +kernel, xTB_in (zTb_in (k := 4) (List.mem_of_getElem? (i := 207) rfl)) rfl⟩
set_option maxRecDepth 100000 in
theorem f_X11_halves : zmchk q_X11_halves.1 q_X11_halves.2 = true ∧ Cond.code q_X11_halves.1.1 q_X11_halves.1.2.1 q_X11_halves.1.2.2.1 q_X11_halves.1.2.2.2 ∈ xTB := ⟨by decide +kernel, xTB_in (zTb_in (k := 6) (List.mem_of_getElem? (i := 63) rfl)) rfl⟩
set_option maxRecDepth 100000 in
theorem f_X11_hand : zmchk q_X11_hand.1 q_X11_hand.2 = true ∧ Cond.code q_X11_hand.1.1 q_X11_hand.1.2.1 q_X11_hand.1.2.2.1 q_X11_hand.1.2.2.2 ∈ xTB := ⟨by decide +kernel, xTB_in (zTb_in (k := 5) (List.mem_of_getElem? (i := 169) rfl)) rfl⟩
set_option maxRecDepth 100000 in
theorem f_X11_hole : zmchk q_X11_hole.1 q_X11_hole.2 = true ∧ Cond.code q_X11_hole.1.1 q_X11_hole.1.2.1 q_X11_hole.1.2.2.1 q_X11_hole.1.2.2.2 ∈ xTB := ⟨by decide +kernel, xTB_in (zTb_in (k := 5) (List.mem_of_getElem? (i := 77) rfl)) rfl⟩
set_option maxRecDepth 100000 in
theorem f_X11_honey : zmchk q_X11_honey.1 q_X11_honey.2 = true ∧ Cond.code q_X11_honey.1.1 q_X11_honey.1.2.1 q_X11_honey.1.2.2.1 q_X11_honey.1.2.2.2 ∈ xTB := ⟨by decide +kernel, xTB_in (zTb_in (k := 5) (List.mem_of_getElem? (i := 29) rfl)) rfl⟩
set_option maxRecDepth 100000 in
theorem f_X11_isTray : zmchk q_X11_isTray.1 q_X11_isTray.2 = true ∧ Cond.code q_X11_isTray.1.1 q_X11_isTray.1.2.1 q_X11_isTray.1.2.2.1 q_X11_isTray.1.2.2.2 ∈ xTB := ⟨by decide +kernel, xTB_in (zTb_in (k := 3) (List.mem_of_getElem? (i := 50) rfl)) rfl⟩
set_option maxRecDepth 100000 in
theorem f_X11_land : zmchk q_X11_land.1 q_X11_land.2 = true ∧ Cond.code q_X11_land.1.1 q_X11_land.1.2.1 q_X11_land.1.2.2.1 q_X11_land.1.2.2.2 ∈ xTB := ⟨by decide +kernel, xTB_in (zTb_in (k := 3) (List.mem_of_getElem? (i := 119) rfl)) rfl⟩
set_option maxRecDepth 100000 in
theorem f_X11_many : zmchk q_X11_many.1 q_X11_many.2 = true ∧ Cond.code q_X11_many.1.1 q_X11_many.1.2.1 q_X11_many.1.2.2.1 q_X11_many.1.2.2.2 ∈ xTB := ⟨by decide +kernel, xTB_in (zTb_in (k := 4) (List.mem_of_getElem? (i := 175) rfl)) rfl⟩
set_option maxRecDepth 100000 in
theorem f_X11_march : zmchk q_X11_march.1 q_X11_march.2 = true ∧ Cond.code q_X11_march.1.1 q_X11_march.1.2.1 q_X11_march.1.2.2.1 q_X11_march.1.2.2.2 ∈ xTB := ⟨by decide +kernel, xTB_in (zTb_in (k := 5) (List.mem_of_getElem? (i := 138) rfl)) rfl⟩
set_option maxRecDepth 100000 in
theorem f_X11_mark : zmchk q_X11_mark.1 q_X11_mark.2 = true ∧ Cond.code q_X11_mark.1.1 q_X11_mark.1.2.1 q_X11_mark.1.2.2.1 q_X11_mark.1.2.2.2 ∈ xTB := ⟨by decide +kernel, xTB_in (zTb_in (k := 6) (List.mem_of_getElem? (i := 196) rfl)) rfl⟩
set_option maxRecDepth 100000 in
theorem f_X11_mean : zmchk q_X11_mean.1 q_X11_mean.2 = true ∧ Cond.code q_X11_mean.1.1 q_X11_mean.1.2.1 q_X11_mean.1.2.2.1 q_X11_mean.1.2.2.2 ∈ xTB := ⟨by decide +kernel, xTB_in (zTb_in (k := 6) (List.mem_of_getElem? (i := 106) rfl)) rfl⟩
set_option maxRecDepth 100000 in
theorem f_X11_mostWorth : zmchk q_X11_mostWorth.1 q_X11_mostWorth.2 = true ∧ Cond.code q_X11_mostWorth.1.1 q_X11_mostWorth.1.2.1 q_X11_mostWorth.1.2.2.1 q_X11_mostWorth.1.2.2.2 ∈ xTB := ⟨by decide +kernel, xTB_in (zTb_in (k := 6) (List.mem_of_getElem? (i := 42) rfl)) rfl⟩
set_option maxRecDepth 100000 in
theorem f_X11_mould : zmchk q_X11_mould.1 q_X11_mould.2 = true ∧ Cond.code q_X11_mould.1.1 q_X11_mould.1.2.1 q_X11_mould.1.2.2.1 q_X11_mould.1.2.2.2 ∈ xTB := ⟨by decide +kernel, xTB_in (zTb_in (k := 5) (List.mem_of_getElem? (i := 21) rfl)) rfl⟩
set_option maxRecDepth 100000 in
theorem f_X11_odds : zmchk q_X11_odds.1 q_X11_odds.2 = true ∧ Cond.code q_X11_odds.1.1 q_X11_odds.1.2.1 q_X11_odds.1.2.2.1 q_X11_odds.1.2.2.2 ∈ xTB := ⟨by decide +kernel, xTB_in (zTb_in (k := 6) (List.mem_of_getElem? (i := 81) rfl)) rfl⟩
set_option maxRecDepth 100000 in
theorem f_X11_orders : zmchk q_X11_orders.1 q_X11_orders.2 = true ∧ Cond.code q_X11_orders.1.1 q_X11_orders.1.2.1 q_X11_orders.1.2.2.1 q_X11_orders.1.2.2.2 ∈ xTB := ⟨by decide +kernel, xTB_in (zTb_in (k := 4) (List.mem_of_getElem? (i := 89) rfl)) rfl⟩
set_option maxRecDepth 100000 in
theorem f_X11_placeStatus : zmchk q_X11_placeStatus.1 q_X11_placeStatus.2 = true ∧ Cond.code q_X11_placeStatus.1.1 q_X11_placeStatus.1.2.1 q_X11_placeStatus.1.2.2.1 q_X11_placeStatus.1.2.2.2 ∈ xTB := ⟨by decide +kernel, xTB_in (zTb_in (k := 3) (List.mem_of_getElem? (i := 76) rfl)) rfl⟩
set_option maxRecDepth 100000 in
theorem f_X11_pour : zmchk q_X11_pour.1 q_X11_pour.2 = true ∧ Cond.code q_X11_pour.1.1 q_X11_pour.1.2.1 q_X11_pour.1.2.2.1 q_X11_pour.1.2.2.2 ∈ xTB := ⟨by decide +kernel, xTB_in (zTb_in (k := 3) (List.mem_of_getElem? (i := 100) rfl)) rfl⟩
set_option maxRecDepth 100000 in
theorem f_X11_ran : zmchk q_X11_ran.1 q_X11_ran.2 = true ∧ Cond.code q_X11_ran.1.1 q_X11_ran.1.2.1 q_X11_ran.1.2.2.1 q_X11_ran.1.2.2.2 ∈ xTB := ⟨by decide +kernel, xTB_in (zTb_in (k := 6) (List.mem_of_getElem? (i := 182) rfl)) rfl⟩
set_option maxRecDepth 100000 in
theorem f_X11_reach : zmchk q_X11_reach.1 q_X11_reach.2 = true ∧ Cond.code q_X11_reach.1.1 q_X11_reach.1.2.1 q_X11_reach.1.2.2.1 q_X11_reach.1.2.2.2 ∈ xTB := ⟨by decide +kernel, xTB_in (zTb_in (k := 5) (List.mem_of_getElem? (i := 173) rfl)) rfl⟩
set_option maxRecDepth 100000 in
theorem f_X11_read : zmchk q_X11_read.1 q_X11_read.2 = true ∧ Cond.code q_X11_read.1.1 q_X11_read.1.2.1 q_X11_read.1.2.2.1 q_X11_read.1.2.2.2 ∈ xTB := ⟨by decide +kernel, xTB_in (zTb_in (k := 3) (List.mem_of_getElem? (i := 92) rfl)) rfl⟩
set_option maxRecDepth 100000 in
theorem f_X11_refuse : zmchk q_X11_refuse.1 q_X11_refuse.2 = true ∧ Cond.code q_X11_refuse.1.1 q_X11_refuse.1.2.1 q_X11_refuse.1.2.2.1 q_X11_refuse.1.2.2.2 ∈ xTB := ⟨by decide +kernel, xTB_in (zTb_in (k := 3) (List.mem_of_getElem? (i := 57) rfl)) rfl⟩
set_option maxRecDepth 100000 in
theorem f_X11_refused : zmchk q_X11_refused.1 q_X11_refused.2 = true ∧ Cond.code q_X11_refused.1.1 q_X11_refused.1.2.1 q_X11_refused.1.2.2.1 q_X11_refused.1.2.2.2 ∈ xTB := ⟨by decide +kernel, xTB_in (zTb_in (k := 3) (List.mem_of_getElem? (i := 96) rfl)) rfl⟩
set_option maxRecDepth 100000 in
theorem f_X11_run : zmchk q_X11_run.1 q_X11_run.2 = true ∧ Cond.code q_X11_run.1.1 q_X11_run.1.2.1 q_X11_run.1.2.2.1 q_X11_run.1.2.2.2 ∈ xTB := ⟨by decide +kernel, xTB_in (zTb_in (k := 6) (List.mem_of_getElem? (i := 116) rfl)) rfl⟩
set_option maxRecDepth 100000 in
theorem f_X11_seen : zmchk q_X11_seen.1 q_X11_seen.2 = true ∧ Cond.code q_X11_seen.1.1 q_X11_seen.1.2.1 q_X11_seen.1.2.2.1 q_X11_seen.1.2.2.2 ∈ xTB := ⟨by decide +kernel, xTB_in (zTb_in (k := 5) (List.mem_of_getElem? (i := 177) rfl)) rfl⟩
set_option maxRecDepth 100000 in
theorem f_X11_shows : zmchk q_X11_shows.1 q_X11_shows.2 = true ∧ Cond.code q_X11_shows.1.1 q_X11_shows.1.2.1 q_X11_shows.1.2.2.1 q_X11_shows.1.2.2.2 ∈ xTB := ⟨by decide +kernel, xTB_in (zTb_in (k := 4) (List.mem_of_getElem? (i := 235) rfl)) rfl⟩
set_option maxRecDepth 100000 in
theorem f_X11_status : zmchk q_X11_status.1 q_X11_status.2 = true ∧ Cond.code q_X11_status.1.1 q_X11_status.1.2.1 q_X11_status.1.2.2.1 q_X11_status.1.2.2.2 ∈ xTB := ⟨by decide +kernel, xTB_in (zTb_in (k := 3) (List.mem_of_getElem? (i := 35) rfl)) rfl⟩
set_option maxRecDepth 100000 in
theorem f_X11_steam : zmchk q_X11_steam.1 q_X11_steam.2 = true ∧ Cond.code q_X11_steam.1.1 q_X11_steam.1.2.1 q_X11_steam.1.2.2.1 q_X11_steam.1.2.2.2 ∈ xTB := ⟨by decide +kernel, xTB_in (zTb_in (k := 5) (List.mem_of_getElem? (i := 45) rfl)) rfl⟩
set_option maxRecDepth 100000 in
theorem f_X11_stuck : zmchk q_X11_stuck.1 q_X11_stuck.2 = true ∧ Cond.code q_X11_stuck.1.1 q_X11_stuck.1.2.1 q_X11_stuck.1.2.2.1 q_X11_stuck.1.2.2.2 ∈ xTB := ⟨by decide +kernel, xTB_in (zTb_in (k := 5) (List.mem_of_getElem? (i := 148) rfl)) rfl⟩
set_option maxRecDepth 100000 in
theorem f_X11_supper : zmchk q_X11_supper.1 q_X11_supper.2 = true ∧ Cond.code q_X11_supper.1.1 q_X11_supper.1.2.1 q_X11_supper.1.2.2.1 q_X11_supper.1.2.2.2 ∈ xTB := ⟨by decide +kernel, xTB_in (zTb_in (k := 5) (List.mem_of_getElem? (i := 181) rfl)) rfl⟩
set_option maxRecDepth 100000 in
theorem f_X11_tellFraction : zmchk q_X11_tellFraction.1 q_X11_tellFraction.2 = true ∧ Cond.code q_X11_tellFraction.1.1 q_X11_tellFraction.1.2.1 q_X11_tellFraction.1.2.2.1 q_X11_tellFraction.1.2.2.2 ∈ xTB := ⟨by decide +kernel, xTB_in (zTb_in (k := 6) (List.mem_of_getElem? (i := 99) rfl)) rfl⟩
set_option maxRecDepth 100000 in
theorem f_X11_told : zmchk q_X11_told.1 q_X11_told.2 = true ∧ Cond.code q_X11_told.1.1 q_X11_told.1.2.1 q_X11_told.1.2.2.1 q_X11_told.1.2.2.2 ∈ xTB := ⟨by decide +kernel, xTB_in (zTb_in (k := 6) (List.mem_of_getElem? (i := 51) rfl)) rfl⟩
set_option maxRecDepth 100000 in
theorem f_X11_top : zmchk q_X11_top.1 q_X11_top.2 = true ∧ Cond.code q_X11_top.1.1 q_X11_top.1.2.1 q_X11_top.1.2.2.1 q_X11_top.1.2.2.2 ∈ xTB := ⟨by decide +kernel, xTB_in (zTb_in (k := 3) (List.mem_of_getElem? (i := 39) rfl)) rfl⟩
set_option maxRecDepth 100000 in
theorem f_X11_tray : zmchk q_X11_tray.1 q_X11_tray.2 = true ∧ Cond.code q_X11_tray.1.1 q_X11_tray.1.2.1 q_X11_tray.1.2.2.1 q_X11_tray.1.2.2.2 ∈ xTB := ⟨by decide +kernel, xTB_in (zTb_in (k := 3) (List.mem_of_getElem? (i := 47) rfl)) rfl⟩
set_option maxRecDepth 100000 in
theorem f_X11_truly : zmchk q_X11_truly.1 q_X11_truly.2 = true ∧ Cond.code q_X11_truly.1.1 q_X11_truly.1.2.1 q_X11_truly.1.2.2.1 q_X11_truly.1.2.2.2 ∈ xTB := ⟨by decide +kernel, xTB_in (zTb_in (k := 5) (List.mem_of_getElem? (i := 152) rfl)) rfl⟩
set_option maxRecDepth 100000 in
theorem f_X11_unlike : zmchk q_X11_unlike.1 q_X11_unlike.2 = true ∧ Cond.code q_X11_unlike.1.1 q_X11_unlike.1.2.1 q_X11_unlike.1.2.2.1 q_X11_unlike.1.2.2.2 ∈ xTB := ⟨by decide +kernel, xTB_in (zTb_in (k := 5) (List.mem_of_getElem? (i := 59) rfl)) rfl⟩
set_option maxRecDepth 100000 in
theorem f_X11_way : zmchk q_X11_way.1 q_X11_way.2 = true ∧ Cond.code q_X11_way.1.1 q_X11_way.1.2.1 q_X11_way.1.2.2.1 q_X11_way.1.2.2.2 ∈ xTB := ⟨by decide +kernel, xTB_in (zTb_in (k := 5) (List.mem_of_getElem? (i := 93) rfl)) rfl⟩
set_option maxRecDepth 100000 in
theorem f_X11_wayAt : zmchk q_X11_wayAt.1 q_X11_wayAt.2 = true ∧ Cond.code q_X11_wayAt.1.1 q_X11_wayAt.1.2.1 q_X11_wayAt.1.2.2.1 q_X11_wayAt.1.2.2.2 ∈ xTB := ⟨by decide +kernel, xTB_in (zTb_in (k := 5) (List.mem_of_getElem? (i := 134) rfl)) rfl⟩
set_option maxRecDepth 100000 in
theorem f_X11_waysToLay : zmchk q_X11_waysToLay.1 q_X11_waysToLay.2 = true ∧ Cond.code q_X11_waysToLay.1.1 q_X11_waysToLay.1.2.1 q_X11_waysToLay.1.2.2.1 q_X11_waysToLay.1.2.2.2 ∈ xTB := ⟨by decide +kernel, xTB_in (zTb_in (k := 6) (List.mem_of_getElem? (i := 55) rfl)) rfl⟩
set_option maxRecDepth 100000 in
theorem f_X11_worth : zmchk q_X11_worth.1 q_X11_worth.2 = true ∧ Cond.code q_X11_worth.1.1 q_X11_worth.1.2.1 q_X11_worth.1.2.2.1 q_X11_worth.1.2.2.2 ∈ xTB := ⟨by decide +kernel, xTB_in (zTb_in (k := 6) (List.mem_of_getElem? (i := 34) rfl)) rfl⟩
set_option maxRecDepth 100000 in
theorem f_X11_write : zmchk q_X11_write.1 q_X11_write.2 = true ∧ Cond.code q_X11_write.1.1 q_X11_write.1.2.1 q_X11_write.1.2.2.1 q_X11_write.1.2.2.2 ∈ xTB := ⟨by decide +kernel, xTB_in (zTb_in (k := 3) (List.mem_of_getElem? (i := 72) rfl)) rfl⟩
set_option maxRecDepth 100000 in
theorem f_X12_arrivals : zmchk q_X12_arrivals.1 q_X12_arrivals.2 = true ∧ Cond.code q_X12_arrivals.1.1 q_X12_arrivals.1.2.1 q_X12_arrivals.1.2.2.1 q_X12_arrivals.1.2.2.2 ∈ xTB := ⟨by decide +kernel, xTB_in (zTb_in (k := 9) (List.mem_of_getElem? (i := 213) rfl)) rfl⟩
set_option maxRecDepth 100000 in
theorem f_X12_at2 : zmchk q_X12_at2.1 q_X12_at2.2 = true ∧ Cond.code q_X12_at2.1.1 q_X12_at2.1.2.1 q_X12_at2.1.2.2.1 q_X12_at2.1.2.2.2 ∈ xTB := ⟨by decide +kernel, xTB_in (zTb_in (k := 8) (List.mem_of_getElem? (i := 141) rfl)) rfl⟩
set_option maxRecDepth 100000 in
theorem f_X12_avoids : zmchk q_X12_avoids.1 q_X12_avoids.2 = true ∧ Cond.code q_X12_avoids.1.1 q_X12_avoids.1.2.1 q_X12_avoids.1.2.2.1 q_X12_avoids.1.2.2.2 ∈ xTB := ⟨by decide +kernel, xTB_in (zTb_in (k := 9) (List.mem_of_getElem? (i := 147) rfl)) rfl⟩
set_option maxRecDepth 100000 in
theorem f_X12_back : zmchk q_X12_back.1 q_X12_back.2 = true ∧ Cond.code q_X12_back.1.1 q_X12_back.1.2.1 q_X12_back.1.2.2.1 q_X12_back.1.2.2.2 ∈ xTB := ⟨by decide +kernel, xTB_in (zTb_in (k := 9) (List.mem_of_getElem? (i := 222) rfl)) rfl⟩
set_option maxRecDepth 100000 in
theorem f_X12_beside : zmchk q_X12_beside.1 q_X12_beside.2 = true ∧ Cond.code q_X12_beside.1.1 q_X12_beside.1.2.1 q_X12_beside.1.2.2.1 q_X12_beside.1.2.2.2 ∈ xTB := ⟨by decide +kernel, xTB_in (zTb_in (k := 8) (List.mem_of_getElem? (i := 230) rfl)) rfl⟩
set_option maxRecDepth 100000 in
theorem f_X12_best : zmchk q_X12_best.1 q_X12_best.2 = true ∧ Cond.code q_X12_best.1.1 q_X12_best.1.2.1 q_X12_best.1.2.2.1 q_X12_best.1.2.2.2 ∈ xTB := ⟨by decide +kernel, xTB_in (zTb_in (k := 9) (List.mem_of_getElem? (i := 40) rfl)) rfl⟩
set_option maxRecDepth 100000 in
theorem f_X12_bite : zmchk q_X12_bite.1 q_X12_bite.2 = true ∧ Cond.code q_X12_bite.1.1 q_X12_bite.1.2.1 q_X12_bite.1.2.2.1 q_X12_bite.1.2.2.2 ∈ xTB := ⟨by decide +kernel, xTB_in (zTb_in (k := 8) (List.mem_of_getElem? (i := 169) rfl)) rfl⟩
set_option maxRecDepth 100000 in
theorem f_X12_bites : zmchk q_X12_bites.1 q_X12_bites.2 = true ∧ Cond.code q_X12_bites.1.1 q_X12_bites.1.2.1 q_X12_bites.1.2.2.1 q_X12_bites.1.2.2.2 ∈ xTB := ⟨by decide +kernel, xTB_in (zTb_in (k := 8) (List.mem_of_getElem? (i := 173) rfl)) rfl⟩
set_option maxRecDepth 100000 in
theorem f_X12_bottom : zmchk q_X12_bottom.1 q_X12_bottom.2 = true ∧ Cond.code q_X12_bottom.1.1 q_X12_bottom.1.2.1 q_X12_bottom.1.2.2.1 q_X12_bottom.1.2.2.2 ∈ xTB := ⟨by decide +kernel, xTB_in (zTb_in (k := 7) (List.mem_of_getElem? (i := 124) rfl)) rfl⟩
set_option maxRecDepth 100000 in
theorem f_X12_cell : zmchk q_X12_cell.1 q_X12_cell.2 = true ∧ Cond.code q_X12_cell.1.1 q_X12_cell.1.2.1 q_X12_cell.1.2.2.1 q_X12_cell.1.2.2.2 ∈ xTB := ⟨by decide +kernel, xTB_in (zTb_in (k := 8) (List.mem_of_getElem? (i := 145) rfl)) rfl⟩
set_option maxRecDepth 100000 in
theorem f_X12_cells : zmchk q_X12_cells.1 q_X12_cells.2 = true ∧ Cond.code q_X12_cells.1.1 q_X12_cells.1.2.1 q_X12_cells.1.2.2.1 q_X12_cells.1.2.2.2 ∈ xTB := ⟨by decide +kernel, xTB_in (zTb_in (k := 8) (List.mem_of_getElem? (i := 111) rfl)) rfl⟩
set_option maxRecDepth 100000 in
theorem f_X12_choose : zmchk q_X12_choose.1 q_X12_choose.2 = true ∧ Cond.code q_X12_choose.1.1 q_X12_choose.1.2.1 q_X12_choose.1.2.2.1 q_X12_choose.1.2.2.2 ∈ xTB := ⟨by decide +kernel, xTB_in (zTb_in (k := 9) (List.mem_of_getElem? (i := 117) rfl)) rfl⟩
set_option maxRecDepth 100000 in
theorem f_X12_clean : zmchk q_X12_clean.1 q_X12_clean.2 = true ∧ Cond.code q_X12_clean.1.1 q_X12_clean.1.2.1 q_X12_clean.1.2.2.1 q_X12_clean.1.2.2.2 ∈ xTB := ⟨by decide +kernel, xTB_in (zTb_in (k := 8) (List.mem_of_getElem? (i := 193) rfl)) rfl⟩
set_option maxRecDepth 100000 in
theorem f_X12_company : zmchk q_X12_company.1 q_X12_company.2 = true ∧ Cond.code q_X12_company.1.1 q_X12_company.1.2.1 q_X12_company.1.2.2.1 q_X12_company.1.2.2.2 ∈ xTB := ⟨by decide +kernel, xTB_in (zTb_in (k := 8) (List.mem_of_getElem? (i := 161) rfl)) rfl⟩
set_option maxRecDepth 100000 in
theorem f_X12_companyWay : zmchk q_X12_companyWay.1 q_X12_companyWay.2 = true ∧ Cond.code q_X12_companyWay.1.1 q_X12_companyWay.1.2.1 q_X12_companyWay.1.2.2.1 q_X12_companyWay.1.2.2.2 ∈ xTB := ⟨by decide +kernel, xTB_in (zTb_in (k := 9) (List.mem_of_getElem? (i := 52) rfl)) rfl⟩
set_option maxRecDepth 100000 in
theorem f_X12_copy : zmchk q_X12_copy.1 q_X12_copy.2 = true ∧ Cond.code q_X12_copy.1.1 q_X12_copy.1.2.1 q_X12_copy.1.2.2.1 q_X12_copy.1.2.2.2 ∈ xTB := ⟨by decide +kernel, xTB_in (zTb_in (k := 8) (List.mem_of_getElem? (i := 75) rfl)) rfl⟩
set_option maxRecDepth 100000 in
theorem f_X12_costOf : zmchk q_X12_costOf.1 q_X12_costOf.2 = true ∧ Cond.code q_X12_costOf.1.1 q_X12_costOf.1.2.1 q_X12_costOf.1.2.2.1 q_X12_costOf.1.2.2.2 ∈ xTB := ⟨by decide +kernel, xTB_in (zTb_in (k := 9) (List.mem_of_getElem? (i := 16) rfl)) rfl⟩
set_option maxRecDepth 100000 in
theorem f_X12_count : zmchk q_X12_count.1 q_X12_count.2 = true ∧ Cond.code q_X12_count.1.1 q_X12_count.1.2.1 q_X12_count.1.2.2.1 q_X12_count.1.2.2.2 ∈ xTB := ⟨by decide +kernel, xTB_in (zTb_in (k := 8) (List.mem_of_getElem? (i := 213) rfl)) rfl⟩
set_option maxRecDepth 100000 in
theorem f_X12_countOf : zmchk q_X12_countOf.1 q_X12_countOf.2 = true ∧ Cond.code q_X12_countOf.1.1 q_X12_countOf.1.2.1 q_X12_countOf.1.2.2.1 q_X12_countOf.1.2.2.2 ∈ xTB := ⟨by decide +kernel, xTB_in (zTb_in (k := 8) (List.mem_of_getElem? (i := 218) rfl)) rfl⟩
set_option maxRecDepth 100000 in
theorem f_X12_crumbsOf : zmchk q_X12_crumbsOf.1 q_X12_crumbsOf.2 = true ∧ Cond.code q_X12_crumbsOf.1.1 q_X12_crumbsOf.1.2.1 q_X12_crumbsOf.1.2.2.1 q_X12_crumbsOf.1.2.2.2 ∈ xTB := ⟨by decide +kernel, xTB_in (zTb_in (k := 8) (List.mem_of_getElem? (i := 122) rfl)) rfl⟩
set_option maxRecDepth 100000 in
theorem f_X12_cut : zmchk q_X12_cut.1 q_X12_cut.2 = true ∧ Cond.code q_X12_cut.1.1 q_X12_cut.1.2.1 q_X12_cut.1.2.2.1 q_X12_cut.1.2.2.2 ∈ xTB := ⟨by decide +kernel, xTB_in (zTb_in (k := 7) (List.mem_of_getElem? (i := 147) rfl)) rfl⟩
set_option maxRecDepth 100000 in
theorem f_X12_cut_ : zmchk q_X12_cut_.1 q_X12_cut_.2 = true ∧ Cond.code q_X12_cut_.1.1 q_X12_cut_.1.2.1 q_X12_cut_.1.2.2.1 q_X12_cut_.1.2.2.2 ∈ xTB := ⟨by decide +kernel, xTB_in (zTb_in (k := 9) (List.mem_of_getElem? (i := 81) rfl)) rfl⟩
set_option maxRecDepth 100000 in
theorem f_X12_cutsOff : zmchk q_X12_cutsOff.1 q_X12_cutsOff.2 = true ∧ Cond.code q_X12_cutsOff.1.1 q_X12_cutsOff.1.2.1 q_X12_cutsOff.1.2.2.1 q_X12_cutsOff.1.2.2.2 ∈ xTB := ⟨by decide +kernel, xTB_in (zTb_in (k := 9) (List.mem_of_getElem? (i := 89) rfl)) rfl⟩
set_option maxRecDepth 100000 in
theorem f_X12_doAll : zmchk q_X12_doAll.1 q_X12_doAll.2 = true ∧ Cond.code q_X12_doAll.1.1 q_X12_doAll.1.2.1 q_X12_doAll.1.2.2.1 q_X12_doAll.1.2.2.2 ∈ xTB := ⟨by decide +kernel, xTB_in (zTb_in (k := 9) (List.mem_of_getElem? (i := 172) rfl)) rfl⟩
set_option maxRecDepth 100000 in
theorem f_X12_doOne : zmchk q_X12_doOne.1 q_X12_doOne.2 = true ∧ Cond.code q_X12_doOne.1.1 q_X12_doOne.1.2.1 q_X12_doOne.1.2.2.1 q_X12_doOne.1.2.2.2 ∈ xTB := ⟨by decide +kernel, xTB_in (zTb_in (k := 9) (List.mem_of_getElem? (i := 176) rfl)) rfl⟩
set_option maxRecDepth 100000 in
theorem f_X12_does : zmchk q_X12_does.1 q_X12_does.2 = true ∧ Cond.code q_X12_does.1.1 q_X12_does.1.2.1 q_X12_does.1.2.2.1 q_X12_does.1.2.2.2 ∈ xTB := ⟨by decide +kernel, xTB_in (zTb_in (k := 9) (List.mem_of_getElem? (i := 180) rfl)) rfl⟩
set_option maxRecDepth 100000 in
theorem f_X12_draw : zmchk q_X12_draw.1 q_X12_draw.2 = true ∧ Cond.code q_X12_draw.1.1 q_X12_draw.1.2.1 q_X12_draw.1.2.2.1 q_X12_draw.1.2.2.2 ∈ xTB := ⟨by decide +kernel, xTB_in (zTb_in (k := 9) (List.mem_of_getElem? (i := 192) rfl)) rfl⟩
set_option maxRecDepth 100000 in
theorem f_X12_drawCell : zmchk q_X12_drawCell.1 q_X12_drawCell.2 = true ∧ Cond.code q_X12_drawCell.1.1 q_X12_drawCell.1.2.1 q_X12_drawCell.1.2.2.1 q_X12_drawCell.1.2.2.2 ∈ xTB := ⟨by decide +kernel, xTB_in (zTb_in (k := 9) (List.mem_of_getElem? (i := 188) rfl)) rfl⟩
set_option maxRecDepth 100000 in
theorem f_X12_eats : zmchk q_X12_eats.1 q_X12_eats.2 = true ∧ Cond.code q_X12_eats.1.1 q_X12_eats.1.2.1 q_X12_eats.1.2.2.1 q_X12_eats.1.2.2.2 ∈ xTB := ⟨by decide +kernel, xTB_in (zTb_in (k := 9) (List.mem_of_getElem? (i := 184) rfl)) rfl⟩
set_option maxRecDepth 100000 in
theorem f_X12_fail : zmchk q_X12_fail.1 q_X12_fail.2 = true ∧ Cond.code q_X12_fail.1.1 q_X12_fail.1.2.1 q_X12_fail.1.2.2.1 q_X12_fail.1.2.2.2 ∈ xTB := ⟨by decide +kernel, xTB_in (zTb_in (k := 7) (List.mem_of_getElem? (i := 219) rfl)) rfl⟩
set_option maxRecDepth 100000 in
theorem f_X12_fault : zmchk q_X12_fault.1 q_X12_fault.2 = true ∧ Cond.code q_X12_fault.1.1 q_X12_fault.1.2.1 q_X12_fault.1.2.2.1 q_X12_fault.1.2.2.2 ∈ xTB := ⟨by decide +kernel, xTB_in (zTb_in (k := 7) (List.mem_of_getElem? (i := 168) rfl)) rfl⟩
set_option maxRecDepth 100000 in
theorem f_X12_feed : zmchk q_X12_feed.1 q_X12_feed.2 = true ∧ Cond.code q_X12_feed.1.1 q_X12_feed.1.2.1 q_X12_feed.1.2.2.1 q_X12_feed.1.2.2.2 ∈ xTB := ⟨by decide +kernel, xTB_in (zTb_in (k := 7) (List.mem_of_getElem? (i := 160) rfl)) rfl⟩
set_option maxRecDepth 100000 in
theorem f_X12_fitting : zmchk q_X12_fitting.1 q_X12_fitting.2 = true ∧ Cond.code q_X12_fitting.1.1 q_X12_fitting.1.2.1 q_X12_fitting.1.2.2.1 q_X12_fitting.1.2.2.2 ∈ xTB := ⟨by decide +kernel, xTB_in (zTb_in (k := 9) (List.mem_of_getElem? (i := 131) rfl)) rfl⟩
set_option maxRecDepth 100000 in
theorem f_X12_fours : zmchk q_X12_fours.1 q_X12_fours.2 = true ∧ Cond.code q_X12_fours.1.1 q_X12_fours.1.2.1 q_X12_fours.1.2.2.1 q_X12_fours.1.2.2.2 ∈ xTB := ⟨by decide +kernel, xTB_in (zTb_in (k := 9) (List.mem_of_getElem? (i := 142) rfl)) rfl⟩
set_option maxRecDepth 100000 in
theorem f_X12_fraction : zmchk q_X12_fraction.1 q_X12_fraction.2 = true ∧ Cond.code q_X12_fraction.1.1 q_X12_fraction.1.2.1 q_X12_fraction.1.2.2.1 q_X12_fraction.1.2.2.2 ∈ xTB := ⟨by decide +kernel, xTB_in (zTb_in (k := 9) (List.mem_of_getElem? (i := 151) rfl)) rfl⟩
set_option maxRecDepth 100000 in
theorem f_X12_goes : zmchk q_X12_goes.1 q_X12_goes.2 = true ∧ Cond.code q_X12_goes.1.1 q_X12_goes.1.2.1 q_X12_goes.1.2.2.1 q_X12_goes.1.2.2.2 ∈ xTB := ⟨by decide +kernel, xTB_in (zTb_in (k := 9) (List.mem_of_getElem? (i := 197) rfl)) rfl⟩
set_option maxRecDepth 100000 in
theorem f_X12_goesBy : zmchk q_X12_goesBy.1 q_X12_goesBy.2 = true ∧ Cond.code q_X12_goesBy.1.1 q_X12_goesBy.1.2.1 q_X12_goesBy.1.2.2.1 q_X12_goesBy.1.2.2.2 ∈ xTB := ⟨by decide +kernel, xTB_in (zTb_in (k := 9) (List.mem_of_getElem? (i := 12) rfl)) rfl⟩
set_option maxRecDepth 100000 in
theorem f_X12_ground : zmchk q_X12_ground.1 q_X12_ground.2 = true ∧ Cond.code q_X12_ground.1.1 q_X12_ground.1.2.1 q_X12_ground.1.2.2.1 q_X12_ground.1.2.2.2 ∈ xTB := ⟨by decide +kernel, xTB_in (zTb_in (k := 8) (List.mem_of_getElem? (i := 133) rfl)) rfl⟩
set_option maxRecDepth 100000 in
theorem f_X12_groundOf : zmchk q_X12_groundOf.1 q_X12_groundOf.2 = true ∧ Cond.code q_X12_groundOf.1.1 q_X12_groundOf.1.2.1 q_X12_groundOf.1.2.2.1 q_X12_groundOf.1.2.2.2 ∈ xTB := ⟨by decide +kernel, xTB_in (zTb_in (k := 8) (List.mem_of_getElem? (i := 1) rfl)) rfl⟩
set_option maxRecDepth 100000 in
theorem f_X12_halves : zmchk q_X12_halves.1 q_X12_halves.2 = true ∧ Cond.code q_X12_halves.1.1 q_X12_halves.1.2.1 q_X12_halves.1.2.2.1 q_X12_halves.1.2.2.2 ∈ xTB := ⟨by decide +kernel, xTB_in (zTb_in (k := 9) (List.mem_of_getElem? (i := 127) rfl)) rfl⟩
set_option maxRecDepth 100000 in
theorem f_X12_hand : zmchk q_X12_hand.1 q_X12_hand.2 = true ∧ Cond.code q_X12_hand.1.1 q_X12_hand.1.2.1 q_X12_hand.1.2.2.1 q_X12_hand.1.2.2.2 ∈ xTB := ⟨by decide +kernel, xTB_in (zTb_in (k := 9) (List.mem_of_getElem? (i := 44) rfl)) rfl⟩
set_option maxRecDepth 100000 in
theorem f_X12_heapFrom : zmchk q_X12_heapFrom.1 q_X12_heapFrom.2 = true ∧ Cond.code q_X12_heapFrom.1.1 q_X12_heapFrom.1.2.1 q_X12_heapFrom.1.2.2.1 q_X12_heapFrom.1.2.2.2 ∈ xTB := ⟨by decide +kernel, xTB_in (zTb_in (k := 8) (List.mem_of_getElem? (i := 226) rfl)) rfl⟩
set_option maxRecDepth 100000 in
theorem f_X12_hole : zmchk q_X12_hole.1 q_X12_hole.2 = true ∧ Cond.code q_X12_hole.1.1 q_X12_hole.1.2.1 q_X12_hole.1.2.2.1 q_X12_hole.1.2.2.2 ∈ xTB := ⟨by decide +kernel, xTB_in (zTb_in (k := 8) (List.mem_of_getElem? (i := 222) rfl)) rfl⟩
set_option maxRecDepth 100000 in
theorem f_X12_honey : zmchk q_X12_honey.1 q_X12_honey.2 = true ∧ Cond.code q_X12_honey.1.1 q_X12_honey.1.2.1 q_X12_honey.1.2.2.1 q_X12_honey.1.2.2.2 ∈ xTB := ⟨by decide +kernel, xTB_in (zTb_in (k := 8) (List.mem_of_getElem? (i := 185) rfl)) rfl⟩
set_option maxRecDepth 100000 in
theorem f_X12_honeys : zmchk q_X12_honeys.1 q_X12_honeys.2 = true ∧ Cond.code q_X12_honeys.1.1 q_X12_honeys.1.2.1 q_X12_honeys.1.2.2.1 q_X12_honeys.1.2.2.2 ∈ xTB := ⟨by decide +kernel, xTB_in (zTb_in (k := 8) (List.mem_of_getElem? (i := 189) rfl)) rfl⟩
set_option maxRecDepth 100000 in
theorem f_X12_isAtWord : zmchk q_X12_isAtWord.1 q_X12_isAtWord.2 = true ∧ Cond.code q_X12_isAtWord.1.1 q_X12_isAtWord.1.2.1 q_X12_isAtWord.1.2.2.1 q_X12_isAtWord.1.2.2.2 ∈ xTB := ⟨by decide +kernel, xTB_in (zTb_in (k := 8) (List.mem_of_getElem? (i := 46) rfl)) rfl⟩
set_option maxRecDepth 100000 in
theorem f_X12_isBeside : zmchk q_X12_isBeside.1 q_X12_isBeside.2 = true ∧ Cond.code q_X12_isBeside.1.1 q_X12_isBeside.1.2.1 q_X12_isBeside.1.2.2.1 q_X12_isBeside.1.2.2.2 ∈ xTB := ⟨by decide +kernel, xTB_in (zTb_in (k := 9) (List.mem_of_getElem? (i := 85) rfl)) rfl⟩
set_option maxRecDepth 100000 in
theorem f_X12_isBy : zmchk q_X12_isBy.1 q_X12_isBy.2 = true ∧ Cond.code q_X12_isBy.1.1 q_X12_isBy.1.2.1 q_X12_isBy.1.2.2.1 q_X12_isBy.1.2.2.2 ∈ xTB := ⟨by decide +kernel, xTB_in (zTb_in (k := 8) (List.mem_of_getElem? (i := 17) rfl)) rfl⟩
set_option maxRecDepth 100000 in
theorem f_X12_isCell : zmchk q_X12_isCell.1 q_X12_isCell.2 = true ∧ Cond.code q_X12_isCell.1.1 q_X12_isCell.1.2.1 q_X12_isCell.1.2.2.1 q_X12_isCell.1.2.2.2 ∈ xTB := ⟨by decide +kernel, xTB_in (zTb_in (k := 8) (List.mem_of_getElem? (i := 137) rfl)) rfl⟩
set_option maxRecDepth 100000 in
theorem f_X12_isCompany : zmchk q_X12_isCompany.1 q_X12_isCompany.2 = true ∧ Cond.code q_X12_isCompany.1.1 q_X12_isCompany.1.2.1 q_X12_isCompany.1.2.2.1 q_X12_isCompany.1.2.2.2 ∈ xTB := ⟨by decide +kernel, xTB_in (zTb_in (k := 8) (List.mem_of_getElem? (i := 29) rfl)) rfl⟩
set_option maxRecDepth 100000 in
theorem f_X12_isCompanyAt : zmchk q_X12_isCompanyAt.1 q_X12_isCompanyAt.2 = true ∧ Cond.code q_X12_isCompanyAt.1.1 q_X12_isCompanyAt.1.2.1 q_X12_isCompanyAt.1.2.2.1 q_X12_isCompanyAt.1.2.2.2 ∈ xTB := ⟨by decide +kernel, xTB_in (zTb_in (k := 8) (List.mem_of_getElem? (i := 165) rfl)) rfl⟩
set_option maxRecDepth 100000 in
theorem f_X12_isCopies : zmchk q_X12_isCopies.1 q_X12_isCopies.2 = true ∧ Cond.code q_X12_isCopies.1.1 q_X12_isCopies.1.2.1 q_X12_isCopies.1.2.2.1 q_X12_isCopies.1.2.2.2 ∈ xTB := ⟨by decide +kernel, xTB_in (zTb_in (k := 8) (List.mem_of_getElem? (i := 21) rfl)) rfl⟩
set_option maxRecDepth 100000 in
theorem f_X12_isCopy : zmchk q_X12_isCopy.1 q_X12_isCopy.2 = true ∧ Cond.code q_X12_isCopy.1.1 q_X12_isCopy.1.2.1 q_X12_isCopy.1.2.2.1 q_X12_isCopy.1.2.2.2 ∈ xTB := ⟨by decide +kernel, xTB_in (zTb_in (k := 8) (List.mem_of_getElem? (i := 149) rfl)) rfl⟩
set_option maxRecDepth 100000 in
theorem f_X12_isDigit : zmchk q_X12_isDigit.1 q_X12_isDigit.2 = true ∧ Cond.code q_X12_isDigit.1.1 q_X12_isDigit.1.2.1 q_X12_isDigit.1.2.2.1 q_X12_isDigit.1.2.2.2 ∈ xTB := ⟨by decide +kernel, xTB_in (zTb_in (k := 7) (List.mem_of_getElem? (i := 192) rfl)) rfl⟩
set_option maxRecDepth 100000 in
theorem f_X12_isEnd : zmchk q_X12_isEnd.1 q_X12_isEnd.2 = true ∧ Cond.code q_X12_isEnd.1.1 q_X12_isEnd.1.2.1 q_X12_isEnd.1.2.2.1 q_X12_isEnd.1.2.2.2 ∈ xTB := ⟨by decide +kernel, xTB_in (zTb_in (k := 8) (List.mem_of_getElem? (i := 63) rfl)) rfl⟩
set_option maxRecDepth 100000 in
theorem f_X12_isFood : zmchk q_X12_isFood.1 q_X12_isFood.2 = true ∧ Cond.code q_X12_isFood.1.1 q_X12_isFood.1.2.1 q_X12_isFood.1.2.2.1 q_X12_isFood.1.2.2.2 ∈ xTB := ⟨by decide +kernel, xTB_in (zTb_in (k := 9) (List.mem_of_getElem? (i := 65) rfl)) rfl⟩
set_option maxRecDepth 100000 in
theorem f_X12_isIn : zmchk q_X12_isIn.1 q_X12_isIn.2 = true ∧ Cond.code q_X12_isIn.1.1 q_X12_isIn.1.2.1 q_X12_isIn.1.2.2.1 q_X12_isIn.1.2.2.2 ∈ xTB := ⟨by decide +kernel, xTB_in (zTb_in (k := 7) (List.mem_of_getElem? (i := 226) rfl)) rfl⟩
set_option maxRecDepth 100000 in
theorem f_X12_isKept : zmchk q_X12_isKept.1 q_X12_isKept.2 = true ∧ Cond.code q_X12_isKept.1.1 q_X12_isKept.1.2.1 q_X12_isKept.1.2.2.1 q_X12_isKept.1.2.2.2 ∈ xTB := ⟨by decide +kernel, xTB_in (zTb_in (k := 8) (List.mem_of_getElem? (i := 42) rfl)) rfl⟩
set_option maxRecDepth 100000 in
theorem f_X12_isLetter : zmchk q_X12_isLetter.1 q_X12_isLetter.2 = true ∧ Cond.code q_X12_isLetter.1.1 q_X12_isLetter.1.2.1 q_X12_isLetter.1.2.2.1 q_X12_isLetter.1.2.2.2 ∈ xTB := ⟨by decide +kernel, xTB_in (zTb_in (k := 7) (List.mem_of_getElem? (i := 187) rfl)) rfl⟩
set_option maxRecDepth 100000 in
theorem f_X12_isName : zmchk q_X12_isName.1 q_X12_isName.2 = true ∧ Cond.code q_X12_isName.1.1 q_X12_isName.1.2.1 q_X12_isName.1.2.2.1 q_X12_isName.1.2.2.2 ∈ xTB := ⟨by decide +kernel, xTB_in (zTb_in (k := 8) (List.mem_of_getElem? (i := 38) rfl)) rfl⟩
set_option maxRecDepth 100000 in
theorem f_X12_isPath : zmchk q_X12_isPath.1 q_X12_isPath.2 = true ∧ Cond.code q_X12_isPath.1.1 q_X12_isPath.1.2.1 q_X12_isPath.1.2.2.1 q_X12_isPath.1.2.2.2 ∈ xTB := ⟨by decide +kernel, xTB_in (zTb_in (k := 9) (List.mem_of_getElem? (i := 134) rfl)) rfl⟩
set_option maxRecDepth 100000 in
theorem f_X12_isRise : zmchk q_X12_isRise.1 q_X12_isRise.2 = true ∧ Cond.code q_X12_isRise.1.1 q_X12_isRise.1.2.1 q_X12_isRise.1.2.2.1 q_X12_isRise.1.2.2.2 ∈ xTB := ⟨by decide +kernel, xTB_in (zTb_in (k := 8) (List.mem_of_getElem? (i := 5) rfl)) rfl⟩
set_option maxRecDepth 100000 in
theorem f_X12_isRow : zmchk q_X12_isRow.1 q_X12_isRow.2 = true ∧ Cond.code q_X12_isRow.1.1 q_X12_isRow.1.2.1 q_X12_isRow.1.2.2.1 q_X12_isRow.1.2.2.2 ∈ xTB := ⟨by decide +kernel, xTB_in (zTb_in (k := 7) (List.mem_of_getElem? (i := 234) rfl)) rfl⟩
set_option maxRecDepth 100000 in
theorem f_X12_isSign : zmchk q_X12_isSign.1 q_X12_isSign.2 = true ∧ Cond.code q_X12_isSign.1.1 q_X12_isSign.1.2.1 q_X12_isSign.1.2.2.1 q_X12_isSign.1.2.2.2 ∈ xTB := ⟨by decide +kernel, xTB_in (zTb_in (k := 7) (List.mem_of_getElem? (i := 230) rfl)) rfl⟩
set_option maxRecDepth 100000 in
theorem f_X12_isSignByte : zmchk q_X12_isSignByte.1 q_X12_isSignByte.2 = true ∧ Cond.code q_X12_isSignByte.1.1 q_X12_isSignByte.1.2.1 q_X12_isSignByte.1.2.2.1 q_X12_isSignByte.1.2.2.2 ∈ xTB := ⟨by decide +kernel, xTB_in (zTb_in (k := 7) (List.mem_of_getElem? (i := 196) rfl)) rfl⟩
set_option maxRecDepth 100000 in
theorem f_X12_isSo : zmchk q_X12_isSo.1 q_X12_isSo.2 = true ∧ Cond.code q_X12_isSo.1.1 q_X12_isSo.1.2.1 q_X12_isSo.1.2.2.1 q_X12_isSo.1.2.2.2 ∈ xTB := ⟨by decide +kernel, xTB_in (zTb_in (k := 9) (List.mem_of_getElem? (i := 205) rfl)) rfl⟩
set_option maxRecDepth 100000 in
theorem f_X12_isTo : zmchk q_X12_isTo.1 q_X12_isTo.2 = true ∧ Cond.code q_X12_isTo.1.1 q_X12_isTo.1.2.1 q_X12_isTo.1.2.2.1 q_X12_isTo.1.2.2.2 ∈ xTB := ⟨by decide +kernel, xTB_in (zTb_in (k := 8) (List.mem_of_getElem? (i := 50) rfl)) rfl⟩
set_option maxRecDepth 100000 in
theorem f_X12_isTray : zmchk q_X12_isTray.1 q_X12_isTray.2 = true ∧ Cond.code q_X12_isTray.1.1 q_X12_isTray.1.2.1 q_X12_isTray.1.2.2.1 q_X12_isTray.1.2.2.2 ∈ xTB := ⟨by decide +kernel, xTB_in (zTb_in (k := 9) (List.mem_of_getElem? (i := 109) rfl)) rfl⟩
set_option maxRecDepth 100000 in
theorem f_X12_isWanted : zmchk q_X12_isWanted.1 q_X12_isWanted.2 = true ∧ Cond.code q_X12_isWanted.1.1 q_X12_isWanted.1.2.1 q_X12_isWanted.1.2.2.1 q_X12_isWanted.1.2.2.2 ∈ xTB := ⟨by decide +kernel, xTB_in (zTb_in (k := 9) (List.mem_of_getElem? (i := 69) rfl)) rfl⟩
set_option maxRecDepth 100000 in
theorem f_X12_isWell : zmchk q_X12_isWell.1 q_X12_isWell.2 = true ∧ Cond.code q_X12_isWell.1.1 q_X12_isWell.1.2.1 q_X12_isWell.1.2.2.1 q_X12_isWell.1.2.2.2 ∈ xTB := ⟨by decide +kernel, xTB_in (zTb_in (k := 8) (List.mem_of_getElem? (i := 71) rfl)) rfl⟩
set_option maxRecDepth 100000 in
theorem f_X12_isWide : zmchk q_X12_isWide.1 q_X12_isWide.2 = true ∧ Cond.code q_X12_isWide.1.1 q_X12_isWide.1.2.1 q_X12_isWide.1.2.2.1 q_X12_isWide.1.2.2.2 ∈ xTB := ⟨by decide +kernel, xTB_in (zTb_in (k := 7) (List.mem_of_getElem? (i := 200) rfl)) rfl⟩
set_option maxRecDepth 100000 in
theorem f_X12_isWord : zmchk q_X12_isWord.1 q_X12_isWord.2 = true ∧ Cond.code q_X12_isWord.1.1 q_X12_isWord.1.2.1 q_X12_isWord.1.2.2.1 q_X12_isWord.1.2.2.2 ∈ xTB := ⟨by decide +kernel, xTB_in (zTb_in (k := 7) (List.mem_of_getElem? (i := 207) rfl)) rfl⟩
set_option maxRecDepth 100000 in
theorem f_X12_land : zmchk q_X12_land.1 q_X12_land.2 = true ∧ Cond.code q_X12_land.1.1 q_X12_land.1.2.1 q_X12_land.1.2.2.1 q_X12_land.1.2.2.2 ∈ xTB := ⟨by decide +kernel, xTB_in (zTb_in (k := 7) (List.mem_of_getElem? (i := 172) rfl)) rfl⟩
set_option maxRecDepth 100000 in
theorem f_X12_lay : zmchk q_X12_lay.1 q_X12_lay.2 = true ∧ Cond.code q_X12_lay.1.1 q_X12_lay.1.2.1 q_X12_lay.1.2.2.1 q_X12_lay.1.2.2.2 ∈ xTB := ⟨by decide +kernel, xTB_in (zTb_in (k := 7) (List.mem_of_getElem? (i := 164) rfl)) rfl⟩
set_option maxRecDepth 100000 in
theorem f_X12_left : zmchk q_X12_left.1 q_X12_left.2 = true ∧ Cond.code q_X12_left.1.1 q_X12_left.1.2.1 q_X12_left.1.2.2.1 q_X12_left.1.2.2.2 ∈ xTB := ⟨by decide +kernel, xTB_in (zTb_in (k := 8) (List.mem_of_getElem? (i := 107) rfl)) rfl⟩
set_option maxRecDepth 100000 in
theorem f_X12_letterCost : zmchk q_X12_letterCost.1 q_X12_letterCost.2 = true ∧ Cond.code q_X12_letterCost.1.1 q_X12_letterCost.1.2.1 q_X12_letterCost.1.2.2.1 q_X12_letterCost.1.2.2.2 ∈ xTB := ⟨by decide +kernel, xTB_in (zTb_in (k := 8) (List.mem_of_getElem? (i := 125) rfl)) rfl⟩
set_option maxRecDepth 100000 in
theorem f_X12_look2 : zmchk q_X12_look2.1 q_X12_look2.2 = true ∧ Cond.code q_X12_look2.1.1 q_X12_look2.1.2.1 q_X12_look2.1.2.2.1 q_X12_look2.1.2.2.2 ∈ xTB := ⟨by decide +kernel, xTB_in (zTb_in (k := 7) (List.mem_of_getElem? (i := 184) rfl)) rfl⟩
set_option maxRecDepth 100000 in
theorem f_X12_many : zmchk q_X12_many.1 q_X12_many.2 = true ∧ Cond.code q_X12_many.1.1 q_X12_many.1.2.1 q_X12_many.1.2.2.1 q_X12_many.1.2.2.2 ∈ xTB := ⟨by decide +kernel, xTB_in (zTb_in (k := 8) (List.mem_of_getElem? (i := 103) rfl)) rfl⟩
set_option maxRecDepth 100000 in
theorem f_X12_march : zmchk q_X12_march.1 q_X12_march.2 = true ∧ Cond.code q_X12_march.1.1 q_X12_march.1.2.1 q_X12_march.1.2.2.1 q_X12_march.1.2.2.2 ∈ xTB := ⟨by decide +kernel, xTB_in (zTb_in (k := 9) (List.mem_of_getElem? (i := 24) rfl)) rfl⟩
set_option maxRecDepth 100000 in
theorem f_X12_marches : zmchk q_X12_marches.1 q_X12_marches.2 = true ∧ Cond.code q_X12_marches.1.1 q_X12_marches.1.2.1 q_X12_marches.1.2.2.1 q_X12_marches.1.2.2.2 ∈ xTB := ⟨by decide +kernel, xTB_in (zTb_in (k := 9) (List.mem_of_getElem? (i := 28) rfl)) rfl⟩
set_option maxRecDepth 100000 in
theorem f_X12_mark : zmchk q_X12_mark.1 q_X12_mark.2 = true ∧ Cond.code q_X12_mark.1.1 q_X12_mark.1.2.1 q_X12_mark.1.2.2.1 q_X12_mark.1.2.2.2 ∈ xTB := ⟨by decide +kernel, xTB_in (zTb_in (k := 9) (List.mem_of_getElem? (i := 218) rfl)) rfl⟩
set_option maxRecDepth 100000 in
theorem f_X12_mean : zmchk q_X12_mean.1 q_X12_mean.2 = true ∧ Cond.code q_X12_mean.1.1 q_X12_mean.1.2.1 q_X12_mean.1.2.2.1 q_X12_mean.1.2.2.2 ∈ xTB := ⟨by decide +kernel, xTB_in (zTb_in (k := 9) (List.mem_of_getElem? (i := 158) rfl)) rfl⟩
set_option maxRecDepth 100000 in
theorem f_X12_mostWorth : zmchk q_X12_mostWorth.1 q_X12_mostWorth.2 = true ∧ Cond.code q_X12_mostWorth.1.1 q_X12_mostWorth.1.2.1 q_X12_mostWorth.1.2.2.1 q_X12_mostWorth.1.2.2.2 ∈ xTB := ⟨by decide +kernel, xTB_in (zTb_in (k := 9) (List.mem_of_getElem? (i := 101) rfl)) rfl⟩
set_option maxRecDepth 100000 in
theorem f_X12_mould : zmchk q_X12_mould.1 q_X12_mould.2 = true ∧ Cond.code q_X12_mould.1.1 q_X12_mould.1.2.1 q_X12_mould.1.2.2.1 q_X12_mould.1.2.2.2 ∈ xTB := ⟨by decide +kernel, xTB_in (zTb_in (k := 8) (List.mem_of_getElem? (i := 177) rfl)) rfl⟩
set_option maxRecDepth 100000 in
theorem f_X12_moulds : zmchk q_X12_moulds.1 q_X12_moulds.2 = true ∧ Cond.code q_X12_moulds.1.1 q_X12_moulds.1.2.1 q_X12_moulds.1.2.2.1 q_X12_moulds.1.2.2.2 ∈ xTB := ⟨by decide +kernel, xTB_in (zTb_in (k := 8) (List.mem_of_getElem? (i := 181) rfl)) rfl⟩
set_option maxRecDepth 100000 in
theorem f_X12_mouse : zmchk q_X12_mouse.1 q_X12_mouse.2 = true ∧ Cond.code q_X12_mouse.1.1 q_X12_mouse.1.2.1 q_X12_mouse.1.2.2.1 q_X12_mouse.1.2.2.2 ∈ xTB := ⟨by decide +kernel, xTB_in (zTb_in (k := 9) (List.mem_of_getElem? (i := 201) rfl)) rfl⟩
set_option maxRecDepth 100000 in
theorem f_X12_must : zmchk q_X12_must.1 q_X12_must.2 = true ∧ Cond.code q_X12_must.1.1 q_X12_must.1.2.1 q_X12_must.1.2.2.1 q_X12_must.1.2.2.2 ∈ xTB := ⟨by decide +kernel, xTB_in (zTb_in (k := 7) (List.mem_of_getElem? (i := 211) rfl)) rfl⟩
set_option maxRecDepth 100000 in
theorem f_X12_named : zmchk q_X12_named.1 q_X12_named.2 = true ∧ Cond.code q_X12_named.1.1 q_X12_named.1.2.1 q_X12_named.1.2.2.1 q_X12_named.1.2.2.2 ∈ xTB := ⟨by decide +kernel, xTB_in (zTb_in (k := 8) (List.mem_of_getElem? (i := 67) rfl)) rfl⟩
set_option maxRecDepth 100000 in
theorem f_X12_next : zmchk q_X12_next.1 q_X12_next.2 = true ∧ Cond.code q_X12_next.1.1 q_X12_next.1.2.1 q_X12_next.1.2.2.1 q_X12_next.1.2.2.2 ∈ xTB := ⟨by decide +kernel, xTB_in (zTb_in (k := 7) (List.mem_of_getElem? (i := 180) rfl)) rfl⟩
set_option maxRecDepth 100000 in
theorem f_X12_no : zmchk q_X12_no.1 q_X12_no.2 = true ∧ Cond.code q_X12_no.1.1 q_X12_no.1.2.1 q_X12_no.1.2.2.1 q_X12_no.1.2.2.2 ∈ xTB := ⟨by decide +kernel, xTB_in (zTb_in (k := 7) (List.mem_of_getElem? (i := 132) rfl)) rfl⟩
set_option maxRecDepth 100000 in
theorem f_X12_numberOf : zmchk q_X12_numberOf.1 q_X12_numberOf.2 = true ∧ Cond.code q_X12_numberOf.1.1 q_X12_numberOf.1.2.1 q_X12_numberOf.1.2.2.1 q_X12_numberOf.1.2.2.2 ∈ xTB := ⟨by decide +kernel, xTB_in (zTb_in (k := 9) (List.mem_of_getElem? (i := 113) rfl)) rfl⟩
set_option maxRecDepth 100000 in
theorem f_X12_odds : zmchk q_X12_odds.1 q_X12_odds.2 = true ∧ Cond.code q_X12_odds.1.1 q_X12_odds.1.2.1 q_X12_odds.1.2.2.1 q_X12_odds.1.2.2.2 ∈ xTB := ⟨by decide +kernel, xTB_in (zTb_in (k := 9) (List.mem_of_getElem? (i := 138) rfl)) rfl⟩
set_option maxRecDepth 100000 in
theorem f_X12_opens : zmchk q_X12_opens.1 q_X12_opens.2 = true ∧ Cond.code q_X12_opens.1.1 q_X12_opens.1.2.1 q_X12_opens.1.2.2.1 q_X12_opens.1.2.2.2 ∈ xTB := ⟨by decide +kernel, xTB_in (zTb_in (k := 7) (List.mem_of_getElem? (i := 176) rfl)) rfl⟩
set_option maxRecDepth 100000 in
theorem f_X12_orders : zmchk q_X12_orders.1 q_X12_orders.2 = true ∧ Cond.code q_X12_orders.1.1 q_X12_orders.1.2.1 q_X12_orders.1.2.2.1 q_X12_orders.1.2.2.2 ∈ xTB := ⟨by decide +kernel, xTB_in (zTb_in (k := 8) (List.mem_of_getElem? (i := 79) rfl)) rfl⟩
set_option maxRecDepth 100000 in
theorem f_X12_placed : zmchk q_X12_placed.1 q_X12_placed.2 = true ∧ Cond.code q_X12_placed.1.1 q_X12_placed.1.2.1 q_X12_placed.1.2.2.1 q_X12_placed.1.2.2.2 ∈ xTB := ⟨by decide +kernel, xTB_in (zTb_in (k := 7) (List.mem_of_getElem? (i := 140) rfl)) rfl⟩
set_option maxRecDepth 100000 in
theorem f_X12_pour : zmchk q_X12_pour.1 q_X12_pour.2 = true ∧ Cond.code q_X12_pour.1.1 q_X12_pour.1.2.1 q_X12_pour.1.2.2.1 q_X12_pour.1.2.2.2 ∈ xTB := ⟨by decide +kernel, xTB_in (zTb_in (k := 7) (List.mem_of_getElem? (i := 156) rfl)) rfl⟩
set_option maxRecDepth 100000 in
theorem f_X12_ran : zmchk q_X12_ran.1 q_X12_ran.2 = true ∧ Cond.code q_X12_ran.1.1 q_X12_ran.1.2.1 q_X12_ran.1.2.2.1 q_X12_ran.1.2.2.2 ∈ xTB := ⟨by decide +kernel, xTB_in (zTb_in (k := 9) (List.mem_of_getElem? (i := 209) rfl)) rfl⟩
set_option maxRecDepth 100000 in
theorem f_X12_reach : zmchk q_X12_reach.1 q_X12_reach.2 = true ∧ Cond.code q_X12_reach.1.1 q_X12_reach.1.2.1 q_X12_reach.1.2.2.1 q_X12_reach.1.2.2.2 ∈ xTB := ⟨by decide +kernel, xTB_in (zTb_in (k := 9) (List.mem_of_getElem? (i := 48) rfl)) rfl⟩
set_option maxRecDepth 100000 in
theorem f_X12_read : zmchk q_X12_read.1 q_X12_read.2 = true ∧ Cond.code q_X12_read.1.1 q_X12_read.1.2.1 q_X12_read.1.2.2.1 q_X12_read.1.2.2.2 ∈ xTB := ⟨by decide +kernel, xTB_in (zTb_in (k := 7) (List.mem_of_getElem? (i := 151) rfl)) rfl⟩
set_option maxRecDepth 100000 in
theorem f_X12_readCell : zmchk q_X12_readCell.1 q_X12_readCell.2 = true ∧ Cond.code q_X12_readCell.1.1 q_X12_readCell.1.2.1 q_X12_readCell.1.2.2.1 q_X12_readCell.1.2.2.2 ∈ xTB := ⟨by decide +kernel, xTB_in (zTb_in (k := 8) (List.mem_of_getElem? (i := 13) rfl)) rfl⟩
set_option maxRecDepth 100000 in
theorem f_X12_readCompany : zmchk q_X12_readCompany.1 q_X12_readCompany.2 = true ∧ Cond.code q_X12_readCompany.1.1 q_X12_readCompany.1.2.1 q_X12_readCompany.1.2.2.1 q_X12_readCompany.1.2.2.2 ∈ xTB := ⟨by decide +kernel, xTB_in (zTb_in (k := 8) (List.mem_of_getElem? (i := 34) rfl)) rfl⟩
set_option maxRecDepth 100000 in
theorem f_X12_readCompanyName : zmchk q_X12_readCompanyName.1 q_X12_readCompanyName.2 = true ∧ Cond.code q_X12_readCompanyName.1.1 q_X12_readCompanyName.1.2.1 q_X12_readCompanyName.1.2.2.1 q_X12_readCompanyName.1.2.2.2 ∈ xTB := ⟨by decide +kernel, xTB_in (zTb_in (k := 8) (List.mem_of_getElem? (i := 95) rfl)) rfl⟩
set_option maxRecDepth 100000 in
theorem f_X12_readCopies : zmchk q_X12_readCopies.1 q_X12_readCopies.2 = true ∧ Cond.code q_X12_readCopies.1.1 q_X12_readCopies.1.2.1 q_X12_readCopies.1.2.2.1 q_X12_readCopies.1.2.2.2 ∈ xTB := ⟨by decide +kernel, xTB_in (zTb_in (k := 8) (List.mem_of_getElem? (i := 25) rfl)) rfl⟩
set_option maxRecDepth 100000 in
theorem f_X12_readCopy : zmchk q_X12_readCopy.1 q_X12_readCopy.2 = true ∧ Cond.code q_X12_readCopy.1.1 q_X12_readCopy.1.2.1 q_X12_readCopy.1.2.2.1 q_X12_readCopy.1.2.2.2 ∈ xTB := ⟨by decide +kernel, xTB_in (zTb_in (k := 8) (List.mem_of_getElem? (i := 91) rfl)) rfl⟩
set_option maxRecDepth 100000 in
theorem f_X12_readNumber : zmchk q_X12_readNumber.1 q_X12_readNumber.2 = true ∧ Cond.code q_X12_readNumber.1.1 q_X12_readNumber.1.2.1 q_X12_readNumber.1.2.2.1 q_X12_readNumber.1.2.2.2 ∈ xTB := ⟨by decide +kernel, xTB_in (zTb_in (k := 7) (List.mem_of_getElem? (i := 223) rfl)) rfl⟩
set_option maxRecDepth 100000 in
theorem f_X12_readRest : zmchk q_X12_readRest.1 q_X12_readRest.2 = true ∧ Cond.code q_X12_readRest.1.1 q_X12_readRest.1.2.1 q_X12_readRest.1.2.2.1 q_X12_readRest.1.2.2.2 ∈ xTB := ⟨by decide +kernel, xTB_in (zTb_in (k := 8) (List.mem_of_getElem? (i := 87) rfl)) rfl⟩
set_option maxRecDepth 100000 in
theorem f_X12_readRise : zmchk q_X12_readRise.1 q_X12_readRise.2 = true ∧ Cond.code q_X12_readRise.1.1 q_X12_readRise.1.2.1 q_X12_readRise.1.2.2.1 q_X12_readRise.1.2.2.2 ∈ xTB := ⟨by decide +kernel, xTB_in (zTb_in (k := 8) (List.mem_of_getElem? (i := 9) rfl)) rfl⟩
set_option maxRecDepth 100000 in
theorem f_X12_readRow : zmchk q_X12_readRow.1 q_X12_readRow.2 = true ∧ Cond.code q_X12_readRow.1.1 q_X12_readRow.1.2.1 q_X12_readRow.1.2.2.1 q_X12_readRow.1.2.2.2 ∈ xTB := ⟨by decide +kernel, xTB_in (zTb_in (k := 7) (List.mem_of_getElem? (i := 238) rfl)) rfl⟩
set_option maxRecDepth 100000 in
theorem f_X12_readStep : zmchk q_X12_readStep.1 q_X12_readStep.2 = true ∧ Cond.code q_X12_readStep.1.1 q_X12_readStep.1.2.1 q_X12_readStep.1.2.2.1 q_X12_readStep.1.2.2.2 ∈ xTB := ⟨by decide +kernel, xTB_in (zTb_in (k := 8) (List.mem_of_getElem? (i := 83) rfl)) rfl⟩
set_option maxRecDepth 100000 in
theorem f_X12_readTest : zmchk q_X12_readTest.1 q_X12_readTest.2 = true ∧ Cond.code q_X12_readTest.1.1 q_X12_readTest.1.2.1 q_X12_readTest.1.2.2.1 q_X12_readTest.1.2.2.2 ∈ xTB := ⟨by decide +kernel, xTB_in (zTb_in (k := 8) (List.mem_of_getElem? (i := 99) rfl)) rfl⟩
set_option maxRecDepth 100000 in
theorem f_X12_refuse : zmchk q_X12_refuse.1 q_X12_refuse.2 = true ∧ Cond.code q_X12_refuse.1.1 q_X12_refuse.1.2.1 q_X12_refuse.1.2.2.1 q_X12_refuse.1.2.2.2 ∈ xTB := ⟨by decide +kernel, xTB_in (zTb_in (k := 8) (List.mem_of_getElem? (i := 129) rfl)) rfl⟩
set_option maxRecDepth 100000 in
theorem f_X12_run : zmchk q_X12_run.1 q_X12_run.2 = true ∧ Cond.code q_X12_run.1.1 q_X12_run.1.2.1 q_X12_run.1.2.2.1 q_X12_run.1.2.2.2 ∈ xTB := ⟨by decide +kernel, xTB_in (zTb_in (k := 9) (List.mem_of_getElem? (i := 163) rfl)) rfl⟩
set_option maxRecDepth 100000 in
theorem f_X12_runs : zmchk q_X12_runs.1 q_X12_runs.2 = true ∧ Cond.code q_X12_runs.1.1 q_X12_runs.1.2.1 q_X12_runs.1.2.2.1 q_X12_runs.1.2.2.2 ∈ xTB := ⟨by decide +kernel, xTB_in (zTb_in (k := 9) (List.mem_of_getElem? (i := 168) rfl)) rfl⟩
set_option maxRecDepth 100000 in
theorem f_X12_seen : zmchk q_X12_seen.1 q_X12_seen.2 = true ∧ Cond.code q_X12_seen.1.1 q_X12_seen.1.2.1 q_X12_seen.1.2.2.1 q_X12_seen.1.2.2.2 ∈ xTB := ⟨by decide +kernel, xTB_in (zTb_in (k := 9) (List.mem_of_getElem? (i := 56) rfl)) rfl⟩
set_option maxRecDepth 100000 in
theorem f_X12_shows : zmchk q_X12_shows.1 q_X12_shows.2 = true ∧ Cond.code q_X12_shows.1.1 q_X12_shows.1.2.1 q_X12_shows.1.2.2.1 q_X12_shows.1.2.2.2 ∈ xTB := ⟨by decide +kernel, xTB_in (zTb_in (k := 8) (List.mem_of_getElem? (i := 153) rfl)) rfl⟩
set_option maxRecDepth 100000 in
theorem f_X12_showsOf : zmchk q_X12_showsOf.1 q_X12_showsOf.2 = true ∧ Cond.code q_X12_showsOf.1.1 q_X12_showsOf.1.2.1 q_X12_showsOf.1.2.2.1 q_X12_showsOf.1.2.2.2 ∈ xTB := ⟨by decide +kernel, xTB_in (zTb_in (k := 8) (List.mem_of_getElem? (i := 157) rfl)) rfl⟩
set_option maxRecDepth 100000 in
theorem f_X12_spelled : zmchk q_X12_spelled.1 q_X12_spelled.2 = true ∧ Cond.code q_X12_spelled.1.1 q_X12_spelled.1.2.1 q_X12_spelled.1.2.2.1 q_X12_spelled.1.2.2.2 ∈ xTB := ⟨by decide +kernel, xTB_in (zTb_in (k := 7) (List.mem_of_getElem? (i := 203) rfl)) rfl⟩
set_option maxRecDepth 100000 in
theorem f_X12_state : zmchk q_X12_state.1 q_X12_state.2 = true ∧ Cond.code q_X12_state.1.1 q_X12_state.1.2.1 q_X12_state.1.2.2.1 q_X12_state.1.2.2.2 ∈ xTB := ⟨by decide +kernel, xTB_in (zTb_in (k := 8) (List.mem_of_getElem? (i := 118) rfl)) rfl⟩
set_option maxRecDepth 100000 in
theorem f_X12_stateOf : zmchk q_X12_stateOf.1 q_X12_stateOf.2 = true ∧ Cond.code q_X12_stateOf.1.1 q_X12_stateOf.1.2.1 q_X12_stateOf.1.2.2.1 q_X12_stateOf.1.2.2.2 ∈ xTB := ⟨by decide +kernel, xTB_in (zTb_in (k := 8) (List.mem_of_getElem? (i := 115) rfl)) rfl⟩
set_option maxRecDepth 100000 in
theorem f_X12_status : zmchk q_X12_status.1 q_X12_status.2 = true ∧ Cond.code q_X12_status.1.1 q_X12_status.1.2.1 q_X12_status.1.2.2.1 q_X12_status.1.2.2.2 ∈ xTB := ⟨by decide +kernel, xTB_in (zTb_in (k := 7) (List.mem_of_getElem? (i := 116) rfl)) rfl⟩
set_option maxRecDepth 100000 in
theorem f_X12_steam : zmchk q_X12_steam.1 q_X12_steam.2 = true ∧ Cond.code q_X12_steam.1.1 q_X12_steam.1.2.1 q_X12_steam.1.2.2.1 q_X12_steam.1.2.2.2 ∈ xTB := ⟨by decide +kernel, xTB_in (zTb_in (k := 8) (List.mem_of_getElem? (i := 197) rfl)) rfl⟩
set_option maxRecDepth 100000 in
theorem f_X12_steams : zmchk q_X12_steams.1 q_X12_steams.2 = true ∧ Cond.code q_X12_steams.1.1 q_X12_steams.1.2.1 q_X12_steams.1.2.2.1 q_X12_steams.1.2.2.2 ∈ xTB := ⟨by decide +kernel, xTB_in (zTb_in (k := 8) (List.mem_of_getElem? (i := 201) rfl)) rfl⟩
set_option maxRecDepth 100000 in
theorem f_X12_stepWord : zmchk q_X12_stepWord.1 q_X12_stepWord.2 = true ∧ Cond.code q_X12_stepWord.1.1 q_X12_stepWord.1.2.1 q_X12_stepWord.1.2.2.1 q_X12_stepWord.1.2.2.2 ∈ xTB := ⟨by decide +kernel, xTB_in (zTb_in (k := 8) (List.mem_of_getElem? (i := 54) rfl)) rfl⟩
set_option maxRecDepth 100000 in
theorem f_X12_stuck : zmchk q_X12_stuck.1 q_X12_stuck.2 = true ∧ Cond.code q_X12_stuck.1.1 q_X12_stuck.1.2.1 q_X12_stuck.1.2.2.1 q_X12_stuck.1.2.2.2 ∈ xTB := ⟨by decide +kernel, xTB_in (zTb_in (k := 9) (List.mem_of_getElem? (i := 32) rfl)) rfl⟩
set_option maxRecDepth 100000 in
theorem f_X12_sums : zmchk q_X12_sums.1 q_X12_sums.2 = true ∧ Cond.code q_X12_sums.1.1 q_X12_sums.1.2.1 q_X12_sums.1.2.2.1 q_X12_sums.1.2.2.2 ∈ xTB := ⟨by decide +kernel, xTB_in (zTb_in (k := 9) (List.mem_of_getElem? (i := 77) rfl)) rfl⟩
set_option maxRecDepth 100000 in
theorem f_X12_supper : zmchk q_X12_supper.1 q_X12_supper.2 = true ∧ Cond.code q_X12_supper.1.1 q_X12_supper.1.2.1 q_X12_supper.1.2.2.1 q_X12_supper.1.2.2.2 ∈ xTB := ⟨by decide +kernel, xTB_in (zTb_in (k := 9) (List.mem_of_getElem? (i := 60) rfl)) rfl⟩
set_option maxRecDepth 100000 in
theorem f_X12_tastes : zmchk q_X12_tastes.1 q_X12_tastes.2 = true ∧ Cond.code q_X12_tastes.1.1 q_X12_tastes.1.2.1 q_X12_tastes.1.2.2.1 q_X12_tastes.1.2.2.2 ∈ xTB := ⟨by decide +kernel, xTB_in (zTb_in (k := 9) (List.mem_of_getElem? (i := 73) rfl)) rfl⟩
set_option maxRecDepth 100000 in
theorem f_X12_tellCompany : zmchk q_X12_tellCompany.1 q_X12_tellCompany.2 = true ∧ Cond.code q_X12_tellCompany.1.1 q_X12_tellCompany.1.2.1 q_X12_tellCompany.1.2.2.1 q_X12_tellCompany.1.2.2.2 ∈ xTB := ⟨by decide +kernel, xTB_in (zTb_in (k := 8) (List.mem_of_getElem? (i := 239) rfl)) rfl⟩
set_option maxRecDepth 100000 in
theorem f_X12_tellWay : zmchk q_X12_tellWay.1 q_X12_tellWay.2 = true ∧ Cond.code q_X12_tellWay.1.1 q_X12_tellWay.1.2.1 q_X12_tellWay.1.2.2.1 q_X12_tellWay.1.2.2.2 ∈ xTB := ⟨by decide +kernel, xTB_in (zTb_in (k := 9) (List.mem_of_getElem? (i := 3) rfl)) rfl⟩
set_option maxRecDepth 100000 in
theorem f_X12_testWord : zmchk q_X12_testWord.1 q_X12_testWord.2 = true ∧ Cond.code q_X12_testWord.1.1 q_X12_testWord.1.2.1 q_X12_testWord.1.2.2.1 q_X12_testWord.1.2.2.2 ∈ xTB := ⟨by decide +kernel, xTB_in (zTb_in (k := 8) (List.mem_of_getElem? (i := 58) rfl)) rfl⟩
set_option maxRecDepth 100000 in
theorem f_X12_times : zmchk q_X12_times.1 q_X12_times.2 = true ∧ Cond.code q_X12_times.1.1 q_X12_times.1.2.1 q_X12_times.1.2.2.1 q_X12_times.1.2.2.2 ∈ xTB := ⟨by decide +kernel, xTB_in (zTb_in (k := 9) (List.mem_of_getElem? (i := 123) rfl)) rfl⟩
set_option maxRecDepth 100000 in
theorem f_X12_told : zmchk q_X12_told.1 q_X12_told.2 = true ∧ Cond.code q_X12_told.1.1 q_X12_told.1.2.1 q_X12_told.1.2.2.1 q_X12_told.1.2.2.2 ∈ xTB := ⟨by decide +kernel, xTB_in (zTb_in (k := 9) (List.mem_of_getElem? (i := 105) rfl)) rfl⟩
set_option maxRecDepth 100000 in
theorem f_X12_top : zmchk q_X12_top.1 q_X12_top.2 = true ∧ Cond.code q_X12_top.1.1 q_X12_top.1.2.1 q_X12_top.1.2.2.1 q_X12_top.1.2.2.2 ∈ xTB := ⟨by decide +kernel, xTB_in (zTb_in (k := 7) (List.mem_of_getElem? (i := 120) rfl)) rfl⟩
set_option maxRecDepth 100000 in
theorem f_X12_tray : zmchk q_X12_tray.1 q_X12_tray.2 = true ∧ Cond.code q_X12_tray.1.1 q_X12_tray.1.2.1 q_X12_tray.1.2.2.1 q_X12_tray.1.2.2.2 ∈ xTB := ⟨by decide +kernel, xTB_in (zTb_in (k := 7) (List.mem_of_getElem? (i := 128) rfl)) rfl⟩
set_option maxRecDepth 100000 in
theorem f_X12_trayed : zmchk q_X12_trayed.1 q_X12_trayed.2 = true ∧ Cond.code q_X12_trayed.1.1 q_X12_trayed.1.2.1 q_X12_trayed.1.2.2.1 q_X12_trayed.1.2.2.2 ∈ xTB := ⟨by decide +kernel, xTB_in (zTb_in (k := 7) (List.mem_of_getElem? (i := 144) rfl)) rfl⟩
set_option maxRecDepth 100000 in
theorem f_X12_truly : zmchk q_X12_truly.1 q_X12_truly.2 = true ∧ Cond.code q_X12_truly.1.1 q_X12_truly.1.2.1 q_X12_truly.1.2.2.1 q_X12_truly.1.2.2.2 ∈ xTB := ⟨by decide +kernel, xTB_in (zTb_in (k := 9) (List.mem_of_getElem? (i := 36) rfl)) rfl⟩
set_option maxRecDepth 100000 in
theorem f_X12_unlike : zmchk q_X12_unlike.1 q_X12_unlike.2 = true ∧ Cond.code q_X12_unlike.1.1 q_X12_unlike.1.2.1 q_X12_unlike.1.2.2.1 q_X12_unlike.1.2.2.2 ∈ xTB := ⟨by decide +kernel, xTB_in (zTb_in (k := 8) (List.mem_of_getElem? (i := 209) rfl)) rfl⟩
set_option maxRecDepth 100000 in
theorem f_X12_unlikeOf : zmchk q_X12_unlikeOf.1 q_X12_unlikeOf.2 = true ∧ Cond.code q_X12_unlikeOf.1.1 q_X12_unlikeOf.1.2.1 q_X12_unlikeOf.1.2.2.1 q_X12_unlikeOf.1.2.2.2 ∈ xTB := ⟨by decide +kernel, xTB_in (zTb_in (k := 8) (List.mem_of_getElem? (i := 205) rfl)) rfl⟩
set_option maxRecDepth 100000 in
theorem f_X12_way : zmchk q_X12_way.1 q_X12_way.2 = true ∧ Cond.code q_X12_way.1.1 q_X12_way.1.2.1 q_X12_way.1.2.2.1 q_X12_way.1.2.2.2 ∈ xTB := ⟨by decide +kernel, xTB_in (zTb_in (k := 8) (List.mem_of_getElem? (i := 235) rfl)) rfl⟩
set_option maxRecDepth 100000 in
theorem f_X12_wayAt : zmchk q_X12_wayAt.1 q_X12_wayAt.2 = true ∧ Cond.code q_X12_wayAt.1.1 q_X12_wayAt.1.2.1 q_X12_wayAt.1.2.2.1 q_X12_wayAt.1.2.2.2 ∈ xTB := ⟨by decide +kernel, xTB_in (zTb_in (k := 9) (List.mem_of_getElem? (i := 20) rfl)) rfl⟩
set_option maxRecDepth 100000 in
theorem f_X12_wayOf : zmchk q_X12_wayOf.1 q_X12_wayOf.2 = true ∧ Cond.code q_X12_wayOf.1.1 q_X12_wayOf.1.2.1 q_X12_wayOf.1.2.2.1 q_X12_wayOf.1.2.2.2 ∈ xTB := ⟨by decide +kernel, xTB_in (zTb_in (k := 9) (List.mem_of_getElem? (i := 7) rfl)) rfl⟩
set_option maxRecDepth 100000 in
theorem f_X12_worth : zmchk q_X12_worth.1 q_X12_worth.2 = true ∧ Cond.code q_X12_worth.1.1 q_X12_worth.1.2.1 q_X12_worth.1.2.2.1 q_X12_worth.1.2.2.2 ∈ xTB := ⟨by decide +kernel, xTB_in (zTb_in (k := 9) (List.mem_of_getElem? (i := 93) rfl)) rfl⟩
set_option maxRecDepth 100000 in
theorem f_X12_worthOf : zmchk q_X12_worthOf.1 q_X12_worthOf.2 = true ∧ Cond.code q_X12_worthOf.1.1 q_X12_worthOf.1.2.1 q_X12_worthOf.1.2.2.1 q_X12_worthOf.1.2.2.2 ∈ xTB := ⟨by decide +kernel, xTB_in (zTb_in (k := 9) (List.mem_of_getElem? (i := 97) rfl)) rfl⟩
set_option maxRecDepth 100000 in
theorem f_X12_write : zmchk q_X12_write.1 q_X12_write.2 = true ∧ Cond.code q_X12_write.1.1 q_X12_write.1.2.1 q_X12_write.1.2.2.1 q_X12_write.1.2.2.2 ∈ xTB := ⟨by decide +kernel, xTB_in (zTb_in (k := 7) (List.mem_of_getElem? (i := 136) rfl)) rfl⟩
set_option maxRecDepth 100000 in
theorem f_X12_wrong : zmchk q_X12_wrong.1 q_X12_wrong.2 = true ∧ Cond.code q_X12_wrong.1.1 q_X12_wrong.1.2.1 q_X12_wrong.1.2.2.1 q_X12_wrong.1.2.2.2 ∈ xTB := ⟨by decide +kernel, xTB_in (zTb_in (k := 7) (List.mem_of_getElem? (i := 215) rfl)) rfl⟩
set_option maxRecDepth 100000 in
theorem zMQ_ok : zMhOK zMQ := List.forall_mem_cons.mpr ⟨f_J7_fill_53178, List.forall_mem_cons.mpr ⟨f_J7_fill_d0a16, List.forall_mem_cons.mpr ⟨f_J13_bitCount_95d88, List.forall_mem_cons.mpr ⟨f_X0_come, List.forall_mem_cons.mpr ⟨f_X0_doorIn, List.forall_mem_cons.mpr ⟨f_X0_doorOut, List.forall_mem_cons.mpr ⟨f_X0_fewest, List.forall_mem_cons.mpr ⟨f_X0_findRow, List.forall_mem_cons.mpr ⟨f_X0_goIn, List.forall_mem_cons.mpr ⟨f_X0_goOut, List.forall_mem_cons.mpr ⟨f_X0_goesOn, List.forall_mem_cons.mpr ⟨f_X0_isPassed, List.forall_mem_cons.mpr ⟨f_X0_lay, List.forall_mem_cons.mpr ⟨f_X0_layRow, List.forall_mem_cons.mpr ⟨f_X0_turned, List.forall_mem_cons.mpr ⟨f_X1_choose, List.forall_mem_cons.mpr ⟨f_X1_consider, List.forall_mem_cons.mpr ⟨f_X1_dearestCell, List.forall_mem_cons.mpr ⟨f_X1_holds, List.forall_mem_cons.mpr ⟨f_X1_lossBy, List.forall_mem_cons.mpr ⟨f_X1_priceWithout, List.forall_mem_cons.mpr ⟨f_X1_priceWithoutBoth, List.forall_mem_cons.mpr ⟨f_X1_sitDown, List.forall_mem_cons.mpr ⟨f_X1_slot, List.forall_mem_cons.mpr ⟨f_X2_addCompany, List.forall_mem_cons.mpr ⟨f_X2_becomeLike, List.forall_mem_cons.mpr ⟨f_X2_becomePlains, List.forall_mem_cons.mpr ⟨f_X2_beside, List.forall_mem_cons.mpr ⟨f_X2_cellAt, List.forall_mem_cons.mpr ⟨f_X2_cellsThatAre, List.forall_mem_cons.mpr ⟨f_X2_clear, List.forall_mem_cons.mpr ⟨f_X2_companyNamed, List.forall_mem_cons.mpr ⟨f_X2_crumbsLeft, List.forall_mem_cons.mpr ⟨f_X2_crumbsOf, List.forall_mem_cons.mpr ⟨f_X2_differences, List.forall_mem_cons.mpr ⟨f_X2_eat, List.forall_mem_cons.mpr ⟨f_X2_fitTogether, List.forall_mem_cons.mpr ⟨f_X2_fitting, List.forall_mem_cons.mpr ⟨f_X2_groundCost, List.forall_mem_cons.mpr ⟨f_X2_growMould, List.forall_mem_cons.mpr ⟨f_X2_hasArrived, List.forall_mem_cons.mpr ⟨f_X2_hasCell, List.forall_mem_cons.mpr ⟨f_X2_hasCompany, List.forall_mem_cons.mpr ⟨f_X2_hasCopy, List.forall_mem_cons.mpr ⟨f_X2_hasCopyCell, List.forall_mem_cons.mpr ⟨f_X2_heapFrom, List.forall_mem_cons.mpr ⟨f_X2_isCell, List.forall_mem_cons.mpr ⟨f_X2_isPassage, List.forall_mem_cons.mpr ⟨f_X2_isWater, List.forall_mem_cons.mpr ⟨f_X2_largestHeap, List.forall_mem_cons.mpr ⟨f_X2_letterOf, List.forall_mem_cons.mpr ⟨f_X2_numberOf, List.forall_mem_cons.mpr ⟨f_X2_sendHome, List.forall_mem_cons.mpr ⟨f_X2_shownCost, List.forall_mem_cons.mpr ⟨f_X2_shownKind, List.forall_mem_cons.mpr ⟨f_X2_spreadHoney, List.forall_mem_cons.mpr ⟨f_X2_stateOf, List.forall_mem_cons.mpr ⟨f_X2_steamOff, List.forall_mem_cons.mpr ⟨f_X2_wipe, List.forall_mem_cons.mpr ⟨f_X2_xOf, List.forall_mem_cons.mpr ⟨f_X2_yOf, List.forall_mem_cons.mpr ⟨f_X3_readBy, List.forall_mem_cons.mpr ⟨f_X3_readCompany, List.forall_mem_cons.mpr ⟨f_X3_readCopies, List.forall_mem_cons.mpr ⟨f_X3_readLetters, List.forall_mem_cons.mpr ⟨f_X3_readPart, List.forall_mem_cons.mpr ⟨f_X3_readRise, List.forall_mem_cons.mpr ⟨f_X3_readRows, List.forall_mem_cons.mpr ⟨f_X3_readText, List.forall_mem_cons.mpr ⟨f_X3_readWide, List.forall_mem_cons.mpr ⟨f_X4_allWalks, List.forall_mem_cons.mpr ⟨f_X4_cellsOnAllWalks, List.forall_mem_cons.mpr ⟨f_X4_walkOn, List.forall_mem_cons.mpr ⟨f_X4_walksThrough, List.forall_mem_cons.mpr ⟨f_X5_add, List.forall_mem_cons.mpr ⟨f_X5_addEnd, List.forall_mem_cons.mpr ⟨f_X5_areThere, List.forall_mem_cons.mpr ⟨f_X5_becomeLike, List.forall_mem_cons.mpr ⟨f_X5_clear, List.forall_mem_cons.mpr ⟨f_X5_forget, List.forall_mem_cons.mpr ⟨f_X6_beginStep, List.forall_mem_cons.mpr ⟨f_X6_mayBegin, List.forall_mem_cons.mpr ⟨f_X6_readCopyAnd, List.forall_mem_cons.mpr ⟨f_X6_readCopyCell, List.forall_mem_cons.mpr ⟨f_X6_readCrumbs, List.forall_mem_cons.mpr ⟨f_X6_readEnd, List.forall_mem_cons.mpr ⟨f_X6_readName, List.forall_mem_cons.mpr ⟨f_X6_readStep, List.forall_mem_cons.mpr ⟨f_X6_readText, List.forall_mem_cons.mpr ⟨f_X6_readTwo, List.forall_mem_cons.mpr ⟨f_X7_carryOut, List.forall_mem_cons.mpr ⟨f_X7_comeToEnd, List.forall_mem_cons.mpr ⟨f_X7_doStep, List.forall_mem_cons.mpr ⟨f_X7_drawBy, List.forall_mem_cons.mpr ⟨f_X7_drawCell, List.forall_mem_cons.mpr ⟨f_X7_eatCell, List.forall_mem_cons.mpr ⟨f_X7_goMarching, List.forall_mem_cons.mpr ⟨f_X7_isSo, List.forall_mem_cons.mpr ⟨f_X7_letMouseWalk, List.forall_mem_cons.mpr ⟨f_X7_missUnless, List.forall_mem_cons.mpr ⟨f_X8_advance, List.forall_mem_cons.mpr ⟨f_X8_append, List.forall_mem_cons.mpr ⟨f_X8_beginText, List.forall_mem_cons.mpr ⟨f_X8_blame, List.forall_mem_cons.mpr ⟨f_X8_byteHere, List.forall_mem_cons.mpr ⟨f_X8_finishText, List.forall_mem_cons.mpr ⟨f_X8_hasRoom, List.forall_mem_cons.mpr ⟨f_X8_isBlank, List.forall_mem_cons.mpr ⟨f_X8_isCompare, List.forall_mem_cons.mpr ⟨f_X8_isDigit, List.forall_mem_cons.mpr ⟨f_X8_isEnd, List.forall_mem_cons.mpr ⟨f_X8_isLetter, List.forall_mem_cons.mpr ⟨f_X8_isName, List.forall_mem_cons.mpr ⟨f_X8_isSign, List.forall_mem_cons.mpr ⟨f_X8_isWord, List.forall_mem_cons.mpr ⟨f_X8_isWordOf, List.forall_mem_cons.mpr ⟨f_X8_nameHere, List.forall_mem_cons.mpr ⟨f_X8_reservedIndex, List.forall_mem_cons.mpr ⟨f_X8_scanNumber, List.forall_mem_cons.mpr ⟨f_X8_scanToken, List.forall_mem_cons.mpr ⟨f_X8_scanWord, List.forall_mem_cons.mpr ⟨f_X8_takeCell, List.forall_mem_cons.mpr ⟨f_X8_takeCompare, List.forall_mem_cons.mpr ⟨f_X8_takeNumber, List.forall_mem_cons.mpr ⟨f_X8_takeStop, List.forall_mem_cons.mpr ⟨f_X8_takeWord, List.forall_mem_cons.mpr ⟨f_X8_wordHere, List.forall_mem_cons.mpr ⟨f_X9_becomeZeros, List.forall_mem_cons.mpr ⟨f_X9_cutToSort, List.forall_mem_cons.mpr ⟨f_X9_hasPlaces, List.forall_mem_cons.mpr ⟨f_X9_isMissing, List.forall_mem_cons.mpr ⟨f_X9_isSort, List.forall_mem_cons.mpr ⟨f_X10_findWay, List.forall_mem_cons.mpr ⟨f_X10_lead, List.forall_mem_cons.mpr ⟨f_X10_lookAt, List.forall_mem_cons.mpr ⟨f_X10_lookAtGround, List.forall_mem_cons.mpr ⟨f_X10_measure, List.forall_mem_cons.mpr ⟨f_X10_reachCell, List.forall_mem_cons.mpr ⟨f_X10_retrace, List.forall_mem_cons.mpr ⟨f_X10_trace, List.forall_mem_cons.mpr ⟨f_X10_trueCost, List.forall_mem_cons.mpr ⟨f_X11_accept, List.forall_mem_cons.mpr ⟨f_X11_answer, List.forall_mem_cons.mpr ⟨f_X11_arrivals, List.forall_mem_cons.mpr ⟨f_X11_back, List.forall_mem_cons.mpr ⟨f_X11_best, List.forall_mem_cons.mpr ⟨f_X11_bite, List.forall_mem_cons.mpr ⟨f_X11_bottom, List.forall_mem_cons.mpr ⟨f_X11_cell, List.forall_mem_cons.mpr ⟨f_X11_clean, List.forall_mem_cons.mpr ⟨f_X11_commonDivisor, List.forall_mem_cons.mpr ⟨f_X11_company, List.forall_mem_cons.mpr ⟨f_X11_count, List.forall_mem_cons.mpr ⟨f_X11_cut, List.forall_mem_cons.mpr ⟨f_X11_fault, List.forall_mem_cons.mpr ⟨f_X11_feed, List.forall_mem_cons.mpr ⟨f_X11_ground, List.forall_mem_cons.mpr ⟨f_X11_halves, List.forall_mem_cons.mpr ⟨f_X11_hand, List.forall_mem_cons.mpr ⟨f_X11_hole, List.forall_mem_cons.mpr ⟨f_X11_honey, List.forall_mem_cons.mpr ⟨f_X11_isTray, List.forall_mem_cons.mpr ⟨f_X11_land, List.forall_mem_cons.mpr ⟨f_X11_many, List.forall_mem_cons.mpr ⟨f_X11_march, List.forall_mem_cons.mpr ⟨f_X11_mark, List.forall_mem_cons.mpr ⟨f_X11_mean, List.forall_mem_cons.mpr ⟨f_X11_mostWorth, List.forall_mem_cons.mpr ⟨f_X11_mould, List.forall_mem_cons.mpr ⟨f_X11_odds, List.forall_mem_cons.mpr ⟨f_X11_orders, List.forall_mem_cons.mpr ⟨f_X11_placeStatus, List.forall_mem_cons.mpr ⟨f_X11_pour, List.forall_mem_cons.mpr ⟨f_X11_ran, List.forall_mem_cons.mpr ⟨f_X11_reach, List.forall_mem_cons.mpr ⟨f_X11_read, List.forall_mem_cons.mpr ⟨f_X11_refuse, List.forall_mem_cons.mpr ⟨f_X11_refused, List.forall_mem_cons.mpr ⟨f_X11_run, List.forall_mem_cons.mpr ⟨f_X11_seen, List.forall_mem_cons.mpr ⟨f_X11_shows, List.forall_mem_cons.mpr ⟨f_X11_status, List.forall_mem_cons.mpr ⟨f_X11_steam, List.forall_mem_cons.mpr ⟨f_X11_stuck, List.forall_mem_cons.mpr ⟨f_X11_supper, List.forall_mem_cons.mpr ⟨f_X11_tellFraction, List.forall_mem_cons.mpr ⟨f_X11_told, List.forall_mem_cons.mpr ⟨f_X11_top, List.forall_mem_cons.mpr ⟨f_X11_tray, List.forall_mem_cons.mpr ⟨f_X11_truly, List.forall_mem_cons.mpr ⟨f_X11_unlike, List.forall_mem_cons.mpr ⟨f_X11_way, List.forall_mem_cons.mpr ⟨f_X11_wayAt, List.forall_mem_cons.mpr ⟨f_X11_waysToLay, List.forall_mem_cons.mpr ⟨f_X11_worth, List.forall_mem_cons.mpr ⟨f_X11_write, List.forall_mem_cons.mpr ⟨f_X12_arrivals, List.forall_mem_cons.mpr ⟨f_X12_at2, List.forall_mem_cons.mpr ⟨f_X12_avoids, List.forall_mem_cons.mpr ⟨f_X12_back, List.forall_mem_cons.mpr ⟨f_X12_beside, List.forall_mem_cons.mpr ⟨f_X12_best, List.forall_mem_cons.mpr ⟨f_X12_bite, List.forall_mem_cons.mpr ⟨f_X12_bites, List.forall_mem_cons.mpr ⟨f_X12_bottom, List.forall_mem_cons.mpr ⟨f_X12_cell, List.forall_mem_cons.mpr ⟨f_X12_cells, List.forall_mem_cons.mpr ⟨f_X12_choose, List.forall_mem_cons.mpr ⟨f_X12_clean, List.forall_mem_cons.mpr ⟨f_X12_company, List.forall_mem_cons.mpr ⟨f_X12_companyWay, List.forall_mem_cons.mpr ⟨f_X12_copy, List.forall_mem_cons.mpr ⟨f_X12_costOf, List.forall_mem_cons.mpr ⟨f_X12_count, List.forall_mem_cons.mpr ⟨f_X12_countOf, List.forall_mem_cons.mpr ⟨f_X12_crumbsOf, List.forall_mem_cons.mpr ⟨f_X12_cut, List.forall_mem_cons.mpr ⟨f_X12_cut_, List.forall_mem_cons.mpr ⟨f_X12_cutsOff, List.forall_mem_cons.mpr ⟨f_X12_doAll, List.forall_mem_cons.mpr ⟨f_X12_doOne, List.forall_mem_cons.mpr ⟨f_X12_does, List.forall_mem_cons.mpr ⟨f_X12_draw, List.forall_mem_cons.mpr ⟨f_X12_drawCell, List.forall_mem_cons.mpr ⟨f_X12_eats, List.forall_mem_cons.mpr ⟨f_X12_fail, List.forall_mem_cons.mpr ⟨f_X12_fault, List.forall_mem_cons.mpr ⟨f_X12_feed, List.forall_mem_cons.mpr ⟨f_X12_fitting, List.forall_mem_cons.mpr ⟨f_X12_fours, List.forall_mem_cons.mpr ⟨f_X12_fraction, List.forall_mem_cons.mpr ⟨f_X12_goes, List.forall_mem_cons.mpr ⟨f_X12_goesBy, List.forall_mem_cons.mpr ⟨f_X12_ground, List.forall_mem_cons.mpr ⟨f_X12_groundOf, List.forall_mem_cons.mpr ⟨f_X12_halves, List.forall_mem_cons.mpr ⟨f_X12_hand, List.forall_mem_cons.mpr ⟨f_X12_heapFrom, List.forall_mem_cons.mpr ⟨f_X12_hole, List.forall_mem_cons.mpr ⟨f_X12_honey, List.forall_mem_cons.mpr ⟨f_X12_honeys, List.forall_mem_cons.mpr ⟨f_X12_isAtWord, List.forall_mem_cons.mpr ⟨f_X12_isBeside, List.forall_mem_cons.mpr ⟨f_X12_isBy, List.forall_mem_cons.mpr ⟨f_X12_isCell, List.forall_mem_cons.mpr ⟨f_X12_isCompany, List.forall_mem_cons.mpr ⟨f_X12_isCompanyAt, List.forall_mem_cons.mpr ⟨f_X12_isCopies, List.forall_mem_cons.mpr ⟨f_X12_isCopy, List.forall_mem_cons.mpr ⟨f_X12_isDigit, List.forall_mem_cons.mpr ⟨f_X12_isEnd, List.forall_mem_cons.mpr ⟨f_X12_isFood, List.forall_mem_cons.mpr ⟨f_X12_isIn, List.forall_mem_cons.mpr ⟨f_X12_isKept, List.forall_mem_cons.mpr ⟨f_X12_isLetter, List.forall_mem_cons.mpr ⟨f_X12_isName, List.forall_mem_cons.mpr ⟨f_X12_isPath, List.forall_mem_cons.mpr ⟨f_X12_isRise, List.forall_mem_cons.mpr ⟨f_X12_isRow, List.forall_mem_cons.mpr ⟨f_X12_isSign, List.forall_mem_cons.mpr ⟨f_X12_isSignByte, List.forall_mem_cons.mpr ⟨f_X12_isSo, List.forall_mem_cons.mpr ⟨f_X12_isTo, List.forall_mem_cons.mpr ⟨f_X12_isTray, List.forall_mem_cons.mpr ⟨f_X12_isWanted, List.forall_mem_cons.mpr ⟨f_X12_isWell, List.forall_mem_cons.mpr ⟨f_X12_isWide, List.forall_mem_cons.mpr ⟨f_X12_isWord, List.forall_mem_cons.mpr ⟨f_X12_land, List.forall_mem_cons.mpr ⟨f_X12_lay, List.forall_mem_cons.mpr ⟨f_X12_left, List.forall_mem_cons.mpr ⟨f_X12_letterCost, List.forall_mem_cons.mpr ⟨f_X12_look2, List.forall_mem_cons.mpr ⟨f_X12_many, List.forall_mem_cons.mpr ⟨f_X12_march, List.forall_mem_cons.mpr ⟨f_X12_marches, List.forall_mem_cons.mpr ⟨f_X12_mark, List.forall_mem_cons.mpr ⟨f_X12_mean, List.forall_mem_cons.mpr ⟨f_X12_mostWorth, List.forall_mem_cons.mpr ⟨f_X12_mould, List.forall_mem_cons.mpr ⟨f_X12_moulds, List.forall_mem_cons.mpr ⟨f_X12_mouse, List.forall_mem_cons.mpr ⟨f_X12_must, List.forall_mem_cons.mpr ⟨f_X12_named, List.forall_mem_cons.mpr ⟨f_X12_next, List.forall_mem_cons.mpr ⟨f_X12_no, List.forall_mem_cons.mpr ⟨f_X12_numberOf, List.forall_mem_cons.mpr ⟨f_X12_odds, List.forall_mem_cons.mpr ⟨f_X12_opens, List.forall_mem_cons.mpr ⟨f_X12_orders, List.forall_mem_cons.mpr ⟨f_X12_placed, List.forall_mem_cons.mpr ⟨f_X12_pour, List.forall_mem_cons.mpr ⟨f_X12_ran, List.forall_mem_cons.mpr ⟨f_X12_reach, List.forall_mem_cons.mpr ⟨f_X12_read, List.forall_mem_cons.mpr ⟨f_X12_readCell, List.forall_mem_cons.mpr ⟨f_X12_readCompany, List.forall_mem_cons.mpr ⟨f_X12_readCompanyName, List.forall_mem_cons.mpr ⟨f_X12_readCopies, List.forall_mem_cons.mpr ⟨f_X12_readCopy, List.forall_mem_cons.mpr ⟨f_X12_readNumber, List.forall_mem_cons.mpr ⟨f_X12_readRest, List.forall_mem_cons.mpr ⟨f_X12_readRise, List.forall_mem_cons.mpr ⟨f_X12_readRow, List.forall_mem_cons.mpr ⟨f_X12_readStep, List.forall_mem_cons.mpr ⟨f_X12_readTest, List.forall_mem_cons.mpr ⟨f_X12_refuse, List.forall_mem_cons.mpr ⟨f_X12_run, List.forall_mem_cons.mpr ⟨f_X12_runs, List.forall_mem_cons.mpr ⟨f_X12_seen, List.forall_mem_cons.mpr ⟨f_X12_shows, List.forall_mem_cons.mpr ⟨f_X12_showsOf, List.forall_mem_cons.mpr ⟨f_X12_spelled, List.forall_mem_cons.mpr ⟨f_X12_state, List.forall_mem_cons.mpr ⟨f_X12_stateOf, List.forall_mem_cons.mpr ⟨f_X12_status, List.forall_mem_cons.mpr ⟨f_X12_steam, List.forall_mem_cons.mpr ⟨f_X12_steams, List.forall_mem_cons.mpr ⟨f_X12_stepWord, List.forall_mem_cons.mpr ⟨f_X12_stuck, List.forall_mem_cons.mpr ⟨f_X12_sums, List.forall_mem_cons.mpr ⟨f_X12_supper, List.forall_mem_cons.mpr ⟨f_X12_tastes, List.forall_mem_cons.mpr ⟨f_X12_tellCompany, List.forall_mem_cons.mpr ⟨f_X12_tellWay, List.forall_mem_cons.mpr ⟨f_X12_testWord, List.forall_mem_cons.mpr ⟨f_X12_times, List.forall_mem_cons.mpr ⟨f_X12_told, List.forall_mem_cons.mpr ⟨f_X12_top, List.forall_mem_cons.mpr ⟨f_X12_tray, List.forall_mem_cons.mpr ⟨f_X12_trayed, List.forall_mem_cons.mpr ⟨f_X12_truly, List.forall_mem_cons.mpr ⟨f_X12_unlike, List.forall_mem_cons.mpr ⟨f_X12_unlikeOf, List.forall_mem_cons.mpr ⟨f_X12_way, List.forall_mem_cons.mpr ⟨f_X12_wayAt, List.forall_mem_cons.mpr ⟨f_X12_wayOf, List.forall_mem_cons.mpr ⟨f_X12_worth, List.forall_mem_cons.mpr ⟨f_X12_worthOf, List.forall_mem_cons.mpr ⟨f_X12_write, List.forall_mem_cons.mpr ⟨f_X12_wrong, (fun _ h => absurd h List.not_mem_nil)⟩⟩⟩⟩⟩⟩⟩⟩⟩⟩⟩⟩⟩⟩⟩⟩⟩⟩⟩⟩⟩⟩⟩⟩⟩⟩⟩⟩⟩⟩⟩⟩⟩⟩⟩⟩⟩⟩⟩⟩⟩⟩⟩⟩⟩⟩⟩⟩⟩⟩⟩⟩⟩⟩⟩⟩⟩⟩⟩⟩⟩⟩⟩⟩⟩⟩⟩⟩⟩⟩⟩⟩⟩⟩⟩⟩⟩⟩⟩⟩⟩⟩⟩⟩⟩⟩⟩⟩⟩⟩⟩⟩⟩⟩⟩⟩⟩⟩⟩⟩⟩⟩⟩⟩⟩⟩⟩⟩⟩⟩⟩⟩⟩⟩⟩⟩⟩⟩⟩⟩⟩⟩⟩⟩⟩⟩⟩⟩⟩⟩⟩⟩⟩⟩⟩⟩⟩⟩⟩⟩⟩⟩⟩⟩⟩⟩⟩⟩⟩⟩⟩⟩⟩⟩⟩⟩⟩⟩⟩⟩⟩⟩⟩⟩⟩⟩⟩⟩⟩⟩⟩⟩⟩⟩⟩⟩⟩⟩⟩⟩⟩⟩⟩⟩⟩⟩⟩⟩⟩⟩⟩⟩⟩⟩⟩⟩⟩⟩⟩⟩⟩⟩⟩⟩⟩⟩⟩⟩⟩⟩⟩⟩⟩⟩⟩⟩⟩⟩⟩⟩⟩⟩⟩⟩⟩⟩⟩⟩⟩⟩⟩⟩⟩⟩⟩⟩⟩⟩⟩⟩⟩⟩⟩⟩⟩⟩⟩⟩⟩⟩⟩⟩⟩⟩⟩⟩⟩⟩⟩⟩⟩⟩⟩⟩⟩⟩⟩⟩⟩⟩⟩⟩⟩⟩⟩⟩⟩⟩⟩⟩⟩⟩⟩⟩⟩⟩⟩⟩⟩⟩⟩⟩⟩⟩⟩⟩⟩⟩⟩⟩⟩⟩⟩⟩⟩⟩⟩⟩⟩⟩⟩⟩⟩⟩⟩⟩⟩⟩⟩⟩⟩⟩⟩⟩⟩⟩⟩⟩⟩⟩⟩⟩⟩⟩⟩⟩⟩⟩⟩⟩⟩
