/-! printed: the decode rows, and each step by its row -/
theorem dX12_isCell_0 : decode cX12_isCell 0 = .ok (.iload_n 1, 1) := by decide +kernel
theorem dX12_isCell_1 : decode cX12_isCell 1 = .ok (.i2l, 1) := by decide +kernel
theorem dX12_isCell_2 : decode cX12_isCell 2 = .ok (.lconst 0, 1) := by decide +kernel
theorem dX12_isCell_3 : decode cX12_isCell 3 = .ok (.aload_n 0, 1) := by decide +kernel
theorem dX12_isCell_4 : decode cX12_isCell 4 = .ok (.getfield 35, 3) := by decide +kernel
theorem dX12_isCell_7 : decode cX12_isCell 7 = .ok (.iconst 0, 1) := by decide +kernel
theorem dX12_isCell_8 : decode cX12_isCell 8 = .ok (.iaload, 1) := by decide +kernel
theorem dX12_isCell_9 : decode cX12_isCell 9 = .ok (.iconst 1, 1) := by decide +kernel
theorem dX12_isCell_10 : decode cX12_isCell 10 = .ok (.isub, 1) := by decide +kernel
theorem dX12_isCell_11 : decode cX12_isCell 11 = .ok (.i2l, 1) := by decide +kernel
theorem dX12_isCell_12 : decode cX12_isCell 12 = .ok (.invokestatic 107, 3) := by decide +kernel
theorem dX12_isCell_15 : decode cX12_isCell 15 = .ok (.ifCond .eq 25, 3) := by decide +kernel
theorem dX12_isCell_18 : decode cX12_isCell 18 = .ok (.iload_n 2, 1) := by decide +kernel
theorem dX12_isCell_19 : decode cX12_isCell 19 = .ok (.i2l, 1) := by decide +kernel
theorem dX12_isCell_20 : decode cX12_isCell 20 = .ok (.lconst 0, 1) := by decide +kernel
theorem dX12_isCell_21 : decode cX12_isCell 21 = .ok (.aload_n 0, 1) := by decide +kernel
theorem dX12_isCell_22 : decode cX12_isCell 22 = .ok (.getfield 35, 3) := by decide +kernel
theorem dX12_isCell_25 : decode cX12_isCell 25 = .ok (.iconst 1, 1) := by decide +kernel
theorem dX12_isCell_26 : decode cX12_isCell 26 = .ok (.iaload, 1) := by decide +kernel
theorem dX12_isCell_27 : decode cX12_isCell 27 = .ok (.iconst 1, 1) := by decide +kernel
theorem dX12_isCell_28 : decode cX12_isCell 28 = .ok (.isub, 1) := by decide +kernel
theorem dX12_isCell_29 : decode cX12_isCell 29 = .ok (.i2l, 1) := by decide +kernel
theorem dX12_isCell_30 : decode cX12_isCell 30 = .ok (.invokestatic 107, 3) := by decide +kernel
theorem dX12_isCell_33 : decode cX12_isCell 33 = .ok (.ifCond .eq 7, 3) := by decide +kernel
theorem dX12_isCell_36 : decode cX12_isCell 36 = .ok (.iconst 1, 1) := by decide +kernel
theorem dX12_isCell_37 : decode cX12_isCell 37 = .ok (.goto 4, 3) := by decide +kernel
theorem dX12_isCell_40 : decode cX12_isCell 40 = .ok (.iconst 0, 1) := by decide +kernel
theorem dX12_isCell_41 : decode cX12_isCell 41 = .ok (.ireturn, 1) := by decide +kernel
theorem o_k_X12_isCell_0 {l : Launch} {P : xP} : xAll l P xMT (xMu q_X12_isCell) 0 k_X12_isCell_0 := ⟨(show xSim l P xMT (xMu q_X12_isCell) 0 (i_load x_isI 1 1) from s_iload_n dX12_isCell_0 rfl), ⟨(show xSim l P xMT (xMu q_X12_isCell) 1 (i_i2l 2) from s_i2l dX12_isCell_1), ⟨(show xSim l P xMT (xMu q_X12_isCell) 2 (i_push (.inl (.long (Int64.ofNat 0))) 3) from s_lconst (Int64.ofNat 0) dX12_isCell_2 (by decide +kernel)), ⟨(show xSim l P xMT (xMu q_X12_isCell) 3 (i_load x_isA 0 4) from s_aload_n dX12_isCell_3 rfl), ⟨(show xSim l P xMT (xMu q_X12_isCell) 4 (i_getf 12 20 7) from s_getf 12 20 dX12_isCell_4 (xvc_12) (by decide +kernel) xin_12 w_498), ⟨(show xSim l P xMT (xMu q_X12_isCell) 7 (i_push (.inl (.int (Int32.ofNat 0))) 8) from s_iconst (Int32.ofNat 0) dX12_isCell_7 (by decide +kernel)), ⟨(show xSim l P xMT (xMu q_X12_isCell) 8 (i_iald 9) from s_iald dX12_isCell_8), ⟨(show xSim l P xMT (xMu q_X12_isCell) 9 (i_push (.inl (.int (Int32.ofNat 1))) 10) from s_iconst (Int32.ofNat 1) dX12_isCell_9 (by decide +kernel)), ⟨(show xSim l P xMT (xMu q_X12_isCell) 10 (i_bin32 (fun x y => x - y) 11) from s_isub dX12_isCell_10), ⟨(show xSim l P xMT (xMu q_X12_isCell) 11 (i_i2l 12) from s_i2l dX12_isCell_11), ⟨(show xSim l P xMT (xMu q_X12_isCell) 12 (i_call none 163 3 0 0 15) from s_callS (q_X12_isIn) t_X12_isIn m_X12_isIn dX12_isCell_12 w_545 w_546 w_544 w_490 h_X12_isIn ⟨(by decide +kernel), (by decide +kernel)⟩), ⟨(show xSim l P xMT (xMu q_X12_isCell) 15 (i_if 2 40 18) from s_if_eq 40 dX12_isCell_15 (by decide +kernel)), trivial⟩⟩⟩⟩⟩⟩⟩⟩⟩⟩⟩⟩
theorem o_k_X12_isCell_1 {l : Launch} {P : xP} : xAll l P xMT (xMu q_X12_isCell) 16 k_X12_isCell_1 := ⟨(show xSim l P xMT (xMu q_X12_isCell) 18 (i_load x_isI 2 19) from s_iload_n dX12_isCell_18 rfl), ⟨(show xSim l P xMT (xMu q_X12_isCell) 19 (i_i2l 20) from s_i2l dX12_isCell_19), ⟨(show xSim l P xMT (xMu q_X12_isCell) 20 (i_push (.inl (.long (Int64.ofNat 0))) 21) from s_lconst (Int64.ofNat 0) dX12_isCell_20 (by decide +kernel)), ⟨(show xSim l P xMT (xMu q_X12_isCell) 21 (i_load x_isA 0 22) from s_aload_n dX12_isCell_21 rfl), ⟨(show xSim l P xMT (xMu q_X12_isCell) 22 (i_getf 12 20 25) from s_getf 12 20 dX12_isCell_22 (xvc_12) (by decide +kernel) xin_12 w_498), ⟨(show xSim l P xMT (xMu q_X12_isCell) 25 (i_push (.inl (.int (Int32.ofNat 1))) 26) from s_iconst (Int32.ofNat 1) dX12_isCell_25 (by decide +kernel)), ⟨(show xSim l P xMT (xMu q_X12_isCell) 26 (i_iald 27) from s_iald dX12_isCell_26), ⟨(show xSim l P xMT (xMu q_X12_isCell) 27 (i_push (.inl (.int (Int32.ofNat 1))) 28) from s_iconst (Int32.ofNat 1) dX12_isCell_27 (by decide +kernel)), ⟨(show xSim l P xMT (xMu q_X12_isCell) 28 (i_bin32 (fun x y => x - y) 29) from s_isub dX12_isCell_28), ⟨(show xSim l P xMT (xMu q_X12_isCell) 29 (i_i2l 30) from s_i2l dX12_isCell_29), ⟨(show xSim l P xMT (xMu q_X12_isCell) 30 (i_call none 163 3 0 0 33) from s_callS (q_X12_isIn) t_X12_isIn m_X12_isIn dX12_isCell_30 w_545 w_546 w_544 w_490 h_X12_isIn ⟨(by decide +kernel), (by decide +kernel)⟩), trivial⟩⟩⟩⟩⟩⟩⟩⟩⟩⟩⟩
theorem o_k_X12_isCell_2 {l : Launch} {P : xP} : xAll l P xMT (xMu q_X12_isCell) 32 k_X12_isCell_2 := ⟨(show xSim l P xMT (xMu q_X12_isCell) 33 (i_if 2 40 36) from s_if_eq 40 dX12_isCell_33 (by decide +kernel)), ⟨(show xSim l P xMT (xMu q_X12_isCell) 36 (i_push (.inl (.int (Int32.ofNat 1))) 37) from s_iconst (Int32.ofNat 1) dX12_isCell_36 (by decide +kernel)), ⟨(show xSim l P xMT (xMu q_X12_isCell) 37 (i_jump 41) from s_goto 41 dX12_isCell_37 (by decide +kernel)), ⟨(show xSim l P xMT (xMu q_X12_isCell) 40 (i_push (.inl (.int (Int32.ofNat 0))) 41) from s_iconst (Int32.ofNat 0) dX12_isCell_40 (by decide +kernel)), ⟨(show xSim l P xMT (xMu q_X12_isCell) 41 (i_reti .boolean) from s_reti .boolean dX12_isCell_41 rfl), trivial⟩⟩⟩⟩⟩
theorem o_X12_isCell {l : Launch} {P : xP} : xTabOK l P xMT (xMu q_X12_isCell) t_X12_isCell := xTabOK.of ⟨o_k_X12_isCell_0, ⟨o_k_X12_isCell_1, ⟨o_k_X12_isCell_2, trivial⟩⟩⟩
theorem dX12_isCompanyAt_0 : decode cX12_isCompanyAt 0 = .ok (.iload_n 1, 1) := by decide +kernel
theorem dX12_isCompanyAt_1 : decode cX12_isCompanyAt 1 = .ok (.i2l, 1) := by decide +kernel
theorem dX12_isCompanyAt_2 : decode cX12_isCompanyAt 2 = .ok (.lconst 0, 1) := by decide +kernel
theorem dX12_isCompanyAt_3 : decode cX12_isCompanyAt 3 = .ok (.aload_n 0, 1) := by decide +kernel
theorem dX12_isCompanyAt_4 : decode cX12_isCompanyAt 4 = .ok (.getfield 35, 3) := by decide +kernel
theorem dX12_isCompanyAt_7 : decode cX12_isCompanyAt 7 = .ok (.iconst 3, 1) := by decide +kernel
theorem dX12_isCompanyAt_8 : decode cX12_isCompanyAt 8 = .ok (.iaload, 1) := by decide +kernel
theorem dX12_isCompanyAt_9 : decode cX12_isCompanyAt 9 = .ok (.iconst 1, 1) := by decide +kernel
theorem dX12_isCompanyAt_10 : decode cX12_isCompanyAt 10 = .ok (.isub, 1) := by decide +kernel
theorem dX12_isCompanyAt_11 : decode cX12_isCompanyAt 11 = .ok (.i2l, 1) := by decide +kernel
theorem dX12_isCompanyAt_12 : decode cX12_isCompanyAt 12 = .ok (.invokestatic 107, 3) := by decide +kernel
theorem dX12_isCompanyAt_15 : decode cX12_isCompanyAt 15 = .ok (.ireturn, 1) := by decide +kernel
theorem o_k_X12_isCompanyAt_0 {l : Launch} {P : xP} : xAll l P xMT (xMu q_X12_isCompanyAt) 0 k_X12_isCompanyAt_0 := ⟨(show xSim l P xMT (xMu q_X12_isCompanyAt) 0 (i_load x_isI 1 1) from s_iload_n dX12_isCompanyAt_0 rfl), ⟨(show xSim l P xMT (xMu q_X12_isCompanyAt) 1 (i_i2l 2) from s_i2l dX12_isCompanyAt_1), ⟨(show xSim l P xMT (xMu q_X12_isCompanyAt) 2 (i_push (.inl (.long (Int64.ofNat 0))) 3) from s_lconst (Int64.ofNat 0) dX12_isCompanyAt_2 (by decide +kernel)), ⟨(show xSim l P xMT (xMu q_X12_isCompanyAt) 3 (i_load x_isA 0 4) from s_aload_n dX12_isCompanyAt_3 rfl), ⟨(show xSim l P xMT (xMu q_X12_isCompanyAt) 4 (i_getf 12 20 7) from s_getf 12 20 dX12_isCompanyAt_4 (xvc_12) (by decide +kernel) xin_12 w_498), ⟨(show xSim l P xMT (xMu q_X12_isCompanyAt) 7 (i_push (.inl (.int (Int32.ofNat 3))) 8) from s_iconst (Int32.ofNat 3) dX12_isCompanyAt_7 (by decide +kernel)), ⟨(show xSim l P xMT (xMu q_X12_isCompanyAt) 8 (i_iald 9) from s_iald dX12_isCompanyAt_8), ⟨(show xSim l P xMT (xMu q_X12_isCompanyAt) 9 (i_push (.inl (.int (Int32.ofNat 1))) 10) from s_iconst (Int32.ofNat 1) dX12_isCompanyAt_9 (by decide +kernel)), ⟨(show xSim l P xMT (xMu q_X12_isCompanyAt) 10 (i_bin32 (fun x y => x - y) 11) from s_isub dX12_isCompanyAt_10), ⟨(show xSim l P xMT (xMu q_X12_isCompanyAt) 11 (i_i2l 12) from s_i2l dX12_isCompanyAt_11), ⟨(show xSim l P xMT (xMu q_X12_isCompanyAt) 12 (i_call none 163 3 0 0 15) from s_callS (q_X12_isIn) t_X12_isIn m_X12_isIn dX12_isCompanyAt_12 w_545 w_546 w_544 w_490 h_X12_isIn ⟨(by decide +kernel), (by decide +kernel)⟩), ⟨(show xSim l P xMT (xMu q_X12_isCompanyAt) 15 (i_reti .boolean) from s_reti .boolean dX12_isCompanyAt_15 rfl), trivial⟩⟩⟩⟩⟩⟩⟩⟩⟩⟩⟩⟩
theorem o_X12_isCompanyAt {l : Launch} {P : xP} : xTabOK l P xMT (xMu q_X12_isCompanyAt) t_X12_isCompanyAt := xTabOK.of ⟨o_k_X12_isCompanyAt_0, trivial⟩
theorem dX12_isCopy_0 : decode cX12_isCopy 0 = .ok (.iload_n 1, 1) := by decide +kernel
theorem dX12_isCopy_1 : decode cX12_isCopy 1 = .ok (.i2l, 1) := by decide +kernel
theorem dX12_isCopy_2 : decode cX12_isCopy 2 = .ok (.lconst 0, 1) := by decide +kernel
theorem dX12_isCopy_3 : decode cX12_isCopy 3 = .ok (.aload_n 0, 1) := by decide +kernel
theorem dX12_isCopy_4 : decode cX12_isCopy 4 = .ok (.getfield 35, 3) := by decide +kernel
theorem dX12_isCopy_7 : decode cX12_isCopy 7 = .ok (.iconst 2, 1) := by decide +kernel
theorem dX12_isCopy_8 : decode cX12_isCopy 8 = .ok (.iaload, 1) := by decide +kernel
theorem dX12_isCopy_9 : decode cX12_isCopy 9 = .ok (.iconst 1, 1) := by decide +kernel
theorem dX12_isCopy_10 : decode cX12_isCopy 10 = .ok (.isub, 1) := by decide +kernel
theorem dX12_isCopy_11 : decode cX12_isCopy 11 = .ok (.i2l, 1) := by decide +kernel
theorem dX12_isCopy_12 : decode cX12_isCopy 12 = .ok (.invokestatic 107, 3) := by decide +kernel
theorem dX12_isCopy_15 : decode cX12_isCopy 15 = .ok (.ireturn, 1) := by decide +kernel
theorem o_k_X12_isCopy_0 {l : Launch} {P : xP} : xAll l P xMT (xMu q_X12_isCopy) 0 k_X12_isCopy_0 := ⟨(show xSim l P xMT (xMu q_X12_isCopy) 0 (i_load x_isI 1 1) from s_iload_n dX12_isCopy_0 rfl), ⟨(show xSim l P xMT (xMu q_X12_isCopy) 1 (i_i2l 2) from s_i2l dX12_isCopy_1), ⟨(show xSim l P xMT (xMu q_X12_isCopy) 2 (i_push (.inl (.long (Int64.ofNat 0))) 3) from s_lconst (Int64.ofNat 0) dX12_isCopy_2 (by decide +kernel)), ⟨(show xSim l P xMT (xMu q_X12_isCopy) 3 (i_load x_isA 0 4) from s_aload_n dX12_isCopy_3 rfl), ⟨(show xSim l P xMT (xMu q_X12_isCopy) 4 (i_getf 12 20 7) from s_getf 12 20 dX12_isCopy_4 (xvc_12) (by decide +kernel) xin_12 w_498), ⟨(show xSim l P xMT (xMu q_X12_isCopy) 7 (i_push (.inl (.int (Int32.ofNat 2))) 8) from s_iconst (Int32.ofNat 2) dX12_isCopy_7 (by decide +kernel)), ⟨(show xSim l P xMT (xMu q_X12_isCopy) 8 (i_iald 9) from s_iald dX12_isCopy_8), ⟨(show xSim l P xMT (xMu q_X12_isCopy) 9 (i_push (.inl (.int (Int32.ofNat 1))) 10) from s_iconst (Int32.ofNat 1) dX12_isCopy_9 (by decide +kernel)), ⟨(show xSim l P xMT (xMu q_X12_isCopy) 10 (i_bin32 (fun x y => x - y) 11) from s_isub dX12_isCopy_10), ⟨(show xSim l P xMT (xMu q_X12_isCopy) 11 (i_i2l 12) from s_i2l dX12_isCopy_11), ⟨(show xSim l P xMT (xMu q_X12_isCopy) 12 (i_call none 163 3 0 0 15) from s_callS (q_X12_isIn) t_X12_isIn m_X12_isIn dX12_isCopy_12 w_545 w_546 w_544 w_490 h_X12_isIn ⟨(by decide +kernel), (by decide +kernel)⟩), ⟨(show xSim l P xMT (xMu q_X12_isCopy) 15 (i_reti .boolean) from s_reti .boolean dX12_isCopy_15 rfl), trivial⟩⟩⟩⟩⟩⟩⟩⟩⟩⟩⟩⟩
theorem o_X12_isCopy {l : Launch} {P : xP} : xTabOK l P xMT (xMu q_X12_isCopy) t_X12_isCopy := xTabOK.of ⟨o_k_X12_isCopy_0, trivial⟩
theorem dX12_isFood_0 : decode cX12_isFood 0 = .ok (.aload_n 0, 1) := by decide +kernel
theorem dX12_isFood_1 : decode cX12_isFood 1 = .ok (.iload_n 1, 1) := by decide +kernel
theorem dX12_isFood_2 : decode cX12_isFood 2 = .ok (.iload_n 2, 1) := by decide +kernel
theorem dX12_isFood_3 : decode cX12_isFood 3 = .ok (.invokevirtual 296, 3) := by decide +kernel
theorem dX12_isFood_6 : decode cX12_isFood 6 = .ok (.iconst 1, 1) := by decide +kernel
theorem dX12_isFood_7 : decode cX12_isFood 7 = .ok (.if_icmp .eq 16, 3) := by decide +kernel
theorem dX12_isFood_10 : decode cX12_isFood 10 = .ok (.aload_n 0, 1) := by decide +kernel
theorem dX12_isFood_11 : decode cX12_isFood 11 = .ok (.iload_n 1, 1) := by decide +kernel
theorem dX12_isFood_12 : decode cX12_isFood 12 = .ok (.iload_n 2, 1) := by decide +kernel
theorem dX12_isFood_13 : decode cX12_isFood 13 = .ok (.invokevirtual 382, 3) := by decide +kernel
theorem dX12_isFood_16 : decode cX12_isFood 16 = .ok (.ifCond .ne 7, 3) := by decide +kernel
theorem dX12_isFood_19 : decode cX12_isFood 19 = .ok (.iconst 1, 1) := by decide +kernel
theorem dX12_isFood_20 : decode cX12_isFood 20 = .ok (.goto 4, 3) := by decide +kernel
theorem dX12_isFood_24 : decode cX12_isFood 24 = .ok (.ireturn, 1) := by decide +kernel
theorem o_k_X12_isFood_0 {l : Launch} {P : xP} : xAll l P xMT (xMu q_X12_isFood) 0 k_X12_isFood_0 := ⟨(show xSim l P xMT (xMu q_X12_isFood) 0 (i_load x_isA 0 1) from s_aload_n dX12_isFood_0 rfl), ⟨(show xSim l P xMT (xMu q_X12_isFood) 1 (i_load x_isI 1 2) from s_iload_n dX12_isFood_1 rfl), ⟨(show xSim l P xMT (xMu q_X12_isFood) 2 (i_load x_isI 2 3) from s_iload_n dX12_isFood_2 rfl), ⟨(show xSim l P xMT (xMu q_X12_isFood) 3 (i_call (some 12) 200 3 0 0 6) from s_callV 12 (q_X12_stateOf) t_X12_stateOf m_X12_stateOf dX12_isFood_3 rfl (xvc_12) w_531 w_532 w_533 w_530 w_490 h_X12_stateOf ⟨(by decide +kernel), (by decide +kernel)⟩), ⟨(show xSim l P xMT (xMu q_X12_isFood) 6 (i_push (.inl (.int (Int32.ofNat 1))) 7) from s_iconst (Int32.ofNat 1) dX12_isFood_6 (by decide +kernel)), ⟨(show xSim l P xMT (xMu q_X12_isFood) 7 (i_icmp 2 23 10) from s_icmp_eq 23 dX12_isFood_7 (by decide +kernel)), ⟨(show xSim l P xMT (xMu q_X12_isFood) 10 (i_load x_isA 0 11) from s_aload_n dX12_isFood_10 rfl), ⟨(show xSim l P xMT (xMu q_X12_isFood) 11 (i_load x_isI 1 12) from s_iload_n dX12_isFood_11 rfl), ⟨(show xSim l P xMT (xMu q_X12_isFood) 12 (i_load x_isI 2 13) from s_iload_n dX12_isFood_12 rfl), ⟨(show xSim l P xMT (xMu q_X12_isFood) 13 (i_call (some 12) 166 3 0 0 16) from s_callV 12 (q_X12_isWanted) t_X12_isWanted m_X12_isWanted dX12_isFood_13 rfl (xvc_12) w_595 w_596 w_597 w_594 w_490 h_X12_isWanted ⟨(by decide +kernel), (by decide +kernel)⟩), trivial⟩⟩⟩⟩⟩⟩⟩⟩⟩⟩
theorem o_k_X12_isFood_1 {l : Launch} {P : xP} : xAll l P xMT (xMu q_X12_isFood) 16 k_X12_isFood_1 := ⟨(show xSim l P xMT (xMu q_X12_isFood) 16 (i_if 2 19 23) from s_if_ne 23 dX12_isFood_16 (by decide +kernel)), ⟨(show xSim l P xMT (xMu q_X12_isFood) 19 (i_push (.inl (.int (Int32.ofNat 1))) 20) from s_iconst (Int32.ofNat 1) dX12_isFood_19 (by decide +kernel)), ⟨(show xSim l P xMT (xMu q_X12_isFood) 20 (i_jump 24) from s_goto 24 dX12_isFood_20 (by decide +kernel)), ⟨(show xSim l P xMT (xMu q_X12_isFood) 24 (i_reti .boolean) from s_reti .boolean dX12_isFood_24 rfl), trivial⟩⟩⟩⟩
theorem o_X12_isFood {l : Launch} {P : xP} : xTabOK l P xMT (xMu q_X12_isFood) t_X12_isFood := xTabOK.of ⟨o_k_X12_isFood_0, ⟨o_k_X12_isFood_1, trivial⟩⟩
theorem dX12_isIn_0 : decode cX12_isIn 0 = .ok (.lload_n 0, 1) := by decide +kernel
theorem dX12_isIn_1 : decode cX12_isIn 1 = .ok (.lload_n 2, 1) := by decide +kernel
theorem dX12_isIn_2 : decode cX12_isIn 2 = .ok (.lcmp, 1) := by decide +kernel
theorem dX12_isIn_3 : decode cX12_isIn 3 = .ok (.ifCond .lt 14, 3) := by decide +kernel
theorem dX12_isIn_6 : decode cX12_isIn 6 = .ok (.lload_n 0, 1) := by decide +kernel
theorem dX12_isIn_7 : decode cX12_isIn 7 = .ok (.lload 4, 2) := by decide +kernel
theorem dX12_isIn_9 : decode cX12_isIn 9 = .ok (.lcmp, 1) := by decide +kernel
theorem dX12_isIn_10 : decode cX12_isIn 10 = .ok (.ifCond .gt 7, 3) := by decide +kernel
theorem dX12_isIn_13 : decode cX12_isIn 13 = .ok (.iconst 1, 1) := by decide +kernel
theorem dX12_isIn_14 : decode cX12_isIn 14 = .ok (.goto 4, 3) := by decide +kernel
theorem dX12_isIn_17 : decode cX12_isIn 17 = .ok (.iconst 0, 1) := by decide +kernel
theorem dX12_isIn_18 : decode cX12_isIn 18 = .ok (.ireturn, 1) := by decide +kernel
theorem o_k_X12_isIn_0 {l : Launch} {P : xP} : xAll l P xMT (xMu q_X12_isIn) 0 k_X12_isIn_0 := ⟨(show xSim l P xMT (xMu q_X12_isIn) 0 (i_load x_isL 0 1) from s_lload_n dX12_isIn_0 rfl), ⟨(show xSim l P xMT (xMu q_X12_isIn) 1 (i_load x_isL 2 2) from s_lload_n dX12_isIn_1 rfl), ⟨(show xSim l P xMT (xMu q_X12_isIn) 2 (i_lcmp 3) from s_lcmp dX12_isIn_2), ⟨(show xSim l P xMT (xMu q_X12_isIn) 3 (i_if 0 17 6) from s_if_lt 17 dX12_isIn_3 (by decide +kernel)), ⟨(show xSim l P xMT (xMu q_X12_isIn) 6 (i_load x_isL 0 7) from s_lload_n dX12_isIn_6 rfl), ⟨(show xSim l P xMT (xMu q_X12_isIn) 7 (i_load x_isL 4 9) from s_lload dX12_isIn_7), ⟨(show xSim l P xMT (xMu q_X12_isIn) 9 (i_lcmp 10) from s_lcmp dX12_isIn_9), ⟨(show xSim l P xMT (xMu q_X12_isIn) 10 (i_if 1 17 13) from s_if_gt 17 dX12_isIn_10 (by decide +kernel)), ⟨(show xSim l P xMT (xMu q_X12_isIn) 13 (i_push (.inl (.int (Int32.ofNat 1))) 14) from s_iconst (Int32.ofNat 1) dX12_isIn_13 (by decide +kernel)), ⟨(show xSim l P xMT (xMu q_X12_isIn) 14 (i_jump 18) from s_goto 18 dX12_isIn_14 (by decide +kernel)), trivial⟩⟩⟩⟩⟩⟩⟩⟩⟩⟩
theorem o_k_X12_isIn_1 {l : Launch} {P : xP} : xAll l P xMT (xMu q_X12_isIn) 16 k_X12_isIn_1 := ⟨(show xSim l P xMT (xMu q_X12_isIn) 17 (i_push (.inl (.int (Int32.ofNat 0))) 18) from s_iconst (Int32.ofNat 0) dX12_isIn_17 (by decide +kernel)), ⟨(show xSim l P xMT (xMu q_X12_isIn) 18 (i_reti .boolean) from s_reti .boolean dX12_isIn_18 rfl), trivial⟩⟩
theorem o_X12_isIn {l : Launch} {P : xP} : xTabOK l P xMT (xMu q_X12_isIn) t_X12_isIn := xTabOK.of ⟨o_k_X12_isIn_0, ⟨o_k_X12_isIn_1, trivial⟩⟩
theorem dX12_isSign_0 : decode cX12_isSign 0 = .ok (.aload_n 0, 1) := by decide +kernel
theorem dX12_isSign_1 : decode cX12_isSign 1 = .ok (.getfield 123, 3) := by decide +kernel
theorem dX12_isSign_4 : decode cX12_isSign 4 = .ok (.iconst 3, 1) := by decide +kernel
theorem dX12_isSign_5 : decode cX12_isSign 5 = .ok (.if_icmp .ne 15, 3) := by decide +kernel
theorem dX12_isSign_20 : decode cX12_isSign 20 = .ok (.iconst 0, 1) := by decide +kernel
theorem dX12_isSign_21 : decode cX12_isSign 21 = .ok (.ireturn, 1) := by decide +kernel
theorem o_k_X12_isSign_0 {l : Launch} {P : xP} : xAll l P xMT (xMu q_X12_isSign) 0 k_X12_isSign_0 := ⟨(show xSim l P xMT (xMu q_X12_isSign) 0 (i_load x_isA 0 1) from s_aload_n dX12_isSign_0 rfl), ⟨(show xSim l P xMT (xMu q_X12_isSign) 1 (i_getf 12 14 4) from s_getf 12 14 dX12_isSign_1 (xvc_12) (by decide +kernel) xin_12 w_598), ⟨(show xSim l P xMT (xMu q_X12_isSign) 4 (i_push (.inl (.int (Int32.ofNat 3))) 5) from s_iconst (Int32.ofNat 3) dX12_isSign_4 (by decide +kernel)), ⟨(show xSim l P xMT (xMu q_X12_isSign) 5 (i_icmp 2 8 20) from s_icmp_ne 20 dX12_isSign_5 (by decide +kernel)), trivial⟩⟩⟩⟩
theorem o_k_X12_isSign_1 {l : Launch} {P : xP} : xAll l P xMT (xMu q_X12_isSign) 16 k_X12_isSign_1 := ⟨(show xSim l P xMT (xMu q_X12_isSign) 20 (i_push (.inl (.int (Int32.ofNat 0))) 21) from s_iconst (Int32.ofNat 0) dX12_isSign_20 (by decide +kernel)), ⟨(show xSim l P xMT (xMu q_X12_isSign) 21 (i_reti .boolean) from s_reti .boolean dX12_isSign_21 rfl), trivial⟩⟩
theorem o_X12_isSign {l : Launch} {P : xP} : xTabOK l P xMT (xMu q_X12_isSign) t_X12_isSign := xTabOK.of ⟨o_k_X12_isSign_0, ⟨o_k_X12_isSign_1, trivial⟩⟩
theorem dX12_isTray_0 : decode cX12_isTray 0 = .ok (.iload_n 1, 1) := by decide +kernel
theorem dX12_isTray_1 : decode cX12_isTray 1 = .ok (.i2l, 1) := by decide +kernel
theorem dX12_isTray_2 : decode cX12_isTray 2 = .ok (.lconst 0, 1) := by decide +kernel
theorem dX12_isTray_3 : decode cX12_isTray 3 = .ok (.ldc2_w 105, 3) := by decide +kernel
theorem dX12_isTray_6 : decode cX12_isTray 6 = .ok (.invokestatic 107, 3) := by decide +kernel
theorem dX12_isTray_9 : decode cX12_isTray 9 = .ok (.ireturn, 1) := by decide +kernel
theorem o_k_X12_isTray_0 {l : Launch} {P : xP} : xAll l P xMT (xMu q_X12_isTray) 0 k_X12_isTray_0 := ⟨(show xSim l P xMT (xMu q_X12_isTray) 0 (i_load x_isI 1 1) from s_iload_n dX12_isTray_0 rfl), ⟨(show xSim l P xMT (xMu q_X12_isTray) 1 (i_i2l 2) from s_i2l dX12_isTray_1), ⟨(show xSim l P xMT (xMu q_X12_isTray) 2 (i_push (.inl (.long (Int64.ofNat 0))) 3) from s_lconst (Int64.ofNat 0) dX12_isTray_2 (by decide +kernel)), ⟨(show xSim l P xMT (xMu q_X12_isTray) 3 (i_push (.inl (.long (Int64.ofNat 3))) 6) from s_ldc2 (Int64.ofNat 3) dX12_isTray_3 w_543), ⟨(show xSim l P xMT (xMu q_X12_isTray) 6 (i_call none 163 3 0 0 9) from s_callS (q_X12_isIn) t_X12_isIn m_X12_isIn dX12_isTray_6 w_545 w_546 w_544 w_490 h_X12_isIn ⟨(by decide +kernel), (by decide +kernel)⟩), ⟨(show xSim l P xMT (xMu q_X12_isTray) 9 (i_reti .boolean) from s_reti .boolean dX12_isTray_9 rfl), trivial⟩⟩⟩⟩⟩⟩
theorem o_X12_isTray {l : Launch} {P : xP} : xTabOK l P xMT (xMu q_X12_isTray) t_X12_isTray := xTabOK.of ⟨o_k_X12_isTray_0, trivial⟩
theorem dX12_isWanted_0 : decode cX12_isWanted 0 = .ok (.iconst 0, 1) := by decide +kernel
theorem dX12_isWanted_1 : decode cX12_isWanted 1 = .ok (.istore_n 3, 1) := by decide +kernel
theorem dX12_isWanted_2 : decode cX12_isWanted 2 = .ok (.iload_n 3, 1) := by decide +kernel
theorem dX12_isWanted_3 : decode cX12_isWanted 3 = .ok (.aload_n 0, 1) := by decide +kernel
theorem dX12_isWanted_4 : decode cX12_isWanted 4 = .ok (.getfield 35, 3) := by decide +kernel
theorem dX12_isWanted_7 : decode cX12_isWanted 7 = .ok (.iconst 3, 1) := by decide +kernel
theorem dX12_isWanted_8 : decode cX12_isWanted 8 = .ok (.iaload, 1) := by decide +kernel
theorem dX12_isWanted_9 : decode cX12_isWanted 9 = .ok (.if_icmp .ge 53, 3) := by decide +kernel
theorem dX12_isWanted_62 : decode cX12_isWanted 62 = .ok (.iconst 0, 1) := by decide +kernel
theorem dX12_isWanted_63 : decode cX12_isWanted 63 = .ok (.ireturn, 1) := by decide +kernel
theorem o_k_X12_isWanted_0 {l : Launch} {P : xP} : xAll l P xMT (xMu q_X12_isWanted) 0 k_X12_isWanted_0 := ⟨(show xSim l P xMT (xMu q_X12_isWanted) 0 (i_push (.inl (.int (Int32.ofNat 0))) 1) from s_iconst (Int32.ofNat 0) dX12_isWanted_0 (by decide +kernel)), ⟨(show xSim l P xMT (xMu q_X12_isWanted) 1 (i_store1 x_isI 4 3 2) from s_istore_n dX12_isWanted_1 rfl), ⟨(show xSim l P xMT (xMu q_X12_isWanted) 2 (i_load x_isI 3 3) from s_iload_n dX12_isWanted_2 rfl), ⟨(show xSim l P xMT (xMu q_X12_isWanted) 3 (i_load x_isA 0 4) from s_aload_n dX12_isWanted_3 rfl), ⟨(show xSim l P xMT (xMu q_X12_isWanted) 4 (i_getf 12 20 7) from s_getf 12 20 dX12_isWanted_4 (xvc_12) (by decide +kernel) xin_12 w_498), ⟨(show xSim l P xMT (xMu q_X12_isWanted) 7 (i_push (.inl (.int (Int32.ofNat 3))) 8) from s_iconst (Int32.ofNat 3) dX12_isWanted_7 (by decide +kernel)), ⟨(show xSim l P xMT (xMu q_X12_isWanted) 8 (i_iald 9) from s_iald dX12_isWanted_8), ⟨(show xSim l P xMT (xMu q_X12_isWanted) 9 (i_icmp 0 12 62) from s_icmp_ge 62 dX12_isWanted_9 (by decide +kernel)), trivial⟩⟩⟩⟩⟩⟩⟩⟩
theorem o_k_X12_isWanted_1 {l : Launch} {P : xP} : xAll l P xMT (xMu q_X12_isWanted) 16 k_X12_isWanted_1 := trivial
theorem o_k_X12_isWanted_2 {l : Launch} {P : xP} : xAll l P xMT (xMu q_X12_isWanted) 32 k_X12_isWanted_2 := trivial
theorem o_k_X12_isWanted_3 {l : Launch} {P : xP} : xAll l P xMT (xMu q_X12_isWanted) 48 k_X12_isWanted_3 := ⟨(show xSim l P xMT (xMu q_X12_isWanted) 62 (i_push (.inl (.int (Int32.ofNat 0))) 63) from s_iconst (Int32.ofNat 0) dX12_isWanted_62 (by decide +kernel)), ⟨(show xSim l P xMT (xMu q_X12_isWanted) 63 (i_reti .boolean) from s_reti .boolean dX12_isWanted_63 rfl), trivial⟩⟩
theorem o_X12_isWanted {l : Launch} {P : xP} : xTabOK l P xMT (xMu q_X12_isWanted) t_X12_isWanted := xTabOK.of ⟨o_k_X12_isWanted_0, ⟨o_k_X12_isWanted_1, ⟨o_k_X12_isWanted_2, ⟨o_k_X12_isWanted_3, trivial⟩⟩⟩⟩
theorem dX12_isWell_0 : decode cX12_isWell 0 = .ok (.aload_n 0, 1) := by decide +kernel
theorem dX12_isWell_1 : decode cX12_isWell 1 = .ok (.aload_n 0, 1) := by decide +kernel
theorem dX12_isWell_2 : decode cX12_isWell 2 = .ok (.getfield 198, 3) := by decide +kernel
theorem dX12_isWell_5 : decode cX12_isWell 5 = .ok (.putfield 28, 3) := by decide +kernel
theorem dX12_isWell_8 : decode cX12_isWell 8 = .ok (.aload_n 0, 1) := by decide +kernel
theorem dX12_isWell_9 : decode cX12_isWell 9 = .ok (.aload_n 0, 1) := by decide +kernel
theorem dX12_isWell_10 : decode cX12_isWell 10 = .ok (.getfield 198, 3) := by decide +kernel
theorem dX12_isWell_13 : decode cX12_isWell 13 = .ok (.ifCond .ne 7, 3) := by decide +kernel
theorem dX12_isWell_16 : decode cX12_isWell 16 = .ok (.iconst (-1), 1) := by decide +kernel
theorem dX12_isWell_17 : decode cX12_isWell 17 = .ok (.goto 7, 3) := by decide +kernel
theorem dX12_isWell_20 : decode cX12_isWell 20 = .ok (.aload_n 0, 1) := by decide +kernel
theorem dX12_isWell_21 : decode cX12_isWell 21 = .ok (.getfield 201, 3) := by decide +kernel
theorem dX12_isWell_24 : decode cX12_isWell 24 = .ok (.putfield 32, 3) := by decide +kernel
theorem dX12_isWell_27 : decode cX12_isWell 27 = .ok (.aload_n 0, 1) := by decide +kernel
theorem dX12_isWell_28 : decode cX12_isWell 28 = .ok (.getfield 198, 3) := by decide +kernel
theorem dX12_isWell_31 : decode cX12_isWell 31 = .ok (.ifCond .eq 12, 3) := by decide +kernel
theorem dX12_isWell_34 : decode cX12_isWell 34 = .ok (.aload_n 0, 1) := by decide +kernel
theorem dX12_isWell_35 : decode cX12_isWell 35 = .ok (.bipush 10, 2) := by decide +kernel
theorem dX12_isWell_37 : decode cX12_isWell 37 = .ok (.invokevirtual 87, 3) := by decide +kernel
theorem dX12_isWell_40 : decode cX12_isWell 40 = .ok (.ifCond .eq 7, 3) := by decide +kernel
theorem dX12_isWell_43 : decode cX12_isWell 43 = .ok (.iconst 1, 1) := by decide +kernel
theorem dX12_isWell_44 : decode cX12_isWell 44 = .ok (.goto 4, 3) := by decide +kernel
theorem dX12_isWell_47 : decode cX12_isWell 47 = .ok (.iconst 0, 1) := by decide +kernel
theorem dX12_isWell_48 : decode cX12_isWell 48 = .ok (.ireturn, 1) := by decide +kernel
theorem o_k_X12_isWell_0 {l : Launch} {P : xP} : xAll l P xMT (xMu q_X12_isWell) 0 k_X12_isWell_0 := ⟨(show xSim l P xMT (xMu q_X12_isWell) 0 (i_load x_isA 0 1) from s_aload_n dX12_isWell_0 rfl), ⟨(show xSim l P xMT (xMu q_X12_isWell) 1 (i_load x_isA 0 2) from s_aload_n dX12_isWell_1 rfl), ⟨(show xSim l P xMT (xMu q_X12_isWell) 2 (i_getf 12 12 5) from s_getf 12 12 dX12_isWell_2 (xvc_12) (by decide +kernel) xin_12 w_554), ⟨(show xSim l P xMT (xMu q_X12_isWell) 5 (i_putf 12 10 .int 8) from s_putf 12 10 tyX12 .int dX12_isWell_5 (xvc_12) (by decide +kernel) xin_12 w_556 tyX12_ok nmX12 rfl rfl), ⟨(show xSim l P xMT (xMu q_X12_isWell) 8 (i_load x_isA 0 9) from s_aload_n dX12_isWell_8 rfl), ⟨(show xSim l P xMT (xMu q_X12_isWell) 9 (i_load x_isA 0 10) from s_aload_n dX12_isWell_9 rfl), ⟨(show xSim l P xMT (xMu q_X12_isWell) 10 (i_getf 12 12 13) from s_getf 12 12 dX12_isWell_10 (xvc_12) (by decide +kernel) xin_12 w_554), ⟨(show xSim l P xMT (xMu q_X12_isWell) 13 (i_if 2 16 20) from s_if_ne 20 dX12_isWell_13 (by decide +kernel)), trivial⟩⟩⟩⟩⟩⟩⟩⟩
theorem o_k_X12_isWell_1 {l : Launch} {P : xP} : xAll l P xMT (xMu q_X12_isWell) 16 k_X12_isWell_1 := ⟨(show xSim l P xMT (xMu q_X12_isWell) 16 (i_push (.inl (.int (Int32.ofNat 4294967295))) 17) from s_iconst (Int32.ofNat 4294967295) dX12_isWell_16 (by decide +kernel)), ⟨(show xSim l P xMT (xMu q_X12_isWell) 17 (i_jump 24) from s_goto 24 dX12_isWell_17 (by decide +kernel)), ⟨(show xSim l P xMT (xMu q_X12_isWell) 20 (i_load x_isA 0 21) from s_aload_n dX12_isWell_20 rfl), ⟨(show xSim l P xMT (xMu q_X12_isWell) 21 (i_getf 12 13 24) from s_getf 12 13 dX12_isWell_21 (xvc_12) (by decide +kernel) xin_12 w_555), ⟨(show xSim l P xMT (xMu q_X12_isWell) 24 (i_putf 12 11 .int 27) from s_putf 12 11 tyX12 .int dX12_isWell_24 (xvc_12) (by decide +kernel) xin_12 w_557 tyX12_ok nmX12 rfl rfl), ⟨(show xSim l P xMT (xMu q_X12_isWell) 27 (i_load x_isA 0 28) from s_aload_n dX12_isWell_27 rfl), ⟨(show xSim l P xMT (xMu q_X12_isWell) 28 (i_getf 12 12 31) from s_getf 12 12 dX12_isWell_28 (xvc_12) (by decide +kernel) xin_12 w_554), ⟨(show xSim l P xMT (xMu q_X12_isWell) 31 (i_if 2 43 34) from s_if_eq 43 dX12_isWell_31 (by decide +kernel)), trivial⟩⟩⟩⟩⟩⟩⟩⟩
theorem o_k_X12_isWell_2 {l : Launch} {P : xP} : xAll l P xMT (xMu q_X12_isWell) 32 k_X12_isWell_2 := ⟨(show xSim l P xMT (xMu q_X12_isWell) 34 (i_load x_isA 0 35) from s_aload_n dX12_isWell_34 rfl), ⟨(show xSim l P xMT (xMu q_X12_isWell) 35 (i_push (.inl (.int (Int32.ofNat 10))) 37) from s_bipush (Int32.ofNat 10) dX12_isWell_35 (by decide +kernel)), ⟨(show xSim l P xMT (xMu q_X12_isWell) 37 (i_call (some 12) 183 2 0 0 40) from s_callV 12 (q_X12_no) t_X12_no m_X12_no dX12_isWell_37 rfl (xvc_12) w_495 w_496 w_497 w_494 w_490 h_X12_no ⟨(by decide +kernel), (by decide +kernel)⟩), ⟨(show xSim l P xMT (xMu q_X12_isWell) 40 (i_if 2 47 43) from s_if_eq 47 dX12_isWell_40 (by decide +kernel)), ⟨(show xSim l P xMT (xMu q_X12_isWell) 43 (i_push (.inl (.int (Int32.ofNat 1))) 44) from s_iconst (Int32.ofNat 1) dX12_isWell_43 (by decide +kernel)), ⟨(show xSim l P xMT (xMu q_X12_isWell) 44 (i_jump 48) from s_goto 48 dX12_isWell_44 (by decide +kernel)), ⟨(show xSim l P xMT (xMu q_X12_isWell) 47 (i_push (.inl (.int (Int32.ofNat 0))) 48) from s_iconst (Int32.ofNat 0) dX12_isWell_47 (by decide +kernel)), trivial⟩⟩⟩⟩⟩⟩⟩
theorem o_k_X12_isWell_3 {l : Launch} {P : xP} : xAll l P xMT (xMu q_X12_isWell) 48 k_X12_isWell_3 := ⟨(show xSim l P xMT (xMu q_X12_isWell) 48 (i_reti .boolean) from s_reti .boolean dX12_isWell_48 rfl), trivial⟩
theorem o_X12_isWell {l : Launch} {P : xP} : xTabOK l P xMT (xMu q_X12_isWell) t_X12_isWell := xTabOK.of ⟨o_k_X12_isWell_0, ⟨o_k_X12_isWell_1, ⟨o_k_X12_isWell_2, ⟨o_k_X12_isWell_3, trivial⟩⟩⟩⟩
theorem dX12_isWide_0 : decode cX12_isWide 0 = .ok (.aload_n 0, 1) := by decide +kernel
theorem dX12_isWide_1 : decode cX12_isWide 1 = .ok (.bipush 119, 2) := by decide +kernel
theorem dX12_isWide_3 : decode cX12_isWide 3 = .ok (.bipush 105, 2) := by decide +kernel
theorem dX12_isWide_5 : decode cX12_isWide 5 = .ok (.bipush 100, 2) := by decide +kernel
theorem dX12_isWide_7 : decode cX12_isWide 7 = .ok (.bipush 101, 2) := by decide +kernel
theorem dX12_isWide_9 : decode cX12_isWide 9 = .ok (.iconst 0, 1) := by decide +kernel
theorem dX12_isWide_10 : decode cX12_isWide 10 = .ok (.iconst 0, 1) := by decide +kernel
theorem dX12_isWide_11 : decode cX12_isWide 11 = .ok (.invokestatic 148, 3) := by decide +kernel
theorem dX12_isWide_14 : decode cX12_isWide 14 = .ok (.invokevirtual 152, 3) := by decide +kernel
theorem dX12_isWide_17 : decode cX12_isWide 17 = .ok (.ireturn, 1) := by decide +kernel
theorem o_k_X12_isWide_0 {l : Launch} {P : xP} : xAll l P xMT (xMu q_X12_isWide) 0 k_X12_isWide_0 := ⟨(show xSim l P xMT (xMu q_X12_isWide) 0 (i_load x_isA 0 1) from s_aload_n dX12_isWide_0 rfl), ⟨(show xSim l P xMT (xMu q_X12_isWide) 1 (i_push (.inl (.int (Int32.ofNat 119))) 3) from s_bipush (Int32.ofNat 119) dX12_isWide_1 (by decide +kernel)), ⟨(show xSim l P xMT (xMu q_X12_isWide) 3 (i_push (.inl (.int (Int32.ofNat 105))) 5) from s_bipush (Int32.ofNat 105) dX12_isWide_3 (by decide +kernel)), ⟨(show xSim l P xMT (xMu q_X12_isWide) 5 (i_push (.inl (.int (Int32.ofNat 100))) 7) from s_bipush (Int32.ofNat 100) dX12_isWide_5 (by decide +kernel)), ⟨(show xSim l P xMT (xMu q_X12_isWide) 7 (i_push (.inl (.int (Int32.ofNat 101))) 9) from s_bipush (Int32.ofNat 101) dX12_isWide_7 (by decide +kernel)), ⟨(show xSim l P xMT (xMu q_X12_isWide) 9 (i_push (.inl (.int (Int32.ofNat 0))) 10) from s_iconst (Int32.ofNat 0) dX12_isWide_9 (by decide +kernel)), ⟨(show xSim l P xMT (xMu q_X12_isWide) 10 (i_push (.inl (.int (Int32.ofNat 0))) 11) from s_iconst (Int32.ofNat 0) dX12_isWide_10 (by decide +kernel)), ⟨(show xSim l P xMT (xMu q_X12_isWide) 11 (i_call none 198 6 0 0 14) from s_callS (q_X12_spelled) t_X12_spelled m_X12_spelled dX12_isWide_11 w_600 w_601 w_599 w_490 h_X12_spelled ⟨(by decide +kernel), (by decide +kernel)⟩), ⟨(show xSim l P xMT (xMu q_X12_isWide) 14 (i_call (some 12) 169 2 0 0 17) from s_callV 12 (q_X12_isWord) t_X12_isWord m_X12_isWord dX12_isWide_14 rfl (xvc_12) w_603 w_604 w_605 w_602 w_490 h_X12_isWord ⟨(by decide +kernel), (by decide +kernel)⟩), trivial⟩⟩⟩⟩⟩⟩⟩⟩⟩
theorem o_k_X12_isWide_1 {l : Launch} {P : xP} : xAll l P xMT (xMu q_X12_isWide) 16 k_X12_isWide_1 := ⟨(show xSim l P xMT (xMu q_X12_isWide) 17 (i_reti .boolean) from s_reti .boolean dX12_isWide_17 rfl), trivial⟩
theorem o_X12_isWide {l : Launch} {P : xP} : xTabOK l P xMT (xMu q_X12_isWide) t_X12_isWide := xTabOK.of ⟨o_k_X12_isWide_0, ⟨o_k_X12_isWide_1, trivial⟩⟩
theorem dX12_isWord_0 : decode cX12_isWord 0 = .ok (.aload_n 0, 1) := by decide +kernel
theorem dX12_isWord_1 : decode cX12_isWord 1 = .ok (.getfield 123, 3) := by decide +kernel
theorem dX12_isWord_4 : decode cX12_isWord 4 = .ok (.iconst 1, 1) := by decide +kernel
theorem dX12_isWord_5 : decode cX12_isWord 5 = .ok (.if_icmp .ne 16, 3) := by decide +kernel
theorem dX12_isWord_21 : decode cX12_isWord 21 = .ok (.iconst 0, 1) := by decide +kernel
theorem dX12_isWord_22 : decode cX12_isWord 22 = .ok (.ireturn, 1) := by decide +kernel
theorem o_k_X12_isWord_0 {l : Launch} {P : xP} : xAll l P xMT (xMu q_X12_isWord) 0 k_X12_isWord_0 := ⟨(show xSim l P xMT (xMu q_X12_isWord) 0 (i_load x_isA 0 1) from s_aload_n dX12_isWord_0 rfl), ⟨(show xSim l P xMT (xMu q_X12_isWord) 1 (i_getf 12 14 4) from s_getf 12 14 dX12_isWord_1 (xvc_12) (by decide +kernel) xin_12 w_598), ⟨(show xSim l P xMT (xMu q_X12_isWord) 4 (i_push (.inl (.int (Int32.ofNat 1))) 5) from s_iconst (Int32.ofNat 1) dX12_isWord_4 (by decide +kernel)), ⟨(show xSim l P xMT (xMu q_X12_isWord) 5 (i_icmp 2 8 21) from s_icmp_ne 21 dX12_isWord_5 (by decide +kernel)), trivial⟩⟩⟩⟩
theorem o_k_X12_isWord_1 {l : Launch} {P : xP} : xAll l P xMT (xMu q_X12_isWord) 16 k_X12_isWord_1 := ⟨(show xSim l P xMT (xMu q_X12_isWord) 21 (i_push (.inl (.int (Int32.ofNat 0))) 22) from s_iconst (Int32.ofNat 0) dX12_isWord_21 (by decide +kernel)), ⟨(show xSim l P xMT (xMu q_X12_isWord) 22 (i_reti .boolean) from s_reti .boolean dX12_isWord_22 rfl), trivial⟩⟩
theorem o_X12_isWord {l : Launch} {P : xP} : xTabOK l P xMT (xMu q_X12_isWord) t_X12_isWord := xTabOK.of ⟨o_k_X12_isWord_0, ⟨o_k_X12_isWord_1, trivial⟩⟩
theorem dX12_land_0 : decode cX12_land 0 = .ok (.aload_n 0, 1) := by decide +kernel
theorem dX12_land_1 : decode cX12_land 1 = .ok (.iconst 0, 1) := by decide +kernel
theorem dX12_land_2 : decode cX12_land 2 = .ok (.putfield 72, 3) := by decide +kernel
theorem dX12_land_5 : decode cX12_land 5 = .ok (.aload_n 0, 1) := by decide +kernel
theorem dX12_land_6 : decode cX12_land 6 = .ok (.iconst 0, 1) := by decide +kernel
theorem dX12_land_7 : decode cX12_land 7 = .ok (.putfield 75, 3) := by decide +kernel
theorem dX12_land_10 : decode cX12_land 10 = .ok (.aload_n 0, 1) := by decide +kernel
theorem dX12_land_11 : decode cX12_land 11 = .ok (.iload_n 1, 1) := by decide +kernel
theorem dX12_land_12 : decode cX12_land 12 = .ok (.sipush 900, 3) := by decide +kernel
theorem dX12_land_15 : decode cX12_land 15 = .ok (.invokevirtual 247, 3) := by decide +kernel
theorem dX12_land_18 : decode cX12_land 18 = .ok (.ifCond .ne 5, 3) := by decide +kernel
theorem dX12_land_21 : decode cX12_land 21 = .ok (.iconst (-1), 1) := by decide +kernel
theorem dX12_land_22 : decode cX12_land 22 = .ok (.ireturn, 1) := by decide +kernel
theorem dX12_land_23 : decode cX12_land 23 = .ok (.iconst 0, 1) := by decide +kernel
theorem dX12_land_24 : decode cX12_land 24 = .ok (.istore_n 2, 1) := by decide +kernel
theorem dX12_land_25 : decode cX12_land 25 = .ok (.iload_n 2, 1) := by decide +kernel
theorem dX12_land_26 : decode cX12_land 26 = .ok (.sipush 550, 3) := by decide +kernel
theorem dX12_land_29 : decode cX12_land 29 = .ok (.if_icmp .ge 20, 3) := by decide +kernel
theorem dX12_land_32 : decode cX12_land 32 = .ok (.aload_n 0, 1) := by decide +kernel
theorem dX12_land_33 : decode cX12_land 33 = .ok (.getfield 35, 3) := by decide +kernel
theorem dX12_land_36 : decode cX12_land 36 = .ok (.sipush 2200, 3) := by decide +kernel
theorem dX12_land_39 : decode cX12_land 39 = .ok (.iload_n 2, 1) := by decide +kernel
theorem dX12_land_40 : decode cX12_land 40 = .ok (.iadd, 1) := by decide +kernel
theorem dX12_land_41 : decode cX12_land 41 = .ok (.iconst 0, 1) := by decide +kernel
theorem dX12_land_42 : decode cX12_land 42 = .ok (.iastore, 1) := by decide +kernel
theorem dX12_land_43 : decode cX12_land 43 = .ok (.iinc 2 1, 3) := by decide +kernel
theorem dX12_land_46 : decode cX12_land 46 = .ok (.goto (-21), 3) := by decide +kernel
theorem dX12_land_49 : decode cX12_land 49 = .ok (.aload_n 0, 1) := by decide +kernel
theorem dX12_land_50 : decode cX12_land 50 = .ok (.getfield 35, 3) := by decide +kernel
theorem dX12_land_53 : decode cX12_land 53 = .ok (.sipush 2202, 3) := by decide +kernel
theorem dX12_land_56 : decode cX12_land 56 = .ok (.iconst 1, 1) := by decide +kernel
theorem dX12_land_57 : decode cX12_land 57 = .ok (.iastore, 1) := by decide +kernel
theorem dX12_land_58 : decode cX12_land 58 = .ok (.aload_n 0, 1) := by decide +kernel
theorem dX12_land_59 : decode cX12_land 59 = .ok (.iconst 0, 1) := by decide +kernel
theorem dX12_land_60 : decode cX12_land 60 = .ok (.putfield 237, 3) := by decide +kernel
theorem dX12_land_63 : decode cX12_land 63 = .ok (.aload_n 0, 1) := by decide +kernel
theorem dX12_land_64 : decode cX12_land 64 = .ok (.aload_n 0, 1) := by decide +kernel
theorem dX12_land_65 : decode cX12_land 65 = .ok (.invokevirtual 160, 3) := by decide +kernel
theorem dX12_land_68 : decode cX12_land 68 = .ok (.invokevirtual 227, 3) := by decide +kernel
theorem dX12_land_71 : decode cX12_land 71 = .ok (.aload_n 0, 1) := by decide +kernel
theorem dX12_land_72 : decode cX12_land 72 = .ok (.getfield 35, 3) := by decide +kernel
theorem dX12_land_75 : decode cX12_land 75 = .ok (.sipush 2200, 3) := by decide +kernel
theorem dX12_land_78 : decode cX12_land 78 = .ok (.aload_n 0, 1) := by decide +kernel
theorem dX12_land_79 : decode cX12_land 79 = .ok (.iconst 2, 1) := by decide +kernel
theorem dX12_land_80 : decode cX12_land 80 = .ok (.bipush 8, 2) := by decide +kernel
theorem dX12_land_82 : decode cX12_land 82 = .ok (.invokevirtual 231, 3) := by decide +kernel
theorem dX12_land_85 : decode cX12_land 85 = .ok (.iastore, 1) := by decide +kernel
theorem dX12_land_86 : decode cX12_land 86 = .ok (.aload_n 0, 1) := by decide +kernel
theorem dX12_land_87 : decode cX12_land 87 = .ok (.aload_n 0, 1) := by decide +kernel
theorem dX12_land_88 : decode cX12_land 88 = .ok (.bipush 59, 2) := by decide +kernel
theorem dX12_land_90 : decode cX12_land 90 = .ok (.invokevirtual 224, 3) := by decide +kernel
theorem dX12_land_93 : decode cX12_land 93 = .ok (.invokevirtual 227, 3) := by decide +kernel
theorem dX12_land_96 : decode cX12_land 96 = .ok (.aload_n 0, 1) := by decide +kernel
theorem dX12_land_97 : decode cX12_land 97 = .ok (.getfield 198, 3) := by decide +kernel
theorem dX12_land_100 : decode cX12_land 100 = .ok (.ifCond .ne 17, 3) := by decide +kernel
theorem dX12_land_117 : decode cX12_land 117 = .ok (.aload_n 0, 1) := by decide +kernel
theorem dX12_land_118 : decode cX12_land 118 = .ok (.getfield 198, 3) := by decide +kernel
theorem dX12_land_121 : decode cX12_land 121 = .ok (.ifCond .ne 18, 3) := by decide +kernel
theorem dX12_land_139 : decode cX12_land 139 = .ok (.aload_n 0, 1) := by decide +kernel
theorem dX12_land_140 : decode cX12_land 140 = .ok (.getfield 198, 3) := by decide +kernel
theorem dX12_land_143 : decode cX12_land 143 = .ok (.ifCond .ne 69, 3) := by decide +kernel
theorem dX12_land_212 : decode cX12_land 212 = .ok (.aload_n 0, 1) := by decide +kernel
theorem dX12_land_213 : decode cX12_land 213 = .ok (.invokevirtual 263, 3) := by decide +kernel
theorem dX12_land_216 : decode cX12_land 216 = .ok (.ifCond .ne 5, 3) := by decide +kernel
theorem dX12_land_219 : decode cX12_land 219 = .ok (.iconst (-1), 1) := by decide +kernel
theorem dX12_land_220 : decode cX12_land 220 = .ok (.ireturn, 1) := by decide +kernel
theorem o_k_X12_land_0 {l : Launch} {P : xP} : xAll l P xMT (xMu q_X12_land) 0 k_X12_land_0 := ⟨(show xSim l P xMT (xMu q_X12_land) 0 (i_load x_isA 0 1) from s_aload_n dX12_land_0 rfl), ⟨(show xSim l P xMT (xMu q_X12_land) 1 (i_push (.inl (.int (Int32.ofNat 0))) 2) from s_iconst (Int32.ofNat 0) dX12_land_1 (by decide +kernel)), ⟨(show xSim l P xMT (xMu q_X12_land) 2 (i_putf 12 1 .int 5) from s_putf 12 1 tyX12 .int dX12_land_2 (xvc_12) (by decide +kernel) xin_12 w_487 tyX12_ok nmX12 rfl rfl), ⟨(show xSim l P xMT (xMu q_X12_land) 5 (i_load x_isA 0 6) from s_aload_n dX12_land_5 rfl), ⟨(show xSim l P xMT (xMu q_X12_land) 6 (i_push (.inl (.int (Int32.ofNat 0))) 7) from s_iconst (Int32.ofNat 0) dX12_land_6 (by decide +kernel)), ⟨(show xSim l P xMT (xMu q_X12_land) 7 (i_putf 12 0 .int 10) from s_putf 12 0 tyX12 .int dX12_land_7 (xvc_12) (by decide +kernel) xin_12 w_488 tyX12_ok nmX12 rfl rfl), ⟨(show xSim l P xMT (xMu q_X12_land) 10 (i_load x_isA 0 11) from s_aload_n dX12_land_10 rfl), ⟨(show xSim l P xMT (xMu q_X12_land) 11 (i_load x_isI 1 12) from s_iload_n dX12_land_11 rfl), ⟨(show xSim l P xMT (xMu q_X12_land) 12 (i_push (.inl (.int (Int32.ofNat 900))) 15) from s_sipush (Int32.ofNat 900) dX12_land_12 (by decide +kernel)), ⟨(show xSim l P xMT (xMu q_X12_land) 15 (i_call (some 12) 185 3 0 0 18) from s_callV 12 (q_X12_opens) t_X12_opens m_X12_opens dX12_land_15 rfl (xvc_12) w_607 w_608 w_609 w_606 w_490 h_X12_opens ⟨(by decide +kernel), (by decide +kernel)⟩), trivial⟩⟩⟩⟩⟩⟩⟩⟩⟩⟩
theorem o_k_X12_land_1 {l : Launch} {P : xP} : xAll l P xMT (xMu q_X12_land) 16 k_X12_land_1 := ⟨(show xSim l P xMT (xMu q_X12_land) 18 (i_if 2 21 23) from s_if_ne 23 dX12_land_18 (by decide +kernel)), ⟨(show xSim l P xMT (xMu q_X12_land) 21 (i_push (.inl (.int (Int32.ofNat 4294967295))) 22) from s_iconst (Int32.ofNat 4294967295) dX12_land_21 (by decide +kernel)), ⟨(show xSim l P xMT (xMu q_X12_land) 22 (i_reti .int) from s_reti .int dX12_land_22 rfl), ⟨(show xSim l P xMT (xMu q_X12_land) 23 (i_push (.inl (.int (Int32.ofNat 0))) 24) from s_iconst (Int32.ofNat 0) dX12_land_23 (by decide +kernel)), ⟨(show xSim l P xMT (xMu q_X12_land) 24 (i_store1 x_isI 3 2 25) from s_istore_n dX12_land_24 rfl), ⟨(show xSim l P xMT (xMu q_X12_land) 25 (i_load x_isI 2 26) from s_iload_n dX12_land_25 rfl), ⟨(show xSim l P xMT (xMu q_X12_land) 26 (i_push (.inl (.int (Int32.ofNat 550))) 29) from s_sipush (Int32.ofNat 550) dX12_land_26 (by decide +kernel)), ⟨(show xSim l P xMT (xMu q_X12_land) 29 (i_icmp 0 32 49) from s_icmp_ge 49 dX12_land_29 (by decide +kernel)), trivial⟩⟩⟩⟩⟩⟩⟩⟩
theorem o_k_X12_land_2 {l : Launch} {P : xP} : xAll l P xMT (xMu q_X12_land) 32 k_X12_land_2 := ⟨(show xSim l P xMT (xMu q_X12_land) 32 (i_load x_isA 0 33) from s_aload_n dX12_land_32 rfl), ⟨(show xSim l P xMT (xMu q_X12_land) 33 (i_getf 12 20 36) from s_getf 12 20 dX12_land_33 (xvc_12) (by decide +kernel) xin_12 w_498), ⟨(show xSim l P xMT (xMu q_X12_land) 36 (i_push (.inl (.int (Int32.ofNat 2200))) 39) from s_sipush (Int32.ofNat 2200) dX12_land_36 (by decide +kernel)), ⟨(show xSim l P xMT (xMu q_X12_land) 39 (i_load x_isI 2 40) from s_iload_n dX12_land_39 rfl), ⟨(show xSim l P xMT (xMu q_X12_land) 40 (i_bin32 (fun x y => x + y) 41) from s_iadd dX12_land_40), ⟨(show xSim l P xMT (xMu q_X12_land) 41 (i_push (.inl (.int (Int32.ofNat 0))) 42) from s_iconst (Int32.ofNat 0) dX12_land_41 (by decide +kernel)), ⟨(show xSim l P xMT (xMu q_X12_land) 42 (i_ast .int 43) from s_iast dX12_land_42), ⟨(show xSim l P xMT (xMu q_X12_land) 43 (i_iinc 3 2 (Int32.ofNat 1) 46) from s_iinc (Int32.ofNat 1) dX12_land_43 (by decide +kernel)), ⟨(show xSim l P xMT (xMu q_X12_land) 46 (i_jump 25) from s_goto 25 dX12_land_46 (by decide +kernel)), trivial⟩⟩⟩⟩⟩⟩⟩⟩⟩
theorem o_k_X12_land_3 {l : Launch} {P : xP} : xAll l P xMT (xMu q_X12_land) 48 k_X12_land_3 := ⟨(show xSim l P xMT (xMu q_X12_land) 49 (i_load x_isA 0 50) from s_aload_n dX12_land_49 rfl), ⟨(show xSim l P xMT (xMu q_X12_land) 50 (i_getf 12 20 53) from s_getf 12 20 dX12_land_50 (xvc_12) (by decide +kernel) xin_12 w_498), ⟨(show xSim l P xMT (xMu q_X12_land) 53 (i_push (.inl (.int (Int32.ofNat 2202))) 56) from s_sipush (Int32.ofNat 2202) dX12_land_53 (by decide +kernel)), ⟨(show xSim l P xMT (xMu q_X12_land) 56 (i_push (.inl (.int (Int32.ofNat 1))) 57) from s_iconst (Int32.ofNat 1) dX12_land_56 (by decide +kernel)), ⟨(show xSim l P xMT (xMu q_X12_land) 57 (i_ast .int 58) from s_iast dX12_land_57), ⟨(show xSim l P xMT (xMu q_X12_land) 58 (i_load x_isA 0 59) from s_aload_n dX12_land_58 rfl), ⟨(show xSim l P xMT (xMu q_X12_land) 59 (i_push (.inl (.int (Int32.ofNat 0))) 60) from s_iconst (Int32.ofNat 0) dX12_land_59 (by decide +kernel)), ⟨(show xSim l P xMT (xMu q_X12_land) 60 (i_putf 12 24 .boolean 63) from s_putf 12 24 tyX12 .boolean dX12_land_60 (xvc_12) (by decide +kernel) xin_12 w_610 tyX12_ok nmX12 rfl rfl), ⟨(show xSim l P xMT (xMu q_X12_land) 63 (i_load x_isA 0 64) from s_aload_n dX12_land_63 rfl), trivial⟩⟩⟩⟩⟩⟩⟩⟩⟩
theorem o_k_X12_land_4 {l : Launch} {P : xP} : xAll l P xMT (xMu q_X12_land) 64 k_X12_land_4 := ⟨(show xSim l P xMT (xMu q_X12_land) 64 (i_load x_isA 0 65) from s_aload_n dX12_land_64 rfl), ⟨(show xSim l P xMT (xMu q_X12_land) 65 (i_call (some 12) 168 1 0 0 68) from s_callV 12 (q_X12_isWide) t_X12_isWide m_X12_isWide dX12_land_65 rfl (xvc_12) w_612 w_613 w_614 w_611 w_490 h_X12_isWide ⟨(by decide +kernel), (by decide +kernel)⟩), ⟨(show xSim l P xMT (xMu q_X12_land) 68 (i_call (some 12) 181 2 0 0 71) from s_callV 12 (q_X12_must) t_X12_must m_X12_must dX12_land_68 rfl (xvc_12) w_616 w_617 w_618 w_615 w_490 h_X12_must ⟨(by decide +kernel), (by decide +kernel)⟩), ⟨(show xSim l P xMT (xMu q_X12_land) 71 (i_load x_isA 0 72) from s_aload_n dX12_land_71 rfl), ⟨(show xSim l P xMT (xMu q_X12_land) 72 (i_getf 12 20 75) from s_getf 12 20 dX12_land_72 (xvc_12) (by decide +kernel) xin_12 w_498), ⟨(show xSim l P xMT (xMu q_X12_land) 75 (i_push (.inl (.int (Int32.ofNat 2200))) 78) from s_sipush (Int32.ofNat 2200) dX12_land_75 (by decide +kernel)), ⟨(show xSim l P xMT (xMu q_X12_land) 78 (i_load x_isA 0 79) from s_aload_n dX12_land_78 rfl), ⟨(show xSim l P xMT (xMu q_X12_land) 79 (i_push (.inl (.int (Int32.ofNat 2))) 80) from s_iconst (Int32.ofNat 2) dX12_land_79 (by decide +kernel)), trivial⟩⟩⟩⟩⟩⟩⟩⟩
theorem o_k_X12_land_5 {l : Launch} {P : xP} : xAll l P xMT (xMu q_X12_land) 80 k_X12_land_5 := ⟨(show xSim l P xMT (xMu q_X12_land) 80 (i_push (.inl (.int (Int32.ofNat 8))) 82) from s_bipush (Int32.ofNat 8) dX12_land_80 (by decide +kernel)), ⟨(show xSim l P xMT (xMu q_X12_land) 82 (i_call (some 12) 192 3 0 0 85) from s_callV 12 (q_X12_readNumber) t_X12_readNumber m_X12_readNumber dX12_land_82 rfl (xvc_12) w_620 w_621 w_622 w_619 w_490 h_X12_readNumber ⟨(by decide +kernel), (by decide +kernel)⟩), ⟨(show xSim l P xMT (xMu q_X12_land) 85 (i_ast .int 86) from s_iast dX12_land_85), ⟨(show xSim l P xMT (xMu q_X12_land) 86 (i_load x_isA 0 87) from s_aload_n dX12_land_86 rfl), ⟨(show xSim l P xMT (xMu q_X12_land) 87 (i_load x_isA 0 88) from s_aload_n dX12_land_87 rfl), ⟨(show xSim l P xMT (xMu q_X12_land) 88 (i_push (.inl (.int (Int32.ofNat 59))) 90) from s_bipush (Int32.ofNat 59) dX12_land_88 (by decide +kernel)), ⟨(show xSim l P xMT (xMu q_X12_land) 90 (i_call (some 12) 164 2 0 0 93) from s_callV 12 (q_X12_isSign) t_X12_isSign m_X12_isSign dX12_land_90 rfl (xvc_12) w_624 w_625 w_626 w_623 w_490 h_X12_isSign ⟨(by decide +kernel), (by decide +kernel)⟩), ⟨(show xSim l P xMT (xMu q_X12_land) 93 (i_call (some 12) 181 2 0 0 96) from s_callV 12 (q_X12_must) t_X12_must m_X12_must dX12_land_93 rfl (xvc_12) w_616 w_617 w_618 w_615 w_490 h_X12_must ⟨(by decide +kernel), (by decide +kernel)⟩), trivial⟩⟩⟩⟩⟩⟩⟩⟩
theorem o_k_X12_land_6 {l : Launch} {P : xP} : xAll l P xMT (xMu q_X12_land) 96 k_X12_land_6 := ⟨(show xSim l P xMT (xMu q_X12_land) 96 (i_load x_isA 0 97) from s_aload_n dX12_land_96 rfl), ⟨(show xSim l P xMT (xMu q_X12_land) 97 (i_getf 12 12 100) from s_getf 12 12 dX12_land_97 (xvc_12) (by decide +kernel) xin_12 w_554), ⟨(show xSim l P xMT (xMu q_X12_land) 100 (i_if 2 103 117) from s_if_ne 117 dX12_land_100 (by decide +kernel)), trivial⟩⟩⟩
theorem o_k_X12_land_7 {l : Launch} {P : xP} : xAll l P xMT (xMu q_X12_land) 112 k_X12_land_7 := ⟨(show xSim l P xMT (xMu q_X12_land) 117 (i_load x_isA 0 118) from s_aload_n dX12_land_117 rfl), ⟨(show xSim l P xMT (xMu q_X12_land) 118 (i_getf 12 12 121) from s_getf 12 12 dX12_land_118 (xvc_12) (by decide +kernel) xin_12 w_554), ⟨(show xSim l P xMT (xMu q_X12_land) 121 (i_if 2 124 139) from s_if_ne 139 dX12_land_121 (by decide +kernel)), trivial⟩⟩⟩
theorem o_k_X12_land_8 {l : Launch} {P : xP} : xAll l P xMT (xMu q_X12_land) 128 k_X12_land_8 := ⟨(show xSim l P xMT (xMu q_X12_land) 139 (i_load x_isA 0 140) from s_aload_n dX12_land_139 rfl), ⟨(show xSim l P xMT (xMu q_X12_land) 140 (i_getf 12 12 143) from s_getf 12 12 dX12_land_140 (xvc_12) (by decide +kernel) xin_12 w_554), ⟨(show xSim l P xMT (xMu q_X12_land) 143 (i_if 2 146 212) from s_if_ne 212 dX12_land_143 (by decide +kernel)), trivial⟩⟩⟩
theorem o_k_X12_land_9 {l : Launch} {P : xP} : xAll l P xMT (xMu q_X12_land) 144 k_X12_land_9 := trivial
theorem o_k_X12_land_10 {l : Launch} {P : xP} : xAll l P xMT (xMu q_X12_land) 160 k_X12_land_10 := trivial
theorem o_k_X12_land_11 {l : Launch} {P : xP} : xAll l P xMT (xMu q_X12_land) 176 k_X12_land_11 := trivial
theorem o_k_X12_land_12 {l : Launch} {P : xP} : xAll l P xMT (xMu q_X12_land) 192 k_X12_land_12 := trivial
theorem o_k_X12_land_13 {l : Launch} {P : xP} : xAll l P xMT (xMu q_X12_land) 208 k_X12_land_13 := ⟨(show xSim l P xMT (xMu q_X12_land) 212 (i_load x_isA 0 213) from s_aload_n dX12_land_212 rfl), ⟨(show xSim l P xMT (xMu q_X12_land) 213 (i_call (some 12) 167 1 0 0 216) from s_callV 12 (q_X12_isWell) t_X12_isWell m_X12_isWell dX12_land_213 rfl (xvc_12) w_628 w_629 w_630 w_627 w_490 h_X12_isWell ⟨(by decide +kernel), (by decide +kernel)⟩), ⟨(show xSim l P xMT (xMu q_X12_land) 216 (i_if 2 219 221) from s_if_ne 221 dX12_land_216 (by decide +kernel)), ⟨(show xSim l P xMT (xMu q_X12_land) 219 (i_push (.inl (.int (Int32.ofNat 4294967295))) 220) from s_iconst (Int32.ofNat 4294967295) dX12_land_219 (by decide +kernel)), ⟨(show xSim l P xMT (xMu q_X12_land) 220 (i_reti .int) from s_reti .int dX12_land_220 rfl), trivial⟩⟩⟩⟩⟩
theorem o_X12_land {l : Launch} {P : xP} : xTabOK l P xMT (xMu q_X12_land) t_X12_land := xTabOK.of ⟨o_k_X12_land_0, ⟨o_k_X12_land_1, ⟨o_k_X12_land_2, ⟨o_k_X12_land_3, ⟨o_k_X12_land_4, ⟨o_k_X12_land_5, ⟨o_k_X12_land_6, ⟨o_k_X12_land_7, ⟨o_k_X12_land_8, ⟨o_k_X12_land_9, ⟨o_k_X12_land_10, ⟨o_k_X12_land_11, ⟨o_k_X12_land_12, ⟨o_k_X12_land_13, trivial⟩⟩⟩⟩⟩⟩⟩⟩⟩⟩⟩⟩⟩⟩
theorem dX12_lay_0 : decode cX12_lay 0 = .ok (.iconst 3, 1) := by decide +kernel
theorem dX12_lay_1 : decode cX12_lay 1 = .ok (.istore_n 2, 1) := by decide +kernel
theorem dX12_lay_2 : decode cX12_lay 2 = .ok (.iload_n 2, 1) := by decide +kernel
theorem dX12_lay_3 : decode cX12_lay 3 = .ok (.ifCond .lt 35, 3) := by decide +kernel
theorem dX12_lay_6 : decode cX12_lay 6 = .ok (.aload_n 0, 1) := by decide +kernel
theorem dX12_lay_7 : decode cX12_lay 7 = .ok (.getfield 24, 3) := by decide +kernel
theorem dX12_lay_10 : decode cX12_lay 10 = .ok (.aload_n 0, 1) := by decide +kernel
theorem dX12_lay_11 : decode cX12_lay 11 = .ok (.getfield 214, 3) := by decide +kernel
theorem dX12_lay_14 : decode cX12_lay 14 = .ok (.iload_n 1, 1) := by decide +kernel
theorem dX12_lay_15 : decode cX12_lay 15 = .ok (.bipush 8, 2) := by decide +kernel
theorem dX12_lay_17 : decode cX12_lay 17 = .ok (.iload_n 2, 1) := by decide +kernel
theorem dX12_lay_18 : decode cX12_lay 18 = .ok (.imul, 1) := by decide +kernel
theorem dX12_lay_19 : decode cX12_lay 19 = .ok (.ishr, 1) := by decide +kernel
theorem dX12_lay_20 : decode cX12_lay 20 = .ok (.i2b, 1) := by decide +kernel
theorem dX12_lay_21 : decode cX12_lay 21 = .ok (.bastore, 1) := by decide +kernel
theorem dX12_lay_22 : decode cX12_lay 22 = .ok (.aload_n 0, 1) := by decide +kernel
theorem dX12_lay_23 : decode cX12_lay 23 = .ok (.dup, 1) := by decide +kernel
theorem dX12_lay_24 : decode cX12_lay 24 = .ok (.getfield 214, 3) := by decide +kernel
theorem dX12_lay_27 : decode cX12_lay 27 = .ok (.iconst 1, 1) := by decide +kernel
theorem dX12_lay_28 : decode cX12_lay 28 = .ok (.iadd, 1) := by decide +kernel
theorem dX12_lay_29 : decode cX12_lay 29 = .ok (.putfield 214, 3) := by decide +kernel
theorem dX12_lay_32 : decode cX12_lay 32 = .ok (.iinc 2 (-1), 3) := by decide +kernel
theorem dX12_lay_35 : decode cX12_lay 35 = .ok (.goto (-33), 3) := by decide +kernel
theorem dX12_lay_38 : decode cX12_lay 38 = .ok (.return_, 1) := by decide +kernel
theorem o_k_X12_lay_0 {l : Launch} {P : xP} : xAll l P xMT (xMu q_X12_lay) 0 k_X12_lay_0 := ⟨(show xSim l P xMT (xMu q_X12_lay) 0 (i_push (.inl (.int (Int32.ofNat 3))) 1) from s_iconst (Int32.ofNat 3) dX12_lay_0 (by decide +kernel)), ⟨(show xSim l P xMT (xMu q_X12_lay) 1 (i_store1 x_isI 3 2 2) from s_istore_n dX12_lay_1 rfl), ⟨(show xSim l P xMT (xMu q_X12_lay) 2 (i_load x_isI 2 3) from s_iload_n dX12_lay_2 rfl), ⟨(show xSim l P xMT (xMu q_X12_lay) 3 (i_if 0 38 6) from s_if_lt 38 dX12_lay_3 (by decide +kernel)), ⟨(show xSim l P xMT (xMu q_X12_lay) 6 (i_load x_isA 0 7) from s_aload_n dX12_lay_6 rfl), ⟨(show xSim l P xMT (xMu q_X12_lay) 7 (i_getf 12 7 10) from s_getf 12 7 dX12_lay_7 (xvc_12) (by decide +kernel) xin_12 w_585), ⟨(show xSim l P xMT (xMu q_X12_lay) 10 (i_load x_isA 0 11) from s_aload_n dX12_lay_10 rfl), ⟨(show xSim l P xMT (xMu q_X12_lay) 11 (i_getf 12 8 14) from s_getf 12 8 dX12_lay_11 (xvc_12) (by decide +kernel) xin_12 w_558), ⟨(show xSim l P xMT (xMu q_X12_lay) 14 (i_load x_isI 1 15) from s_iload_n dX12_lay_14 rfl), ⟨(show xSim l P xMT (xMu q_X12_lay) 15 (i_push (.inl (.int (Int32.ofNat 8))) 17) from s_bipush (Int32.ofNat 8) dX12_lay_15 (by decide +kernel)), trivial⟩⟩⟩⟩⟩⟩⟩⟩⟩⟩
theorem o_k_X12_lay_1 {l : Launch} {P : xP} : xAll l P xMT (xMu q_X12_lay) 16 k_X12_lay_1 := ⟨(show xSim l P xMT (xMu q_X12_lay) 17 (i_load x_isI 2 18) from s_iload_n dX12_lay_17 rfl), ⟨(show xSim l P xMT (xMu q_X12_lay) 18 (i_bin32 (fun x y => x * y) 19) from s_imul dX12_lay_18), ⟨(show xSim l P xMT (xMu q_X12_lay) 19 (i_bin32 (fun x y => x >>> (y &&& 31)) 20) from s_ishr dX12_lay_19), ⟨(show xSim l P xMT (xMu q_X12_lay) 20 (i_un32 (fun x => x.toInt8.toInt32) 21) from s_i2b dX12_lay_20), ⟨(show xSim l P xMT (xMu q_X12_lay) 21 (i_ast .byte 22) from s_bast dX12_lay_21), ⟨(show xSim l P xMT (xMu q_X12_lay) 22 (i_load x_isA 0 23) from s_aload_n dX12_lay_22 rfl), ⟨(show xSim l P xMT (xMu q_X12_lay) 23 (i_dup 24) from s_dup dX12_lay_23), ⟨(show xSim l P xMT (xMu q_X12_lay) 24 (i_getf 12 8 27) from s_getf 12 8 dX12_lay_24 (xvc_12) (by decide +kernel) xin_12 w_558), ⟨(show xSim l P xMT (xMu q_X12_lay) 27 (i_push (.inl (.int (Int32.ofNat 1))) 28) from s_iconst (Int32.ofNat 1) dX12_lay_27 (by decide +kernel)), ⟨(show xSim l P xMT (xMu q_X12_lay) 28 (i_bin32 (fun x y => x + y) 29) from s_iadd dX12_lay_28), ⟨(show xSim l P xMT (xMu q_X12_lay) 29 (i_putf 12 8 .int 32) from s_putf 12 8 tyX12 .int dX12_lay_29 (xvc_12) (by decide +kernel) xin_12 w_558 tyX12_ok nmX12 rfl rfl), trivial⟩⟩⟩⟩⟩⟩⟩⟩⟩⟩⟩
theorem o_k_X12_lay_2 {l : Launch} {P : xP} : xAll l P xMT (xMu q_X12_lay) 32 k_X12_lay_2 := ⟨(show xSim l P xMT (xMu q_X12_lay) 32 (i_iinc 3 2 (Int32.ofNat 4294967295) 35) from s_iinc (Int32.ofNat 4294967295) dX12_lay_32 (by decide +kernel)), ⟨(show xSim l P xMT (xMu q_X12_lay) 35 (i_jump 2) from s_goto 2 dX12_lay_35 (by decide +kernel)), ⟨(show xSim l P xMT (xMu q_X12_lay) 38 (i_ret0) from s_ret0 dX12_lay_38 rfl), trivial⟩⟩⟩
theorem o_X12_lay {l : Launch} {P : xP} : xTabOK l P xMT (xMu q_X12_lay) t_X12_lay := xTabOK.of ⟨o_k_X12_lay_0, ⟨o_k_X12_lay_1, ⟨o_k_X12_lay_2, trivial⟩⟩⟩
theorem dX12_left_0 : decode cX12_left 0 = .ok (.iconst 0, 1) := by decide +kernel
theorem dX12_left_1 : decode cX12_left 1 = .ok (.istore_n 1, 1) := by decide +kernel
theorem dX12_left_2 : decode cX12_left 2 = .ok (.iconst 0, 1) := by decide +kernel
theorem dX12_left_3 : decode cX12_left 3 = .ok (.istore_n 2, 1) := by decide +kernel
theorem dX12_left_4 : decode cX12_left 4 = .ok (.iload_n 2, 1) := by decide +kernel
theorem dX12_left_5 : decode cX12_left 5 = .ok (.aload_n 0, 1) := by decide +kernel
theorem dX12_left_6 : decode cX12_left 6 = .ok (.getfield 35, 3) := by decide +kernel
theorem dX12_left_9 : decode cX12_left 9 = .ok (.iconst 2, 1) := by decide +kernel
theorem dX12_left_10 : decode cX12_left 10 = .ok (.iaload, 1) := by decide +kernel
theorem dX12_left_11 : decode cX12_left 11 = .ok (.if_icmp .ge 47, 3) := by decide +kernel
theorem dX12_left_14 : decode cX12_left 14 = .ok (.iconst 0, 1) := by decide +kernel
theorem dX12_left_15 : decode cX12_left 15 = .ok (.istore_n 3, 1) := by decide +kernel
theorem dX12_left_16 : decode cX12_left 16 = .ok (.iload_n 3, 1) := by decide +kernel
theorem dX12_left_17 : decode cX12_left 17 = .ok (.aload_n 0, 1) := by decide +kernel
theorem dX12_left_18 : decode cX12_left 18 = .ok (.invokevirtual 293, 3) := by decide +kernel
theorem dX12_left_21 : decode cX12_left 21 = .ok (.if_icmp .ge 31, 3) := by decide +kernel
theorem dX12_left_24 : decode cX12_left 24 = .ok (.iload_n 1, 1) := by decide +kernel
theorem dX12_left_25 : decode cX12_left 25 = .ok (.aload_n 0, 1) := by decide +kernel
theorem dX12_left_26 : decode cX12_left 26 = .ok (.iload_n 2, 1) := by decide +kernel
theorem dX12_left_27 : decode cX12_left 27 = .ok (.iload_n 3, 1) := by decide +kernel
theorem dX12_left_28 : decode cX12_left 28 = .ok (.invokevirtual 296, 3) := by decide +kernel
theorem dX12_left_31 : decode cX12_left 31 = .ok (.iconst 1, 1) := by decide +kernel
theorem dX12_left_32 : decode cX12_left 32 = .ok (.if_icmp .ne 7, 3) := by decide +kernel
theorem dX12_left_39 : decode cX12_left 39 = .ok (.aload_n 0, 1) := by decide +kernel
theorem dX12_left_40 : decode cX12_left 40 = .ok (.iload_n 3, 1) := by decide +kernel
theorem dX12_left_41 : decode cX12_left 41 = .ok (.invokevirtual 299, 3) := by decide +kernel
theorem dX12_left_44 : decode cX12_left 44 = .ok (.iadd, 1) := by decide +kernel
theorem dX12_left_45 : decode cX12_left 45 = .ok (.istore_n 1, 1) := by decide +kernel
theorem dX12_left_46 : decode cX12_left 46 = .ok (.iinc 3 1, 3) := by decide +kernel
theorem dX12_left_49 : decode cX12_left 49 = .ok (.goto (-33), 3) := by decide +kernel
theorem dX12_left_52 : decode cX12_left 52 = .ok (.iinc 2 1, 3) := by decide +kernel
theorem dX12_left_55 : decode cX12_left 55 = .ok (.goto (-51), 3) := by decide +kernel
theorem dX12_left_58 : decode cX12_left 58 = .ok (.iload_n 1, 1) := by decide +kernel
theorem dX12_left_59 : decode cX12_left 59 = .ok (.ireturn, 1) := by decide +kernel
theorem o_k_X12_left_0 {l : Launch} {P : xP} : xAll l P xMT (xMu q_X12_left) 0 k_X12_left_0 := ⟨(show xSim l P xMT (xMu q_X12_left) 0 (i_push (.inl (.int (Int32.ofNat 0))) 1) from s_iconst (Int32.ofNat 0) dX12_left_0 (by decide +kernel)), ⟨(show xSim l P xMT (xMu q_X12_left) 1 (i_store1 x_isI 4 1 2) from s_istore_n dX12_left_1 rfl), ⟨(show xSim l P xMT (xMu q_X12_left) 2 (i_push (.inl (.int (Int32.ofNat 0))) 3) from s_iconst (Int32.ofNat 0) dX12_left_2 (by decide +kernel)), ⟨(show xSim l P xMT (xMu q_X12_left) 3 (i_store1 x_isI 4 2 4) from s_istore_n dX12_left_3 rfl), ⟨(show xSim l P xMT (xMu q_X12_left) 4 (i_load x_isI 2 5) from s_iload_n dX12_left_4 rfl), ⟨(show xSim l P xMT (xMu q_X12_left) 5 (i_load x_isA 0 6) from s_aload_n dX12_left_5 rfl), ⟨(show xSim l P xMT (xMu q_X12_left) 6 (i_getf 12 20 9) from s_getf 12 20 dX12_left_6 (xvc_12) (by decide +kernel) xin_12 w_498), ⟨(show xSim l P xMT (xMu q_X12_left) 9 (i_push (.inl (.int (Int32.ofNat 2))) 10) from s_iconst (Int32.ofNat 2) dX12_left_9 (by decide +kernel)), ⟨(show xSim l P xMT (xMu q_X12_left) 10 (i_iald 11) from s_iald dX12_left_10), ⟨(show xSim l P xMT (xMu q_X12_left) 11 (i_icmp 0 14 58) from s_icmp_ge 58 dX12_left_11 (by decide +kernel)), ⟨(show xSim l P xMT (xMu q_X12_left) 14 (i_push (.inl (.int (Int32.ofNat 0))) 15) from s_iconst (Int32.ofNat 0) dX12_left_14 (by decide +kernel)), ⟨(show xSim l P xMT (xMu q_X12_left) 15 (i_store1 x_isI 4 3 16) from s_istore_n dX12_left_15 rfl), trivial⟩⟩⟩⟩⟩⟩⟩⟩⟩⟩⟩⟩
theorem o_k_X12_left_1 {l : Launch} {P : xP} : xAll l P xMT (xMu q_X12_left) 16 k_X12_left_1 := ⟨(show xSim l P xMT (xMu q_X12_left) 16 (i_load x_isI 3 17) from s_iload_n dX12_left_16 rfl), ⟨(show xSim l P xMT (xMu q_X12_left) 17 (i_load x_isA 0 18) from s_aload_n dX12_left_17 rfl), ⟨(show xSim l P xMT (xMu q_X12_left) 18 (i_call (some 12) 138 1 0 0 21) from s_callV 12 (q_X12_cells) t_X12_cells m_X12_cells dX12_left_18 rfl (xvc_12) w_500 w_501 w_502 w_499 w_490 h_X12_cells ⟨(by decide +kernel), (by decide +kernel)⟩), ⟨(show xSim l P xMT (xMu q_X12_left) 21 (i_icmp 0 24 52) from s_icmp_ge 52 dX12_left_21 (by decide +kernel)), ⟨(show xSim l P xMT (xMu q_X12_left) 24 (i_load x_isI 1 25) from s_iload_n dX12_left_24 rfl), ⟨(show xSim l P xMT (xMu q_X12_left) 25 (i_load x_isA 0 26) from s_aload_n dX12_left_25 rfl), ⟨(show xSim l P xMT (xMu q_X12_left) 26 (i_load x_isI 2 27) from s_iload_n dX12_left_26 rfl), ⟨(show xSim l P xMT (xMu q_X12_left) 27 (i_load x_isI 3 28) from s_iload_n dX12_left_27 rfl), ⟨(show xSim l P xMT (xMu q_X12_left) 28 (i_call (some 12) 200 3 0 0 31) from s_callV 12 (q_X12_stateOf) t_X12_stateOf m_X12_stateOf dX12_left_28 rfl (xvc_12) w_531 w_532 w_533 w_530 w_490 h_X12_stateOf ⟨(by decide +kernel), (by decide +kernel)⟩), ⟨(show xSim l P xMT (xMu q_X12_left) 31 (i_push (.inl (.int (Int32.ofNat 1))) 32) from s_iconst (Int32.ofNat 1) dX12_left_31 (by decide +kernel)), trivial⟩⟩⟩⟩⟩⟩⟩⟩⟩⟩
theorem o_k_X12_left_2 {l : Launch} {P : xP} : xAll l P xMT (xMu q_X12_left) 32 k_X12_left_2 := ⟨(show xSim l P xMT (xMu q_X12_left) 32 (i_icmp 2 35 39) from s_icmp_ne 39 dX12_left_32 (by decide +kernel)), ⟨(show xSim l P xMT (xMu q_X12_left) 39 (i_load x_isA 0 40) from s_aload_n dX12_left_39 rfl), ⟨(show xSim l P xMT (xMu q_X12_left) 40 (i_load x_isI 3 41) from s_iload_n dX12_left_40 rfl), ⟨(show xSim l P xMT (xMu q_X12_left) 41 (i_call (some 12) 144 2 0 0 44) from s_callV 12 (q_X12_crumbsOf) t_X12_crumbsOf m_X12_crumbsOf dX12_left_41 rfl (xvc_12) w_538 w_539 w_540 w_537 w_490 h_X12_crumbsOf ⟨(by decide +kernel), (by decide +kernel)⟩), ⟨(show xSim l P xMT (xMu q_X12_left) 44 (i_bin32 (fun x y => x + y) 45) from s_iadd dX12_left_44), ⟨(show xSim l P xMT (xMu q_X12_left) 45 (i_store1 x_isI 4 1 46) from s_istore_n dX12_left_45 rfl), ⟨(show xSim l P xMT (xMu q_X12_left) 46 (i_iinc 4 3 (Int32.ofNat 1) 49) from s_iinc (Int32.ofNat 1) dX12_left_46 (by decide +kernel)), trivial⟩⟩⟩⟩⟩⟩⟩
theorem o_k_X12_left_3 {l : Launch} {P : xP} : xAll l P xMT (xMu q_X12_left) 48 k_X12_left_3 := ⟨(show xSim l P xMT (xMu q_X12_left) 49 (i_jump 16) from s_goto 16 dX12_left_49 (by decide +kernel)), ⟨(show xSim l P xMT (xMu q_X12_left) 52 (i_iinc 4 2 (Int32.ofNat 1) 55) from s_iinc (Int32.ofNat 1) dX12_left_52 (by decide +kernel)), ⟨(show xSim l P xMT (xMu q_X12_left) 55 (i_jump 4) from s_goto 4 dX12_left_55 (by decide +kernel)), ⟨(show xSim l P xMT (xMu q_X12_left) 58 (i_load x_isI 1 59) from s_iload_n dX12_left_58 rfl), ⟨(show xSim l P xMT (xMu q_X12_left) 59 (i_reti .int) from s_reti .int dX12_left_59 rfl), trivial⟩⟩⟩⟩⟩
theorem o_X12_left {l : Launch} {P : xP} : xTabOK l P xMT (xMu q_X12_left) t_X12_left := xTabOK.of ⟨o_k_X12_left_0, ⟨o_k_X12_left_1, ⟨o_k_X12_left_2, ⟨o_k_X12_left_3, trivial⟩⟩⟩⟩
theorem dX12_letterCost_0 : decode cX12_letterCost 0 = .ok (.iload_n 0, 1) := by decide +kernel
theorem dX12_letterCost_1 : decode cX12_letterCost 1 = .ok (.ifCond .ne 7, 3) := by decide +kernel
theorem dX12_letterCost_4 : decode cX12_letterCost 4 = .ok (.iconst 2, 1) := by decide +kernel
theorem dX12_letterCost_5 : decode cX12_letterCost 5 = .ok (.goto 31, 3) := by decide +kernel
theorem dX12_letterCost_36 : decode cX12_letterCost 36 = .ok (.ireturn, 1) := by decide +kernel
theorem o_k_X12_letterCost_0 {l : Launch} {P : xP} : xAll l P xMT (xMu q_X12_letterCost) 0 k_X12_letterCost_0 := ⟨(show xSim l P xMT (xMu q_X12_letterCost) 0 (i_load x_isI 0 1) from s_iload_n dX12_letterCost_0 rfl), ⟨(show xSim l P xMT (xMu q_X12_letterCost) 1 (i_if 2 4 8) from s_if_ne 8 dX12_letterCost_1 (by decide +kernel)), ⟨(show xSim l P xMT (xMu q_X12_letterCost) 4 (i_push (.inl (.int (Int32.ofNat 2))) 5) from s_iconst (Int32.ofNat 2) dX12_letterCost_4 (by decide +kernel)), ⟨(show xSim l P xMT (xMu q_X12_letterCost) 5 (i_jump 36) from s_goto 36 dX12_letterCost_5 (by decide +kernel)), trivial⟩⟩⟩⟩
theorem o_k_X12_letterCost_1 {l : Launch} {P : xP} : xAll l P xMT (xMu q_X12_letterCost) 16 k_X12_letterCost_1 := trivial
theorem o_k_X12_letterCost_2 {l : Launch} {P : xP} : xAll l P xMT (xMu q_X12_letterCost) 32 k_X12_letterCost_2 := ⟨(show xSim l P xMT (xMu q_X12_letterCost) 36 (i_reti .int) from s_reti .int dX12_letterCost_36 rfl), trivial⟩
theorem o_X12_letterCost {l : Launch} {P : xP} : xTabOK l P xMT (xMu q_X12_letterCost) t_X12_letterCost := xTabOK.of ⟨o_k_X12_letterCost_0, ⟨o_k_X12_letterCost_1, ⟨o_k_X12_letterCost_2, trivial⟩⟩⟩
theorem dX12_many_0 : decode cX12_many 0 = .ok (.aload_n 0, 1) := by decide +kernel
theorem dX12_many_1 : decode cX12_many 1 = .ok (.iconst 0, 1) := by decide +kernel
theorem dX12_many_2 : decode cX12_many 2 = .ok (.putfield 72, 3) := by decide +kernel
theorem dX12_many_5 : decode cX12_many 5 = .ok (.aload_n 0, 1) := by decide +kernel
theorem dX12_many_6 : decode cX12_many 6 = .ok (.iconst 0, 1) := by decide +kernel
theorem dX12_many_7 : decode cX12_many 7 = .ok (.putfield 75, 3) := by decide +kernel
theorem dX12_many_10 : decode cX12_many 10 = .ok (.iload_n 1, 1) := by decide +kernel
theorem dX12_many_11 : decode cX12_many 11 = .ok (.tableswitch 77 0 5 #[37, 44, 51, 58, 65, 72], 37) := by decide +kernel
theorem dX12_many_48 : decode cX12_many 48 = .ok (.aload_n 0, 1) := by decide +kernel
theorem dX12_many_49 : decode cX12_many 49 = .ok (.getfield 35, 3) := by decide +kernel
theorem dX12_many_52 : decode cX12_many 52 = .ok (.iconst 0, 1) := by decide +kernel
theorem dX12_many_53 : decode cX12_many 53 = .ok (.iaload, 1) := by decide +kernel
theorem dX12_many_54 : decode cX12_many 54 = .ok (.ireturn, 1) := by decide +kernel
theorem dX12_many_55 : decode cX12_many 55 = .ok (.aload_n 0, 1) := by decide +kernel
theorem dX12_many_56 : decode cX12_many 56 = .ok (.getfield 35, 3) := by decide +kernel
theorem dX12_many_59 : decode cX12_many 59 = .ok (.iconst 1, 1) := by decide +kernel
theorem dX12_many_60 : decode cX12_many 60 = .ok (.iaload, 1) := by decide +kernel
theorem dX12_many_61 : decode cX12_many 61 = .ok (.ireturn, 1) := by decide +kernel
theorem dX12_many_62 : decode cX12_many 62 = .ok (.aload_n 0, 1) := by decide +kernel
theorem dX12_many_63 : decode cX12_many 63 = .ok (.getfield 35, 3) := by decide +kernel
theorem dX12_many_66 : decode cX12_many 66 = .ok (.iconst 2, 1) := by decide +kernel
theorem dX12_many_67 : decode cX12_many 67 = .ok (.iaload, 1) := by decide +kernel
theorem dX12_many_68 : decode cX12_many 68 = .ok (.ireturn, 1) := by decide +kernel
theorem dX12_many_69 : decode cX12_many 69 = .ok (.aload_n 0, 1) := by decide +kernel
theorem dX12_many_70 : decode cX12_many 70 = .ok (.getfield 35, 3) := by decide +kernel
theorem dX12_many_73 : decode cX12_many 73 = .ok (.iconst 3, 1) := by decide +kernel
theorem dX12_many_74 : decode cX12_many 74 = .ok (.iaload, 1) := by decide +kernel
theorem dX12_many_75 : decode cX12_many 75 = .ok (.ireturn, 1) := by decide +kernel
theorem dX12_many_76 : decode cX12_many 76 = .ok (.aload_n 0, 1) := by decide +kernel
theorem dX12_many_77 : decode cX12_many 77 = .ok (.getfield 35, 3) := by decide +kernel
theorem dX12_many_80 : decode cX12_many 80 = .ok (.iconst 4, 1) := by decide +kernel
theorem dX12_many_81 : decode cX12_many 81 = .ok (.iaload, 1) := by decide +kernel
theorem dX12_many_82 : decode cX12_many 82 = .ok (.ireturn, 1) := by decide +kernel
theorem dX12_many_83 : decode cX12_many 83 = .ok (.aload_n 0, 1) := by decide +kernel
theorem dX12_many_84 : decode cX12_many 84 = .ok (.invokevirtual 302, 3) := by decide +kernel
theorem dX12_many_87 : decode cX12_many 87 = .ok (.ireturn, 1) := by decide +kernel
theorem dX12_many_88 : decode cX12_many 88 = .ok (.aload_n 0, 1) := by decide +kernel
theorem dX12_many_89 : decode cX12_many 89 = .ok (.iconst 5, 1) := by decide +kernel
theorem dX12_many_90 : decode cX12_many 90 = .ok (.invokevirtual 305, 3) := by decide +kernel
theorem dX12_many_93 : decode cX12_many 93 = .ok (.ireturn, 1) := by decide +kernel
theorem o_k_X12_many_0 {l : Launch} {P : xP} : xAll l P xMT (xMu q_X12_many) 0 k_X12_many_0 := ⟨(show xSim l P xMT (xMu q_X12_many) 0 (i_load x_isA 0 1) from s_aload_n dX12_many_0 rfl), ⟨(show xSim l P xMT (xMu q_X12_many) 1 (i_push (.inl (.int (Int32.ofNat 0))) 2) from s_iconst (Int32.ofNat 0) dX12_many_1 (by decide +kernel)), ⟨(show xSim l P xMT (xMu q_X12_many) 2 (i_putf 12 1 .int 5) from s_putf 12 1 tyX12 .int dX12_many_2 (xvc_12) (by decide +kernel) xin_12 w_487 tyX12_ok nmX12 rfl rfl), ⟨(show xSim l P xMT (xMu q_X12_many) 5 (i_load x_isA 0 6) from s_aload_n dX12_many_5 rfl), ⟨(show xSim l P xMT (xMu q_X12_many) 6 (i_push (.inl (.int (Int32.ofNat 0))) 7) from s_iconst (Int32.ofNat 0) dX12_many_6 (by decide +kernel)), ⟨(show xSim l P xMT (xMu q_X12_many) 7 (i_putf 12 0 .int 10) from s_putf 12 0 tyX12 .int dX12_many_7 (xvc_12) (by decide +kernel) xin_12 w_488 tyX12_ok nmX12 rfl rfl), ⟨(show xSim l P xMT (xMu q_X12_many) 10 (i_load x_isI 1 11) from s_iload_n dX12_many_10 rfl), ⟨(show xSim l P xMT (xMu q_X12_many) 11 (i_sw 88 [(0, 48), (1, 55), (2, 62), (3, 69), (4, 76), (5, 83)]) from s_tsw 88 [(0, 48), (1, 55), (2, 62), (3, 69), (4, 76), (5, 83)] dX12_many_11 (by decide +kernel) (by decide +kernel) (by decide +kernel) (by decide +kernel) (by decide +kernel)), trivial⟩⟩⟩⟩⟩⟩⟩⟩
theorem o_k_X12_many_1 {l : Launch} {P : xP} : xAll l P xMT (xMu q_X12_many) 16 k_X12_many_1 := trivial
theorem o_k_X12_many_2 {l : Launch} {P : xP} : xAll l P xMT (xMu q_X12_many) 32 k_X12_many_2 := trivial
theorem o_k_X12_many_3 {l : Launch} {P : xP} : xAll l P xMT (xMu q_X12_many) 48 k_X12_many_3 := ⟨(show xSim l P xMT (xMu q_X12_many) 48 (i_load x_isA 0 49) from s_aload_n dX12_many_48 rfl), ⟨(show xSim l P xMT (xMu q_X12_many) 49 (i_getf 12 20 52) from s_getf 12 20 dX12_many_49 (xvc_12) (by decide +kernel) xin_12 w_498), ⟨(show xSim l P xMT (xMu q_X12_many) 52 (i_push (.inl (.int (Int32.ofNat 0))) 53) from s_iconst (Int32.ofNat 0) dX12_many_52 (by decide +kernel)), ⟨(show xSim l P xMT (xMu q_X12_many) 53 (i_iald 54) from s_iald dX12_many_53), ⟨(show xSim l P xMT (xMu q_X12_many) 54 (i_reti .int) from s_reti .int dX12_many_54 rfl), ⟨(show xSim l P xMT (xMu q_X12_many) 55 (i_load x_isA 0 56) from s_aload_n dX12_many_55 rfl), ⟨(show xSim l P xMT (xMu q_X12_many) 56 (i_getf 12 20 59) from s_getf 12 20 dX12_many_56 (xvc_12) (by decide +kernel) xin_12 w_498), ⟨(show xSim l P xMT (xMu q_X12_many) 59 (i_push (.inl (.int (Int32.ofNat 1))) 60) from s_iconst (Int32.ofNat 1) dX12_many_59 (by decide +kernel)), ⟨(show xSim l P xMT (xMu q_X12_many) 60 (i_iald 61) from s_iald dX12_many_60), ⟨(show xSim l P xMT (xMu q_X12_many) 61 (i_reti .int) from s_reti .int dX12_many_61 rfl), ⟨(show xSim l P xMT (xMu q_X12_many) 62 (i_load x_isA 0 63) from s_aload_n dX12_many_62 rfl), ⟨(show xSim l P xMT (xMu q_X12_many) 63 (i_getf 12 20 66) from s_getf 12 20 dX12_many_63 (xvc_12) (by decide +kernel) xin_12 w_498), trivial⟩⟩⟩⟩⟩⟩⟩⟩⟩⟩⟩⟩
theorem o_k_X12_many_4 {l : Launch} {P : xP} : xAll l P xMT (xMu q_X12_many) 64 k_X12_many_4 := ⟨(show xSim l P xMT (xMu q_X12_many) 66 (i_push (.inl (.int (Int32.ofNat 2))) 67) from s_iconst (Int32.ofNat 2) dX12_many_66 (by decide +kernel)), ⟨(show xSim l P xMT (xMu q_X12_many) 67 (i_iald 68) from s_iald dX12_many_67), ⟨(show xSim l P xMT (xMu q_X12_many) 68 (i_reti .int) from s_reti .int dX12_many_68 rfl), ⟨(show xSim l P xMT (xMu q_X12_many) 69 (i_load x_isA 0 70) from s_aload_n dX12_many_69 rfl), ⟨(show xSim l P xMT (xMu q_X12_many) 70 (i_getf 12 20 73) from s_getf 12 20 dX12_many_70 (xvc_12) (by decide +kernel) xin_12 w_498), ⟨(show xSim l P xMT (xMu q_X12_many) 73 (i_push (.inl (.int (Int32.ofNat 3))) 74) from s_iconst (Int32.ofNat 3) dX12_many_73 (by decide +kernel)), ⟨(show xSim l P xMT (xMu q_X12_many) 74 (i_iald 75) from s_iald dX12_many_74), ⟨(show xSim l P xMT (xMu q_X12_many) 75 (i_reti .int) from s_reti .int dX12_many_75 rfl), ⟨(show xSim l P xMT (xMu q_X12_many) 76 (i_load x_isA 0 77) from s_aload_n dX12_many_76 rfl), ⟨(show xSim l P xMT (xMu q_X12_many) 77 (i_getf 12 20 80) from s_getf 12 20 dX12_many_77 (xvc_12) (by decide +kernel) xin_12 w_498), trivial⟩⟩⟩⟩⟩⟩⟩⟩⟩⟩
theorem o_k_X12_many_5 {l : Launch} {P : xP} : xAll l P xMT (xMu q_X12_many) 80 k_X12_many_5 := ⟨(show xSim l P xMT (xMu q_X12_many) 80 (i_push (.inl (.int (Int32.ofNat 4))) 81) from s_iconst (Int32.ofNat 4) dX12_many_80 (by decide +kernel)), ⟨(show xSim l P xMT (xMu q_X12_many) 81 (i_iald 82) from s_iald dX12_many_81), ⟨(show xSim l P xMT (xMu q_X12_many) 82 (i_reti .int) from s_reti .int dX12_many_82 rfl), ⟨(show xSim l P xMT (xMu q_X12_many) 83 (i_load x_isA 0 84) from s_aload_n dX12_many_83 rfl), ⟨(show xSim l P xMT (xMu q_X12_many) 84 (i_call (some 12) 172 1 0 0 87) from s_callV 12 (q_X12_left) t_X12_left m_X12_left dX12_many_84 rfl (xvc_12) w_632 w_633 w_634 w_631 w_490 h_X12_left ⟨(by decide +kernel), (by decide +kernel)⟩), ⟨(show xSim l P xMT (xMu q_X12_many) 87 (i_reti .int) from s_reti .int dX12_many_87 rfl), ⟨(show xSim l P xMT (xMu q_X12_many) 88 (i_load x_isA 0 89) from s_aload_n dX12_many_88 rfl), ⟨(show xSim l P xMT (xMu q_X12_many) 89 (i_push (.inl (.int (Int32.ofNat 5))) 90) from s_iconst (Int32.ofNat 5) dX12_many_89 (by decide +kernel)), ⟨(show xSim l P xMT (xMu q_X12_many) 90 (i_call (some 12) 193 2 0 0 93) from s_callV 12 (q_X12_refuse) t_X12_refuse m_X12_refuse dX12_many_90 rfl (xvc_12) w_511 w_512 w_513 w_510 w_490 h_X12_refuse ⟨(by decide +kernel), (by decide +kernel)⟩), ⟨(show xSim l P xMT (xMu q_X12_many) 93 (i_reti .int) from s_reti .int dX12_many_93 rfl), trivial⟩⟩⟩⟩⟩⟩⟩⟩⟩⟩
theorem o_X12_many {l : Launch} {P : xP} : xTabOK l P xMT (xMu q_X12_many) t_X12_many := xTabOK.of ⟨o_k_X12_many_0, ⟨o_k_X12_many_1, ⟨o_k_X12_many_2, ⟨o_k_X12_many_3, ⟨o_k_X12_many_4, ⟨o_k_X12_many_5, trivial⟩⟩⟩⟩⟩⟩
theorem dX12_march_0 : decode cX12_march 0 = .ok (.aload_n 0, 1) := by decide +kernel
theorem dX12_march_1 : decode cX12_march 1 = .ok (.iconst 0, 1) := by decide +kernel
theorem dX12_march_2 : decode cX12_march 2 = .ok (.putfield 72, 3) := by decide +kernel
theorem dX12_march_5 : decode cX12_march 5 = .ok (.aload_n 0, 1) := by decide +kernel
theorem dX12_march_6 : decode cX12_march 6 = .ok (.iconst 0, 1) := by decide +kernel
theorem dX12_march_7 : decode cX12_march 7 = .ok (.putfield 75, 3) := by decide +kernel
theorem dX12_march_10 : decode cX12_march 10 = .ok (.aload_n 0, 1) := by decide +kernel
theorem dX12_march_11 : decode cX12_march 11 = .ok (.iload_n 1, 1) := by decide +kernel
theorem dX12_march_12 : decode cX12_march 12 = .ok (.invokevirtual 320, 3) := by decide +kernel
theorem dX12_march_15 : decode cX12_march 15 = .ok (.ifCond .ne 9, 3) := by decide +kernel
theorem dX12_march_18 : decode cX12_march 18 = .ok (.aload_n 0, 1) := by decide +kernel
theorem dX12_march_19 : decode cX12_march 19 = .ok (.iconst 2, 1) := by decide +kernel
theorem dX12_march_20 : decode cX12_march 20 = .ok (.invokevirtual 305, 3) := by decide +kernel
theorem dX12_march_23 : decode cX12_march 23 = .ok (.ireturn, 1) := by decide +kernel
theorem o_k_X12_march_0 {l : Launch} {P : xP} : xAll l P xMT (xMu q_X12_march) 0 k_X12_march_0 := ⟨(show xSim l P xMT (xMu q_X12_march) 0 (i_load x_isA 0 1) from s_aload_n dX12_march_0 rfl), ⟨(show xSim l P xMT (xMu q_X12_march) 1 (i_push (.inl (.int (Int32.ofNat 0))) 2) from s_iconst (Int32.ofNat 0) dX12_march_1 (by decide +kernel)), ⟨(show xSim l P xMT (xMu q_X12_march) 2 (i_putf 12 1 .int 5) from s_putf 12 1 tyX12 .int dX12_march_2 (xvc_12) (by decide +kernel) xin_12 w_487 tyX12_ok nmX12 rfl rfl), ⟨(show xSim l P xMT (xMu q_X12_march) 5 (i_load x_isA 0 6) from s_aload_n dX12_march_5 rfl), ⟨(show xSim l P xMT (xMu q_X12_march) 6 (i_push (.inl (.int (Int32.ofNat 0))) 7) from s_iconst (Int32.ofNat 0) dX12_march_6 (by decide +kernel)), ⟨(show xSim l P xMT (xMu q_X12_march) 7 (i_putf 12 0 .int 10) from s_putf 12 0 tyX12 .int dX12_march_7 (xvc_12) (by decide +kernel) xin_12 w_488 tyX12_ok nmX12 rfl rfl), ⟨(show xSim l P xMT (xMu q_X12_march) 10 (i_load x_isA 0 11) from s_aload_n dX12_march_10 rfl), ⟨(show xSim l P xMT (xMu q_X12_march) 11 (i_load x_isI 1 12) from s_iload_n dX12_march_11 rfl), ⟨(show xSim l P xMT (xMu q_X12_march) 12 (i_call (some 12) 160 2 0 0 15) from s_callV 12 (q_X12_isCompanyAt) t_X12_isCompanyAt m_X12_isCompanyAt dX12_march_12 rfl (xvc_12) w_491 w_492 w_493 w_489 w_490 h_X12_isCompanyAt ⟨(by decide +kernel), (by decide +kernel)⟩), ⟨(show xSim l P xMT (xMu q_X12_march) 15 (i_if 2 18 24) from s_if_ne 24 dX12_march_15 (by decide +kernel)), trivial⟩⟩⟩⟩⟩⟩⟩⟩⟩⟩
theorem o_k_X12_march_1 {l : Launch} {P : xP} : xAll l P xMT (xMu q_X12_march) 16 k_X12_march_1 := ⟨(show xSim l P xMT (xMu q_X12_march) 18 (i_load x_isA 0 19) from s_aload_n dX12_march_18 rfl), ⟨(show xSim l P xMT (xMu q_X12_march) 19 (i_push (.inl (.int (Int32.ofNat 2))) 20) from s_iconst (Int32.ofNat 2) dX12_march_19 (by decide +kernel)), ⟨(show xSim l P xMT (xMu q_X12_march) 20 (i_call (some 12) 193 2 0 0 23) from s_callV 12 (q_X12_refuse) t_X12_refuse m_X12_refuse dX12_march_20 rfl (xvc_12) w_511 w_512 w_513 w_510 w_490 h_X12_refuse ⟨(by decide +kernel), (by decide +kernel)⟩), ⟨(show xSim l P xMT (xMu q_X12_march) 23 (i_reti .int) from s_reti .int dX12_march_23 rfl), trivial⟩⟩⟩⟩
theorem o_X12_march {l : Launch} {P : xP} : xTabOK l P xMT (xMu q_X12_march) t_X12_march := xTabOK.of ⟨o_k_X12_march_0, ⟨o_k_X12_march_1, trivial⟩⟩
theorem dX12_mark_0 : decode cX12_mark 0 = .ok (.aload_n 0, 1) := by decide +kernel
theorem dX12_mark_1 : decode cX12_mark 1 = .ok (.iconst 0, 1) := by decide +kernel
theorem dX12_mark_2 : decode cX12_mark 2 = .ok (.putfield 72, 3) := by decide +kernel
theorem dX12_mark_5 : decode cX12_mark 5 = .ok (.aload_n 0, 1) := by decide +kernel
theorem dX12_mark_6 : decode cX12_mark 6 = .ok (.iconst 0, 1) := by decide +kernel
theorem dX12_mark_7 : decode cX12_mark 7 = .ok (.putfield 75, 3) := by decide +kernel
theorem dX12_mark_10 : decode cX12_mark 10 = .ok (.aload_n 0, 1) := by decide +kernel
theorem dX12_mark_11 : decode cX12_mark 11 = .ok (.getfield 519, 3) := by decide +kernel
theorem dX12_mark_14 : decode cX12_mark 14 = .ok (.iconst 3, 1) := by decide +kernel
theorem dX12_mark_15 : decode cX12_mark 15 = .ok (.if_icmp .ne 10, 3) := by decide +kernel
theorem dX12_mark_25 : decode cX12_mark 25 = .ok (.aload_n 0, 1) := by decide +kernel
theorem dX12_mark_26 : decode cX12_mark 26 = .ok (.dup, 1) := by decide +kernel
theorem dX12_mark_27 : decode cX12_mark 27 = .ok (.getfield 519, 3) := by decide +kernel
theorem dX12_mark_30 : decode cX12_mark 30 = .ok (.iconst 1, 1) := by decide +kernel
theorem dX12_mark_31 : decode cX12_mark 31 = .ok (.iadd, 1) := by decide +kernel
theorem dX12_mark_32 : decode cX12_mark 32 = .ok (.putfield 519, 3) := by decide +kernel
theorem dX12_mark_35 : decode cX12_mark 35 = .ok (.aload_n 0, 1) := by decide +kernel
theorem dX12_mark_36 : decode cX12_mark 36 = .ok (.iconst 0, 1) := by decide +kernel
theorem dX12_mark_37 : decode cX12_mark 37 = .ok (.aload_n 0, 1) := by decide +kernel
theorem dX12_mark_38 : decode cX12_mark 38 = .ok (.getfield 519, 3) := by decide +kernel
theorem dX12_mark_41 : decode cX12_mark 41 = .ok (.invokevirtual 266, 3) := by decide +kernel
theorem dX12_mark_44 : decode cX12_mark 44 = .ok (.aload_n 0, 1) := by decide +kernel
theorem dX12_mark_45 : decode cX12_mark 45 = .ok (.getfield 519, 3) := by decide +kernel
theorem dX12_mark_48 : decode cX12_mark 48 = .ok (.ireturn, 1) := by decide +kernel
theorem o_k_X12_mark_0 {l : Launch} {P : xP} : xAll l P xMT (xMu q_X12_mark) 0 k_X12_mark_0 := ⟨(show xSim l P xMT (xMu q_X12_mark) 0 (i_load x_isA 0 1) from s_aload_n dX12_mark_0 rfl), ⟨(show xSim l P xMT (xMu q_X12_mark) 1 (i_push (.inl (.int (Int32.ofNat 0))) 2) from s_iconst (Int32.ofNat 0) dX12_mark_1 (by decide +kernel)), ⟨(show xSim l P xMT (xMu q_X12_mark) 2 (i_putf 12 1 .int 5) from s_putf 12 1 tyX12 .int dX12_mark_2 (xvc_12) (by decide +kernel) xin_12 w_487 tyX12_ok nmX12 rfl rfl), ⟨(show xSim l P xMT (xMu q_X12_mark) 5 (i_load x_isA 0 6) from s_aload_n dX12_mark_5 rfl), ⟨(show xSim l P xMT (xMu q_X12_mark) 6 (i_push (.inl (.int (Int32.ofNat 0))) 7) from s_iconst (Int32.ofNat 0) dX12_mark_6 (by decide +kernel)), ⟨(show xSim l P xMT (xMu q_X12_mark) 7 (i_putf 12 0 .int 10) from s_putf 12 0 tyX12 .int dX12_mark_7 (xvc_12) (by decide +kernel) xin_12 w_488 tyX12_ok nmX12 rfl rfl), ⟨(show xSim l P xMT (xMu q_X12_mark) 10 (i_load x_isA 0 11) from s_aload_n dX12_mark_10 rfl), ⟨(show xSim l P xMT (xMu q_X12_mark) 11 (i_getf 12 23 14) from s_getf 12 23 dX12_mark_11 (xvc_12) (by decide +kernel) xin_12 w_509), ⟨(show xSim l P xMT (xMu q_X12_mark) 14 (i_push (.inl (.int (Int32.ofNat 3))) 15) from s_iconst (Int32.ofNat 3) dX12_mark_14 (by decide +kernel)), ⟨(show xSim l P xMT (xMu q_X12_mark) 15 (i_icmp 2 18 25) from s_icmp_ne 25 dX12_mark_15 (by decide +kernel)), trivial⟩⟩⟩⟩⟩⟩⟩⟩⟩⟩
theorem o_k_X12_mark_1 {l : Launch} {P : xP} : xAll l P xMT (xMu q_X12_mark) 16 k_X12_mark_1 := ⟨(show xSim l P xMT (xMu q_X12_mark) 25 (i_load x_isA 0 26) from s_aload_n dX12_mark_25 rfl), ⟨(show xSim l P xMT (xMu q_X12_mark) 26 (i_dup 27) from s_dup dX12_mark_26), ⟨(show xSim l P xMT (xMu q_X12_mark) 27 (i_getf 12 23 30) from s_getf 12 23 dX12_mark_27 (xvc_12) (by decide +kernel) xin_12 w_509), ⟨(show xSim l P xMT (xMu q_X12_mark) 30 (i_push (.inl (.int (Int32.ofNat 1))) 31) from s_iconst (Int32.ofNat 1) dX12_mark_30 (by decide +kernel)), ⟨(show xSim l P xMT (xMu q_X12_mark) 31 (i_bin32 (fun x y => x + y) 32) from s_iadd dX12_mark_31), trivial⟩⟩⟩⟩⟩
theorem o_k_X12_mark_2 {l : Launch} {P : xP} : xAll l P xMT (xMu q_X12_mark) 32 k_X12_mark_2 := ⟨(show xSim l P xMT (xMu q_X12_mark) 32 (i_putf 12 23 .int 35) from s_putf 12 23 tyX12 .int dX12_mark_32 (xvc_12) (by decide +kernel) xin_12 w_509 tyX12_ok nmX12 rfl rfl), ⟨(show xSim l P xMT (xMu q_X12_mark) 35 (i_load x_isA 0 36) from s_aload_n dX12_mark_35 rfl), ⟨(show xSim l P xMT (xMu q_X12_mark) 36 (i_push (.inl (.int (Int32.ofNat 0))) 37) from s_iconst (Int32.ofNat 0) dX12_mark_36 (by decide +kernel)), ⟨(show xSim l P xMT (xMu q_X12_mark) 37 (i_load x_isA 0 38) from s_aload_n dX12_mark_37 rfl), ⟨(show xSim l P xMT (xMu q_X12_mark) 38 (i_getf 12 23 41) from s_getf 12 23 dX12_mark_38 (xvc_12) (by decide +kernel) xin_12 w_509), ⟨(show xSim l P xMT (xMu q_X12_mark) 41 (i_call (some 12) 141 3 0 0 44) from s_callV 12 (q_X12_copy) t_X12_copy m_X12_copy dX12_mark_41 rfl (xvc_12) w_636 w_637 w_638 w_635 w_490 h_X12_copy ⟨(by decide +kernel), (by decide +kernel)⟩), ⟨(show xSim l P xMT (xMu q_X12_mark) 44 (i_load x_isA 0 45) from s_aload_n dX12_mark_44 rfl), ⟨(show xSim l P xMT (xMu q_X12_mark) 45 (i_getf 12 23 48) from s_getf 12 23 dX12_mark_45 (xvc_12) (by decide +kernel) xin_12 w_509), trivial⟩⟩⟩⟩⟩⟩⟩⟩
theorem o_k_X12_mark_3 {l : Launch} {P : xP} : xAll l P xMT (xMu q_X12_mark) 48 k_X12_mark_3 := ⟨(show xSim l P xMT (xMu q_X12_mark) 48 (i_reti .int) from s_reti .int dX12_mark_48 rfl), trivial⟩
theorem o_X12_mark {l : Launch} {P : xP} : xTabOK l P xMT (xMu q_X12_mark) t_X12_mark := xTabOK.of ⟨o_k_X12_mark_0, ⟨o_k_X12_mark_1, ⟨o_k_X12_mark_2, ⟨o_k_X12_mark_3, trivial⟩⟩⟩⟩
theorem dX12_mean_0 : decode cX12_mean 0 = .ok (.aload_n 0, 1) := by decide +kernel
theorem dX12_mean_1 : decode cX12_mean 1 = .ok (.iconst 0, 1) := by decide +kernel
theorem dX12_mean_2 : decode cX12_mean 2 = .ok (.putfield 72, 3) := by decide +kernel
theorem dX12_mean_5 : decode cX12_mean 5 = .ok (.aload_n 0, 1) := by decide +kernel
theorem dX12_mean_6 : decode cX12_mean 6 = .ok (.iconst 0, 1) := by decide +kernel
theorem dX12_mean_7 : decode cX12_mean 7 = .ok (.putfield 75, 3) := by decide +kernel
theorem dX12_mean_10 : decode cX12_mean 10 = .ok (.aload_n 0, 1) := by decide +kernel
theorem dX12_mean_11 : decode cX12_mean 11 = .ok (.iload_n 1, 1) := by decide +kernel
theorem dX12_mean_12 : decode cX12_mean 12 = .ok (.iload_n 2, 1) := by decide +kernel
theorem dX12_mean_13 : decode cX12_mean 13 = .ok (.invokevirtual 308, 3) := by decide +kernel
theorem dX12_mean_16 : decode cX12_mean 16 = .ok (.ifCond .ne 9, 3) := by decide +kernel
theorem dX12_mean_19 : decode cX12_mean 19 = .ok (.aload_n 0, 1) := by decide +kernel
theorem dX12_mean_20 : decode cX12_mean 20 = .ok (.iconst 2, 1) := by decide +kernel
theorem dX12_mean_21 : decode cX12_mean 21 = .ok (.invokevirtual 87, 3) := by decide +kernel
theorem dX12_mean_24 : decode cX12_mean 24 = .ok (.ireturn, 1) := by decide +kernel
theorem dX12_mean_25 : decode cX12_mean 25 = .ok (.iload_n 3, 1) := by decide +kernel
theorem dX12_mean_26 : decode cX12_mean 26 = .ok (.i2l, 1) := by decide +kernel
theorem dX12_mean_27 : decode cX12_mean 27 = .ok (.lconst 0, 1) := by decide +kernel
theorem dX12_mean_28 : decode cX12_mean 28 = .ok (.ldc2_w 458, 3) := by decide +kernel
theorem dX12_mean_31 : decode cX12_mean 31 = .ok (.invokestatic 107, 3) := by decide +kernel
theorem dX12_mean_34 : decode cX12_mean 34 = .ok (.ifCond .ne 9, 3) := by decide +kernel
theorem dX12_mean_37 : decode cX12_mean 37 = .ok (.aload_n 0, 1) := by decide +kernel
theorem dX12_mean_38 : decode cX12_mean 38 = .ok (.iconst 5, 1) := by decide +kernel
theorem dX12_mean_39 : decode cX12_mean 39 = .ok (.invokevirtual 87, 3) := by decide +kernel
theorem dX12_mean_42 : decode cX12_mean 42 = .ok (.ireturn, 1) := by decide +kernel
theorem dX12_mean_43 : decode cX12_mean 43 = .ok (.lconst 0, 1) := by decide +kernel
theorem dX12_mean_44 : decode cX12_mean 44 = .ok (.lstore 4, 2) := by decide +kernel
theorem dX12_mean_46 : decode cX12_mean 46 = .ok (.iconst 0, 1) := by decide +kernel
theorem dX12_mean_47 : decode cX12_mean 47 = .ok (.istore 6, 2) := by decide +kernel
theorem dX12_mean_49 : decode cX12_mean 49 = .ok (.iload 6, 2) := by decide +kernel
theorem dX12_mean_51 : decode cX12_mean 51 = .ok (.aload_n 0, 1) := by decide +kernel
theorem dX12_mean_52 : decode cX12_mean 52 = .ok (.invokevirtual 293, 3) := by decide +kernel
theorem dX12_mean_55 : decode cX12_mean 55 = .ok (.if_icmp .ge 32, 3) := by decide +kernel
theorem dX12_mean_58 : decode cX12_mean 58 = .ok (.lload 4, 2) := by decide +kernel
theorem dX12_mean_60 : decode cX12_mean 60 = .ok (.iload_n 3, 1) := by decide +kernel
theorem dX12_mean_61 : decode cX12_mean 61 = .ok (.invokestatic 446, 3) := by decide +kernel
theorem dX12_mean_64 : decode cX12_mean 64 = .ok (.aload_n 0, 1) := by decide +kernel
theorem dX12_mean_65 : decode cX12_mean 65 = .ok (.aload_n 0, 1) := by decide +kernel
theorem dX12_mean_66 : decode cX12_mean 66 = .ok (.iload_n 1, 1) := by decide +kernel
theorem dX12_mean_67 : decode cX12_mean 67 = .ok (.iload_n 2, 1) := by decide +kernel
theorem dX12_mean_68 : decode cX12_mean 68 = .ok (.invokevirtual 311, 3) := by decide +kernel
theorem dX12_mean_71 : decode cX12_mean 71 = .ok (.iload 6, 2) := by decide +kernel
theorem dX12_mean_73 : decode cX12_mean 73 = .ok (.iload_n 3, 1) := by decide +kernel
theorem dX12_mean_74 : decode cX12_mean 74 = .ok (.invokevirtual 450, 3) := by decide +kernel
theorem dX12_mean_77 : decode cX12_mean 77 = .ok (.lsub, 1) := by decide +kernel
theorem dX12_mean_78 : decode cX12_mean 78 = .ok (.ladd, 1) := by decide +kernel
theorem dX12_mean_79 : decode cX12_mean 79 = .ok (.lstore 4, 2) := by decide +kernel
theorem dX12_mean_81 : decode cX12_mean 81 = .ok (.iinc 6 1, 3) := by decide +kernel
theorem dX12_mean_84 : decode cX12_mean 84 = .ok (.goto (-35), 3) := by decide +kernel
theorem dX12_mean_87 : decode cX12_mean 87 = .ok (.aload_n 0, 1) := by decide +kernel
theorem dX12_mean_88 : decode cX12_mean 88 = .ok (.lload 4, 2) := by decide +kernel
theorem dX12_mean_90 : decode cX12_mean 90 = .ok (.iload_n 3, 1) := by decide +kernel
theorem dX12_mean_91 : decode cX12_mean 91 = .ok (.invokestatic 446, 3) := by decide +kernel
theorem dX12_mean_94 : decode cX12_mean 94 = .ok (.invokevirtual 454, 3) := by decide +kernel
theorem dX12_mean_97 : decode cX12_mean 97 = .ok (.ireturn, 1) := by decide +kernel
theorem o_k_X12_mean_0 {l : Launch} {P : xP} : xAll l P xMT (xMu q_X12_mean) 0 k_X12_mean_0 := ⟨(show xSim l P xMT (xMu q_X12_mean) 0 (i_load x_isA 0 1) from s_aload_n dX12_mean_0 rfl), ⟨(show xSim l P xMT (xMu q_X12_mean) 1 (i_push (.inl (.int (Int32.ofNat 0))) 2) from s_iconst (Int32.ofNat 0) dX12_mean_1 (by decide +kernel)), ⟨(show xSim l P xMT (xMu q_X12_mean) 2 (i_putf 12 1 .int 5) from s_putf 12 1 tyX12 .int dX12_mean_2 (xvc_12) (by decide +kernel) xin_12 w_487 tyX12_ok nmX12 rfl rfl), ⟨(show xSim l P xMT (xMu q_X12_mean) 5 (i_load x_isA 0 6) from s_aload_n dX12_mean_5 rfl), ⟨(show xSim l P xMT (xMu q_X12_mean) 6 (i_push (.inl (.int (Int32.ofNat 0))) 7) from s_iconst (Int32.ofNat 0) dX12_mean_6 (by decide +kernel)), ⟨(show xSim l P xMT (xMu q_X12_mean) 7 (i_putf 12 0 .int 10) from s_putf 12 0 tyX12 .int dX12_mean_7 (xvc_12) (by decide +kernel) xin_12 w_488 tyX12_ok nmX12 rfl rfl), ⟨(show xSim l P xMT (xMu q_X12_mean) 10 (i_load x_isA 0 11) from s_aload_n dX12_mean_10 rfl), ⟨(show xSim l P xMT (xMu q_X12_mean) 11 (i_loadc 1 12) from s_iloadc_n dX12_mean_11 rfl), ⟨(show xSim l P xMT (xMu q_X12_mean) 12 (i_load x_isI 2 13) from s_iload_n dX12_mean_12 rfl), ⟨(show xSim l P xMT (xMu q_X12_mean) 13 (i_call (some 12) 159 3 0 0 16) from s_callV 12 (q_X12_isCell) t_X12_isCell m_X12_isCell dX12_mean_13 rfl (xvc_12) w_515 w_516 w_517 w_514 w_490 h_X12_isCell ⟨(by decide +kernel), (by decide +kernel)⟩), trivial⟩⟩⟩⟩⟩⟩⟩⟩⟩⟩
theorem o_k_X12_mean_1 {l : Launch} {P : xP} : xAll l P xMT (xMu q_X12_mean) 16 k_X12_mean_1 := ⟨(show xSim l P xMT (xMu q_X12_mean) 16 (i_if 2 19 25) from s_if_ne 25 dX12_mean_16 (by decide +kernel)), ⟨(show xSim l P xMT (xMu q_X12_mean) 19 (i_load x_isA 0 20) from s_aload_n dX12_mean_19 rfl), ⟨(show xSim l P xMT (xMu q_X12_mean) 20 (i_push (.inl (.int (Int32.ofNat 2))) 21) from s_iconst (Int32.ofNat 2) dX12_mean_20 (by decide +kernel)), ⟨(show xSim l P xMT (xMu q_X12_mean) 21 (i_call (some 12) 183 2 0 0 24) from s_callV 12 (q_X12_no) t_X12_no m_X12_no dX12_mean_21 rfl (xvc_12) w_495 w_496 w_497 w_494 w_490 h_X12_no ⟨(by decide +kernel), (by decide +kernel)⟩), ⟨(show xSim l P xMT (xMu q_X12_mean) 24 (i_reti .boolean) from s_reti .boolean dX12_mean_24 rfl), ⟨(show xSim l P xMT (xMu q_X12_mean) 25 (i_load x_isI 3 26) from s_iload_n dX12_mean_25 rfl), ⟨(show xSim l P xMT (xMu q_X12_mean) 26 (i_i2l 27) from s_i2l dX12_mean_26), ⟨(show xSim l P xMT (xMu q_X12_mean) 27 (i_push (.inl (.long (Int64.ofNat 0))) 28) from s_lconst (Int64.ofNat 0) dX12_mean_27 (by decide +kernel)), ⟨(show xSim l P xMT (xMu q_X12_mean) 28 (i_push (.inl (.long (Int64.ofNat 8))) 31) from s_ldc2 (Int64.ofNat 8) dX12_mean_28 w_639), ⟨(show xSim l P xMT (xMu q_X12_mean) 31 (i_call none 163 3 0 0 34) from s_callS (q_X12_isIn) t_X12_isIn m_X12_isIn dX12_mean_31 w_545 w_546 w_544 w_490 h_X12_isIn ⟨(by decide +kernel), (by decide +kernel)⟩), trivial⟩⟩⟩⟩⟩⟩⟩⟩⟩⟩
theorem o_k_X12_mean_2 {l : Launch} {P : xP} : xAll l P xMT (xMu q_X12_mean) 32 k_X12_mean_2 := ⟨(show xSim l P xMT (xMu q_X12_mean) 34 (i_if 2 37 43) from s_if_ne 43 dX12_mean_34 (by decide +kernel)), ⟨(show xSim l P xMT (xMu q_X12_mean) 37 (i_load x_isA 0 38) from s_aload_n dX12_mean_37 rfl), ⟨(show xSim l P xMT (xMu q_X12_mean) 38 (i_push (.inl (.int (Int32.ofNat 5))) 39) from s_iconst (Int32.ofNat 5) dX12_mean_38 (by decide +kernel)), ⟨(show xSim l P xMT (xMu q_X12_mean) 39 (i_call (some 12) 183 2 0 0 42) from s_callV 12 (q_X12_no) t_X12_no m_X12_no dX12_mean_39 rfl (xvc_12) w_495 w_496 w_497 w_494 w_490 h_X12_no ⟨(by decide +kernel), (by decide +kernel)⟩), ⟨(show xSim l P xMT (xMu q_X12_mean) 42 (i_reti .boolean) from s_reti .boolean dX12_mean_42 rfl), ⟨(show xSim l P xMT (xMu q_X12_mean) 43 (i_push (.inl (.long (Int64.ofNat 0))) 44) from s_lconst (Int64.ofNat 0) dX12_mean_43 (by decide +kernel)), ⟨(show xSim l P xMT (xMu q_X12_mean) 44 (i_store2 7 4 46) from s_lstore dX12_mean_44), ⟨(show xSim l P xMT (xMu q_X12_mean) 46 (i_push (.inl (.int (Int32.ofNat 0))) 47) from s_iconst (Int32.ofNat 0) dX12_mean_46 (by decide +kernel)), ⟨(show xSim l P xMT (xMu q_X12_mean) 47 (i_store1 x_isI 7 6 49) from s_istore dX12_mean_47), trivial⟩⟩⟩⟩⟩⟩⟩⟩⟩
theorem o_k_X12_mean_3 {l : Launch} {P : xP} : xAll l P xMT (xMu q_X12_mean) 48 k_X12_mean_3 := ⟨(show xSim l P xMT (xMu q_X12_mean) 49 (i_load x_isI 6 51) from s_iload dX12_mean_49), ⟨(show xSim l P xMT (xMu q_X12_mean) 51 (i_load x_isA 0 52) from s_aload_n dX12_mean_51 rfl), ⟨(show xSim l P xMT (xMu q_X12_mean) 52 (i_call (some 12) 138 1 0 0 55) from s_callV 12 (q_X12_cells) t_X12_cells m_X12_cells dX12_mean_52 rfl (xvc_12) w_500 w_501 w_502 w_499 w_490 h_X12_cells ⟨(by decide +kernel), (by decide +kernel)⟩), ⟨(show xSim l P xMT (xMu q_X12_mean) 55 (i_icmp 0 58 87) from s_icmp_ge 87 dX12_mean_55 (by decide +kernel)), ⟨(show xSim l P xMT (xMu q_X12_mean) 58 (i_load x_isL 4 60) from s_lload dX12_mean_58), ⟨(show xSim l P xMT (xMu q_X12_mean) 60 (i_load x_isI 3 61) from s_iload_n dX12_mean_60 rfl), ⟨(show xSim l P xMT (xMu q_X12_mean) 61 (i_call none 150 1 0 0 64) from s_callS (q_X12_fours) t_X12_fours m_X12_fours dX12_mean_61 w_641 w_642 w_640 w_490 h_X12_fours ⟨(by decide +kernel), (by decide +kernel)⟩), trivial⟩⟩⟩⟩⟩⟩⟩
theorem o_k_X12_mean_4 {l : Launch} {P : xP} : xAll l P xMT (xMu q_X12_mean) 64 k_X12_mean_4 := ⟨(show xSim l P xMT (xMu q_X12_mean) 64 (i_load x_isA 0 65) from s_aload_n dX12_mean_64 rfl), ⟨(show xSim l P xMT (xMu q_X12_mean) 65 (i_load x_isA 0 66) from s_aload_n dX12_mean_65 rfl), ⟨(show xSim l P xMT (xMu q_X12_mean) 66 (i_load x_isI 1 67) from s_iload_n dX12_mean_66 rfl), ⟨(show xSim l P xMT (xMu q_X12_mean) 67 (i_load x_isI 2 68) from s_iload_n dX12_mean_67 rfl), ⟨(show xSim l P xMT (xMu q_X12_mean) 68 (i_call (some 12) 129 3 0 0 71) from s_callV 12 (q_X12_at2) t_X12_at2 m_X12_at2 dX12_mean_68 rfl (xvc_12) w_519 w_520 w_521 w_518 w_490 h_X12_at2 ⟨(by decide +kernel), (by decide +kernel)⟩), ⟨(show xSim l P xMT (xMu q_X12_mean) 71 (i_load x_isI 6 73) from s_iload dX12_mean_71), ⟨(show xSim l P xMT (xMu q_X12_mean) 73 (i_load x_isI 3 74) from s_iload_n dX12_mean_73 rfl), ⟨(show xSim l P xMT (xMu q_X12_mean) 74 (i_call (some 12) 130 4 0 0 77) from s_callV 12 (q_X12_avoids) t_X12_avoids m_X12_avoids dX12_mean_74 rfl (xvc_12) w_644 w_645 w_646 w_643 w_490 h_X12_avoids ⟨(by decide +kernel), (by decide +kernel)⟩), ⟨(show xSim l P xMT (xMu q_X12_mean) 77 (i_bin64 (fun x y => x - y) 78) from s_lsub dX12_mean_77), ⟨(show xSim l P xMT (xMu q_X12_mean) 78 (i_bin64 (fun x y => x + y) 79) from s_ladd dX12_mean_78), ⟨(show xSim l P xMT (xMu q_X12_mean) 79 (i_store2 7 4 81) from s_lstore dX12_mean_79), trivial⟩⟩⟩⟩⟩⟩⟩⟩⟩⟩⟩
theorem o_k_X12_mean_5 {l : Launch} {P : xP} : xAll l P xMT (xMu q_X12_mean) 80 k_X12_mean_5 := ⟨(show xSim l P xMT (xMu q_X12_mean) 81 (i_iinc 7 6 (Int32.ofNat 1) 84) from s_iinc (Int32.ofNat 1) dX12_mean_81 (by decide +kernel)), ⟨(show xSim l P xMT (xMu q_X12_mean) 84 (i_jump 49) from s_goto 49 dX12_mean_84 (by decide +kernel)), ⟨(show xSim l P xMT (xMu q_X12_mean) 87 (i_load x_isA 0 88) from s_aload_n dX12_mean_87 rfl), ⟨(show xSim l P xMT (xMu q_X12_mean) 88 (i_load x_isL 4 90) from s_lload dX12_mean_88), ⟨(show xSim l P xMT (xMu q_X12_mean) 90 (i_load x_isI 3 91) from s_iload_n dX12_mean_90 rfl), ⟨(show xSim l P xMT (xMu q_X12_mean) 91 (i_call none 150 1 0 0 94) from s_callS (q_X12_fours) t_X12_fours m_X12_fours dX12_mean_91 w_641 w_642 w_640 w_490 h_X12_fours ⟨(by decide +kernel), (by decide +kernel)⟩), ⟨(show xSim l P xMT (xMu q_X12_mean) 94 (i_call (some 12) 151 3 0 0 97) from s_callV 12 (q_X12_fraction) t_X12_fraction m_X12_fraction dX12_mean_94 rfl (xvc_12) w_648 w_649 w_650 w_647 w_490 h_X12_fraction ⟨(by decide +kernel), (by decide +kernel)⟩), trivial⟩⟩⟩⟩⟩⟩⟩
theorem o_k_X12_mean_6 {l : Launch} {P : xP} : xAll l P xMT (xMu q_X12_mean) 96 k_X12_mean_6 := ⟨(show xSim l P xMT (xMu q_X12_mean) 97 (i_reti .boolean) from s_reti .boolean dX12_mean_97 rfl), trivial⟩
theorem o_X12_mean {l : Launch} {P : xP} : xTabOK l P xMT (xMu q_X12_mean) t_X12_mean := xTabOK.of ⟨o_k_X12_mean_0, ⟨o_k_X12_mean_1, ⟨o_k_X12_mean_2, ⟨o_k_X12_mean_3, ⟨o_k_X12_mean_4, ⟨o_k_X12_mean_5, ⟨o_k_X12_mean_6, trivial⟩⟩⟩⟩⟩⟩⟩
theorem dX12_mostWorth_0 : decode cX12_mostWorth 0 = .ok (.aload_n 0, 1) := by decide +kernel
theorem dX12_mostWorth_1 : decode cX12_mostWorth 1 = .ok (.iconst 0, 1) := by decide +kernel
theorem dX12_mostWorth_2 : decode cX12_mostWorth 2 = .ok (.putfield 72, 3) := by decide +kernel
theorem dX12_mostWorth_5 : decode cX12_mostWorth 5 = .ok (.aload_n 0, 1) := by decide +kernel
theorem dX12_mostWorth_6 : decode cX12_mostWorth 6 = .ok (.iconst 0, 1) := by decide +kernel
theorem dX12_mostWorth_7 : decode cX12_mostWorth 7 = .ok (.putfield 75, 3) := by decide +kernel
theorem dX12_mostWorth_10 : decode cX12_mostWorth 10 = .ok (.aload_n 0, 1) := by decide +kernel
theorem dX12_mostWorth_11 : decode cX12_mostWorth 11 = .ok (.iload_n 1, 1) := by decide +kernel
theorem dX12_mostWorth_12 : decode cX12_mostWorth 12 = .ok (.invokevirtual 314, 3) := by decide +kernel
theorem dX12_mostWorth_15 : decode cX12_mostWorth 15 = .ok (.ifCond .ne 9, 3) := by decide +kernel
theorem dX12_mostWorth_18 : decode cX12_mostWorth 18 = .ok (.aload_n 0, 1) := by decide +kernel
theorem dX12_mostWorth_19 : decode cX12_mostWorth 19 = .ok (.iconst 2, 1) := by decide +kernel
theorem dX12_mostWorth_20 : decode cX12_mostWorth 20 = .ok (.invokevirtual 305, 3) := by decide +kernel
theorem dX12_mostWorth_23 : decode cX12_mostWorth 23 = .ok (.ireturn, 1) := by decide +kernel
theorem dX12_mostWorth_24 : decode cX12_mostWorth 24 = .ok (.iload_n 2, 1) := by decide +kernel
theorem dX12_mostWorth_25 : decode cX12_mostWorth 25 = .ok (.i2l, 1) := by decide +kernel
theorem dX12_mostWorth_26 : decode cX12_mostWorth 26 = .ok (.lconst 0, 1) := by decide +kernel
theorem dX12_mostWorth_27 : decode cX12_mostWorth 27 = .ok (.lconst 1, 1) := by decide +kernel
theorem dX12_mostWorth_28 : decode cX12_mostWorth 28 = .ok (.invokestatic 107, 3) := by decide +kernel
theorem dX12_mostWorth_31 : decode cX12_mostWorth 31 = .ok (.ifCond .ne 9, 3) := by decide +kernel
theorem dX12_mostWorth_34 : decode cX12_mostWorth 34 = .ok (.aload_n 0, 1) := by decide +kernel
theorem dX12_mostWorth_35 : decode cX12_mostWorth 35 = .ok (.iconst 5, 1) := by decide +kernel
theorem dX12_mostWorth_36 : decode cX12_mostWorth 36 = .ok (.invokevirtual 305, 3) := by decide +kernel
theorem dX12_mostWorth_39 : decode cX12_mostWorth 39 = .ok (.ireturn, 1) := by decide +kernel
theorem dX12_mostWorth_40 : decode cX12_mostWorth 40 = .ok (.iconst (-1), 1) := by decide +kernel
theorem dX12_mostWorth_41 : decode cX12_mostWorth 41 = .ok (.istore_n 3, 1) := by decide +kernel
theorem dX12_mostWorth_42 : decode cX12_mostWorth 42 = .ok (.iconst (-1), 1) := by decide +kernel
theorem dX12_mostWorth_43 : decode cX12_mostWorth 43 = .ok (.istore 4, 2) := by decide +kernel
theorem dX12_mostWorth_45 : decode cX12_mostWorth 45 = .ok (.iconst 0, 1) := by decide +kernel
theorem dX12_mostWorth_46 : decode cX12_mostWorth 46 = .ok (.istore 5, 2) := by decide +kernel
theorem dX12_mostWorth_48 : decode cX12_mostWorth 48 = .ok (.iload 5, 2) := by decide +kernel
theorem dX12_mostWorth_50 : decode cX12_mostWorth 50 = .ok (.aload_n 0, 1) := by decide +kernel
theorem dX12_mostWorth_51 : decode cX12_mostWorth 51 = .ok (.invokevirtual 293, 3) := by decide +kernel
theorem dX12_mostWorth_54 : decode cX12_mostWorth 54 = .ok (.if_icmp .ge 46, 3) := by decide +kernel
theorem dX12_mostWorth_57 : decode cX12_mostWorth 57 = .ok (.aload_n 0, 1) := by decide +kernel
theorem dX12_mostWorth_58 : decode cX12_mostWorth 58 = .ok (.iload_n 1, 1) := by decide +kernel
theorem dX12_mostWorth_59 : decode cX12_mostWorth 59 = .ok (.iload 5, 2) := by decide +kernel
theorem dX12_mostWorth_61 : decode cX12_mostWorth 61 = .ok (.invokevirtual 396, 3) := by decide +kernel
theorem dX12_mostWorth_64 : decode cX12_mostWorth 64 = .ok (.ifCond .eq 30, 3) := by decide +kernel
theorem dX12_mostWorth_67 : decode cX12_mostWorth 67 = .ok (.aload_n 0, 1) := by decide +kernel
theorem dX12_mostWorth_68 : decode cX12_mostWorth 68 = .ok (.iload_n 1, 1) := by decide +kernel
theorem dX12_mostWorth_69 : decode cX12_mostWorth 69 = .ok (.iload 5, 2) := by decide +kernel
theorem dX12_mostWorth_71 : decode cX12_mostWorth 71 = .ok (.invokevirtual 410, 3) := by decide +kernel
theorem dX12_mostWorth_74 : decode cX12_mostWorth 74 = .ok (.iload 4, 2) := by decide +kernel
theorem dX12_mostWorth_76 : decode cX12_mostWorth 76 = .ok (.if_icmp .gt 6, 3) := by decide +kernel
theorem dX12_mostWorth_79 : decode cX12_mostWorth 79 = .ok (.goto 15, 3) := by decide +kernel
theorem dX12_mostWorth_82 : decode cX12_mostWorth 82 = .ok (.aload_n 0, 1) := by decide +kernel
theorem dX12_mostWorth_83 : decode cX12_mostWorth 83 = .ok (.iload_n 1, 1) := by decide +kernel
theorem dX12_mostWorth_84 : decode cX12_mostWorth 84 = .ok (.iload 5, 2) := by decide +kernel
theorem dX12_mostWorth_86 : decode cX12_mostWorth 86 = .ok (.invokevirtual 410, 3) := by decide +kernel
theorem dX12_mostWorth_89 : decode cX12_mostWorth 89 = .ok (.istore 4, 2) := by decide +kernel
theorem dX12_mostWorth_91 : decode cX12_mostWorth 91 = .ok (.iload 5, 2) := by decide +kernel
theorem dX12_mostWorth_93 : decode cX12_mostWorth 93 = .ok (.istore_n 3, 1) := by decide +kernel
theorem dX12_mostWorth_94 : decode cX12_mostWorth 94 = .ok (.iinc 5 1, 3) := by decide +kernel
theorem dX12_mostWorth_97 : decode cX12_mostWorth 97 = .ok (.goto (-49), 3) := by decide +kernel
theorem dX12_mostWorth_100 : decode cX12_mostWorth 100 = .ok (.iload_n 3, 1) := by decide +kernel
theorem dX12_mostWorth_101 : decode cX12_mostWorth 101 = .ok (.ifCond .ge 12, 3) := by decide +kernel
theorem dX12_mostWorth_113 : decode cX12_mostWorth 113 = .ok (.iload_n 2, 1) := by decide +kernel
theorem dX12_mostWorth_114 : decode cX12_mostWorth 114 = .ok (.ifCond .ne 7, 3) := by decide +kernel
theorem dX12_mostWorth_117 : decode cX12_mostWorth 117 = .ok (.iload_n 3, 1) := by decide +kernel
theorem dX12_mostWorth_118 : decode cX12_mostWorth 118 = .ok (.goto 5, 3) := by decide +kernel
theorem dX12_mostWorth_121 : decode cX12_mostWorth 121 = .ok (.iload 4, 2) := by decide +kernel
theorem dX12_mostWorth_123 : decode cX12_mostWorth 123 = .ok (.ireturn, 1) := by decide +kernel
theorem o_k_X12_mostWorth_0 {l : Launch} {P : xP} : xAll l P xMT (xMu q_X12_mostWorth) 0 k_X12_mostWorth_0 := ⟨(show xSim l P xMT (xMu q_X12_mostWorth) 0 (i_load x_isA 0 1) from s_aload_n dX12_mostWorth_0 rfl), ⟨(show xSim l P xMT (xMu q_X12_mostWorth) 1 (i_push (.inl (.int (Int32.ofNat 0))) 2) from s_iconst (Int32.ofNat 0) dX12_mostWorth_1 (by decide +kernel)), ⟨(show xSim l P xMT (xMu q_X12_mostWorth) 2 (i_putf 12 1 .int 5) from s_putf 12 1 tyX12 .int dX12_mostWorth_2 (xvc_12) (by decide +kernel) xin_12 w_487 tyX12_ok nmX12 rfl rfl), ⟨(show xSim l P xMT (xMu q_X12_mostWorth) 5 (i_load x_isA 0 6) from s_aload_n dX12_mostWorth_5 rfl), ⟨(show xSim l P xMT (xMu q_X12_mostWorth) 6 (i_push (.inl (.int (Int32.ofNat 0))) 7) from s_iconst (Int32.ofNat 0) dX12_mostWorth_6 (by decide +kernel)), ⟨(show xSim l P xMT (xMu q_X12_mostWorth) 7 (i_putf 12 0 .int 10) from s_putf 12 0 tyX12 .int dX12_mostWorth_7 (xvc_12) (by decide +kernel) xin_12 w_488 tyX12_ok nmX12 rfl rfl), ⟨(show xSim l P xMT (xMu q_X12_mostWorth) 10 (i_load x_isA 0 11) from s_aload_n dX12_mostWorth_10 rfl), ⟨(show xSim l P xMT (xMu q_X12_mostWorth) 11 (i_load x_isI 1 12) from s_iload_n dX12_mostWorth_11 rfl), ⟨(show xSim l P xMT (xMu q_X12_mostWorth) 12 (i_call (some 12) 161 2 0 0 15) from s_callV 12 (q_X12_isCopy) t_X12_isCopy m_X12_isCopy dX12_mostWorth_12 rfl (xvc_12) w_523 w_524 w_525 w_522 w_490 h_X12_isCopy ⟨(by decide +kernel), (by decide +kernel)⟩), ⟨(show xSim l P xMT (xMu q_X12_mostWorth) 15 (i_if 2 18 24) from s_if_ne 24 dX12_mostWorth_15 (by decide +kernel)), trivial⟩⟩⟩⟩⟩⟩⟩⟩⟩⟩
theorem o_k_X12_mostWorth_1 {l : Launch} {P : xP} : xAll l P xMT (xMu q_X12_mostWorth) 16 k_X12_mostWorth_1 := ⟨(show xSim l P xMT (xMu q_X12_mostWorth) 18 (i_load x_isA 0 19) from s_aload_n dX12_mostWorth_18 rfl), ⟨(show xSim l P xMT (xMu q_X12_mostWorth) 19 (i_push (.inl (.int (Int32.ofNat 2))) 20) from s_iconst (Int32.ofNat 2) dX12_mostWorth_19 (by decide +kernel)), ⟨(show xSim l P xMT (xMu q_X12_mostWorth) 20 (i_call (some 12) 193 2 0 0 23) from s_callV 12 (q_X12_refuse) t_X12_refuse m_X12_refuse dX12_mostWorth_20 rfl (xvc_12) w_511 w_512 w_513 w_510 w_490 h_X12_refuse ⟨(by decide +kernel), (by decide +kernel)⟩), ⟨(show xSim l P xMT (xMu q_X12_mostWorth) 23 (i_reti .int) from s_reti .int dX12_mostWorth_23 rfl), ⟨(show xSim l P xMT (xMu q_X12_mostWorth) 24 (i_load x_isI 2 25) from s_iload_n dX12_mostWorth_24 rfl), ⟨(show xSim l P xMT (xMu q_X12_mostWorth) 25 (i_i2l 26) from s_i2l dX12_mostWorth_25), ⟨(show xSim l P xMT (xMu q_X12_mostWorth) 26 (i_push (.inl (.long (Int64.ofNat 0))) 27) from s_lconst (Int64.ofNat 0) dX12_mostWorth_26 (by decide +kernel)), ⟨(show xSim l P xMT (xMu q_X12_mostWorth) 27 (i_push (.inl (.long (Int64.ofNat 1))) 28) from s_lconst (Int64.ofNat 1) dX12_mostWorth_27 (by decide +kernel)), ⟨(show xSim l P xMT (xMu q_X12_mostWorth) 28 (i_call none 163 3 0 0 31) from s_callS (q_X12_isIn) t_X12_isIn m_X12_isIn dX12_mostWorth_28 w_545 w_546 w_544 w_490 h_X12_isIn ⟨(by decide +kernel), (by decide +kernel)⟩), ⟨(show xSim l P xMT (xMu q_X12_mostWorth) 31 (i_if 2 34 40) from s_if_ne 40 dX12_mostWorth_31 (by decide +kernel)), trivial⟩⟩⟩⟩⟩⟩⟩⟩⟩⟩
theorem o_k_X12_mostWorth_2 {l : Launch} {P : xP} : xAll l P xMT (xMu q_X12_mostWorth) 32 k_X12_mostWorth_2 := ⟨(show xSim l P xMT (xMu q_X12_mostWorth) 34 (i_load x_isA 0 35) from s_aload_n dX12_mostWorth_34 rfl), ⟨(show xSim l P xMT (xMu q_X12_mostWorth) 35 (i_push (.inl (.int (Int32.ofNat 5))) 36) from s_iconst (Int32.ofNat 5) dX12_mostWorth_35 (by decide +kernel)), ⟨(show xSim l P xMT (xMu q_X12_mostWorth) 36 (i_call (some 12) 193 2 0 0 39) from s_callV 12 (q_X12_refuse) t_X12_refuse m_X12_refuse dX12_mostWorth_36 rfl (xvc_12) w_511 w_512 w_513 w_510 w_490 h_X12_refuse ⟨(by decide +kernel), (by decide +kernel)⟩), ⟨(show xSim l P xMT (xMu q_X12_mostWorth) 39 (i_reti .int) from s_reti .int dX12_mostWorth_39 rfl), ⟨(show xSim l P xMT (xMu q_X12_mostWorth) 40 (i_push (.inl (.int (Int32.ofNat 4294967295))) 41) from s_iconst (Int32.ofNat 4294967295) dX12_mostWorth_40 (by decide +kernel)), ⟨(show xSim l P xMT (xMu q_X12_mostWorth) 41 (i_store1 x_isI 6 3 42) from s_istore_n dX12_mostWorth_41 rfl), ⟨(show xSim l P xMT (xMu q_X12_mostWorth) 42 (i_push (.inl (.int (Int32.ofNat 4294967295))) 43) from s_iconst (Int32.ofNat 4294967295) dX12_mostWorth_42 (by decide +kernel)), ⟨(show xSim l P xMT (xMu q_X12_mostWorth) 43 (i_store1 x_isI 6 4 45) from s_istore dX12_mostWorth_43), ⟨(show xSim l P xMT (xMu q_X12_mostWorth) 45 (i_push (.inl (.int (Int32.ofNat 0))) 46) from s_iconst (Int32.ofNat 0) dX12_mostWorth_45 (by decide +kernel)), ⟨(show xSim l P xMT (xMu q_X12_mostWorth) 46 (i_store1 x_isI 6 5 48) from s_istore dX12_mostWorth_46), trivial⟩⟩⟩⟩⟩⟩⟩⟩⟩⟩
theorem o_k_X12_mostWorth_3 {l : Launch} {P : xP} : xAll l P xMT (xMu q_X12_mostWorth) 48 k_X12_mostWorth_3 := ⟨(show xSim l P xMT (xMu q_X12_mostWorth) 48 (i_load x_isI 5 50) from s_iload dX12_mostWorth_48), ⟨(show xSim l P xMT (xMu q_X12_mostWorth) 50 (i_load x_isA 0 51) from s_aload_n dX12_mostWorth_50 rfl), ⟨(show xSim l P xMT (xMu q_X12_mostWorth) 51 (i_call (some 12) 138 1 0 0 54) from s_callV 12 (q_X12_cells) t_X12_cells m_X12_cells dX12_mostWorth_51 rfl (xvc_12) w_500 w_501 w_502 w_499 w_490 h_X12_cells ⟨(by decide +kernel), (by decide +kernel)⟩), ⟨(show xSim l P xMT (xMu q_X12_mostWorth) 54 (i_icmp 0 57 100) from s_icmp_ge 100 dX12_mostWorth_54 (by decide +kernel)), ⟨(show xSim l P xMT (xMu q_X12_mostWorth) 57 (i_load x_isA 0 58) from s_aload_n dX12_mostWorth_57 rfl), ⟨(show xSim l P xMT (xMu q_X12_mostWorth) 58 (i_load x_isI 1 59) from s_iload_n dX12_mostWorth_58 rfl), ⟨(show xSim l P xMT (xMu q_X12_mostWorth) 59 (i_load x_isI 5 61) from s_iload dX12_mostWorth_59), ⟨(show xSim l P xMT (xMu q_X12_mostWorth) 61 (i_call (some 12) 162 3 0 0 64) from s_callV 12 (q_X12_isFood) t_X12_isFood m_X12_isFood dX12_mostWorth_61 rfl (xvc_12) w_652 w_653 w_654 w_651 w_490 h_X12_isFood ⟨(by decide +kernel), (by decide +kernel)⟩), trivial⟩⟩⟩⟩⟩⟩⟩⟩
theorem o_k_X12_mostWorth_4 {l : Launch} {P : xP} : xAll l P xMT (xMu q_X12_mostWorth) 64 k_X12_mostWorth_4 := ⟨(show xSim l P xMT (xMu q_X12_mostWorth) 64 (i_if 2 94 67) from s_if_eq 94 dX12_mostWorth_64 (by decide +kernel)), ⟨(show xSim l P xMT (xMu q_X12_mostWorth) 67 (i_load x_isA 0 68) from s_aload_n dX12_mostWorth_67 rfl), ⟨(show xSim l P xMT (xMu q_X12_mostWorth) 68 (i_load x_isI 1 69) from s_iload_n dX12_mostWorth_68 rfl), ⟨(show xSim l P xMT (xMu q_X12_mostWorth) 69 (i_load x_isI 5 71) from s_iload dX12_mostWorth_69), ⟨(show xSim l P xMT (xMu q_X12_mostWorth) 71 (i_call (some 12) 217 3 0 0 74) from s_callV 12 (q_X12_worthOf) t_X12_worthOf m_X12_worthOf dX12_mostWorth_71 rfl (xvc_12) w_656 w_657 w_658 w_655 w_490 h_X12_worthOf ⟨(by decide +kernel), (by decide +kernel)⟩), ⟨(show xSim l P xMT (xMu q_X12_mostWorth) 74 (i_load x_isI 4 76) from s_iload dX12_mostWorth_74), ⟨(show xSim l P xMT (xMu q_X12_mostWorth) 76 (i_icmp 1 82 79) from s_icmp_gt 82 dX12_mostWorth_76 (by decide +kernel)), ⟨(show xSim l P xMT (xMu q_X12_mostWorth) 79 (i_jump 94) from s_goto 94 dX12_mostWorth_79 (by decide +kernel)), trivial⟩⟩⟩⟩⟩⟩⟩⟩
theorem o_k_X12_mostWorth_5 {l : Launch} {P : xP} : xAll l P xMT (xMu q_X12_mostWorth) 80 k_X12_mostWorth_5 := ⟨(show xSim l P xMT (xMu q_X12_mostWorth) 82 (i_load x_isA 0 83) from s_aload_n dX12_mostWorth_82 rfl), ⟨(show xSim l P xMT (xMu q_X12_mostWorth) 83 (i_load x_isI 1 84) from s_iload_n dX12_mostWorth_83 rfl), ⟨(show xSim l P xMT (xMu q_X12_mostWorth) 84 (i_load x_isI 5 86) from s_iload dX12_mostWorth_84), ⟨(show xSim l P xMT (xMu q_X12_mostWorth) 86 (i_call (some 12) 217 3 0 0 89) from s_callV 12 (q_X12_worthOf) t_X12_worthOf m_X12_worthOf dX12_mostWorth_86 rfl (xvc_12) w_656 w_657 w_658 w_655 w_490 h_X12_worthOf ⟨(by decide +kernel), (by decide +kernel)⟩), ⟨(show xSim l P xMT (xMu q_X12_mostWorth) 89 (i_store1 x_isI 6 4 91) from s_istore dX12_mostWorth_89), ⟨(show xSim l P xMT (xMu q_X12_mostWorth) 91 (i_load x_isI 5 93) from s_iload dX12_mostWorth_91), ⟨(show xSim l P xMT (xMu q_X12_mostWorth) 93 (i_store1 x_isI 6 3 94) from s_istore_n dX12_mostWorth_93 rfl), ⟨(show xSim l P xMT (xMu q_X12_mostWorth) 94 (i_iinc 6 5 (Int32.ofNat 1) 97) from s_iinc (Int32.ofNat 1) dX12_mostWorth_94 (by decide +kernel)), trivial⟩⟩⟩⟩⟩⟩⟩⟩
theorem o_k_X12_mostWorth_6 {l : Launch} {P : xP} : xAll l P xMT (xMu q_X12_mostWorth) 96 k_X12_mostWorth_6 := ⟨(show xSim l P xMT (xMu q_X12_mostWorth) 97 (i_jump 48) from s_goto 48 dX12_mostWorth_97 (by decide +kernel)), ⟨(show xSim l P xMT (xMu q_X12_mostWorth) 100 (i_load x_isI 3 101) from s_iload_n dX12_mostWorth_100 rfl), ⟨(show xSim l P xMT (xMu q_X12_mostWorth) 101 (i_if 0 104 113) from s_if_ge 113 dX12_mostWorth_101 (by decide +kernel)), trivial⟩⟩⟩
theorem o_k_X12_mostWorth_7 {l : Launch} {P : xP} : xAll l P xMT (xMu q_X12_mostWorth) 112 k_X12_mostWorth_7 := ⟨(show xSim l P xMT (xMu q_X12_mostWorth) 113 (i_load x_isI 2 114) from s_iload_n dX12_mostWorth_113 rfl), ⟨(show xSim l P xMT (xMu q_X12_mostWorth) 114 (i_if 2 117 121) from s_if_ne 121 dX12_mostWorth_114 (by decide +kernel)), ⟨(show xSim l P xMT (xMu q_X12_mostWorth) 117 (i_load x_isI 3 118) from s_iload_n dX12_mostWorth_117 rfl), ⟨(show xSim l P xMT (xMu q_X12_mostWorth) 118 (i_jump 123) from s_goto 123 dX12_mostWorth_118 (by decide +kernel)), ⟨(show xSim l P xMT (xMu q_X12_mostWorth) 121 (i_load x_isI 4 123) from s_iload dX12_mostWorth_121), ⟨(show xSim l P xMT (xMu q_X12_mostWorth) 123 (i_reti .int) from s_reti .int dX12_mostWorth_123 rfl), trivial⟩⟩⟩⟩⟩⟩
theorem o_X12_mostWorth {l : Launch} {P : xP} : xTabOK l P xMT (xMu q_X12_mostWorth) t_X12_mostWorth := xTabOK.of ⟨o_k_X12_mostWorth_0, ⟨o_k_X12_mostWorth_1, ⟨o_k_X12_mostWorth_2, ⟨o_k_X12_mostWorth_3, ⟨o_k_X12_mostWorth_4, ⟨o_k_X12_mostWorth_5, ⟨o_k_X12_mostWorth_6, ⟨o_k_X12_mostWorth_7, trivial⟩⟩⟩⟩⟩⟩⟩⟩
theorem dX12_mould_0 : decode cX12_mould 0 = .ok (.aload_n 0, 1) := by decide +kernel
theorem dX12_mould_1 : decode cX12_mould 1 = .ok (.iconst 0, 1) := by decide +kernel
theorem dX12_mould_2 : decode cX12_mould 2 = .ok (.putfield 72, 3) := by decide +kernel
theorem dX12_mould_5 : decode cX12_mould 5 = .ok (.aload_n 0, 1) := by decide +kernel
theorem dX12_mould_6 : decode cX12_mould 6 = .ok (.iconst 0, 1) := by decide +kernel
theorem dX12_mould_7 : decode cX12_mould 7 = .ok (.putfield 75, 3) := by decide +kernel
theorem dX12_mould_10 : decode cX12_mould 10 = .ok (.aload_n 0, 1) := by decide +kernel
theorem dX12_mould_11 : decode cX12_mould 11 = .ok (.iload_n 1, 1) := by decide +kernel
theorem dX12_mould_12 : decode cX12_mould 12 = .ok (.invokevirtual 314, 3) := by decide +kernel
theorem dX12_mould_15 : decode cX12_mould 15 = .ok (.ifCond .eq 12, 3) := by decide +kernel
theorem dX12_mould_18 : decode cX12_mould 18 = .ok (.aload_n 0, 1) := by decide +kernel
theorem dX12_mould_19 : decode cX12_mould 19 = .ok (.iload_n 2, 1) := by decide +kernel
theorem dX12_mould_20 : decode cX12_mould 20 = .ok (.iload_n 3, 1) := by decide +kernel
theorem dX12_mould_21 : decode cX12_mould 21 = .ok (.invokevirtual 308, 3) := by decide +kernel
theorem dX12_mould_24 : decode cX12_mould 24 = .ok (.ifCond .ne 9, 3) := by decide +kernel
theorem dX12_mould_27 : decode cX12_mould 27 = .ok (.aload_n 0, 1) := by decide +kernel
theorem dX12_mould_28 : decode cX12_mould 28 = .ok (.iconst 2, 1) := by decide +kernel
theorem dX12_mould_29 : decode cX12_mould 29 = .ok (.invokevirtual 87, 3) := by decide +kernel
theorem dX12_mould_32 : decode cX12_mould 32 = .ok (.ireturn, 1) := by decide +kernel
theorem dX12_mould_33 : decode cX12_mould 33 = .ok (.aload_n 0, 1) := by decide +kernel
theorem dX12_mould_34 : decode cX12_mould 34 = .ok (.iload_n 1, 1) := by decide +kernel
theorem dX12_mould_35 : decode cX12_mould 35 = .ok (.aload_n 0, 1) := by decide +kernel
theorem dX12_mould_36 : decode cX12_mould 36 = .ok (.iload_n 2, 1) := by decide +kernel
theorem dX12_mould_37 : decode cX12_mould 37 = .ok (.iload_n 3, 1) := by decide +kernel
theorem dX12_mould_38 : decode cX12_mould 38 = .ok (.invokevirtual 311, 3) := by decide +kernel
theorem dX12_mould_41 : decode cX12_mould 41 = .ok (.invokevirtual 326, 3) := by decide +kernel
theorem dX12_mould_44 : decode cX12_mould 44 = .ok (.ifCond .ne 12, 3) := by decide +kernel
theorem dX12_mould_56 : decode cX12_mould 56 = .ok (.iconst 1, 1) := by decide +kernel
theorem dX12_mould_57 : decode cX12_mould 57 = .ok (.goto 4, 3) := by decide +kernel
theorem dX12_mould_61 : decode cX12_mould 61 = .ok (.ireturn, 1) := by decide +kernel
theorem o_k_X12_mould_0 {l : Launch} {P : xP} : xAll l P xMT (xMu q_X12_mould) 0 k_X12_mould_0 := ⟨(show xSim l P xMT (xMu q_X12_mould) 0 (i_load x_isA 0 1) from s_aload_n dX12_mould_0 rfl), ⟨(show xSim l P xMT (xMu q_X12_mould) 1 (i_push (.inl (.int (Int32.ofNat 0))) 2) from s_iconst (Int32.ofNat 0) dX12_mould_1 (by decide +kernel)), ⟨(show xSim l P xMT (xMu q_X12_mould) 2 (i_putf 12 1 .int 5) from s_putf 12 1 tyX12 .int dX12_mould_2 (xvc_12) (by decide +kernel) xin_12 w_487 tyX12_ok nmX12 rfl rfl), ⟨(show xSim l P xMT (xMu q_X12_mould) 5 (i_load x_isA 0 6) from s_aload_n dX12_mould_5 rfl), ⟨(show xSim l P xMT (xMu q_X12_mould) 6 (i_push (.inl (.int (Int32.ofNat 0))) 7) from s_iconst (Int32.ofNat 0) dX12_mould_6 (by decide +kernel)), ⟨(show xSim l P xMT (xMu q_X12_mould) 7 (i_putf 12 0 .int 10) from s_putf 12 0 tyX12 .int dX12_mould_7 (xvc_12) (by decide +kernel) xin_12 w_488 tyX12_ok nmX12 rfl rfl), ⟨(show xSim l P xMT (xMu q_X12_mould) 10 (i_load x_isA 0 11) from s_aload_n dX12_mould_10 rfl), ⟨(show xSim l P xMT (xMu q_X12_mould) 11 (i_load x_isI 1 12) from s_iload_n dX12_mould_11 rfl), ⟨(show xSim l P xMT (xMu q_X12_mould) 12 (i_call (some 12) 161 2 0 0 15) from s_callV 12 (q_X12_isCopy) t_X12_isCopy m_X12_isCopy dX12_mould_12 rfl (xvc_12) w_523 w_524 w_525 w_522 w_490 h_X12_isCopy ⟨(by decide +kernel), (by decide +kernel)⟩), ⟨(show xSim l P xMT (xMu q_X12_mould) 15 (i_if 2 27 18) from s_if_eq 27 dX12_mould_15 (by decide +kernel)), trivial⟩⟩⟩⟩⟩⟩⟩⟩⟩⟩
theorem o_k_X12_mould_1 {l : Launch} {P : xP} : xAll l P xMT (xMu q_X12_mould) 16 k_X12_mould_1 := ⟨(show xSim l P xMT (xMu q_X12_mould) 18 (i_load x_isA 0 19) from s_aload_n dX12_mould_18 rfl), ⟨(show xSim l P xMT (xMu q_X12_mould) 19 (i_loadc 2 20) from s_iloadc_n dX12_mould_19 rfl), ⟨(show xSim l P xMT (xMu q_X12_mould) 20 (i_load x_isI 3 21) from s_iload_n dX12_mould_20 rfl), ⟨(show xSim l P xMT (xMu q_X12_mould) 21 (i_call (some 12) 159 3 0 0 24) from s_callV 12 (q_X12_isCell) t_X12_isCell m_X12_isCell dX12_mould_21 rfl (xvc_12) w_515 w_516 w_517 w_514 w_490 h_X12_isCell ⟨(by decide +kernel), (by decide +kernel)⟩), ⟨(show xSim l P xMT (xMu q_X12_mould) 24 (i_if 2 27 33) from s_if_ne 33 dX12_mould_24 (by decide +kernel)), ⟨(show xSim l P xMT (xMu q_X12_mould) 27 (i_load x_isA 0 28) from s_aload_n dX12_mould_27 rfl), ⟨(show xSim l P xMT (xMu q_X12_mould) 28 (i_push (.inl (.int (Int32.ofNat 2))) 29) from s_iconst (Int32.ofNat 2) dX12_mould_28 (by decide +kernel)), ⟨(show xSim l P xMT (xMu q_X12_mould) 29 (i_call (some 12) 183 2 0 0 32) from s_callV 12 (q_X12_no) t_X12_no m_X12_no dX12_mould_29 rfl (xvc_12) w_495 w_496 w_497 w_494 w_490 h_X12_no ⟨(by decide +kernel), (by decide +kernel)⟩), trivial⟩⟩⟩⟩⟩⟩⟩⟩
theorem o_k_X12_mould_2 {l : Launch} {P : xP} : xAll l P xMT (xMu q_X12_mould) 32 k_X12_mould_2 := ⟨(show xSim l P xMT (xMu q_X12_mould) 32 (i_reti .boolean) from s_reti .boolean dX12_mould_32 rfl), ⟨(show xSim l P xMT (xMu q_X12_mould) 33 (i_load x_isA 0 34) from s_aload_n dX12_mould_33 rfl), ⟨(show xSim l P xMT (xMu q_X12_mould) 34 (i_load x_isI 1 35) from s_iload_n dX12_mould_34 rfl), ⟨(show xSim l P xMT (xMu q_X12_mould) 35 (i_load x_isA 0 36) from s_aload_n dX12_mould_35 rfl), ⟨(show xSim l P xMT (xMu q_X12_mould) 36 (i_load x_isI 2 37) from s_iload_n dX12_mould_36 rfl), ⟨(show xSim l P xMT (xMu q_X12_mould) 37 (i_load x_isI 3 38) from s_iload_n dX12_mould_37 rfl), ⟨(show xSim l P xMT (xMu q_X12_mould) 38 (i_call (some 12) 129 3 0 0 41) from s_callV 12 (q_X12_at2) t_X12_at2 m_X12_at2 dX12_mould_38 rfl (xvc_12) w_519 w_520 w_521 w_518 w_490 h_X12_at2 ⟨(by decide +kernel), (by decide +kernel)⟩), ⟨(show xSim l P xMT (xMu q_X12_mould) 41 (i_call (some 12) 180 3 0 0 44) from s_callV 12 (q_X12_moulds) t_X12_moulds m_X12_moulds dX12_mould_41 rfl (xvc_12) w_660 w_661 w_662 w_659 w_490 h_X12_moulds ⟨(by decide +kernel), (by decide +kernel)⟩), ⟨(show xSim l P xMT (xMu q_X12_mould) 44 (i_if 2 47 56) from s_if_ne 56 dX12_mould_44 (by decide +kernel)), trivial⟩⟩⟩⟩⟩⟩⟩⟩⟩
theorem o_k_X12_mould_3 {l : Launch} {P : xP} : xAll l P xMT (xMu q_X12_mould) 48 k_X12_mould_3 := ⟨(show xSim l P xMT (xMu q_X12_mould) 56 (i_push (.inl (.int (Int32.ofNat 1))) 57) from s_iconst (Int32.ofNat 1) dX12_mould_56 (by decide +kernel)), ⟨(show xSim l P xMT (xMu q_X12_mould) 57 (i_jump 61) from s_goto 61 dX12_mould_57 (by decide +kernel)), ⟨(show xSim l P xMT (xMu q_X12_mould) 61 (i_reti .boolean) from s_reti .boolean dX12_mould_61 rfl), trivial⟩⟩⟩
theorem o_X12_mould {l : Launch} {P : xP} : xTabOK l P xMT (xMu q_X12_mould) t_X12_mould := xTabOK.of ⟨o_k_X12_mould_0, ⟨o_k_X12_mould_1, ⟨o_k_X12_mould_2, ⟨o_k_X12_mould_3, trivial⟩⟩⟩⟩
theorem dX12_moulds_0 : decode cX12_moulds 0 = .ok (.aload_n 0, 1) := by decide +kernel
theorem dX12_moulds_1 : decode cX12_moulds 1 = .ok (.iload_n 1, 1) := by decide +kernel
theorem dX12_moulds_2 : decode cX12_moulds 2 = .ok (.iload_n 2, 1) := by decide +kernel
theorem dX12_moulds_3 : decode cX12_moulds 3 = .ok (.invokevirtual 296, 3) := by decide +kernel
theorem dX12_moulds_6 : decode cX12_moulds 6 = .ok (.ifCond .eq 5, 3) := by decide +kernel
theorem dX12_moulds_11 : decode cX12_moulds 11 = .ok (.aload_n 0, 1) := by decide +kernel
theorem dX12_moulds_12 : decode cX12_moulds 12 = .ok (.getfield 35, 3) := by decide +kernel
theorem dX12_moulds_15 : decode cX12_moulds 15 = .ok (.iload_n 1, 1) := by decide +kernel
theorem dX12_moulds_16 : decode cX12_moulds 16 = .ok (.iload_n 2, 1) := by decide +kernel
theorem dX12_moulds_17 : decode cX12_moulds 17 = .ok (.invokestatic 287, 3) := by decide +kernel
theorem dX12_moulds_20 : decode cX12_moulds 20 = .ok (.iconst 2, 1) := by decide +kernel
theorem dX12_moulds_21 : decode cX12_moulds 21 = .ok (.iastore, 1) := by decide +kernel
theorem dX12_moulds_22 : decode cX12_moulds 22 = .ok (.iconst 1, 1) := by decide +kernel
theorem dX12_moulds_23 : decode cX12_moulds 23 = .ok (.ireturn, 1) := by decide +kernel
theorem o_k_X12_moulds_0 {l : Launch} {P : xP} : xAll l P xMT (xMu q_X12_moulds) 0 k_X12_moulds_0 := ⟨(show xSim l P xMT (xMu q_X12_moulds) 0 (i_load x_isA 0 1) from s_aload_n dX12_moulds_0 rfl), ⟨(show xSim l P xMT (xMu q_X12_moulds) 1 (i_load x_isI 1 2) from s_iload_n dX12_moulds_1 rfl), ⟨(show xSim l P xMT (xMu q_X12_moulds) 2 (i_load x_isI 2 3) from s_iload_n dX12_moulds_2 rfl), ⟨(show xSim l P xMT (xMu q_X12_moulds) 3 (i_call (some 12) 200 3 0 0 6) from s_callV 12 (q_X12_stateOf) t_X12_stateOf m_X12_stateOf dX12_moulds_3 rfl (xvc_12) w_531 w_532 w_533 w_530 w_490 h_X12_stateOf ⟨(by decide +kernel), (by decide +kernel)⟩), ⟨(show xSim l P xMT (xMu q_X12_moulds) 6 (i_if 2 11 9) from s_if_eq 11 dX12_moulds_6 (by decide +kernel)), ⟨(show xSim l P xMT (xMu q_X12_moulds) 11 (i_load x_isA 0 12) from s_aload_n dX12_moulds_11 rfl), ⟨(show xSim l P xMT (xMu q_X12_moulds) 12 (i_getf 12 20 15) from s_getf 12 20 dX12_moulds_12 (xvc_12) (by decide +kernel) xin_12 w_498), ⟨(show xSim l P xMT (xMu q_X12_moulds) 15 (i_load x_isI 1 16) from s_iload_n dX12_moulds_15 rfl), trivial⟩⟩⟩⟩⟩⟩⟩⟩
theorem o_k_X12_moulds_1 {l : Launch} {P : xP} : xAll l P xMT (xMu q_X12_moulds) 16 k_X12_moulds_1 := ⟨(show xSim l P xMT (xMu q_X12_moulds) 16 (i_load x_isI 2 17) from s_iload_n dX12_moulds_16 rfl), ⟨(show xSim l P xMT (xMu q_X12_moulds) 17 (i_call none 199 2 0 0 20) from s_callS (q_X12_state) t_X12_state m_X12_state dX12_moulds_17 w_535 w_536 w_534 w_490 h_X12_state ⟨(by decide +kernel), (by decide +kernel)⟩), ⟨(show xSim l P xMT (xMu q_X12_moulds) 20 (i_push (.inl (.int (Int32.ofNat 2))) 21) from s_iconst (Int32.ofNat 2) dX12_moulds_20 (by decide +kernel)), ⟨(show xSim l P xMT (xMu q_X12_moulds) 21 (i_ast .int 22) from s_iast dX12_moulds_21), ⟨(show xSim l P xMT (xMu q_X12_moulds) 22 (i_push (.inl (.int (Int32.ofNat 1))) 23) from s_iconst (Int32.ofNat 1) dX12_moulds_22 (by decide +kernel)), ⟨(show xSim l P xMT (xMu q_X12_moulds) 23 (i_reti .boolean) from s_reti .boolean dX12_moulds_23 rfl), trivial⟩⟩⟩⟩⟩⟩
theorem o_X12_moulds {l : Launch} {P : xP} : xTabOK l P xMT (xMu q_X12_moulds) t_X12_moulds := xTabOK.of ⟨o_k_X12_moulds_0, ⟨o_k_X12_moulds_1, trivial⟩⟩
theorem dX12_must_0 : decode cX12_must 0 = .ok (.aload_n 0, 1) := by decide +kernel
theorem dX12_must_1 : decode cX12_must 1 = .ok (.getfield 198, 3) := by decide +kernel
theorem dX12_must_4 : decode cX12_must 4 = .ok (.ifCond .le 4, 3) := by decide +kernel
theorem dX12_must_7 : decode cX12_must 7 = .ok (.return_, 1) := by decide +kernel
theorem dX12_must_8 : decode cX12_must 8 = .ok (.iload_n 1, 1) := by decide +kernel
theorem dX12_must_9 : decode cX12_must 9 = .ok (.ifCond .eq 10, 3) := by decide +kernel
theorem dX12_must_19 : decode cX12_must 19 = .ok (.aload_n 0, 1) := by decide +kernel
theorem dX12_must_20 : decode cX12_must 20 = .ok (.invokevirtual 211, 3) := by decide +kernel
theorem dX12_must_23 : decode cX12_must 23 = .ok (.return_, 1) := by decide +kernel
theorem o_k_X12_must_0 {l : Launch} {P : xP} : xAll l P xMT (xMu q_X12_must) 0 k_X12_must_0 := ⟨(show xSim l P xMT (xMu q_X12_must) 0 (i_load x_isA 0 1) from s_aload_n dX12_must_0 rfl), ⟨(show xSim l P xMT (xMu q_X12_must) 1 (i_getf 12 12 4) from s_getf 12 12 dX12_must_1 (xvc_12) (by decide +kernel) xin_12 w_554), ⟨(show xSim l P xMT (xMu q_X12_must) 4 (i_if 1 7 8) from s_if_le 8 dX12_must_4 (by decide +kernel)), ⟨(show xSim l P xMT (xMu q_X12_must) 7 (i_ret0) from s_ret0 dX12_must_7 rfl), ⟨(show xSim l P xMT (xMu q_X12_must) 8 (i_load x_isI 1 9) from s_iload_n dX12_must_8 rfl), ⟨(show xSim l P xMT (xMu q_X12_must) 9 (i_if 2 19 12) from s_if_eq 19 dX12_must_9 (by decide +kernel)), trivial⟩⟩⟩⟩⟩⟩
theorem o_k_X12_must_1 {l : Launch} {P : xP} : xAll l P xMT (xMu q_X12_must) 16 k_X12_must_1 := ⟨(show xSim l P xMT (xMu q_X12_must) 19 (i_load x_isA 0 20) from s_aload_n dX12_must_19 rfl), ⟨(show xSim l P xMT (xMu q_X12_must) 20 (i_call (some 12) 219 1 0 0 23) from s_callV 12 (q_X12_wrong) t_X12_wrong m_X12_wrong dX12_must_20 rfl (xvc_12) w_664 w_665 w_666 w_663 w_490 h_X12_wrong ⟨(by decide +kernel), (by decide +kernel)⟩), ⟨(show xSim l P xMT (xMu q_X12_must) 23 (i_ret0) from s_ret0 dX12_must_23 rfl), trivial⟩⟩⟩
theorem o_X12_must {l : Launch} {P : xP} : xTabOK l P xMT (xMu q_X12_must) t_X12_must := xTabOK.of ⟨o_k_X12_must_0, ⟨o_k_X12_must_1, trivial⟩⟩
theorem dX12_next_0 : decode cX12_next 0 = .ok (.aload_n 0, 1) := by decide +kernel
theorem dX12_next_1 : decode cX12_next 1 = .ok (.aload_n 0, 1) := by decide +kernel
theorem dX12_next_2 : decode cX12_next 2 = .ok (.getfield 114, 3) := by decide +kernel
theorem dX12_next_5 : decode cX12_next 5 = .ok (.putfield 117, 3) := by decide +kernel
theorem dX12_next_8 : decode cX12_next 8 = .ok (.aload_n 0, 1) := by decide +kernel
theorem dX12_next_9 : decode cX12_next 9 = .ok (.getfield 117, 3) := by decide +kernel
theorem dX12_next_12 : decode cX12_next 12 = .ok (.aload_n 0, 1) := by decide +kernel
theorem dX12_next_13 : decode cX12_next 13 = .ok (.getfield 111, 3) := by decide +kernel
theorem dX12_next_16 : decode cX12_next 16 = .ok (.if_icmp .ge 42, 3) := by decide +kernel
theorem dX12_next_58 : decode cX12_next 58 = .ok (.aload_n 0, 1) := by decide +kernel
theorem dX12_next_59 : decode cX12_next 59 = .ok (.aload_n 0, 1) := by decide +kernel
theorem dX12_next_60 : decode cX12_next 60 = .ok (.getfield 117, 3) := by decide +kernel
theorem dX12_next_63 : decode cX12_next 63 = .ok (.putfield 114, 3) := by decide +kernel
theorem dX12_next_66 : decode cX12_next 66 = .ok (.aload_n 0, 1) := by decide +kernel
theorem dX12_next_67 : decode cX12_next 67 = .ok (.getfield 117, 3) := by decide +kernel
theorem dX12_next_70 : decode cX12_next 70 = .ok (.aload_n 0, 1) := by decide +kernel
theorem dX12_next_71 : decode cX12_next 71 = .ok (.getfield 111, 3) := by decide +kernel
theorem dX12_next_74 : decode cX12_next 74 = .ok (.if_icmp .lt 9, 3) := by decide +kernel
theorem dX12_next_77 : decode cX12_next 77 = .ok (.aload_n 0, 1) := by decide +kernel
theorem dX12_next_78 : decode cX12_next 78 = .ok (.iconst 0, 1) := by decide +kernel
theorem dX12_next_79 : decode cX12_next 79 = .ok (.putfield 123, 3) := by decide +kernel
theorem dX12_next_82 : decode cX12_next 82 = .ok (.return_, 1) := by decide +kernel
theorem o_k_X12_next_0 {l : Launch} {P : xP} : xAll l P xMT (xMu q_X12_next) 0 k_X12_next_0 := ⟨(show xSim l P xMT (xMu q_X12_next) 0 (i_load x_isA 0 1) from s_aload_n dX12_next_0 rfl), ⟨(show xSim l P xMT (xMu q_X12_next) 1 (i_load x_isA 0 2) from s_aload_n dX12_next_1 rfl), ⟨(show xSim l P xMT (xMu q_X12_next) 2 (i_getf 12 16 5) from s_getf 12 16 dX12_next_2 (xvc_12) (by decide +kernel) xin_12 w_667), ⟨(show xSim l P xMT (xMu q_X12_next) 5 (i_putf 12 15 .int 8) from s_putf 12 15 tyX12 .int dX12_next_5 (xvc_12) (by decide +kernel) xin_12 w_668 tyX12_ok nmX12 rfl rfl), ⟨(show xSim l P xMT (xMu q_X12_next) 8 (i_load x_isA 0 9) from s_aload_n dX12_next_8 rfl), ⟨(show xSim l P xMT (xMu q_X12_next) 9 (i_getf 12 15 12) from s_getf 12 15 dX12_next_9 (xvc_12) (by decide +kernel) xin_12 w_668), ⟨(show xSim l P xMT (xMu q_X12_next) 12 (i_load x_isA 0 13) from s_aload_n dX12_next_12 rfl), ⟨(show xSim l P xMT (xMu q_X12_next) 13 (i_getf 12 9 16) from s_getf 12 9 dX12_next_13 (xvc_12) (by decide +kernel) xin_12 w_669), trivial⟩⟩⟩⟩⟩⟩⟩⟩
theorem o_k_X12_next_1 {l : Launch} {P : xP} : xAll l P xMT (xMu q_X12_next) 16 k_X12_next_1 := ⟨(show xSim l P xMT (xMu q_X12_next) 16 (i_icmp 0 19 58) from s_icmp_ge 58 dX12_next_16 (by decide +kernel)), trivial⟩
theorem o_k_X12_next_2 {l : Launch} {P : xP} : xAll l P xMT (xMu q_X12_next) 32 k_X12_next_2 := trivial
theorem o_k_X12_next_3 {l : Launch} {P : xP} : xAll l P xMT (xMu q_X12_next) 48 k_X12_next_3 := ⟨(show xSim l P xMT (xMu q_X12_next) 58 (i_load x_isA 0 59) from s_aload_n dX12_next_58 rfl), ⟨(show xSim l P xMT (xMu q_X12_next) 59 (i_load x_isA 0 60) from s_aload_n dX12_next_59 rfl), ⟨(show xSim l P xMT (xMu q_X12_next) 60 (i_getf 12 15 63) from s_getf 12 15 dX12_next_60 (xvc_12) (by decide +kernel) xin_12 w_668), ⟨(show xSim l P xMT (xMu q_X12_next) 63 (i_putf 12 16 .int 66) from s_putf 12 16 tyX12 .int dX12_next_63 (xvc_12) (by decide +kernel) xin_12 w_667 tyX12_ok nmX12 rfl rfl), trivial⟩⟩⟩⟩
theorem o_k_X12_next_4 {l : Launch} {P : xP} : xAll l P xMT (xMu q_X12_next) 64 k_X12_next_4 := ⟨(show xSim l P xMT (xMu q_X12_next) 66 (i_load x_isA 0 67) from s_aload_n dX12_next_66 rfl), ⟨(show xSim l P xMT (xMu q_X12_next) 67 (i_getf 12 15 70) from s_getf 12 15 dX12_next_67 (xvc_12) (by decide +kernel) xin_12 w_668), ⟨(show xSim l P xMT (xMu q_X12_next) 70 (i_load x_isA 0 71) from s_aload_n dX12_next_70 rfl), ⟨(show xSim l P xMT (xMu q_X12_next) 71 (i_getf 12 9 74) from s_getf 12 9 dX12_next_71 (xvc_12) (by decide +kernel) xin_12 w_669), ⟨(show xSim l P xMT (xMu q_X12_next) 74 (i_icmp 0 83 77) from s_icmp_lt 83 dX12_next_74 (by decide +kernel)), ⟨(show xSim l P xMT (xMu q_X12_next) 77 (i_load x_isA 0 78) from s_aload_n dX12_next_77 rfl), ⟨(show xSim l P xMT (xMu q_X12_next) 78 (i_push (.inl (.int (Int32.ofNat 0))) 79) from s_iconst (Int32.ofNat 0) dX12_next_78 (by decide +kernel)), ⟨(show xSim l P xMT (xMu q_X12_next) 79 (i_putf 12 14 .int 82) from s_putf 12 14 tyX12 .int dX12_next_79 (xvc_12) (by decide +kernel) xin_12 w_598 tyX12_ok nmX12 rfl rfl), trivial⟩⟩⟩⟩⟩⟩⟩⟩
theorem o_k_X12_next_5 {l : Launch} {P : xP} : xAll l P xMT (xMu q_X12_next) 80 k_X12_next_5 := ⟨(show xSim l P xMT (xMu q_X12_next) 82 (i_ret0) from s_ret0 dX12_next_82 rfl), trivial⟩
theorem o_X12_next {l : Launch} {P : xP} : xTabOK l P xMT (xMu q_X12_next) t_X12_next := xTabOK.of ⟨o_k_X12_next_0, ⟨o_k_X12_next_1, ⟨o_k_X12_next_2, ⟨o_k_X12_next_3, ⟨o_k_X12_next_4, ⟨o_k_X12_next_5, trivial⟩⟩⟩⟩⟩⟩
theorem dX12_no_0 : decode cX12_no 0 = .ok (.aload_n 0, 1) := by decide +kernel
theorem dX12_no_1 : decode cX12_no 1 = .ok (.iload_n 1, 1) := by decide +kernel
theorem dX12_no_2 : decode cX12_no 2 = .ok (.putfield 75, 3) := by decide +kernel
theorem dX12_no_5 : decode cX12_no 5 = .ok (.iconst 0, 1) := by decide +kernel
theorem dX12_no_6 : decode cX12_no 6 = .ok (.ireturn, 1) := by decide +kernel
theorem o_k_X12_no_0 {l : Launch} {P : xP} : xAll l P xMT (xMu q_X12_no) 0 k_X12_no_0 := ⟨(show xSim l P xMT (xMu q_X12_no) 0 (i_load x_isA 0 1) from s_aload_n dX12_no_0 rfl), ⟨(show xSim l P xMT (xMu q_X12_no) 1 (i_load x_isI 1 2) from s_iload_n dX12_no_1 rfl), ⟨(show xSim l P xMT (xMu q_X12_no) 2 (i_putf 12 0 .int 5) from s_putf 12 0 tyX12 .int dX12_no_2 (xvc_12) (by decide +kernel) xin_12 w_488 tyX12_ok nmX12 rfl rfl), ⟨(show xSim l P xMT (xMu q_X12_no) 5 (i_push (.inl (.int (Int32.ofNat 0))) 6) from s_iconst (Int32.ofNat 0) dX12_no_5 (by decide +kernel)), ⟨(show xSim l P xMT (xMu q_X12_no) 6 (i_reti .boolean) from s_reti .boolean dX12_no_6 rfl), trivial⟩⟩⟩⟩⟩
theorem o_X12_no {l : Launch} {P : xP} : xTabOK l P xMT (xMu q_X12_no) t_X12_no := xTabOK.of ⟨o_k_X12_no_0, trivial⟩
theorem dX12_odds_0 : decode cX12_odds 0 = .ok (.aload_n 0, 1) := by decide +kernel
theorem dX12_odds_1 : decode cX12_odds 1 = .ok (.iconst 0, 1) := by decide +kernel
theorem dX12_odds_2 : decode cX12_odds 2 = .ok (.putfield 72, 3) := by decide +kernel
theorem dX12_odds_5 : decode cX12_odds 5 = .ok (.aload_n 0, 1) := by decide +kernel
theorem dX12_odds_6 : decode cX12_odds 6 = .ok (.iconst 0, 1) := by decide +kernel
theorem dX12_odds_7 : decode cX12_odds 7 = .ok (.putfield 75, 3) := by decide +kernel
theorem dX12_odds_10 : decode cX12_odds 10 = .ok (.aload_n 0, 1) := by decide +kernel
theorem dX12_odds_11 : decode cX12_odds 11 = .ok (.iload_n 1, 1) := by decide +kernel
theorem dX12_odds_12 : decode cX12_odds 12 = .ok (.iload_n 2, 1) := by decide +kernel
theorem dX12_odds_13 : decode cX12_odds 13 = .ok (.invokevirtual 308, 3) := by decide +kernel
theorem dX12_odds_16 : decode cX12_odds 16 = .ok (.ifCond .eq 13, 3) := by decide +kernel
theorem dX12_odds_19 : decode cX12_odds 19 = .ok (.aload_n 0, 1) := by decide +kernel
theorem dX12_odds_20 : decode cX12_odds 20 = .ok (.iload_n 3, 1) := by decide +kernel
theorem dX12_odds_21 : decode cX12_odds 21 = .ok (.iload 4, 2) := by decide +kernel
theorem dX12_odds_23 : decode cX12_odds 23 = .ok (.invokevirtual 308, 3) := by decide +kernel
theorem dX12_odds_26 : decode cX12_odds 26 = .ok (.ifCond .ne 9, 3) := by decide +kernel
theorem dX12_odds_29 : decode cX12_odds 29 = .ok (.aload_n 0, 1) := by decide +kernel
theorem dX12_odds_30 : decode cX12_odds 30 = .ok (.iconst 2, 1) := by decide +kernel
theorem dX12_odds_31 : decode cX12_odds 31 = .ok (.invokevirtual 87, 3) := by decide +kernel
theorem dX12_odds_34 : decode cX12_odds 34 = .ok (.ireturn, 1) := by decide +kernel
theorem dX12_odds_35 : decode cX12_odds 35 = .ok (.iload 5, 2) := by decide +kernel
theorem dX12_odds_37 : decode cX12_odds 37 = .ok (.i2l, 1) := by decide +kernel
theorem dX12_odds_38 : decode cX12_odds 38 = .ok (.lconst 0, 1) := by decide +kernel
theorem dX12_odds_39 : decode cX12_odds 39 = .ok (.ldc2_w 444, 3) := by decide +kernel
theorem dX12_odds_42 : decode cX12_odds 42 = .ok (.invokestatic 107, 3) := by decide +kernel
theorem dX12_odds_45 : decode cX12_odds 45 = .ok (.ifCond .ne 9, 3) := by decide +kernel
theorem dX12_odds_48 : decode cX12_odds 48 = .ok (.aload_n 0, 1) := by decide +kernel
theorem dX12_odds_49 : decode cX12_odds 49 = .ok (.iconst 5, 1) := by decide +kernel
theorem dX12_odds_50 : decode cX12_odds 50 = .ok (.invokevirtual 87, 3) := by decide +kernel
theorem dX12_odds_53 : decode cX12_odds 53 = .ok (.ireturn, 1) := by decide +kernel
theorem dX12_odds_54 : decode cX12_odds 54 = .ok (.aload_n 0, 1) := by decide +kernel
theorem dX12_odds_55 : decode cX12_odds 55 = .ok (.iload 5, 2) := by decide +kernel
theorem dX12_odds_57 : decode cX12_odds 57 = .ok (.invokestatic 446, 3) := by decide +kernel
theorem dX12_odds_60 : decode cX12_odds 60 = .ok (.aload_n 0, 1) := by decide +kernel
theorem dX12_odds_61 : decode cX12_odds 61 = .ok (.aload_n 0, 1) := by decide +kernel
theorem dX12_odds_62 : decode cX12_odds 62 = .ok (.iload_n 1, 1) := by decide +kernel
theorem dX12_odds_63 : decode cX12_odds 63 = .ok (.iload_n 2, 1) := by decide +kernel
theorem dX12_odds_64 : decode cX12_odds 64 = .ok (.invokevirtual 311, 3) := by decide +kernel
theorem dX12_odds_67 : decode cX12_odds 67 = .ok (.aload_n 0, 1) := by decide +kernel
theorem dX12_odds_68 : decode cX12_odds 68 = .ok (.iload_n 3, 1) := by decide +kernel
theorem dX12_odds_69 : decode cX12_odds 69 = .ok (.iload 4, 2) := by decide +kernel
theorem dX12_odds_71 : decode cX12_odds 71 = .ok (.invokevirtual 311, 3) := by decide +kernel
theorem dX12_odds_74 : decode cX12_odds 74 = .ok (.iload 5, 2) := by decide +kernel
theorem dX12_odds_76 : decode cX12_odds 76 = .ok (.invokevirtual 450, 3) := by decide +kernel
theorem dX12_odds_79 : decode cX12_odds 79 = .ok (.lsub, 1) := by decide +kernel
theorem dX12_odds_80 : decode cX12_odds 80 = .ok (.iload 5, 2) := by decide +kernel
theorem dX12_odds_82 : decode cX12_odds 82 = .ok (.invokestatic 446, 3) := by decide +kernel
theorem dX12_odds_85 : decode cX12_odds 85 = .ok (.invokevirtual 454, 3) := by decide +kernel
theorem dX12_odds_88 : decode cX12_odds 88 = .ok (.ireturn, 1) := by decide +kernel
theorem o_k_X12_odds_0 {l : Launch} {P : xP} : xAll l P xMT (xMu q_X12_odds) 0 k_X12_odds_0 := ⟨(show xSim l P xMT (xMu q_X12_odds) 0 (i_load x_isA 0 1) from s_aload_n dX12_odds_0 rfl), ⟨(show xSim l P xMT (xMu q_X12_odds) 1 (i_push (.inl (.int (Int32.ofNat 0))) 2) from s_iconst (Int32.ofNat 0) dX12_odds_1 (by decide +kernel)), ⟨(show xSim l P xMT (xMu q_X12_odds) 2 (i_putf 12 1 .int 5) from s_putf 12 1 tyX12 .int dX12_odds_2 (xvc_12) (by decide +kernel) xin_12 w_487 tyX12_ok nmX12 rfl rfl), ⟨(show xSim l P xMT (xMu q_X12_odds) 5 (i_load x_isA 0 6) from s_aload_n dX12_odds_5 rfl), ⟨(show xSim l P xMT (xMu q_X12_odds) 6 (i_push (.inl (.int (Int32.ofNat 0))) 7) from s_iconst (Int32.ofNat 0) dX12_odds_6 (by decide +kernel)), ⟨(show xSim l P xMT (xMu q_X12_odds) 7 (i_putf 12 0 .int 10) from s_putf 12 0 tyX12 .int dX12_odds_7 (xvc_12) (by decide +kernel) xin_12 w_488 tyX12_ok nmX12 rfl rfl), ⟨(show xSim l P xMT (xMu q_X12_odds) 10 (i_load x_isA 0 11) from s_aload_n dX12_odds_10 rfl), ⟨(show xSim l P xMT (xMu q_X12_odds) 11 (i_loadc 1 12) from s_iloadc_n dX12_odds_11 rfl), ⟨(show xSim l P xMT (xMu q_X12_odds) 12 (i_load x_isI 2 13) from s_iload_n dX12_odds_12 rfl), ⟨(show xSim l P xMT (xMu q_X12_odds) 13 (i_call (some 12) 159 3 0 0 16) from s_callV 12 (q_X12_isCell) t_X12_isCell m_X12_isCell dX12_odds_13 rfl (xvc_12) w_515 w_516 w_517 w_514 w_490 h_X12_isCell ⟨(by decide +kernel), (by decide +kernel)⟩), trivial⟩⟩⟩⟩⟩⟩⟩⟩⟩⟩
theorem o_k_X12_odds_1 {l : Launch} {P : xP} : xAll l P xMT (xMu q_X12_odds) 16 k_X12_odds_1 := ⟨(show xSim l P xMT (xMu q_X12_odds) 16 (i_if 2 29 19) from s_if_eq 29 dX12_odds_16 (by decide +kernel)), ⟨(show xSim l P xMT (xMu q_X12_odds) 19 (i_load x_isA 0 20) from s_aload_n dX12_odds_19 rfl), ⟨(show xSim l P xMT (xMu q_X12_odds) 20 (i_loadc 3 21) from s_iloadc_n dX12_odds_20 rfl), ⟨(show xSim l P xMT (xMu q_X12_odds) 21 (i_load x_isI 4 23) from s_iload dX12_odds_21), ⟨(show xSim l P xMT (xMu q_X12_odds) 23 (i_call (some 12) 159 3 0 0 26) from s_callV 12 (q_X12_isCell) t_X12_isCell m_X12_isCell dX12_odds_23 rfl (xvc_12) w_515 w_516 w_517 w_514 w_490 h_X12_isCell ⟨(by decide +kernel), (by decide +kernel)⟩), ⟨(show xSim l P xMT (xMu q_X12_odds) 26 (i_if 2 29 35) from s_if_ne 35 dX12_odds_26 (by decide +kernel)), ⟨(show xSim l P xMT (xMu q_X12_odds) 29 (i_load x_isA 0 30) from s_aload_n dX12_odds_29 rfl), ⟨(show xSim l P xMT (xMu q_X12_odds) 30 (i_push (.inl (.int (Int32.ofNat 2))) 31) from s_iconst (Int32.ofNat 2) dX12_odds_30 (by decide +kernel)), ⟨(show xSim l P xMT (xMu q_X12_odds) 31 (i_call (some 12) 183 2 0 0 34) from s_callV 12 (q_X12_no) t_X12_no m_X12_no dX12_odds_31 rfl (xvc_12) w_495 w_496 w_497 w_494 w_490 h_X12_no ⟨(by decide +kernel), (by decide +kernel)⟩), trivial⟩⟩⟩⟩⟩⟩⟩⟩⟩
theorem o_k_X12_odds_2 {l : Launch} {P : xP} : xAll l P xMT (xMu q_X12_odds) 32 k_X12_odds_2 := ⟨(show xSim l P xMT (xMu q_X12_odds) 34 (i_reti .boolean) from s_reti .boolean dX12_odds_34 rfl), ⟨(show xSim l P xMT (xMu q_X12_odds) 35 (i_load x_isI 5 37) from s_iload dX12_odds_35), ⟨(show xSim l P xMT (xMu q_X12_odds) 37 (i_i2l 38) from s_i2l dX12_odds_37), ⟨(show xSim l P xMT (xMu q_X12_odds) 38 (i_push (.inl (.long (Int64.ofNat 0))) 39) from s_lconst (Int64.ofNat 0) dX12_odds_38 (by decide +kernel)), ⟨(show xSim l P xMT (xMu q_X12_odds) 39 (i_push (.inl (.long (Int64.ofNat 12))) 42) from s_ldc2 (Int64.ofNat 12) dX12_odds_39 w_670), ⟨(show xSim l P xMT (xMu q_X12_odds) 42 (i_call none 163 3 0 0 45) from s_callS (q_X12_isIn) t_X12_isIn m_X12_isIn dX12_odds_42 w_545 w_546 w_544 w_490 h_X12_isIn ⟨(by decide +kernel), (by decide +kernel)⟩), ⟨(show xSim l P xMT (xMu q_X12_odds) 45 (i_if 2 48 54) from s_if_ne 54 dX12_odds_45 (by decide +kernel)), trivial⟩⟩⟩⟩⟩⟩⟩
theorem o_k_X12_odds_3 {l : Launch} {P : xP} : xAll l P xMT (xMu q_X12_odds) 48 k_X12_odds_3 := ⟨(show xSim l P xMT (xMu q_X12_odds) 48 (i_load x_isA 0 49) from s_aload_n dX12_odds_48 rfl), ⟨(show xSim l P xMT (xMu q_X12_odds) 49 (i_push (.inl (.int (Int32.ofNat 5))) 50) from s_iconst (Int32.ofNat 5) dX12_odds_49 (by decide +kernel)), ⟨(show xSim l P xMT (xMu q_X12_odds) 50 (i_call (some 12) 183 2 0 0 53) from s_callV 12 (q_X12_no) t_X12_no m_X12_no dX12_odds_50 rfl (xvc_12) w_495 w_496 w_497 w_494 w_490 h_X12_no ⟨(by decide +kernel), (by decide +kernel)⟩), ⟨(show xSim l P xMT (xMu q_X12_odds) 53 (i_reti .boolean) from s_reti .boolean dX12_odds_53 rfl), ⟨(show xSim l P xMT (xMu q_X12_odds) 54 (i_load x_isA 0 55) from s_aload_n dX12_odds_54 rfl), ⟨(show xSim l P xMT (xMu q_X12_odds) 55 (i_load x_isI 5 57) from s_iload dX12_odds_55), ⟨(show xSim l P xMT (xMu q_X12_odds) 57 (i_call none 150 1 0 0 60) from s_callS (q_X12_fours) t_X12_fours m_X12_fours dX12_odds_57 w_641 w_642 w_640 w_490 h_X12_fours ⟨(by decide +kernel), (by decide +kernel)⟩), ⟨(show xSim l P xMT (xMu q_X12_odds) 60 (i_load x_isA 0 61) from s_aload_n dX12_odds_60 rfl), ⟨(show xSim l P xMT (xMu q_X12_odds) 61 (i_load x_isA 0 62) from s_aload_n dX12_odds_61 rfl), ⟨(show xSim l P xMT (xMu q_X12_odds) 62 (i_load x_isI 1 63) from s_iload_n dX12_odds_62 rfl), ⟨(show xSim l P xMT (xMu q_X12_odds) 63 (i_load x_isI 2 64) from s_iload_n dX12_odds_63 rfl), trivial⟩⟩⟩⟩⟩⟩⟩⟩⟩⟩⟩
theorem o_k_X12_odds_4 {l : Launch} {P : xP} : xAll l P xMT (xMu q_X12_odds) 64 k_X12_odds_4 := ⟨(show xSim l P xMT (xMu q_X12_odds) 64 (i_call (some 12) 129 3 0 0 67) from s_callV 12 (q_X12_at2) t_X12_at2 m_X12_at2 dX12_odds_64 rfl (xvc_12) w_519 w_520 w_521 w_518 w_490 h_X12_at2 ⟨(by decide +kernel), (by decide +kernel)⟩), ⟨(show xSim l P xMT (xMu q_X12_odds) 67 (i_load x_isA 0 68) from s_aload_n dX12_odds_67 rfl), ⟨(show xSim l P xMT (xMu q_X12_odds) 68 (i_load x_isI 3 69) from s_iload_n dX12_odds_68 rfl), ⟨(show xSim l P xMT (xMu q_X12_odds) 69 (i_load x_isI 4 71) from s_iload dX12_odds_69), ⟨(show xSim l P xMT (xMu q_X12_odds) 71 (i_call (some 12) 129 3 0 0 74) from s_callV 12 (q_X12_at2) t_X12_at2 m_X12_at2 dX12_odds_71 rfl (xvc_12) w_519 w_520 w_521 w_518 w_490 h_X12_at2 ⟨(by decide +kernel), (by decide +kernel)⟩), ⟨(show xSim l P xMT (xMu q_X12_odds) 74 (i_load x_isI 5 76) from s_iload dX12_odds_74), ⟨(show xSim l P xMT (xMu q_X12_odds) 76 (i_call (some 12) 130 4 0 0 79) from s_callV 12 (q_X12_avoids) t_X12_avoids m_X12_avoids dX12_odds_76 rfl (xvc_12) w_644 w_645 w_646 w_643 w_490 h_X12_avoids ⟨(by decide +kernel), (by decide +kernel)⟩), ⟨(show xSim l P xMT (xMu q_X12_odds) 79 (i_bin64 (fun x y => x - y) 80) from s_lsub dX12_odds_79), trivial⟩⟩⟩⟩⟩⟩⟩⟩
theorem o_k_X12_odds_5 {l : Launch} {P : xP} : xAll l P xMT (xMu q_X12_odds) 80 k_X12_odds_5 := ⟨(show xSim l P xMT (xMu q_X12_odds) 80 (i_load x_isI 5 82) from s_iload dX12_odds_80), ⟨(show xSim l P xMT (xMu q_X12_odds) 82 (i_call none 150 1 0 0 85) from s_callS (q_X12_fours) t_X12_fours m_X12_fours dX12_odds_82 w_641 w_642 w_640 w_490 h_X12_fours ⟨(by decide +kernel), (by decide +kernel)⟩), ⟨(show xSim l P xMT (xMu q_X12_odds) 85 (i_call (some 12) 151 3 0 0 88) from s_callV 12 (q_X12_fraction) t_X12_fraction m_X12_fraction dX12_odds_85 rfl (xvc_12) w_648 w_649 w_650 w_647 w_490 h_X12_fraction ⟨(by decide +kernel), (by decide +kernel)⟩), ⟨(show xSim l P xMT (xMu q_X12_odds) 88 (i_reti .boolean) from s_reti .boolean dX12_odds_88 rfl), trivial⟩⟩⟩⟩
theorem o_X12_odds {l : Launch} {P : xP} : xTabOK l P xMT (xMu q_X12_odds) t_X12_odds := xTabOK.of ⟨o_k_X12_odds_0, ⟨o_k_X12_odds_1, ⟨o_k_X12_odds_2, ⟨o_k_X12_odds_3, ⟨o_k_X12_odds_4, ⟨o_k_X12_odds_5, trivial⟩⟩⟩⟩⟩⟩
theorem dX12_opens_0 : decode cX12_opens 0 = .ok (.iload_n 1, 1) := by decide +kernel
theorem dX12_opens_1 : decode cX12_opens 1 = .ok (.ifCond .lt 16, 3) := by decide +kernel
theorem dX12_opens_4 : decode cX12_opens 4 = .ok (.iload_n 1, 1) := by decide +kernel
theorem dX12_opens_5 : decode cX12_opens 5 = .ok (.aload_n 0, 1) := by decide +kernel
theorem dX12_opens_6 : decode cX12_opens 6 = .ok (.getfield 214, 3) := by decide +kernel
theorem dX12_opens_9 : decode cX12_opens 9 = .ok (.if_icmp .gt 8, 3) := by decide +kernel
theorem dX12_opens_12 : decode cX12_opens 12 = .ok (.iload_n 1, 1) := by decide +kernel
theorem dX12_opens_13 : decode cX12_opens 13 = .ok (.iload_n 2, 1) := by decide +kernel
theorem dX12_opens_14 : decode cX12_opens 14 = .ok (.if_icmp .le 9, 3) := by decide +kernel
theorem dX12_opens_17 : decode cX12_opens 17 = .ok (.aload_n 0, 1) := by decide +kernel
theorem dX12_opens_18 : decode cX12_opens 18 = .ok (.iconst 5, 1) := by decide +kernel
theorem dX12_opens_19 : decode cX12_opens 19 = .ok (.invokevirtual 87, 3) := by decide +kernel
theorem dX12_opens_22 : decode cX12_opens 22 = .ok (.ireturn, 1) := by decide +kernel
theorem dX12_opens_23 : decode cX12_opens 23 = .ok (.aload_n 0, 1) := by decide +kernel
theorem dX12_opens_24 : decode cX12_opens 24 = .ok (.iload_n 1, 1) := by decide +kernel
theorem dX12_opens_25 : decode cX12_opens 25 = .ok (.putfield 111, 3) := by decide +kernel
theorem dX12_opens_28 : decode cX12_opens 28 = .ok (.aload_n 0, 1) := by decide +kernel
theorem dX12_opens_29 : decode cX12_opens 29 = .ok (.iconst 0, 1) := by decide +kernel
theorem dX12_opens_30 : decode cX12_opens 30 = .ok (.putfield 214, 3) := by decide +kernel
theorem dX12_opens_33 : decode cX12_opens 33 = .ok (.aload_n 0, 1) := by decide +kernel
theorem dX12_opens_34 : decode cX12_opens 34 = .ok (.iconst 0, 1) := by decide +kernel
theorem dX12_opens_35 : decode cX12_opens 35 = .ok (.putfield 114, 3) := by decide +kernel
theorem dX12_opens_38 : decode cX12_opens 38 = .ok (.aload_n 0, 1) := by decide +kernel
theorem dX12_opens_39 : decode cX12_opens 39 = .ok (.iconst 0, 1) := by decide +kernel
theorem dX12_opens_40 : decode cX12_opens 40 = .ok (.putfield 198, 3) := by decide +kernel
theorem dX12_opens_43 : decode cX12_opens 43 = .ok (.aload_n 0, 1) := by decide +kernel
theorem dX12_opens_44 : decode cX12_opens 44 = .ok (.invokevirtual 208, 3) := by decide +kernel
theorem dX12_opens_47 : decode cX12_opens 47 = .ok (.iconst 1, 1) := by decide +kernel
theorem dX12_opens_48 : decode cX12_opens 48 = .ok (.ireturn, 1) := by decide +kernel
theorem o_k_X12_opens_0 {l : Launch} {P : xP} : xAll l P xMT (xMu q_X12_opens) 0 k_X12_opens_0 := ⟨(show xSim l P xMT (xMu q_X12_opens) 0 (i_load x_isI 1 1) from s_iload_n dX12_opens_0 rfl), ⟨(show xSim l P xMT (xMu q_X12_opens) 1 (i_if 0 17 4) from s_if_lt 17 dX12_opens_1 (by decide +kernel)), ⟨(show xSim l P xMT (xMu q_X12_opens) 4 (i_load x_isI 1 5) from s_iload_n dX12_opens_4 rfl), ⟨(show xSim l P xMT (xMu q_X12_opens) 5 (i_load x_isA 0 6) from s_aload_n dX12_opens_5 rfl), ⟨(show xSim l P xMT (xMu q_X12_opens) 6 (i_getf 12 8 9) from s_getf 12 8 dX12_opens_6 (xvc_12) (by decide +kernel) xin_12 w_558), ⟨(show xSim l P xMT (xMu q_X12_opens) 9 (i_icmp 1 17 12) from s_icmp_gt 17 dX12_opens_9 (by decide +kernel)), ⟨(show xSim l P xMT (xMu q_X12_opens) 12 (i_load x_isI 1 13) from s_iload_n dX12_opens_12 rfl), ⟨(show xSim l P xMT (xMu q_X12_opens) 13 (i_load x_isI 2 14) from s_iload_n dX12_opens_13 rfl), ⟨(show xSim l P xMT (xMu q_X12_opens) 14 (i_icmp 1 17 23) from s_icmp_le 23 dX12_opens_14 (by decide +kernel)), trivial⟩⟩⟩⟩⟩⟩⟩⟩⟩
theorem o_k_X12_opens_1 {l : Launch} {P : xP} : xAll l P xMT (xMu q_X12_opens) 16 k_X12_opens_1 := ⟨(show xSim l P xMT (xMu q_X12_opens) 17 (i_load x_isA 0 18) from s_aload_n dX12_opens_17 rfl), ⟨(show xSim l P xMT (xMu q_X12_opens) 18 (i_push (.inl (.int (Int32.ofNat 5))) 19) from s_iconst (Int32.ofNat 5) dX12_opens_18 (by decide +kernel)), ⟨(show xSim l P xMT (xMu q_X12_opens) 19 (i_call (some 12) 183 2 0 0 22) from s_callV 12 (q_X12_no) t_X12_no m_X12_no dX12_opens_19 rfl (xvc_12) w_495 w_496 w_497 w_494 w_490 h_X12_no ⟨(by decide +kernel), (by decide +kernel)⟩), ⟨(show xSim l P xMT (xMu q_X12_opens) 22 (i_reti .boolean) from s_reti .boolean dX12_opens_22 rfl), ⟨(show xSim l P xMT (xMu q_X12_opens) 23 (i_load x_isA 0 24) from s_aload_n dX12_opens_23 rfl), ⟨(show xSim l P xMT (xMu q_X12_opens) 24 (i_load x_isI 1 25) from s_iload_n dX12_opens_24 rfl), ⟨(show xSim l P xMT (xMu q_X12_opens) 25 (i_putf 12 9 .int 28) from s_putf 12 9 tyX12 .int dX12_opens_25 (xvc_12) (by decide +kernel) xin_12 w_669 tyX12_ok nmX12 rfl rfl), ⟨(show xSim l P xMT (xMu q_X12_opens) 28 (i_load x_isA 0 29) from s_aload_n dX12_opens_28 rfl), ⟨(show xSim l P xMT (xMu q_X12_opens) 29 (i_push (.inl (.int (Int32.ofNat 0))) 30) from s_iconst (Int32.ofNat 0) dX12_opens_29 (by decide +kernel)), ⟨(show xSim l P xMT (xMu q_X12_opens) 30 (i_putf 12 8 .int 33) from s_putf 12 8 tyX12 .int dX12_opens_30 (xvc_12) (by decide +kernel) xin_12 w_558 tyX12_ok nmX12 rfl rfl), trivial⟩⟩⟩⟩⟩⟩⟩⟩⟩⟩
theorem o_k_X12_opens_2 {l : Launch} {P : xP} : xAll l P xMT (xMu q_X12_opens) 32 k_X12_opens_2 := ⟨(show xSim l P xMT (xMu q_X12_opens) 33 (i_load x_isA 0 34) from s_aload_n dX12_opens_33 rfl), ⟨(show xSim l P xMT (xMu q_X12_opens) 34 (i_push (.inl (.int (Int32.ofNat 0))) 35) from s_iconst (Int32.ofNat 0) dX12_opens_34 (by decide +kernel)), ⟨(show xSim l P xMT (xMu q_X12_opens) 35 (i_putf 12 16 .int 38) from s_putf 12 16 tyX12 .int dX12_opens_35 (xvc_12) (by decide +kernel) xin_12 w_667 tyX12_ok nmX12 rfl rfl), ⟨(show xSim l P xMT (xMu q_X12_opens) 38 (i_load x_isA 0 39) from s_aload_n dX12_opens_38 rfl), ⟨(show xSim l P xMT (xMu q_X12_opens) 39 (i_push (.inl (.int (Int32.ofNat 0))) 40) from s_iconst (Int32.ofNat 0) dX12_opens_39 (by decide +kernel)), ⟨(show xSim l P xMT (xMu q_X12_opens) 40 (i_putf 12 12 .int 43) from s_putf 12 12 tyX12 .int dX12_opens_40 (xvc_12) (by decide +kernel) xin_12 w_554 tyX12_ok nmX12 rfl rfl), ⟨(show xSim l P xMT (xMu q_X12_opens) 43 (i_load x_isA 0 44) from s_aload_n dX12_opens_43 rfl), ⟨(show xSim l P xMT (xMu q_X12_opens) 44 (i_call (some 12) 182 1 0 0 47) from s_callV 12 (q_X12_next) t_X12_next m_X12_next dX12_opens_44 rfl (xvc_12) w_672 w_673 w_674 w_671 w_490 h_X12_next ⟨(by decide +kernel), (by decide +kernel)⟩), ⟨(show xSim l P xMT (xMu q_X12_opens) 47 (i_push (.inl (.int (Int32.ofNat 1))) 48) from s_iconst (Int32.ofNat 1) dX12_opens_47 (by decide +kernel)), trivial⟩⟩⟩⟩⟩⟩⟩⟩⟩
theorem o_k_X12_opens_3 {l : Launch} {P : xP} : xAll l P xMT (xMu q_X12_opens) 48 k_X12_opens_3 := ⟨(show xSim l P xMT (xMu q_X12_opens) 48 (i_reti .boolean) from s_reti .boolean dX12_opens_48 rfl), trivial⟩
theorem o_X12_opens {l : Launch} {P : xP} : xTabOK l P xMT (xMu q_X12_opens) t_X12_opens := xTabOK.of ⟨o_k_X12_opens_0, ⟨o_k_X12_opens_1, ⟨o_k_X12_opens_2, ⟨o_k_X12_opens_3, trivial⟩⟩⟩⟩
theorem dX12_orders_0 : decode cX12_orders 0 = .ok (.aload_n 0, 1) := by decide +kernel
theorem dX12_orders_1 : decode cX12_orders 1 = .ok (.iconst 0, 1) := by decide +kernel
theorem dX12_orders_2 : decode cX12_orders 2 = .ok (.putfield 72, 3) := by decide +kernel
theorem dX12_orders_5 : decode cX12_orders 5 = .ok (.aload_n 0, 1) := by decide +kernel
theorem dX12_orders_6 : decode cX12_orders 6 = .ok (.iconst 0, 1) := by decide +kernel
theorem dX12_orders_7 : decode cX12_orders 7 = .ok (.putfield 75, 3) := by decide +kernel
theorem dX12_orders_10 : decode cX12_orders 10 = .ok (.aload_n 0, 1) := by decide +kernel
theorem dX12_orders_11 : decode cX12_orders 11 = .ok (.iload_n 1, 1) := by decide +kernel
theorem dX12_orders_12 : decode cX12_orders 12 = .ok (.sipush 300, 3) := by decide +kernel
theorem dX12_orders_15 : decode cX12_orders 15 = .ok (.invokevirtual 247, 3) := by decide +kernel
theorem dX12_orders_18 : decode cX12_orders 18 = .ok (.ifCond .ne 5, 3) := by decide +kernel
theorem dX12_orders_21 : decode cX12_orders 21 = .ok (.iconst (-1), 1) := by decide +kernel
theorem dX12_orders_22 : decode cX12_orders 22 = .ok (.ireturn, 1) := by decide +kernel
theorem dX12_orders_23 : decode cX12_orders 23 = .ok (.aload_n 0, 1) := by decide +kernel
theorem dX12_orders_24 : decode cX12_orders 24 = .ok (.iconst 0, 1) := by decide +kernel
theorem dX12_orders_25 : decode cX12_orders 25 = .ok (.putfield 278, 3) := by decide +kernel
theorem dX12_orders_28 : decode cX12_orders 28 = .ok (.aload_n 0, 1) := by decide +kernel
theorem dX12_orders_29 : decode cX12_orders 29 = .ok (.getfield 198, 3) := by decide +kernel
theorem dX12_orders_32 : decode cX12_orders 32 = .ok (.ifCond .ne 18, 3) := by decide +kernel
theorem dX12_orders_35 : decode cX12_orders 35 = .ok (.aload_n 0, 1) := by decide +kernel
theorem dX12_orders_36 : decode cX12_orders 36 = .ok (.getfield 123, 3) := by decide +kernel
theorem dX12_orders_39 : decode cX12_orders 39 = .ok (.ifCond .eq 11, 3) := by decide +kernel
theorem dX12_orders_50 : decode cX12_orders 50 = .ok (.aload_n 0, 1) := by decide +kernel
theorem dX12_orders_51 : decode cX12_orders 51 = .ok (.invokevirtual 263, 3) := by decide +kernel
theorem dX12_orders_54 : decode cX12_orders 54 = .ok (.ifCond .ne 5, 3) := by decide +kernel
theorem dX12_orders_59 : decode cX12_orders 59 = .ok (.aload_n 0, 1) := by decide +kernel
theorem dX12_orders_60 : decode cX12_orders 60 = .ok (.getfield 35, 3) := by decide +kernel
theorem dX12_orders_63 : decode cX12_orders 63 = .ok (.sipush 275, 3) := by decide +kernel
theorem dX12_orders_66 : decode cX12_orders 66 = .ok (.iconst 1, 1) := by decide +kernel
theorem dX12_orders_67 : decode cX12_orders 67 = .ok (.iastore, 1) := by decide +kernel
theorem dX12_orders_68 : decode cX12_orders 68 = .ok (.aload_n 0, 1) := by decide +kernel
theorem dX12_orders_69 : decode cX12_orders 69 = .ok (.getfield 35, 3) := by decide +kernel
theorem dX12_orders_72 : decode cX12_orders 72 = .ok (.sipush 276, 3) := by decide +kernel
theorem dX12_orders_75 : decode cX12_orders 75 = .ok (.aload_n 0, 1) := by decide +kernel
theorem dX12_orders_76 : decode cX12_orders 76 = .ok (.getfield 278, 3) := by decide +kernel
theorem dX12_orders_79 : decode cX12_orders 79 = .ok (.iastore, 1) := by decide +kernel
theorem dX12_orders_80 : decode cX12_orders 80 = .ok (.iconst 0, 1) := by decide +kernel
theorem dX12_orders_81 : decode cX12_orders 81 = .ok (.istore_n 2, 1) := by decide +kernel
theorem dX12_orders_82 : decode cX12_orders 82 = .ok (.iload_n 2, 1) := by decide +kernel
theorem dX12_orders_83 : decode cX12_orders 83 = .ok (.bipush 9, 2) := by decide +kernel
theorem dX12_orders_85 : decode cX12_orders 85 = .ok (.aload_n 0, 1) := by decide +kernel
theorem dX12_orders_86 : decode cX12_orders 86 = .ok (.getfield 278, 3) := by decide +kernel
theorem dX12_orders_89 : decode cX12_orders 89 = .ok (.imul, 1) := by decide +kernel
theorem dX12_orders_90 : decode cX12_orders 90 = .ok (.if_icmp .ge 29, 3) := by decide +kernel
theorem dX12_orders_119 : decode cX12_orders 119 = .ok (.aload_n 0, 1) := by decide +kernel
theorem dX12_orders_120 : decode cX12_orders 120 = .ok (.getfield 278, 3) := by decide +kernel
theorem dX12_orders_123 : decode cX12_orders 123 = .ok (.ireturn, 1) := by decide +kernel
theorem o_k_X12_orders_0 {l : Launch} {P : xP} : xAll l P xMT (xMu q_X12_orders) 0 k_X12_orders_0 := ⟨(show xSim l P xMT (xMu q_X12_orders) 0 (i_load x_isA 0 1) from s_aload_n dX12_orders_0 rfl), ⟨(show xSim l P xMT (xMu q_X12_orders) 1 (i_push (.inl (.int (Int32.ofNat 0))) 2) from s_iconst (Int32.ofNat 0) dX12_orders_1 (by decide +kernel)), ⟨(show xSim l P xMT (xMu q_X12_orders) 2 (i_putf 12 1 .int 5) from s_putf 12 1 tyX12 .int dX12_orders_2 (xvc_12) (by decide +kernel) xin_12 w_487 tyX12_ok nmX12 rfl rfl), ⟨(show xSim l P xMT (xMu q_X12_orders) 5 (i_load x_isA 0 6) from s_aload_n dX12_orders_5 rfl), ⟨(show xSim l P xMT (xMu q_X12_orders) 6 (i_push (.inl (.int (Int32.ofNat 0))) 7) from s_iconst (Int32.ofNat 0) dX12_orders_6 (by decide +kernel)), ⟨(show xSim l P xMT (xMu q_X12_orders) 7 (i_putf 12 0 .int 10) from s_putf 12 0 tyX12 .int dX12_orders_7 (xvc_12) (by decide +kernel) xin_12 w_488 tyX12_ok nmX12 rfl rfl), ⟨(show xSim l P xMT (xMu q_X12_orders) 10 (i_load x_isA 0 11) from s_aload_n dX12_orders_10 rfl), ⟨(show xSim l P xMT (xMu q_X12_orders) 11 (i_load x_isI 1 12) from s_iload_n dX12_orders_11 rfl), ⟨(show xSim l P xMT (xMu q_X12_orders) 12 (i_push (.inl (.int (Int32.ofNat 300))) 15) from s_sipush (Int32.ofNat 300) dX12_orders_12 (by decide +kernel)), ⟨(show xSim l P xMT (xMu q_X12_orders) 15 (i_call (some 12) 185 3 0 0 18) from s_callV 12 (q_X12_opens) t_X12_opens m_X12_opens dX12_orders_15 rfl (xvc_12) w_607 w_608 w_609 w_606 w_490 h_X12_opens ⟨(by decide +kernel), (by decide +kernel)⟩), trivial⟩⟩⟩⟩⟩⟩⟩⟩⟩⟩
theorem o_k_X12_orders_1 {l : Launch} {P : xP} : xAll l P xMT (xMu q_X12_orders) 16 k_X12_orders_1 := ⟨(show xSim l P xMT (xMu q_X12_orders) 18 (i_if 2 21 23) from s_if_ne 23 dX12_orders_18 (by decide +kernel)), ⟨(show xSim l P xMT (xMu q_X12_orders) 21 (i_push (.inl (.int (Int32.ofNat 4294967295))) 22) from s_iconst (Int32.ofNat 4294967295) dX12_orders_21 (by decide +kernel)), ⟨(show xSim l P xMT (xMu q_X12_orders) 22 (i_reti .int) from s_reti .int dX12_orders_22 rfl), ⟨(show xSim l P xMT (xMu q_X12_orders) 23 (i_load x_isA 0 24) from s_aload_n dX12_orders_23 rfl), ⟨(show xSim l P xMT (xMu q_X12_orders) 24 (i_push (.inl (.int (Int32.ofNat 0))) 25) from s_iconst (Int32.ofNat 0) dX12_orders_24 (by decide +kernel)), ⟨(show xSim l P xMT (xMu q_X12_orders) 25 (i_putf 12 25 .int 28) from s_putf 12 25 tyX12 .int dX12_orders_25 (xvc_12) (by decide +kernel) xin_12 w_675 tyX12_ok nmX12 rfl rfl), ⟨(show xSim l P xMT (xMu q_X12_orders) 28 (i_load x_isA 0 29) from s_aload_n dX12_orders_28 rfl), ⟨(show xSim l P xMT (xMu q_X12_orders) 29 (i_getf 12 12 32) from s_getf 12 12 dX12_orders_29 (xvc_12) (by decide +kernel) xin_12 w_554), trivial⟩⟩⟩⟩⟩⟩⟩⟩
theorem o_k_X12_orders_2 {l : Launch} {P : xP} : xAll l P xMT (xMu q_X12_orders) 32 k_X12_orders_2 := ⟨(show xSim l P xMT (xMu q_X12_orders) 32 (i_if 2 35 50) from s_if_ne 50 dX12_orders_32 (by decide +kernel)), ⟨(show xSim l P xMT (xMu q_X12_orders) 35 (i_load x_isA 0 36) from s_aload_n dX12_orders_35 rfl), ⟨(show xSim l P xMT (xMu q_X12_orders) 36 (i_getf 12 14 39) from s_getf 12 14 dX12_orders_36 (xvc_12) (by decide +kernel) xin_12 w_598), ⟨(show xSim l P xMT (xMu q_X12_orders) 39 (i_if 2 50 42) from s_if_eq 50 dX12_orders_39 (by decide +kernel)), trivial⟩⟩⟩⟩
theorem o_k_X12_orders_3 {l : Launch} {P : xP} : xAll l P xMT (xMu q_X12_orders) 48 k_X12_orders_3 := ⟨(show xSim l P xMT (xMu q_X12_orders) 50 (i_load x_isA 0 51) from s_aload_n dX12_orders_50 rfl), ⟨(show xSim l P xMT (xMu q_X12_orders) 51 (i_call (some 12) 167 1 0 0 54) from s_callV 12 (q_X12_isWell) t_X12_isWell m_X12_isWell dX12_orders_51 rfl (xvc_12) w_628 w_629 w_630 w_627 w_490 h_X12_isWell ⟨(by decide +kernel), (by decide +kernel)⟩), ⟨(show xSim l P xMT (xMu q_X12_orders) 54 (i_if 2 57 59) from s_if_ne 59 dX12_orders_54 (by decide +kernel)), ⟨(show xSim l P xMT (xMu q_X12_orders) 59 (i_load x_isA 0 60) from s_aload_n dX12_orders_59 rfl), ⟨(show xSim l P xMT (xMu q_X12_orders) 60 (i_getf 12 20 63) from s_getf 12 20 dX12_orders_60 (xvc_12) (by decide +kernel) xin_12 w_498), ⟨(show xSim l P xMT (xMu q_X12_orders) 63 (i_push (.inl (.int (Int32.ofNat 275))) 66) from s_sipush (Int32.ofNat 275) dX12_orders_63 (by decide +kernel)), trivial⟩⟩⟩⟩⟩⟩
theorem o_k_X12_orders_4 {l : Launch} {P : xP} : xAll l P xMT (xMu q_X12_orders) 64 k_X12_orders_4 := ⟨(show xSim l P xMT (xMu q_X12_orders) 66 (i_push (.inl (.int (Int32.ofNat 1))) 67) from s_iconst (Int32.ofNat 1) dX12_orders_66 (by decide +kernel)), ⟨(show xSim l P xMT (xMu q_X12_orders) 67 (i_ast .int 68) from s_iast dX12_orders_67), ⟨(show xSim l P xMT (xMu q_X12_orders) 68 (i_load x_isA 0 69) from s_aload_n dX12_orders_68 rfl), ⟨(show xSim l P xMT (xMu q_X12_orders) 69 (i_getf 12 20 72) from s_getf 12 20 dX12_orders_69 (xvc_12) (by decide +kernel) xin_12 w_498), ⟨(show xSim l P xMT (xMu q_X12_orders) 72 (i_push (.inl (.int (Int32.ofNat 276))) 75) from s_sipush (Int32.ofNat 276) dX12_orders_72 (by decide +kernel)), ⟨(show xSim l P xMT (xMu q_X12_orders) 75 (i_load x_isA 0 76) from s_aload_n dX12_orders_75 rfl), ⟨(show xSim l P xMT (xMu q_X12_orders) 76 (i_getf 12 25 79) from s_getf 12 25 dX12_orders_76 (xvc_12) (by decide +kernel) xin_12 w_675), ⟨(show xSim l P xMT (xMu q_X12_orders) 79 (i_ast .int 80) from s_iast dX12_orders_79), trivial⟩⟩⟩⟩⟩⟩⟩⟩
theorem o_k_X12_orders_5 {l : Launch} {P : xP} : xAll l P xMT (xMu q_X12_orders) 80 k_X12_orders_5 := ⟨(show xSim l P xMT (xMu q_X12_orders) 80 (i_push (.inl (.int (Int32.ofNat 0))) 81) from s_iconst (Int32.ofNat 0) dX12_orders_80 (by decide +kernel)), ⟨(show xSim l P xMT (xMu q_X12_orders) 81 (i_store1 x_isI 3 2 82) from s_istore_n dX12_orders_81 rfl), ⟨(show xSim l P xMT (xMu q_X12_orders) 82 (i_load x_isI 2 83) from s_iload_n dX12_orders_82 rfl), ⟨(show xSim l P xMT (xMu q_X12_orders) 83 (i_push (.inl (.int (Int32.ofNat 9))) 85) from s_bipush (Int32.ofNat 9) dX12_orders_83 (by decide +kernel)), ⟨(show xSim l P xMT (xMu q_X12_orders) 85 (i_load x_isA 0 86) from s_aload_n dX12_orders_85 rfl), ⟨(show xSim l P xMT (xMu q_X12_orders) 86 (i_getf 12 25 89) from s_getf 12 25 dX12_orders_86 (xvc_12) (by decide +kernel) xin_12 w_675), ⟨(show xSim l P xMT (xMu q_X12_orders) 89 (i_bin32 (fun x y => x * y) 90) from s_imul dX12_orders_89), ⟨(show xSim l P xMT (xMu q_X12_orders) 90 (i_icmp 0 93 119) from s_icmp_ge 119 dX12_orders_90 (by decide +kernel)), trivial⟩⟩⟩⟩⟩⟩⟩⟩
theorem o_k_X12_orders_6 {l : Launch} {P : xP} : xAll l P xMT (xMu q_X12_orders) 96 k_X12_orders_6 := trivial
theorem o_k_X12_orders_7 {l : Launch} {P : xP} : xAll l P xMT (xMu q_X12_orders) 112 k_X12_orders_7 := ⟨(show xSim l P xMT (xMu q_X12_orders) 119 (i_load x_isA 0 120) from s_aload_n dX12_orders_119 rfl), ⟨(show xSim l P xMT (xMu q_X12_orders) 120 (i_getf 12 25 123) from s_getf 12 25 dX12_orders_120 (xvc_12) (by decide +kernel) xin_12 w_675), ⟨(show xSim l P xMT (xMu q_X12_orders) 123 (i_reti .int) from s_reti .int dX12_orders_123 rfl), trivial⟩⟩⟩
theorem o_X12_orders {l : Launch} {P : xP} : xTabOK l P xMT (xMu q_X12_orders) t_X12_orders := xTabOK.of ⟨o_k_X12_orders_0, ⟨o_k_X12_orders_1, ⟨o_k_X12_orders_2, ⟨o_k_X12_orders_3, ⟨o_k_X12_orders_4, ⟨o_k_X12_orders_5, ⟨o_k_X12_orders_6, ⟨o_k_X12_orders_7, trivial⟩⟩⟩⟩⟩⟩⟩⟩
theorem dX12_placed_0 : decode cX12_placed 0 = .ok (.aload_n 0, 1) := by decide +kernel
theorem dX12_placed_1 : decode cX12_placed 1 = .ok (.iload_n 1, 1) := by decide +kernel
theorem dX12_placed_2 : decode cX12_placed 2 = .ok (.invokevirtual 91, 3) := by decide +kernel
theorem dX12_placed_5 : decode cX12_placed 5 = .ok (.istore_n 3, 1) := by decide +kernel
theorem dX12_placed_6 : decode cX12_placed 6 = .ok (.iload_n 3, 1) := by decide +kernel
theorem dX12_placed_7 : decode cX12_placed 7 = .ok (.ifCond .le 7, 3) := by decide +kernel
theorem dX12_placed_10 : decode cX12_placed 10 = .ok (.iload_n 3, 1) := by decide +kernel
theorem dX12_placed_11 : decode cX12_placed 11 = .ok (.goto 22, 3) := by decide +kernel
theorem dX12_placed_33 : decode cX12_placed 33 = .ok (.ireturn, 1) := by decide +kernel
theorem o_k_X12_placed_0 {l : Launch} {P : xP} : xAll l P xMT (xMu q_X12_placed) 0 k_X12_placed_0 := ⟨(show xSim l P xMT (xMu q_X12_placed) 0 (i_load x_isA 0 1) from s_aload_n dX12_placed_0 rfl), ⟨(show xSim l P xMT (xMu q_X12_placed) 1 (i_load x_isI 1 2) from s_iload_n dX12_placed_1 rfl), ⟨(show xSim l P xMT (xMu q_X12_placed) 2 (i_call (some 12) 210 2 0 0 5) from s_callV 12 (q_X12_trayed) t_X12_trayed m_X12_trayed dX12_placed_2 rfl (xvc_12) w_677 w_678 w_679 w_676 w_490 h_X12_trayed ⟨(by decide +kernel), (by decide +kernel)⟩), ⟨(show xSim l P xMT (xMu q_X12_placed) 5 (i_store1 x_isI 4 3 6) from s_istore_n dX12_placed_5 rfl), ⟨(show xSim l P xMT (xMu q_X12_placed) 6 (i_load x_isI 3 7) from s_iload_n dX12_placed_6 rfl), ⟨(show xSim l P xMT (xMu q_X12_placed) 7 (i_if 1 10 14) from s_if_le 14 dX12_placed_7 (by decide +kernel)), ⟨(show xSim l P xMT (xMu q_X12_placed) 10 (i_load x_isI 3 11) from s_iload_n dX12_placed_10 rfl), ⟨(show xSim l P xMT (xMu q_X12_placed) 11 (i_jump 33) from s_goto 33 dX12_placed_11 (by decide +kernel)), trivial⟩⟩⟩⟩⟩⟩⟩⟩
theorem o_k_X12_placed_1 {l : Launch} {P : xP} : xAll l P xMT (xMu q_X12_placed) 16 k_X12_placed_1 := trivial
theorem o_k_X12_placed_2 {l : Launch} {P : xP} : xAll l P xMT (xMu q_X12_placed) 32 k_X12_placed_2 := ⟨(show xSim l P xMT (xMu q_X12_placed) 33 (i_reti .int) from s_reti .int dX12_placed_33 rfl), trivial⟩
theorem o_X12_placed {l : Launch} {P : xP} : xTabOK l P xMT (xMu q_X12_placed) t_X12_placed := xTabOK.of ⟨o_k_X12_placed_0, ⟨o_k_X12_placed_1, ⟨o_k_X12_placed_2, trivial⟩⟩⟩
theorem dX12_pour_0 : decode cX12_pour 0 = .ok (.aload_n 0, 1) := by decide +kernel
theorem dX12_pour_1 : decode cX12_pour 1 = .ok (.iconst 0, 1) := by decide +kernel
theorem dX12_pour_2 : decode cX12_pour 2 = .ok (.putfield 72, 3) := by decide +kernel
theorem dX12_pour_5 : decode cX12_pour 5 = .ok (.aload_n 0, 1) := by decide +kernel
theorem dX12_pour_6 : decode cX12_pour 6 = .ok (.iconst 0, 1) := by decide +kernel
theorem dX12_pour_7 : decode cX12_pour 7 = .ok (.putfield 75, 3) := by decide +kernel
theorem dX12_pour_10 : decode cX12_pour 10 = .ok (.iload_n 1, 1) := by decide +kernel
theorem dX12_pour_11 : decode cX12_pour 11 = .ok (.ifCond .lt 17, 3) := by decide +kernel
theorem dX12_pour_14 : decode cX12_pour 14 = .ok (.iload_n 1, 1) := by decide +kernel
theorem dX12_pour_15 : decode cX12_pour 15 = .ok (.iconst 4, 1) := by decide +kernel
theorem dX12_pour_16 : decode cX12_pour 16 = .ok (.if_icmp .ge 12, 3) := by decide +kernel
theorem dX12_pour_19 : decode cX12_pour 19 = .ok (.iload_n 3, 1) := by decide +kernel
theorem dX12_pour_20 : decode cX12_pour 20 = .ok (.ifCond .lt 8, 3) := by decide +kernel
theorem dX12_pour_23 : decode cX12_pour 23 = .ok (.iload_n 3, 1) := by decide +kernel
theorem dX12_pour_24 : decode cX12_pour 24 = .ok (.iconst 4, 1) := by decide +kernel
theorem dX12_pour_25 : decode cX12_pour 25 = .ok (.if_icmp .lt 9, 3) := by decide +kernel
theorem dX12_pour_28 : decode cX12_pour 28 = .ok (.aload_n 0, 1) := by decide +kernel
theorem dX12_pour_29 : decode cX12_pour 29 = .ok (.iconst 1, 1) := by decide +kernel
theorem dX12_pour_30 : decode cX12_pour 30 = .ok (.invokevirtual 87, 3) := by decide +kernel
theorem dX12_pour_33 : decode cX12_pour 33 = .ok (.ireturn, 1) := by decide +kernel
theorem dX12_pour_34 : decode cX12_pour 34 = .ok (.aload_n 0, 1) := by decide +kernel
theorem dX12_pour_35 : decode cX12_pour 35 = .ok (.getfield 17, 3) := by decide +kernel
theorem dX12_pour_38 : decode cX12_pour 38 = .ok (.iload_n 1, 1) := by decide +kernel
theorem dX12_pour_39 : decode cX12_pour 39 = .ok (.iaload, 1) := by decide +kernel
theorem dX12_pour_40 : decode cX12_pour 40 = .ok (.ifCond .lt 12, 3) := by decide +kernel
theorem dX12_pour_52 : decode cX12_pour 52 = .ok (.aload_n 0, 1) := by decide +kernel
theorem dX12_pour_53 : decode cX12_pour 53 = .ok (.iconst 3, 1) := by decide +kernel
theorem dX12_pour_54 : decode cX12_pour 54 = .ok (.invokevirtual 87, 3) := by decide +kernel
theorem dX12_pour_57 : decode cX12_pour 57 = .ok (.ireturn, 1) := by decide +kernel
theorem o_k_X12_pour_0 {l : Launch} {P : xP} : xAll l P xMT (xMu q_X12_pour) 0 k_X12_pour_0 := ⟨(show xSim l P xMT (xMu q_X12_pour) 0 (i_load x_isA 0 1) from s_aload_n dX12_pour_0 rfl), ⟨(show xSim l P xMT (xMu q_X12_pour) 1 (i_push (.inl (.int (Int32.ofNat 0))) 2) from s_iconst (Int32.ofNat 0) dX12_pour_1 (by decide +kernel)), ⟨(show xSim l P xMT (xMu q_X12_pour) 2 (i_putf 12 1 .int 5) from s_putf 12 1 tyX12 .int dX12_pour_2 (xvc_12) (by decide +kernel) xin_12 w_487 tyX12_ok nmX12 rfl rfl), ⟨(show xSim l P xMT (xMu q_X12_pour) 5 (i_load x_isA 0 6) from s_aload_n dX12_pour_5 rfl), ⟨(show xSim l P xMT (xMu q_X12_pour) 6 (i_push (.inl (.int (Int32.ofNat 0))) 7) from s_iconst (Int32.ofNat 0) dX12_pour_6 (by decide +kernel)), ⟨(show xSim l P xMT (xMu q_X12_pour) 7 (i_putf 12 0 .int 10) from s_putf 12 0 tyX12 .int dX12_pour_7 (xvc_12) (by decide +kernel) xin_12 w_488 tyX12_ok nmX12 rfl rfl), ⟨(show xSim l P xMT (xMu q_X12_pour) 10 (i_loadc 1 11) from s_iloadc_n dX12_pour_10 rfl), ⟨(show xSim l P xMT (xMu q_X12_pour) 11 (i_if 0 28 14) from s_if_lt 28 dX12_pour_11 (by decide +kernel)), ⟨(show xSim l P xMT (xMu q_X12_pour) 14 (i_loadc 1 15) from s_iloadc_n dX12_pour_14 rfl), ⟨(show xSim l P xMT (xMu q_X12_pour) 15 (i_push (.inl (.int (Int32.ofNat 4))) 16) from s_iconst (Int32.ofNat 4) dX12_pour_15 (by decide +kernel)), trivial⟩⟩⟩⟩⟩⟩⟩⟩⟩⟩
theorem o_k_X12_pour_1 {l : Launch} {P : xP} : xAll l P xMT (xMu q_X12_pour) 16 k_X12_pour_1 := ⟨(show xSim l P xMT (xMu q_X12_pour) 16 (i_icmp 0 19 28) from s_icmp_ge 28 dX12_pour_16 (by decide +kernel)), ⟨(show xSim l P xMT (xMu q_X12_pour) 19 (i_load x_isI 3 20) from s_iload_n dX12_pour_19 rfl), ⟨(show xSim l P xMT (xMu q_X12_pour) 20 (i_if 0 28 23) from s_if_lt 28 dX12_pour_20 (by decide +kernel)), ⟨(show xSim l P xMT (xMu q_X12_pour) 23 (i_load x_isI 3 24) from s_iload_n dX12_pour_23 rfl), ⟨(show xSim l P xMT (xMu q_X12_pour) 24 (i_push (.inl (.int (Int32.ofNat 4))) 25) from s_iconst (Int32.ofNat 4) dX12_pour_24 (by decide +kernel)), ⟨(show xSim l P xMT (xMu q_X12_pour) 25 (i_icmp 0 34 28) from s_icmp_lt 34 dX12_pour_25 (by decide +kernel)), ⟨(show xSim l P xMT (xMu q_X12_pour) 28 (i_load x_isA 0 29) from s_aload_n dX12_pour_28 rfl), ⟨(show xSim l P xMT (xMu q_X12_pour) 29 (i_push (.inl (.int (Int32.ofNat 1))) 30) from s_iconst (Int32.ofNat 1) dX12_pour_29 (by decide +kernel)), ⟨(show xSim l P xMT (xMu q_X12_pour) 30 (i_call (some 12) 183 2 0 0 33) from s_callV 12 (q_X12_no) t_X12_no m_X12_no dX12_pour_30 rfl (xvc_12) w_495 w_496 w_497 w_494 w_490 h_X12_no ⟨(by decide +kernel), (by decide +kernel)⟩), trivial⟩⟩⟩⟩⟩⟩⟩⟩⟩
theorem o_k_X12_pour_2 {l : Launch} {P : xP} : xAll l P xMT (xMu q_X12_pour) 32 k_X12_pour_2 := ⟨(show xSim l P xMT (xMu q_X12_pour) 33 (i_reti .boolean) from s_reti .boolean dX12_pour_33 rfl), ⟨(show xSim l P xMT (xMu q_X12_pour) 34 (i_load x_isA 0 35) from s_aload_n dX12_pour_34 rfl), ⟨(show xSim l P xMT (xMu q_X12_pour) 35 (i_getf 12 5 38) from s_getf 12 5 dX12_pour_35 (xvc_12) (by decide +kernel) xin_12 w_583), ⟨(show xSim l P xMT (xMu q_X12_pour) 38 (i_load x_isI 1 39) from s_iload_n dX12_pour_38 rfl), ⟨(show xSim l P xMT (xMu q_X12_pour) 39 (i_iald 40) from s_iald dX12_pour_39), ⟨(show xSim l P xMT (xMu q_X12_pour) 40 (i_if 0 52 43) from s_if_lt 52 dX12_pour_40 (by decide +kernel)), trivial⟩⟩⟩⟩⟩⟩
theorem o_k_X12_pour_3 {l : Launch} {P : xP} : xAll l P xMT (xMu q_X12_pour) 48 k_X12_pour_3 := ⟨(show xSim l P xMT (xMu q_X12_pour) 52 (i_load x_isA 0 53) from s_aload_n dX12_pour_52 rfl), ⟨(show xSim l P xMT (xMu q_X12_pour) 53 (i_push (.inl (.int (Int32.ofNat 3))) 54) from s_iconst (Int32.ofNat 3) dX12_pour_53 (by decide +kernel)), ⟨(show xSim l P xMT (xMu q_X12_pour) 54 (i_call (some 12) 183 2 0 0 57) from s_callV 12 (q_X12_no) t_X12_no m_X12_no dX12_pour_54 rfl (xvc_12) w_495 w_496 w_497 w_494 w_490 h_X12_no ⟨(by decide +kernel), (by decide +kernel)⟩), ⟨(show xSim l P xMT (xMu q_X12_pour) 57 (i_reti .boolean) from s_reti .boolean dX12_pour_57 rfl), trivial⟩⟩⟩⟩
theorem o_X12_pour {l : Launch} {P : xP} : xTabOK l P xMT (xMu q_X12_pour) t_X12_pour := xTabOK.of ⟨o_k_X12_pour_0, ⟨o_k_X12_pour_1, ⟨o_k_X12_pour_2, ⟨o_k_X12_pour_3, trivial⟩⟩⟩⟩
theorem dX12_ran_0 : decode cX12_ran 0 = .ok (.aload_n 0, 1) := by decide +kernel
theorem dX12_ran_1 : decode cX12_ran 1 = .ok (.iconst 0, 1) := by decide +kernel
theorem dX12_ran_2 : decode cX12_ran 2 = .ok (.putfield 72, 3) := by decide +kernel
theorem dX12_ran_5 : decode cX12_ran 5 = .ok (.aload_n 0, 1) := by decide +kernel
theorem dX12_ran_6 : decode cX12_ran 6 = .ok (.iconst 0, 1) := by decide +kernel
theorem dX12_ran_7 : decode cX12_ran 7 = .ok (.putfield 75, 3) := by decide +kernel
theorem dX12_ran_10 : decode cX12_ran 10 = .ok (.iload_n 1, 1) := by decide +kernel
theorem dX12_ran_11 : decode cX12_ran 11 = .ok (.i2l, 1) := by decide +kernel
theorem dX12_ran_12 : decode cX12_ran 12 = .ok (.lconst 0, 1) := by decide +kernel
theorem dX12_ran_13 : decode cX12_ran 13 = .ok (.ldc2_w 105, 3) := by decide +kernel
theorem dX12_ran_16 : decode cX12_ran 16 = .ok (.invokestatic 107, 3) := by decide +kernel
theorem dX12_ran_19 : decode cX12_ran 19 = .ok (.ifCond .ne 9, 3) := by decide +kernel
theorem dX12_ran_22 : decode cX12_ran 22 = .ok (.aload_n 0, 1) := by decide +kernel
theorem dX12_ran_23 : decode cX12_ran 23 = .ok (.iconst 5, 1) := by decide +kernel
theorem dX12_ran_24 : decode cX12_ran 24 = .ok (.invokevirtual 305, 3) := by decide +kernel
theorem dX12_ran_27 : decode cX12_ran 27 = .ok (.ireturn, 1) := by decide +kernel
theorem dX12_ran_28 : decode cX12_ran 28 = .ok (.aload_n 0, 1) := by decide +kernel
theorem dX12_ran_29 : decode cX12_ran 29 = .ok (.getfield 514, 3) := by decide +kernel
theorem dX12_ran_32 : decode cX12_ran 32 = .ok (.ifCond .eq 12, 3) := by decide +kernel
theorem dX12_ran_44 : decode cX12_ran 44 = .ok (.aload_n 0, 1) := by decide +kernel
theorem dX12_ran_45 : decode cX12_ran 45 = .ok (.bipush 8, 2) := by decide +kernel
theorem dX12_ran_47 : decode cX12_ran 47 = .ok (.invokevirtual 305, 3) := by decide +kernel
theorem dX12_ran_50 : decode cX12_ran 50 = .ok (.ireturn, 1) := by decide +kernel
theorem o_k_X12_ran_0 {l : Launch} {P : xP} : xAll l P xMT (xMu q_X12_ran) 0 k_X12_ran_0 := ⟨(show xSim l P xMT (xMu q_X12_ran) 0 (i_load x_isA 0 1) from s_aload_n dX12_ran_0 rfl), ⟨(show xSim l P xMT (xMu q_X12_ran) 1 (i_push (.inl (.int (Int32.ofNat 0))) 2) from s_iconst (Int32.ofNat 0) dX12_ran_1 (by decide +kernel)), ⟨(show xSim l P xMT (xMu q_X12_ran) 2 (i_putf 12 1 .int 5) from s_putf 12 1 tyX12 .int dX12_ran_2 (xvc_12) (by decide +kernel) xin_12 w_487 tyX12_ok nmX12 rfl rfl), ⟨(show xSim l P xMT (xMu q_X12_ran) 5 (i_load x_isA 0 6) from s_aload_n dX12_ran_5 rfl), ⟨(show xSim l P xMT (xMu q_X12_ran) 6 (i_push (.inl (.int (Int32.ofNat 0))) 7) from s_iconst (Int32.ofNat 0) dX12_ran_6 (by decide +kernel)), ⟨(show xSim l P xMT (xMu q_X12_ran) 7 (i_putf 12 0 .int 10) from s_putf 12 0 tyX12 .int dX12_ran_7 (xvc_12) (by decide +kernel) xin_12 w_488 tyX12_ok nmX12 rfl rfl), ⟨(show xSim l P xMT (xMu q_X12_ran) 10 (i_loadc 1 11) from s_iloadc_n dX12_ran_10 rfl), ⟨(show xSim l P xMT (xMu q_X12_ran) 11 (i_i2l 12) from s_i2l dX12_ran_11), ⟨(show xSim l P xMT (xMu q_X12_ran) 12 (i_push (.inl (.long (Int64.ofNat 0))) 13) from s_lconst (Int64.ofNat 0) dX12_ran_12 (by decide +kernel)), ⟨(show xSim l P xMT (xMu q_X12_ran) 13 (i_push (.inl (.long (Int64.ofNat 3))) 16) from s_ldc2 (Int64.ofNat 3) dX12_ran_13 w_543), trivial⟩⟩⟩⟩⟩⟩⟩⟩⟩⟩
theorem o_k_X12_ran_1 {l : Launch} {P : xP} : xAll l P xMT (xMu q_X12_ran) 16 k_X12_ran_1 := ⟨(show xSim l P xMT (xMu q_X12_ran) 16 (i_call none 163 3 0 0 19) from s_callS (q_X12_isIn) t_X12_isIn m_X12_isIn dX12_ran_16 w_545 w_546 w_544 w_490 h_X12_isIn ⟨(by decide +kernel), (by decide +kernel)⟩), ⟨(show xSim l P xMT (xMu q_X12_ran) 19 (i_if 2 22 28) from s_if_ne 28 dX12_ran_19 (by decide +kernel)), ⟨(show xSim l P xMT (xMu q_X12_ran) 22 (i_load x_isA 0 23) from s_aload_n dX12_ran_22 rfl), ⟨(show xSim l P xMT (xMu q_X12_ran) 23 (i_push (.inl (.int (Int32.ofNat 5))) 24) from s_iconst (Int32.ofNat 5) dX12_ran_23 (by decide +kernel)), ⟨(show xSim l P xMT (xMu q_X12_ran) 24 (i_call (some 12) 193 2 0 0 27) from s_callV 12 (q_X12_refuse) t_X12_refuse m_X12_refuse dX12_ran_24 rfl (xvc_12) w_511 w_512 w_513 w_510 w_490 h_X12_refuse ⟨(by decide +kernel), (by decide +kernel)⟩), ⟨(show xSim l P xMT (xMu q_X12_ran) 27 (i_reti .int) from s_reti .int dX12_ran_27 rfl), ⟨(show xSim l P xMT (xMu q_X12_ran) 28 (i_load x_isA 0 29) from s_aload_n dX12_ran_28 rfl), ⟨(show xSim l P xMT (xMu q_X12_ran) 29 (i_getf 12 40 32) from s_getf 12 40 dX12_ran_29 (xvc_12) (by decide +kernel) xin_12 w_680), trivial⟩⟩⟩⟩⟩⟩⟩⟩
theorem o_k_X12_ran_2 {l : Launch} {P : xP} : xAll l P xMT (xMu q_X12_ran) 32 k_X12_ran_2 := ⟨(show xSim l P xMT (xMu q_X12_ran) 32 (i_if 2 44 35) from s_if_eq 44 dX12_ran_32 (by decide +kernel)), ⟨(show xSim l P xMT (xMu q_X12_ran) 44 (i_load x_isA 0 45) from s_aload_n dX12_ran_44 rfl), ⟨(show xSim l P xMT (xMu q_X12_ran) 45 (i_push (.inl (.int (Int32.ofNat 8))) 47) from s_bipush (Int32.ofNat 8) dX12_ran_45 (by decide +kernel)), ⟨(show xSim l P xMT (xMu q_X12_ran) 47 (i_call (some 12) 193 2 0 0 50) from s_callV 12 (q_X12_refuse) t_X12_refuse m_X12_refuse dX12_ran_47 rfl (xvc_12) w_511 w_512 w_513 w_510 w_490 h_X12_refuse ⟨(by decide +kernel), (by decide +kernel)⟩), trivial⟩⟩⟩⟩
theorem o_k_X12_ran_3 {l : Launch} {P : xP} : xAll l P xMT (xMu q_X12_ran) 48 k_X12_ran_3 := ⟨(show xSim l P xMT (xMu q_X12_ran) 50 (i_reti .int) from s_reti .int dX12_ran_50 rfl), trivial⟩
theorem o_X12_ran {l : Launch} {P : xP} : xTabOK l P xMT (xMu q_X12_ran) t_X12_ran := xTabOK.of ⟨o_k_X12_ran_0, ⟨o_k_X12_ran_1, ⟨o_k_X12_ran_2, ⟨o_k_X12_ran_3, trivial⟩⟩⟩⟩
theorem dX12_reach_0 : decode cX12_reach 0 = .ok (.aload_n 0, 1) := by decide +kernel
theorem dX12_reach_1 : decode cX12_reach 1 = .ok (.iconst 0, 1) := by decide +kernel
theorem dX12_reach_2 : decode cX12_reach 2 = .ok (.putfield 72, 3) := by decide +kernel
theorem dX12_reach_5 : decode cX12_reach 5 = .ok (.aload_n 0, 1) := by decide +kernel
theorem dX12_reach_6 : decode cX12_reach 6 = .ok (.iconst 0, 1) := by decide +kernel
theorem dX12_reach_7 : decode cX12_reach 7 = .ok (.putfield 75, 3) := by decide +kernel
theorem dX12_reach_10 : decode cX12_reach 10 = .ok (.iconst 0, 1) := by decide +kernel
theorem dX12_reach_11 : decode cX12_reach 11 = .ok (.istore_n 1, 1) := by decide +kernel
theorem dX12_reach_12 : decode cX12_reach 12 = .ok (.iconst 0, 1) := by decide +kernel
theorem dX12_reach_13 : decode cX12_reach 13 = .ok (.istore_n 2, 1) := by decide +kernel
theorem dX12_reach_14 : decode cX12_reach 14 = .ok (.iload_n 2, 1) := by decide +kernel
theorem dX12_reach_15 : decode cX12_reach 15 = .ok (.aload_n 0, 1) := by decide +kernel
theorem dX12_reach_16 : decode cX12_reach 16 = .ok (.getfield 35, 3) := by decide +kernel
theorem dX12_reach_19 : decode cX12_reach 19 = .ok (.iconst 3, 1) := by decide +kernel
theorem dX12_reach_20 : decode cX12_reach 20 = .ok (.iaload, 1) := by decide +kernel
theorem dX12_reach_21 : decode cX12_reach 21 = .ok (.if_icmp .ge 30, 3) := by decide +kernel
theorem dX12_reach_51 : decode cX12_reach 51 = .ok (.iload_n 1, 1) := by decide +kernel
theorem dX12_reach_52 : decode cX12_reach 52 = .ok (.ireturn, 1) := by decide +kernel
theorem o_k_X12_reach_0 {l : Launch} {P : xP} : xAll l P xMT (xMu q_X12_reach) 0 k_X12_reach_0 := ⟨(show xSim l P xMT (xMu q_X12_reach) 0 (i_load x_isA 0 1) from s_aload_n dX12_reach_0 rfl), ⟨(show xSim l P xMT (xMu q_X12_reach) 1 (i_push (.inl (.int (Int32.ofNat 0))) 2) from s_iconst (Int32.ofNat 0) dX12_reach_1 (by decide +kernel)), ⟨(show xSim l P xMT (xMu q_X12_reach) 2 (i_putf 12 1 .int 5) from s_putf 12 1 tyX12 .int dX12_reach_2 (xvc_12) (by decide +kernel) xin_12 w_487 tyX12_ok nmX12 rfl rfl), ⟨(show xSim l P xMT (xMu q_X12_reach) 5 (i_load x_isA 0 6) from s_aload_n dX12_reach_5 rfl), ⟨(show xSim l P xMT (xMu q_X12_reach) 6 (i_push (.inl (.int (Int32.ofNat 0))) 7) from s_iconst (Int32.ofNat 0) dX12_reach_6 (by decide +kernel)), ⟨(show xSim l P xMT (xMu q_X12_reach) 7 (i_putf 12 0 .int 10) from s_putf 12 0 tyX12 .int dX12_reach_7 (xvc_12) (by decide +kernel) xin_12 w_488 tyX12_ok nmX12 rfl rfl), ⟨(show xSim l P xMT (xMu q_X12_reach) 10 (i_push (.inl (.int (Int32.ofNat 0))) 11) from s_iconst (Int32.ofNat 0) dX12_reach_10 (by decide +kernel)), ⟨(show xSim l P xMT (xMu q_X12_reach) 11 (i_store1 x_isI 3 1 12) from s_istore_n dX12_reach_11 rfl), ⟨(show xSim l P xMT (xMu q_X12_reach) 12 (i_push (.inl (.int (Int32.ofNat 0))) 13) from s_iconst (Int32.ofNat 0) dX12_reach_12 (by decide +kernel)), ⟨(show xSim l P xMT (xMu q_X12_reach) 13 (i_store1 x_isI 3 2 14) from s_istore_n dX12_reach_13 rfl), ⟨(show xSim l P xMT (xMu q_X12_reach) 14 (i_load x_isI 2 15) from s_iload_n dX12_reach_14 rfl), ⟨(show xSim l P xMT (xMu q_X12_reach) 15 (i_load x_isA 0 16) from s_aload_n dX12_reach_15 rfl), trivial⟩⟩⟩⟩⟩⟩⟩⟩⟩⟩⟩⟩
theorem o_k_X12_reach_1 {l : Launch} {P : xP} : xAll l P xMT (xMu q_X12_reach) 16 k_X12_reach_1 := ⟨(show xSim l P xMT (xMu q_X12_reach) 16 (i_getf 12 20 19) from s_getf 12 20 dX12_reach_16 (xvc_12) (by decide +kernel) xin_12 w_498), ⟨(show xSim l P xMT (xMu q_X12_reach) 19 (i_push (.inl (.int (Int32.ofNat 3))) 20) from s_iconst (Int32.ofNat 3) dX12_reach_19 (by decide +kernel)), ⟨(show xSim l P xMT (xMu q_X12_reach) 20 (i_iald 21) from s_iald dX12_reach_20), ⟨(show xSim l P xMT (xMu q_X12_reach) 21 (i_icmp 0 24 51) from s_icmp_ge 51 dX12_reach_21 (by decide +kernel)), trivial⟩⟩⟩⟩
theorem o_k_X12_reach_2 {l : Launch} {P : xP} : xAll l P xMT (xMu q_X12_reach) 32 k_X12_reach_2 := trivial
theorem o_k_X12_reach_3 {l : Launch} {P : xP} : xAll l P xMT (xMu q_X12_reach) 48 k_X12_reach_3 := ⟨(show xSim l P xMT (xMu q_X12_reach) 51 (i_load x_isI 1 52) from s_iload_n dX12_reach_51 rfl), ⟨(show xSim l P xMT (xMu q_X12_reach) 52 (i_reti .int) from s_reti .int dX12_reach_52 rfl), trivial⟩⟩
theorem o_X12_reach {l : Launch} {P : xP} : xTabOK l P xMT (xMu q_X12_reach) t_X12_reach := xTabOK.of ⟨o_k_X12_reach_0, ⟨o_k_X12_reach_1, ⟨o_k_X12_reach_2, ⟨o_k_X12_reach_3, trivial⟩⟩⟩⟩
theorem dX12_read_0 : decode cX12_read 0 = .ok (.aload_n 0, 1) := by decide +kernel
theorem dX12_read_1 : decode cX12_read 1 = .ok (.iconst 0, 1) := by decide +kernel
theorem dX12_read_2 : decode cX12_read 2 = .ok (.putfield 72, 3) := by decide +kernel
theorem dX12_read_5 : decode cX12_read 5 = .ok (.aload_n 0, 1) := by decide +kernel
theorem dX12_read_6 : decode cX12_read 6 = .ok (.aload_n 0, 1) := by decide +kernel
theorem dX12_read_7 : decode cX12_read 7 = .ok (.iload_n 1, 1) := by decide +kernel
theorem dX12_read_8 : decode cX12_read 8 = .ok (.iload_n 2, 1) := by decide +kernel
theorem dX12_read_9 : decode cX12_read 9 = .ok (.invokevirtual 95, 3) := by decide +kernel
theorem dX12_read_12 : decode cX12_read 12 = .ok (.putfield 75, 3) := by decide +kernel
theorem dX12_read_15 : decode cX12_read 15 = .ok (.aload_n 0, 1) := by decide +kernel
theorem dX12_read_16 : decode cX12_read 16 = .ok (.getfield 75, 3) := by decide +kernel
theorem dX12_read_19 : decode cX12_read 19 = .ok (.ifCond .le 9, 3) := by decide +kernel
theorem dX12_read_22 : decode cX12_read 22 = .ok (.ldc2_w 103, 3) := by decide +kernel
theorem dX12_read_25 : decode cX12_read 25 = .ok (.goto 14, 3) := by decide +kernel
theorem dX12_read_39 : decode cX12_read 39 = .ok (.lreturn, 1) := by decide +kernel
theorem o_k_X12_read_0 {l : Launch} {P : xP} : xAll l P xMT (xMu q_X12_read) 0 k_X12_read_0 := ⟨(show xSim l P xMT (xMu q_X12_read) 0 (i_load x_isA 0 1) from s_aload_n dX12_read_0 rfl), ⟨(show xSim l P xMT (xMu q_X12_read) 1 (i_push (.inl (.int (Int32.ofNat 0))) 2) from s_iconst (Int32.ofNat 0) dX12_read_1 (by decide +kernel)), ⟨(show xSim l P xMT (xMu q_X12_read) 2 (i_putf 12 1 .int 5) from s_putf 12 1 tyX12 .int dX12_read_2 (xvc_12) (by decide +kernel) xin_12 w_487 tyX12_ok nmX12 rfl rfl), ⟨(show xSim l P xMT (xMu q_X12_read) 5 (i_load x_isA 0 6) from s_aload_n dX12_read_5 rfl), ⟨(show xSim l P xMT (xMu q_X12_read) 6 (i_load x_isA 0 7) from s_aload_n dX12_read_6 rfl), ⟨(show xSim l P xMT (xMu q_X12_read) 7 (i_load x_isI 1 8) from s_iload_n dX12_read_7 rfl), ⟨(show xSim l P xMT (xMu q_X12_read) 8 (i_load x_isI 2 9) from s_iload_n dX12_read_8 rfl), ⟨(show xSim l P xMT (xMu q_X12_read) 9 (i_call (some 12) 187 3 0 0 12) from s_callV 12 (q_X12_placed) t_X12_placed m_X12_placed dX12_read_9 rfl (xvc_12) w_682 w_683 w_684 w_681 w_490 h_X12_placed ⟨(by decide +kernel), (by decide +kernel)⟩), ⟨(show xSim l P xMT (xMu q_X12_read) 12 (i_putf 12 0 .int 15) from s_putf 12 0 tyX12 .int dX12_read_12 (xvc_12) (by decide +kernel) xin_12 w_488 tyX12_ok nmX12 rfl rfl), ⟨(show xSim l P xMT (xMu q_X12_read) 15 (i_load x_isA 0 16) from s_aload_n dX12_read_15 rfl), trivial⟩⟩⟩⟩⟩⟩⟩⟩⟩⟩
theorem o_k_X12_read_1 {l : Launch} {P : xP} : xAll l P xMT (xMu q_X12_read) 16 k_X12_read_1 := ⟨(show xSim l P xMT (xMu q_X12_read) 16 (i_getf 12 0 19) from s_getf 12 0 dX12_read_16 (xvc_12) (by decide +kernel) xin_12 w_488), ⟨(show xSim l P xMT (xMu q_X12_read) 19 (i_if 1 22 28) from s_if_le 28 dX12_read_19 (by decide +kernel)), ⟨(show xSim l P xMT (xMu q_X12_read) 22 (i_push (.inl (.long (Int64.ofNat 18446744073709551615))) 25) from s_ldc2 (Int64.ofNat 18446744073709551615) dX12_read_22 w_685), ⟨(show xSim l P xMT (xMu q_X12_read) 25 (i_jump 39) from s_goto 39 dX12_read_25 (by decide +kernel)), trivial⟩⟩⟩⟩
theorem o_k_X12_read_2 {l : Launch} {P : xP} : xAll l P xMT (xMu q_X12_read) 32 k_X12_read_2 := ⟨(show xSim l P xMT (xMu q_X12_read) 39 (i_retl) from s_retl dX12_read_39 rfl), trivial⟩
theorem o_X12_read {l : Launch} {P : xP} : xTabOK l P xMT (xMu q_X12_read) t_X12_read := xTabOK.of ⟨o_k_X12_read_0, ⟨o_k_X12_read_1, ⟨o_k_X12_read_2, trivial⟩⟩⟩
theorem dX12_readNumber_0 : decode cX12_readNumber 0 = .ok (.aload_n 0, 1) := by decide +kernel
theorem dX12_readNumber_1 : decode cX12_readNumber 1 = .ok (.getfield 198, 3) := by decide +kernel
theorem dX12_readNumber_4 : decode cX12_readNumber 4 = .ok (.ifCond .ne 15, 3) := by decide +kernel
theorem dX12_readNumber_19 : decode cX12_readNumber 19 = .ok (.aload_n 0, 1) := by decide +kernel
theorem dX12_readNumber_20 : decode cX12_readNumber 20 = .ok (.getfield 198, 3) := by decide +kernel
theorem dX12_readNumber_23 : decode cX12_readNumber 23 = .ok (.ifCond .ne 27, 3) := by decide +kernel
theorem dX12_readNumber_50 : decode cX12_readNumber 50 = .ok (.aload_n 0, 1) := by decide +kernel
theorem dX12_readNumber_51 : decode cX12_readNumber 51 = .ok (.getfield 198, 3) := by decide +kernel
theorem dX12_readNumber_54 : decode cX12_readNumber 54 = .ok (.ifCond .le 5, 3) := by decide +kernel
theorem dX12_readNumber_57 : decode cX12_readNumber 57 = .ok (.iconst 0, 1) := by decide +kernel
theorem dX12_readNumber_58 : decode cX12_readNumber 58 = .ok (.ireturn, 1) := by decide +kernel
theorem o_k_X12_readNumber_0 {l : Launch} {P : xP} : xAll l P xMT (xMu q_X12_readNumber) 0 k_X12_readNumber_0 := ⟨(show xSim l P xMT (xMu q_X12_readNumber) 0 (i_load x_isA 0 1) from s_aload_n dX12_readNumber_0 rfl), ⟨(show xSim l P xMT (xMu q_X12_readNumber) 1 (i_getf 12 12 4) from s_getf 12 12 dX12_readNumber_1 (xvc_12) (by decide +kernel) xin_12 w_554), ⟨(show xSim l P xMT (xMu q_X12_readNumber) 4 (i_if 2 7 19) from s_if_ne 19 dX12_readNumber_4 (by decide +kernel)), trivial⟩⟩⟩
theorem o_k_X12_readNumber_1 {l : Launch} {P : xP} : xAll l P xMT (xMu q_X12_readNumber) 16 k_X12_readNumber_1 := ⟨(show xSim l P xMT (xMu q_X12_readNumber) 19 (i_load x_isA 0 20) from s_aload_n dX12_readNumber_19 rfl), ⟨(show xSim l P xMT (xMu q_X12_readNumber) 20 (i_getf 12 12 23) from s_getf 12 12 dX12_readNumber_20 (xvc_12) (by decide +kernel) xin_12 w_554), ⟨(show xSim l P xMT (xMu q_X12_readNumber) 23 (i_if 2 26 50) from s_if_ne 50 dX12_readNumber_23 (by decide +kernel)), trivial⟩⟩⟩
theorem o_k_X12_readNumber_2 {l : Launch} {P : xP} : xAll l P xMT (xMu q_X12_readNumber) 32 k_X12_readNumber_2 := trivial
theorem o_k_X12_readNumber_3 {l : Launch} {P : xP} : xAll l P xMT (xMu q_X12_readNumber) 48 k_X12_readNumber_3 := ⟨(show xSim l P xMT (xMu q_X12_readNumber) 50 (i_load x_isA 0 51) from s_aload_n dX12_readNumber_50 rfl), ⟨(show xSim l P xMT (xMu q_X12_readNumber) 51 (i_getf 12 12 54) from s_getf 12 12 dX12_readNumber_51 (xvc_12) (by decide +kernel) xin_12 w_554), ⟨(show xSim l P xMT (xMu q_X12_readNumber) 54 (i_if 1 57 59) from s_if_le 59 dX12_readNumber_54 (by decide +kernel)), ⟨(show xSim l P xMT (xMu q_X12_readNumber) 57 (i_push (.inl (.int (Int32.ofNat 0))) 58) from s_iconst (Int32.ofNat 0) dX12_readNumber_57 (by decide +kernel)), ⟨(show xSim l P xMT (xMu q_X12_readNumber) 58 (i_reti .int) from s_reti .int dX12_readNumber_58 rfl), trivial⟩⟩⟩⟩⟩
theorem o_X12_readNumber {l : Launch} {P : xP} : xTabOK l P xMT (xMu q_X12_readNumber) t_X12_readNumber := xTabOK.of ⟨o_k_X12_readNumber_0, ⟨o_k_X12_readNumber_1, ⟨o_k_X12_readNumber_2, ⟨o_k_X12_readNumber_3, trivial⟩⟩⟩⟩
theorem dX12_refuse_0 : decode cX12_refuse 0 = .ok (.aload_n 0, 1) := by decide +kernel
theorem dX12_refuse_1 : decode cX12_refuse 1 = .ok (.iload_n 1, 1) := by decide +kernel
theorem dX12_refuse_2 : decode cX12_refuse 2 = .ok (.putfield 75, 3) := by decide +kernel
theorem dX12_refuse_5 : decode cX12_refuse 5 = .ok (.iconst (-1), 1) := by decide +kernel
theorem dX12_refuse_6 : decode cX12_refuse 6 = .ok (.ireturn, 1) := by decide +kernel
theorem o_k_X12_refuse_0 {l : Launch} {P : xP} : xAll l P xMT (xMu q_X12_refuse) 0 k_X12_refuse_0 := ⟨(show xSim l P xMT (xMu q_X12_refuse) 0 (i_load x_isA 0 1) from s_aload_n dX12_refuse_0 rfl), ⟨(show xSim l P xMT (xMu q_X12_refuse) 1 (i_load x_isI 1 2) from s_iload_n dX12_refuse_1 rfl), ⟨(show xSim l P xMT (xMu q_X12_refuse) 2 (i_putf 12 0 .int 5) from s_putf 12 0 tyX12 .int dX12_refuse_2 (xvc_12) (by decide +kernel) xin_12 w_488 tyX12_ok nmX12 rfl rfl), ⟨(show xSim l P xMT (xMu q_X12_refuse) 5 (i_push (.inl (.int (Int32.ofNat 4294967295))) 6) from s_iconst (Int32.ofNat 4294967295) dX12_refuse_5 (by decide +kernel)), ⟨(show xSim l P xMT (xMu q_X12_refuse) 6 (i_reti .int) from s_reti .int dX12_refuse_6 rfl), trivial⟩⟩⟩⟩⟩
theorem o_X12_refuse {l : Launch} {P : xP} : xTabOK l P xMT (xMu q_X12_refuse) t_X12_refuse := xTabOK.of ⟨o_k_X12_refuse_0, trivial⟩
theorem dX12_run_0 : decode cX12_run 0 = .ok (.aload_n 0, 1) := by decide +kernel
theorem dX12_run_1 : decode cX12_run 1 = .ok (.iconst 0, 1) := by decide +kernel
theorem dX12_run_2 : decode cX12_run 2 = .ok (.putfield 72, 3) := by decide +kernel
theorem dX12_run_5 : decode cX12_run 5 = .ok (.aload_n 0, 1) := by decide +kernel
theorem dX12_run_6 : decode cX12_run 6 = .ok (.iconst 0, 1) := by decide +kernel
theorem dX12_run_7 : decode cX12_run 7 = .ok (.putfield 75, 3) := by decide +kernel
theorem dX12_run_10 : decode cX12_run 10 = .ok (.iload_n 1, 1) := by decide +kernel
theorem dX12_run_11 : decode cX12_run 11 = .ok (.i2l, 1) := by decide +kernel
theorem dX12_run_12 : decode cX12_run 12 = .ok (.lconst 0, 1) := by decide +kernel
theorem dX12_run_13 : decode cX12_run 13 = .ok (.ldc2_w 509, 3) := by decide +kernel
theorem dX12_run_16 : decode cX12_run 16 = .ok (.invokestatic 107, 3) := by decide +kernel
theorem dX12_run_19 : decode cX12_run 19 = .ok (.ifCond .ne 9, 3) := by decide +kernel
theorem dX12_run_22 : decode cX12_run 22 = .ok (.aload_n 0, 1) := by decide +kernel
theorem dX12_run_23 : decode cX12_run 23 = .ok (.iconst 5, 1) := by decide +kernel
theorem dX12_run_24 : decode cX12_run 24 = .ok (.invokevirtual 305, 3) := by decide +kernel
theorem dX12_run_27 : decode cX12_run 27 = .ok (.ireturn, 1) := by decide +kernel
theorem dX12_run_28 : decode cX12_run 28 = .ok (.aload_n 0, 1) := by decide +kernel
theorem dX12_run_29 : decode cX12_run 29 = .ok (.getfield 35, 3) := by decide +kernel
theorem dX12_run_32 : decode cX12_run 32 = .ok (.sipush 275, 3) := by decide +kernel
theorem dX12_run_35 : decode cX12_run 35 = .ok (.iaload, 1) := by decide +kernel
theorem dX12_run_36 : decode cX12_run 36 = .ok (.ifCond .ne 10, 3) := by decide +kernel
theorem dX12_run_39 : decode cX12_run 39 = .ok (.aload_n 0, 1) := by decide +kernel
theorem dX12_run_40 : decode cX12_run 40 = .ok (.bipush 8, 2) := by decide +kernel
theorem dX12_run_42 : decode cX12_run 42 = .ok (.invokevirtual 305, 3) := by decide +kernel
theorem dX12_run_45 : decode cX12_run 45 = .ok (.ireturn, 1) := by decide +kernel
theorem o_k_X12_run_0 {l : Launch} {P : xP} : xAll l P xMT (xMu q_X12_run) 0 k_X12_run_0 := ⟨(show xSim l P xMT (xMu q_X12_run) 0 (i_load x_isA 0 1) from s_aload_n dX12_run_0 rfl), ⟨(show xSim l P xMT (xMu q_X12_run) 1 (i_push (.inl (.int (Int32.ofNat 0))) 2) from s_iconst (Int32.ofNat 0) dX12_run_1 (by decide +kernel)), ⟨(show xSim l P xMT (xMu q_X12_run) 2 (i_putf 12 1 .int 5) from s_putf 12 1 tyX12 .int dX12_run_2 (xvc_12) (by decide +kernel) xin_12 w_487 tyX12_ok nmX12 rfl rfl), ⟨(show xSim l P xMT (xMu q_X12_run) 5 (i_load x_isA 0 6) from s_aload_n dX12_run_5 rfl), ⟨(show xSim l P xMT (xMu q_X12_run) 6 (i_push (.inl (.int (Int32.ofNat 0))) 7) from s_iconst (Int32.ofNat 0) dX12_run_6 (by decide +kernel)), ⟨(show xSim l P xMT (xMu q_X12_run) 7 (i_putf 12 0 .int 10) from s_putf 12 0 tyX12 .int dX12_run_7 (xvc_12) (by decide +kernel) xin_12 w_488 tyX12_ok nmX12 rfl rfl), ⟨(show xSim l P xMT (xMu q_X12_run) 10 (i_load x_isI 1 11) from s_iload_n dX12_run_10 rfl), ⟨(show xSim l P xMT (xMu q_X12_run) 11 (i_i2l 12) from s_i2l dX12_run_11), ⟨(show xSim l P xMT (xMu q_X12_run) 12 (i_push (.inl (.long (Int64.ofNat 0))) 13) from s_lconst (Int64.ofNat 0) dX12_run_12 (by decide +kernel)), ⟨(show xSim l P xMT (xMu q_X12_run) 13 (i_push (.inl (.long (Int64.ofNat 9999))) 16) from s_ldc2 (Int64.ofNat 9999) dX12_run_13 w_686), trivial⟩⟩⟩⟩⟩⟩⟩⟩⟩⟩
theorem o_k_X12_run_1 {l : Launch} {P : xP} : xAll l P xMT (xMu q_X12_run) 16 k_X12_run_1 := ⟨(show xSim l P xMT (xMu q_X12_run) 16 (i_call none 163 3 0 0 19) from s_callS (q_X12_isIn) t_X12_isIn m_X12_isIn dX12_run_16 w_545 w_546 w_544 w_490 h_X12_isIn ⟨(by decide +kernel), (by decide +kernel)⟩), ⟨(show xSim l P xMT (xMu q_X12_run) 19 (i_if 2 22 28) from s_if_ne 28 dX12_run_19 (by decide +kernel)), ⟨(show xSim l P xMT (xMu q_X12_run) 22 (i_load x_isA 0 23) from s_aload_n dX12_run_22 rfl), ⟨(show xSim l P xMT (xMu q_X12_run) 23 (i_push (.inl (.int (Int32.ofNat 5))) 24) from s_iconst (Int32.ofNat 5) dX12_run_23 (by decide +kernel)), ⟨(show xSim l P xMT (xMu q_X12_run) 24 (i_call (some 12) 193 2 0 0 27) from s_callV 12 (q_X12_refuse) t_X12_refuse m_X12_refuse dX12_run_24 rfl (xvc_12) w_511 w_512 w_513 w_510 w_490 h_X12_refuse ⟨(by decide +kernel), (by decide +kernel)⟩), ⟨(show xSim l P xMT (xMu q_X12_run) 27 (i_reti .int) from s_reti .int dX12_run_27 rfl), ⟨(show xSim l P xMT (xMu q_X12_run) 28 (i_load x_isA 0 29) from s_aload_n dX12_run_28 rfl), ⟨(show xSim l P xMT (xMu q_X12_run) 29 (i_getf 12 20 32) from s_getf 12 20 dX12_run_29 (xvc_12) (by decide +kernel) xin_12 w_498), trivial⟩⟩⟩⟩⟩⟩⟩⟩
theorem o_k_X12_run_2 {l : Launch} {P : xP} : xAll l P xMT (xMu q_X12_run) 32 k_X12_run_2 := ⟨(show xSim l P xMT (xMu q_X12_run) 32 (i_push (.inl (.int (Int32.ofNat 275))) 35) from s_sipush (Int32.ofNat 275) dX12_run_32 (by decide +kernel)), ⟨(show xSim l P xMT (xMu q_X12_run) 35 (i_iald 36) from s_iald dX12_run_35), ⟨(show xSim l P xMT (xMu q_X12_run) 36 (i_if 2 39 46) from s_if_ne 46 dX12_run_36 (by decide +kernel)), ⟨(show xSim l P xMT (xMu q_X12_run) 39 (i_load x_isA 0 40) from s_aload_n dX12_run_39 rfl), ⟨(show xSim l P xMT (xMu q_X12_run) 40 (i_push (.inl (.int (Int32.ofNat 8))) 42) from s_bipush (Int32.ofNat 8) dX12_run_40 (by decide +kernel)), ⟨(show xSim l P xMT (xMu q_X12_run) 42 (i_call (some 12) 193 2 0 0 45) from s_callV 12 (q_X12_refuse) t_X12_refuse m_X12_refuse dX12_run_42 rfl (xvc_12) w_511 w_512 w_513 w_510 w_490 h_X12_refuse ⟨(by decide +kernel), (by decide +kernel)⟩), ⟨(show xSim l P xMT (xMu q_X12_run) 45 (i_reti .int) from s_reti .int dX12_run_45 rfl), trivial⟩⟩⟩⟩⟩⟩⟩
theorem o_X12_run {l : Launch} {P : xP} : xTabOK l P xMT (xMu q_X12_run) t_X12_run := xTabOK.of ⟨o_k_X12_run_0, ⟨o_k_X12_run_1, ⟨o_k_X12_run_2, trivial⟩⟩⟩
theorem dX12_seen_0 : decode cX12_seen 0 = .ok (.aload_n 0, 1) := by decide +kernel
theorem dX12_seen_1 : decode cX12_seen 1 = .ok (.iconst 0, 1) := by decide +kernel
theorem dX12_seen_2 : decode cX12_seen 2 = .ok (.putfield 72, 3) := by decide +kernel
theorem dX12_seen_5 : decode cX12_seen 5 = .ok (.aload_n 0, 1) := by decide +kernel
theorem dX12_seen_6 : decode cX12_seen 6 = .ok (.iconst 0, 1) := by decide +kernel
theorem dX12_seen_7 : decode cX12_seen 7 = .ok (.putfield 75, 3) := by decide +kernel
theorem dX12_seen_10 : decode cX12_seen 10 = .ok (.aload_n 0, 1) := by decide +kernel
theorem dX12_seen_11 : decode cX12_seen 11 = .ok (.iload_n 1, 1) := by decide +kernel
theorem dX12_seen_12 : decode cX12_seen 12 = .ok (.invokevirtual 320, 3) := by decide +kernel
theorem dX12_seen_15 : decode cX12_seen 15 = .ok (.ifCond .eq 11, 3) := by decide +kernel
theorem dX12_seen_26 : decode cX12_seen 26 = .ok (.aload_n 0, 1) := by decide +kernel
theorem dX12_seen_27 : decode cX12_seen 27 = .ok (.iconst 2, 1) := by decide +kernel
theorem dX12_seen_28 : decode cX12_seen 28 = .ok (.invokevirtual 305, 3) := by decide +kernel
theorem dX12_seen_31 : decode cX12_seen 31 = .ok (.ireturn, 1) := by decide +kernel
theorem o_k_X12_seen_0 {l : Launch} {P : xP} : xAll l P xMT (xMu q_X12_seen) 0 k_X12_seen_0 := ⟨(show xSim l P xMT (xMu q_X12_seen) 0 (i_load x_isA 0 1) from s_aload_n dX12_seen_0 rfl), ⟨(show xSim l P xMT (xMu q_X12_seen) 1 (i_push (.inl (.int (Int32.ofNat 0))) 2) from s_iconst (Int32.ofNat 0) dX12_seen_1 (by decide +kernel)), ⟨(show xSim l P xMT (xMu q_X12_seen) 2 (i_putf 12 1 .int 5) from s_putf 12 1 tyX12 .int dX12_seen_2 (xvc_12) (by decide +kernel) xin_12 w_487 tyX12_ok nmX12 rfl rfl), ⟨(show xSim l P xMT (xMu q_X12_seen) 5 (i_load x_isA 0 6) from s_aload_n dX12_seen_5 rfl), ⟨(show xSim l P xMT (xMu q_X12_seen) 6 (i_push (.inl (.int (Int32.ofNat 0))) 7) from s_iconst (Int32.ofNat 0) dX12_seen_6 (by decide +kernel)), ⟨(show xSim l P xMT (xMu q_X12_seen) 7 (i_putf 12 0 .int 10) from s_putf 12 0 tyX12 .int dX12_seen_7 (xvc_12) (by decide +kernel) xin_12 w_488 tyX12_ok nmX12 rfl rfl), ⟨(show xSim l P xMT (xMu q_X12_seen) 10 (i_load x_isA 0 11) from s_aload_n dX12_seen_10 rfl), ⟨(show xSim l P xMT (xMu q_X12_seen) 11 (i_load x_isI 1 12) from s_iload_n dX12_seen_11 rfl), ⟨(show xSim l P xMT (xMu q_X12_seen) 12 (i_call (some 12) 160 2 0 0 15) from s_callV 12 (q_X12_isCompanyAt) t_X12_isCompanyAt m_X12_isCompanyAt dX12_seen_12 rfl (xvc_12) w_491 w_492 w_493 w_489 w_490 h_X12_isCompanyAt ⟨(by decide +kernel), (by decide +kernel)⟩), ⟨(show xSim l P xMT (xMu q_X12_seen) 15 (i_if 2 26 18) from s_if_eq 26 dX12_seen_15 (by decide +kernel)), trivial⟩⟩⟩⟩⟩⟩⟩⟩⟩⟩
theorem o_k_X12_seen_1 {l : Launch} {P : xP} : xAll l P xMT (xMu q_X12_seen) 16 k_X12_seen_1 := ⟨(show xSim l P xMT (xMu q_X12_seen) 26 (i_load x_isA 0 27) from s_aload_n dX12_seen_26 rfl), ⟨(show xSim l P xMT (xMu q_X12_seen) 27 (i_push (.inl (.int (Int32.ofNat 2))) 28) from s_iconst (Int32.ofNat 2) dX12_seen_27 (by decide +kernel)), ⟨(show xSim l P xMT (xMu q_X12_seen) 28 (i_call (some 12) 193 2 0 0 31) from s_callV 12 (q_X12_refuse) t_X12_refuse m_X12_refuse dX12_seen_28 rfl (xvc_12) w_511 w_512 w_513 w_510 w_490 h_X12_refuse ⟨(by decide +kernel), (by decide +kernel)⟩), ⟨(show xSim l P xMT (xMu q_X12_seen) 31 (i_reti .int) from s_reti .int dX12_seen_31 rfl), trivial⟩⟩⟩⟩
theorem o_X12_seen {l : Launch} {P : xP} : xTabOK l P xMT (xMu q_X12_seen) t_X12_seen := xTabOK.of ⟨o_k_X12_seen_0, ⟨o_k_X12_seen_1, trivial⟩⟩
theorem dX12_shows_0 : decode cX12_shows 0 = .ok (.aload_n 0, 1) := by decide +kernel
theorem dX12_shows_1 : decode cX12_shows 1 = .ok (.iconst 0, 1) := by decide +kernel
theorem dX12_shows_2 : decode cX12_shows 2 = .ok (.putfield 72, 3) := by decide +kernel
theorem dX12_shows_5 : decode cX12_shows 5 = .ok (.aload_n 0, 1) := by decide +kernel
theorem dX12_shows_6 : decode cX12_shows 6 = .ok (.iconst 0, 1) := by decide +kernel
theorem dX12_shows_7 : decode cX12_shows 7 = .ok (.putfield 75, 3) := by decide +kernel
theorem dX12_shows_10 : decode cX12_shows 10 = .ok (.aload_n 0, 1) := by decide +kernel
theorem dX12_shows_11 : decode cX12_shows 11 = .ok (.iload_n 1, 1) := by decide +kernel
theorem dX12_shows_12 : decode cX12_shows 12 = .ok (.invokevirtual 314, 3) := by decide +kernel
theorem dX12_shows_15 : decode cX12_shows 15 = .ok (.ifCond .eq 26, 3) := by decide +kernel
theorem dX12_shows_18 : decode cX12_shows 18 = .ok (.aload_n 0, 1) := by decide +kernel
theorem dX12_shows_19 : decode cX12_shows 19 = .ok (.iload_n 2, 1) := by decide +kernel
theorem dX12_shows_20 : decode cX12_shows 20 = .ok (.iload_n 3, 1) := by decide +kernel
theorem dX12_shows_21 : decode cX12_shows 21 = .ok (.invokevirtual 308, 3) := by decide +kernel
theorem dX12_shows_24 : decode cX12_shows 24 = .ok (.ifCond .eq 17, 3) := by decide +kernel
theorem dX12_shows_27 : decode cX12_shows 27 = .ok (.aload_n 0, 1) := by decide +kernel
theorem dX12_shows_28 : decode cX12_shows 28 = .ok (.iload_n 1, 1) := by decide +kernel
theorem dX12_shows_29 : decode cX12_shows 29 = .ok (.aload_n 0, 1) := by decide +kernel
theorem dX12_shows_30 : decode cX12_shows 30 = .ok (.iload_n 2, 1) := by decide +kernel
theorem dX12_shows_31 : decode cX12_shows 31 = .ok (.iload_n 3, 1) := by decide +kernel
theorem dX12_shows_32 : decode cX12_shows 32 = .ok (.invokevirtual 311, 3) := by decide +kernel
theorem dX12_shows_35 : decode cX12_shows 35 = .ok (.invokevirtual 317, 3) := by decide +kernel
theorem dX12_shows_38 : decode cX12_shows 38 = .ok (.goto 8, 3) := by decide +kernel
theorem dX12_shows_41 : decode cX12_shows 41 = .ok (.aload_n 0, 1) := by decide +kernel
theorem dX12_shows_42 : decode cX12_shows 42 = .ok (.iconst 2, 1) := by decide +kernel
theorem dX12_shows_43 : decode cX12_shows 43 = .ok (.invokevirtual 305, 3) := by decide +kernel
theorem dX12_shows_46 : decode cX12_shows 46 = .ok (.ireturn, 1) := by decide +kernel
theorem o_k_X12_shows_0 {l : Launch} {P : xP} : xAll l P xMT (xMu q_X12_shows) 0 k_X12_shows_0 := ⟨(show xSim l P xMT (xMu q_X12_shows) 0 (i_load x_isA 0 1) from s_aload_n dX12_shows_0 rfl), ⟨(show xSim l P xMT (xMu q_X12_shows) 1 (i_push (.inl (.int (Int32.ofNat 0))) 2) from s_iconst (Int32.ofNat 0) dX12_shows_1 (by decide +kernel)), ⟨(show xSim l P xMT (xMu q_X12_shows) 2 (i_putf 12 1 .int 5) from s_putf 12 1 tyX12 .int dX12_shows_2 (xvc_12) (by decide +kernel) xin_12 w_487 tyX12_ok nmX12 rfl rfl), ⟨(show xSim l P xMT (xMu q_X12_shows) 5 (i_load x_isA 0 6) from s_aload_n dX12_shows_5 rfl), ⟨(show xSim l P xMT (xMu q_X12_shows) 6 (i_push (.inl (.int (Int32.ofNat 0))) 7) from s_iconst (Int32.ofNat 0) dX12_shows_6 (by decide +kernel)), ⟨(show xSim l P xMT (xMu q_X12_shows) 7 (i_putf 12 0 .int 10) from s_putf 12 0 tyX12 .int dX12_shows_7 (xvc_12) (by decide +kernel) xin_12 w_488 tyX12_ok nmX12 rfl rfl), ⟨(show xSim l P xMT (xMu q_X12_shows) 10 (i_load x_isA 0 11) from s_aload_n dX12_shows_10 rfl), ⟨(show xSim l P xMT (xMu q_X12_shows) 11 (i_load x_isI 1 12) from s_iload_n dX12_shows_11 rfl), ⟨(show xSim l P xMT (xMu q_X12_shows) 12 (i_call (some 12) 161 2 0 0 15) from s_callV 12 (q_X12_isCopy) t_X12_isCopy m_X12_isCopy dX12_shows_12 rfl (xvc_12) w_523 w_524 w_525 w_522 w_490 h_X12_isCopy ⟨(by decide +kernel), (by decide +kernel)⟩), ⟨(show xSim l P xMT (xMu q_X12_shows) 15 (i_if 2 41 18) from s_if_eq 41 dX12_shows_15 (by decide +kernel)), trivial⟩⟩⟩⟩⟩⟩⟩⟩⟩⟩
theorem o_k_X12_shows_1 {l : Launch} {P : xP} : xAll l P xMT (xMu q_X12_shows) 16 k_X12_shows_1 := ⟨(show xSim l P xMT (xMu q_X12_shows) 18 (i_load x_isA 0 19) from s_aload_n dX12_shows_18 rfl), ⟨(show xSim l P xMT (xMu q_X12_shows) 19 (i_loadc 2 20) from s_iloadc_n dX12_shows_19 rfl), ⟨(show xSim l P xMT (xMu q_X12_shows) 20 (i_load x_isI 3 21) from s_iload_n dX12_shows_20 rfl), ⟨(show xSim l P xMT (xMu q_X12_shows) 21 (i_call (some 12) 159 3 0 0 24) from s_callV 12 (q_X12_isCell) t_X12_isCell m_X12_isCell dX12_shows_21 rfl (xvc_12) w_515 w_516 w_517 w_514 w_490 h_X12_isCell ⟨(by decide +kernel), (by decide +kernel)⟩), ⟨(show xSim l P xMT (xMu q_X12_shows) 24 (i_if 2 41 27) from s_if_eq 41 dX12_shows_24 (by decide +kernel)), ⟨(show xSim l P xMT (xMu q_X12_shows) 27 (i_load x_isA 0 28) from s_aload_n dX12_shows_27 rfl), ⟨(show xSim l P xMT (xMu q_X12_shows) 28 (i_load x_isI 1 29) from s_iload_n dX12_shows_28 rfl), ⟨(show xSim l P xMT (xMu q_X12_shows) 29 (i_load x_isA 0 30) from s_aload_n dX12_shows_29 rfl), ⟨(show xSim l P xMT (xMu q_X12_shows) 30 (i_load x_isI 2 31) from s_iload_n dX12_shows_30 rfl), ⟨(show xSim l P xMT (xMu q_X12_shows) 31 (i_load x_isI 3 32) from s_iload_n dX12_shows_31 rfl), trivial⟩⟩⟩⟩⟩⟩⟩⟩⟩⟩
theorem o_k_X12_shows_2 {l : Launch} {P : xP} : xAll l P xMT (xMu q_X12_shows) 32 k_X12_shows_2 := ⟨(show xSim l P xMT (xMu q_X12_shows) 32 (i_call (some 12) 129 3 0 0 35) from s_callV 12 (q_X12_at2) t_X12_at2 m_X12_at2 dX12_shows_32 rfl (xvc_12) w_519 w_520 w_521 w_518 w_490 h_X12_at2 ⟨(by decide +kernel), (by decide +kernel)⟩), ⟨(show xSim l P xMT (xMu q_X12_shows) 35 (i_call (some 12) 197 3 0 0 38) from s_callV 12 (q_X12_showsOf) t_X12_showsOf m_X12_showsOf dX12_shows_35 rfl (xvc_12) w_564 w_565 w_566 w_563 w_490 h_X12_showsOf ⟨(by decide +kernel), (by decide +kernel)⟩), ⟨(show xSim l P xMT (xMu q_X12_shows) 38 (i_jump 46) from s_goto 46 dX12_shows_38 (by decide +kernel)), ⟨(show xSim l P xMT (xMu q_X12_shows) 41 (i_load x_isA 0 42) from s_aload_n dX12_shows_41 rfl), ⟨(show xSim l P xMT (xMu q_X12_shows) 42 (i_push (.inl (.int (Int32.ofNat 2))) 43) from s_iconst (Int32.ofNat 2) dX12_shows_42 (by decide +kernel)), ⟨(show xSim l P xMT (xMu q_X12_shows) 43 (i_call (some 12) 193 2 0 0 46) from s_callV 12 (q_X12_refuse) t_X12_refuse m_X12_refuse dX12_shows_43 rfl (xvc_12) w_511 w_512 w_513 w_510 w_490 h_X12_refuse ⟨(by decide +kernel), (by decide +kernel)⟩), ⟨(show xSim l P xMT (xMu q_X12_shows) 46 (i_reti .int) from s_reti .int dX12_shows_46 rfl), trivial⟩⟩⟩⟩⟩⟩⟩
theorem o_X12_shows {l : Launch} {P : xP} : xTabOK l P xMT (xMu q_X12_shows) t_X12_shows := xTabOK.of ⟨o_k_X12_shows_0, ⟨o_k_X12_shows_1, ⟨o_k_X12_shows_2, trivial⟩⟩⟩
theorem dX12_showsOf_0 : decode cX12_showsOf 0 = .ok (.aload_n 0, 1) := by decide +kernel
theorem dX12_showsOf_1 : decode cX12_showsOf 1 = .ok (.iload_n 1, 1) := by decide +kernel
theorem dX12_showsOf_2 : decode cX12_showsOf 2 = .ok (.iload_n 2, 1) := by decide +kernel
theorem dX12_showsOf_3 : decode cX12_showsOf 3 = .ok (.invokevirtual 296, 3) := by decide +kernel
theorem dX12_showsOf_6 : decode cX12_showsOf 6 = .ok (.istore_n 3, 1) := by decide +kernel
theorem dX12_showsOf_7 : decode cX12_showsOf 7 = .ok (.iload_n 3, 1) := by decide +kernel
theorem dX12_showsOf_8 : decode cX12_showsOf 8 = .ok (.ifCond .ne 14, 3) := by decide +kernel
theorem dX12_showsOf_11 : decode cX12_showsOf 11 = .ok (.aload_n 0, 1) := by decide +kernel
theorem dX12_showsOf_12 : decode cX12_showsOf 12 = .ok (.getfield 35, 3) := by decide +kernel
theorem dX12_showsOf_15 : decode cX12_showsOf 15 = .ok (.iconst 5, 1) := by decide +kernel
theorem dX12_showsOf_16 : decode cX12_showsOf 16 = .ok (.iload_n 2, 1) := by decide +kernel
theorem dX12_showsOf_17 : decode cX12_showsOf 17 = .ok (.iadd, 1) := by decide +kernel
theorem dX12_showsOf_18 : decode cX12_showsOf 18 = .ok (.iaload, 1) := by decide +kernel
theorem dX12_showsOf_19 : decode cX12_showsOf 19 = .ok (.goto 6, 3) := by decide +kernel
theorem dX12_showsOf_25 : decode cX12_showsOf 25 = .ok (.ireturn, 1) := by decide +kernel
theorem o_k_X12_showsOf_0 {l : Launch} {P : xP} : xAll l P xMT (xMu q_X12_showsOf) 0 k_X12_showsOf_0 := ⟨(show xSim l P xMT (xMu q_X12_showsOf) 0 (i_load x_isA 0 1) from s_aload_n dX12_showsOf_0 rfl), ⟨(show xSim l P xMT (xMu q_X12_showsOf) 1 (i_load x_isI 1 2) from s_iload_n dX12_showsOf_1 rfl), ⟨(show xSim l P xMT (xMu q_X12_showsOf) 2 (i_load x_isI 2 3) from s_iload_n dX12_showsOf_2 rfl), ⟨(show xSim l P xMT (xMu q_X12_showsOf) 3 (i_call (some 12) 200 3 0 0 6) from s_callV 12 (q_X12_stateOf) t_X12_stateOf m_X12_stateOf dX12_showsOf_3 rfl (xvc_12) w_531 w_532 w_533 w_530 w_490 h_X12_stateOf ⟨(by decide +kernel), (by decide +kernel)⟩), ⟨(show xSim l P xMT (xMu q_X12_showsOf) 6 (i_store1 x_isI 4 3 7) from s_istore_n dX12_showsOf_6 rfl), ⟨(show xSim l P xMT (xMu q_X12_showsOf) 7 (i_load x_isI 3 8) from s_iload_n dX12_showsOf_7 rfl), ⟨(show xSim l P xMT (xMu q_X12_showsOf) 8 (i_if 2 11 22) from s_if_ne 22 dX12_showsOf_8 (by decide +kernel)), ⟨(show xSim l P xMT (xMu q_X12_showsOf) 11 (i_load x_isA 0 12) from s_aload_n dX12_showsOf_11 rfl), ⟨(show xSim l P xMT (xMu q_X12_showsOf) 12 (i_getf 12 20 15) from s_getf 12 20 dX12_showsOf_12 (xvc_12) (by decide +kernel) xin_12 w_498), ⟨(show xSim l P xMT (xMu q_X12_showsOf) 15 (i_push (.inl (.int (Int32.ofNat 5))) 16) from s_iconst (Int32.ofNat 5) dX12_showsOf_15 (by decide +kernel)), trivial⟩⟩⟩⟩⟩⟩⟩⟩⟩⟩
theorem o_k_X12_showsOf_1 {l : Launch} {P : xP} : xAll l P xMT (xMu q_X12_showsOf) 16 k_X12_showsOf_1 := ⟨(show xSim l P xMT (xMu q_X12_showsOf) 16 (i_load x_isI 2 17) from s_iload_n dX12_showsOf_16 rfl), ⟨(show xSim l P xMT (xMu q_X12_showsOf) 17 (i_bin32 (fun x y => x + y) 18) from s_iadd dX12_showsOf_17), ⟨(show xSim l P xMT (xMu q_X12_showsOf) 18 (i_iald 19) from s_iald dX12_showsOf_18), ⟨(show xSim l P xMT (xMu q_X12_showsOf) 19 (i_jump 25) from s_goto 25 dX12_showsOf_19 (by decide +kernel)), ⟨(show xSim l P xMT (xMu q_X12_showsOf) 25 (i_reti .int) from s_reti .int dX12_showsOf_25 rfl), trivial⟩⟩⟩⟩⟩
theorem o_X12_showsOf {l : Launch} {P : xP} : xTabOK l P xMT (xMu q_X12_showsOf) t_X12_showsOf := xTabOK.of ⟨o_k_X12_showsOf_0, ⟨o_k_X12_showsOf_1, trivial⟩⟩
theorem dX12_spelled_0 : decode cX12_spelled 0 = .ok (.iload_n 0, 1) := by decide +kernel
theorem dX12_spelled_1 : decode cX12_spelled 1 = .ok (.i2l, 1) := by decide +kernel
theorem dX12_spelled_2 : decode cX12_spelled 2 = .ok (.ldc2_w 134, 3) := by decide +kernel
theorem dX12_spelled_5 : decode cX12_spelled 5 = .ok (.lsub, 1) := by decide +kernel
theorem dX12_spelled_6 : decode cX12_spelled 6 = .ok (.ldc2_w 132, 3) := by decide +kernel
theorem dX12_spelled_9 : decode cX12_spelled 9 = .ok (.lmul, 1) := by decide +kernel
theorem dX12_spelled_10 : decode cX12_spelled 10 = .ok (.iload_n 1, 1) := by decide +kernel
theorem dX12_spelled_11 : decode cX12_spelled 11 = .ok (.i2l, 1) := by decide +kernel
theorem dX12_spelled_12 : decode cX12_spelled 12 = .ok (.ladd, 1) := by decide +kernel
theorem dX12_spelled_13 : decode cX12_spelled 13 = .ok (.ldc2_w 134, 3) := by decide +kernel
theorem dX12_spelled_16 : decode cX12_spelled 16 = .ok (.lsub, 1) := by decide +kernel
theorem dX12_spelled_17 : decode cX12_spelled 17 = .ok (.lstore 6, 2) := by decide +kernel
theorem dX12_spelled_19 : decode cX12_spelled 19 = .ok (.iload_n 2, 1) := by decide +kernel
theorem dX12_spelled_20 : decode cX12_spelled 20 = .ok (.ifCond .le 19, 3) := by decide +kernel
theorem dX12_spelled_23 : decode cX12_spelled 23 = .ok (.lload 6, 2) := by decide +kernel
theorem dX12_spelled_25 : decode cX12_spelled 25 = .ok (.ldc2_w 132, 3) := by decide +kernel
theorem dX12_spelled_28 : decode cX12_spelled 28 = .ok (.lmul, 1) := by decide +kernel
theorem dX12_spelled_29 : decode cX12_spelled 29 = .ok (.iload_n 2, 1) := by decide +kernel
theorem dX12_spelled_30 : decode cX12_spelled 30 = .ok (.i2l, 1) := by decide +kernel
theorem dX12_spelled_31 : decode cX12_spelled 31 = .ok (.ladd, 1) := by decide +kernel
theorem dX12_spelled_32 : decode cX12_spelled 32 = .ok (.ldc2_w 134, 3) := by decide +kernel
theorem dX12_spelled_35 : decode cX12_spelled 35 = .ok (.lsub, 1) := by decide +kernel
theorem dX12_spelled_36 : decode cX12_spelled 36 = .ok (.goto 5, 3) := by decide +kernel
theorem dX12_spelled_41 : decode cX12_spelled 41 = .ok (.lstore 6, 2) := by decide +kernel
theorem dX12_spelled_43 : decode cX12_spelled 43 = .ok (.iload_n 3, 1) := by decide +kernel
theorem dX12_spelled_44 : decode cX12_spelled 44 = .ok (.ifCond .le 19, 3) := by decide +kernel
theorem dX12_spelled_47 : decode cX12_spelled 47 = .ok (.lload 6, 2) := by decide +kernel
theorem dX12_spelled_49 : decode cX12_spelled 49 = .ok (.ldc2_w 132, 3) := by decide +kernel
theorem dX12_spelled_52 : decode cX12_spelled 52 = .ok (.lmul, 1) := by decide +kernel
theorem dX12_spelled_53 : decode cX12_spelled 53 = .ok (.iload_n 3, 1) := by decide +kernel
theorem dX12_spelled_54 : decode cX12_spelled 54 = .ok (.i2l, 1) := by decide +kernel
theorem dX12_spelled_55 : decode cX12_spelled 55 = .ok (.ladd, 1) := by decide +kernel
theorem dX12_spelled_56 : decode cX12_spelled 56 = .ok (.ldc2_w 134, 3) := by decide +kernel
theorem dX12_spelled_59 : decode cX12_spelled 59 = .ok (.lsub, 1) := by decide +kernel
theorem dX12_spelled_60 : decode cX12_spelled 60 = .ok (.goto 5, 3) := by decide +kernel
theorem dX12_spelled_65 : decode cX12_spelled 65 = .ok (.lstore 6, 2) := by decide +kernel
theorem dX12_spelled_67 : decode cX12_spelled 67 = .ok (.iload 4, 2) := by decide +kernel
theorem dX12_spelled_69 : decode cX12_spelled 69 = .ok (.ifCond .le 20, 3) := by decide +kernel
theorem dX12_spelled_89 : decode cX12_spelled 89 = .ok (.lload 6, 2) := by decide +kernel
theorem dX12_spelled_91 : decode cX12_spelled 91 = .ok (.lstore 6, 2) := by decide +kernel
theorem dX12_spelled_93 : decode cX12_spelled 93 = .ok (.iload 5, 2) := by decide +kernel
theorem dX12_spelled_95 : decode cX12_spelled 95 = .ok (.ifCond .le 20, 3) := by decide +kernel
theorem dX12_spelled_115 : decode cX12_spelled 115 = .ok (.lload 6, 2) := by decide +kernel
theorem dX12_spelled_117 : decode cX12_spelled 117 = .ok (.lreturn, 1) := by decide +kernel
theorem o_k_X12_spelled_0 {l : Launch} {P : xP} : xAll l P xMT (xMu q_X12_spelled) 0 k_X12_spelled_0 := ⟨(show xSim l P xMT (xMu q_X12_spelled) 0 (i_load x_isI 0 1) from s_iload_n dX12_spelled_0 rfl), ⟨(show xSim l P xMT (xMu q_X12_spelled) 1 (i_i2l 2) from s_i2l dX12_spelled_1), ⟨(show xSim l P xMT (xMu q_X12_spelled) 2 (i_push (.inl (.long (Int64.ofNat 96))) 5) from s_ldc2 (Int64.ofNat 96) dX12_spelled_2 w_687), ⟨(show xSim l P xMT (xMu q_X12_spelled) 5 (i_bin64 (fun x y => x - y) 6) from s_lsub dX12_spelled_5), ⟨(show xSim l P xMT (xMu q_X12_spelled) 6 (i_push (.inl (.long (Int64.ofNat 32))) 9) from s_ldc2 (Int64.ofNat 32) dX12_spelled_6 w_688), ⟨(show xSim l P xMT (xMu q_X12_spelled) 9 (i_bin64 (fun x y => x * y) 10) from s_lmul dX12_spelled_9), ⟨(show xSim l P xMT (xMu q_X12_spelled) 10 (i_load x_isI 1 11) from s_iload_n dX12_spelled_10 rfl), ⟨(show xSim l P xMT (xMu q_X12_spelled) 11 (i_i2l 12) from s_i2l dX12_spelled_11), ⟨(show xSim l P xMT (xMu q_X12_spelled) 12 (i_bin64 (fun x y => x + y) 13) from s_ladd dX12_spelled_12), ⟨(show xSim l P xMT (xMu q_X12_spelled) 13 (i_push (.inl (.long (Int64.ofNat 96))) 16) from s_ldc2 (Int64.ofNat 96) dX12_spelled_13 w_687), trivial⟩⟩⟩⟩⟩⟩⟩⟩⟩⟩
theorem o_k_X12_spelled_1 {l : Launch} {P : xP} : xAll l P xMT (xMu q_X12_spelled) 16 k_X12_spelled_1 := ⟨(show xSim l P xMT (xMu q_X12_spelled) 16 (i_bin64 (fun x y => x - y) 17) from s_lsub dX12_spelled_16), ⟨(show xSim l P xMT (xMu q_X12_spelled) 17 (i_store2 8 6 19) from s_lstore dX12_spelled_17), ⟨(show xSim l P xMT (xMu q_X12_spelled) 19 (i_load x_isI 2 20) from s_iload_n dX12_spelled_19 rfl), ⟨(show xSim l P xMT (xMu q_X12_spelled) 20 (i_if 1 23 39) from s_if_le 39 dX12_spelled_20 (by decide +kernel)), ⟨(show xSim l P xMT (xMu q_X12_spelled) 23 (i_load x_isL 6 25) from s_lload dX12_spelled_23), ⟨(show xSim l P xMT (xMu q_X12_spelled) 25 (i_push (.inl (.long (Int64.ofNat 32))) 28) from s_ldc2 (Int64.ofNat 32) dX12_spelled_25 w_688), ⟨(show xSim l P xMT (xMu q_X12_spelled) 28 (i_bin64 (fun x y => x * y) 29) from s_lmul dX12_spelled_28), ⟨(show xSim l P xMT (xMu q_X12_spelled) 29 (i_load x_isI 2 30) from s_iload_n dX12_spelled_29 rfl), ⟨(show xSim l P xMT (xMu q_X12_spelled) 30 (i_i2l 31) from s_i2l dX12_spelled_30), ⟨(show xSim l P xMT (xMu q_X12_spelled) 31 (i_bin64 (fun x y => x + y) 32) from s_ladd dX12_spelled_31), trivial⟩⟩⟩⟩⟩⟩⟩⟩⟩⟩
theorem o_k_X12_spelled_2 {l : Launch} {P : xP} : xAll l P xMT (xMu q_X12_spelled) 32 k_X12_spelled_2 := ⟨(show xSim l P xMT (xMu q_X12_spelled) 32 (i_push (.inl (.long (Int64.ofNat 96))) 35) from s_ldc2 (Int64.ofNat 96) dX12_spelled_32 w_687), ⟨(show xSim l P xMT (xMu q_X12_spelled) 35 (i_bin64 (fun x y => x - y) 36) from s_lsub dX12_spelled_35), ⟨(show xSim l P xMT (xMu q_X12_spelled) 36 (i_jump 41) from s_goto 41 dX12_spelled_36 (by decide +kernel)), ⟨(show xSim l P xMT (xMu q_X12_spelled) 41 (i_store2 8 6 43) from s_lstore dX12_spelled_41), ⟨(show xSim l P xMT (xMu q_X12_spelled) 43 (i_load x_isI 3 44) from s_iload_n dX12_spelled_43 rfl), ⟨(show xSim l P xMT (xMu q_X12_spelled) 44 (i_if 1 47 63) from s_if_le 63 dX12_spelled_44 (by decide +kernel)), ⟨(show xSim l P xMT (xMu q_X12_spelled) 47 (i_load x_isL 6 49) from s_lload dX12_spelled_47), trivial⟩⟩⟩⟩⟩⟩⟩
theorem o_k_X12_spelled_3 {l : Launch} {P : xP} : xAll l P xMT (xMu q_X12_spelled) 48 k_X12_spelled_3 := ⟨(show xSim l P xMT (xMu q_X12_spelled) 49 (i_push (.inl (.long (Int64.ofNat 32))) 52) from s_ldc2 (Int64.ofNat 32) dX12_spelled_49 w_688), ⟨(show xSim l P xMT (xMu q_X12_spelled) 52 (i_bin64 (fun x y => x * y) 53) from s_lmul dX12_spelled_52), ⟨(show xSim l P xMT (xMu q_X12_spelled) 53 (i_load x_isI 3 54) from s_iload_n dX12_spelled_53 rfl), ⟨(show xSim l P xMT (xMu q_X12_spelled) 54 (i_i2l 55) from s_i2l dX12_spelled_54), ⟨(show xSim l P xMT (xMu q_X12_spelled) 55 (i_bin64 (fun x y => x + y) 56) from s_ladd dX12_spelled_55), ⟨(show xSim l P xMT (xMu q_X12_spelled) 56 (i_push (.inl (.long (Int64.ofNat 96))) 59) from s_ldc2 (Int64.ofNat 96) dX12_spelled_56 w_687), ⟨(show xSim l P xMT (xMu q_X12_spelled) 59 (i_bin64 (fun x y => x - y) 60) from s_lsub dX12_spelled_59), ⟨(show xSim l P xMT (xMu q_X12_spelled) 60 (i_jump 65) from s_goto 65 dX12_spelled_60 (by decide +kernel)), trivial⟩⟩⟩⟩⟩⟩⟩⟩
theorem o_k_X12_spelled_4 {l : Launch} {P : xP} : xAll l P xMT (xMu q_X12_spelled) 64 k_X12_spelled_4 := ⟨(show xSim l P xMT (xMu q_X12_spelled) 65 (i_store2 8 6 67) from s_lstore dX12_spelled_65), ⟨(show xSim l P xMT (xMu q_X12_spelled) 67 (i_load x_isI 4 69) from s_iload dX12_spelled_67), ⟨(show xSim l P xMT (xMu q_X12_spelled) 69 (i_if 1 72 89) from s_if_le 89 dX12_spelled_69 (by decide +kernel)), trivial⟩⟩⟩
theorem o_k_X12_spelled_5 {l : Launch} {P : xP} : xAll l P xMT (xMu q_X12_spelled) 80 k_X12_spelled_5 := ⟨(show xSim l P xMT (xMu q_X12_spelled) 89 (i_load x_isL 6 91) from s_lload dX12_spelled_89), ⟨(show xSim l P xMT (xMu q_X12_spelled) 91 (i_store2 8 6 93) from s_lstore dX12_spelled_91), ⟨(show xSim l P xMT (xMu q_X12_spelled) 93 (i_load x_isI 5 95) from s_iload dX12_spelled_93), ⟨(show xSim l P xMT (xMu q_X12_spelled) 95 (i_if 1 98 115) from s_if_le 115 dX12_spelled_95 (by decide +kernel)), trivial⟩⟩⟩⟩
theorem o_k_X12_spelled_6 {l : Launch} {P : xP} : xAll l P xMT (xMu q_X12_spelled) 96 k_X12_spelled_6 := trivial
theorem o_k_X12_spelled_7 {l : Launch} {P : xP} : xAll l P xMT (xMu q_X12_spelled) 112 k_X12_spelled_7 := ⟨(show xSim l P xMT (xMu q_X12_spelled) 115 (i_load x_isL 6 117) from s_lload dX12_spelled_115), ⟨(show xSim l P xMT (xMu q_X12_spelled) 117 (i_retl) from s_retl dX12_spelled_117 rfl), trivial⟩⟩
theorem o_X12_spelled {l : Launch} {P : xP} : xTabOK l P xMT (xMu q_X12_spelled) t_X12_spelled := xTabOK.of ⟨o_k_X12_spelled_0, ⟨o_k_X12_spelled_1, ⟨o_k_X12_spelled_2, ⟨o_k_X12_spelled_3, ⟨o_k_X12_spelled_4, ⟨o_k_X12_spelled_5, ⟨o_k_X12_spelled_6, ⟨o_k_X12_spelled_7, trivial⟩⟩⟩⟩⟩⟩⟩⟩
