section TSTR
variable {l : Launch} {P : zP} {adV : Nat → Nat}
theorem t_coder {j : Nat} (hj : j < 2) : tMet l P adV yJ0_coder_7d493 wsJ0_coder_7d493 0 [.ref (P.2.1 (j + 3))] (some (.int 0)) := by
  refine t_met (cc := cJ0_coder_7d493) (nL := 1) (ret := some .byte) (by decide +kernel) rfl (Nat.le_refl 1) ?_
  intro p e s m below meth c ⟨hx, hb, hml, hown, hts, hr, hlk⟩ hX
  refine va_gets hx hb hX.2.1 va_S.rf hown (hts _ (List.mem_cons_of_mem _ List.mem_cons_self)) (fun x h => h) dJ0_coder_7d493_0 ?_
  refine lv_if_eq hx hb dJ0_coder_7d493_3 (tgt := 13) rfl (fun q => absurd q (by decide)) (fun _ => ?_)
  refine lv_aload_n hx hb dJ0_coder_7d493_6 (i := 0) rfl rfl ?_
  refine vk_getf hx hb (hX.1.1 j hj).2.1 va_S.rf hown (hts _ (List.mem_cons_of_mem _ (List.mem_cons_of_mem _ List.mem_cons_self))) (fun x h => h) dJ0_coder_7d493_7 ?_
  refine lv_goto hx hb dJ0_coder_7d493_10 (tgt := 14) rfl ?_
  exact W.zret hx hb hr rfl (fun t ht hW => ⟨rfl, ht⟩) (fun q h => absurd h List.not_mem_nil) dJ0_coder_7d493_14 (hlocks := hlk)
end TSTR
section TSTR
variable {l : Launch} {P : zP} {adV : Nat → Nat}
theorem t_length {j : Nat} (hj : j < 2) : tMet l P adV yJ0_length_8abf5 wsJ0_length_8abf5 1 [.ref (P.2.1 (j + 3))] (some (.int (Int32.ofNat (zLen.getD j 0)))) := by
  refine t_met (cc := cJ0_length_8abf5) (nL := 1) (ret := some .int) (by decide +kernel) rfl (Nat.le_refl 1) ?_
  intro p e s m below meth c ⟨hx, hb, hml, hown, hts, hr, hlk⟩ hX
  obtain ⟨cell, g1, g2, g3, g4, g5, g6, g7⟩ := (hX.1.1 j hj).2.2.2
  refine lv_aload_n hx hb dJ0_length_8abf5_0 (i := 0) rfl rfl ?_
  refine vk_getf hx hb (hX.1.1 j hj).2.2.1 va_S.rf hown (hts _ (List.mem_cons_of_mem _ List.mem_cons_self)) (fun x h => h) dJ0_length_8abf5_1 ?_
  refine W.alen (n := Int32.ofNat (zLen.getD j 0)) hx hb g1 g2 g5 rfl rfl dJ0_length_8abf5_4 ?_
  refine lv_aload_n hx hb dJ0_length_8abf5_5 (i := 0) rfl rfl ?_
  refine t_after (va_runV (C := RJ0) (b := P.2.1 (j + 3)) (As := []) (rest := [.int (Int32.ofNat (zLen.getD j 0))]) ⟨hx, hb, hml, hown, hts⟩ (t_coder hj) (cwV 0 hts gJ0_length_8abf5_J0_coder_7d493 rfl rfl rfl ⟨rfl, by decide +kernel, by decide +kernel, by decide +kernel⟩ ⟨Nat.le_of_ble_eq_true rfl, Nat.le_of_ble_eq_true rfl⟩) ⟨tPc_blind _ _ _, vk_recv (adK := fun i => P.2.1 (i + 3)) (i := j) hX.1 hj va_S.rf, tPc_at hX⟩ rfl rfl rfl rfl (Nat.le_of_ble_eq_true rfl) dJ0_length_8abf5_6 ⟨Nat.zero_le _, Nat.zero_le _⟩) ?_
  intro L hL
  refine lv_ishr hx hb dJ0_length_8abf5_9 ?_
  rw [(tln_ok j hj).2.2]
  exact W.zret hx hb hr rfl (fun t ht hW => ⟨rfl, ht⟩) hL dJ0_length_8abf5_10 (hlocks := hlk)
end TSTR
section TSTR
variable {l : Launch} {P : zP} {adV : Nat → Nat}
theorem t_char {j : Nat} (hj : j < 2) {i : Int32} (h0 : ¬ i < 0) (hi : i.toNatClampNeg < zLen.getD j 0) : tMet l P adV yJ0_charAt_5068e wsJ0_charAt_5068e 3 [.ref (P.2.1 (j + 3)), .int i] (some (.int (tch j i.toNatClampNeg))) := by
  refine t_met (cc := cJ0_charAt_5068e) (nL := 2) (ret := some .char) (by decide +kernel) rfl (Nat.le_refl 2) ?_
  intro p e s m below meth c ⟨hx, hb, hml, hown, hts, hr, hlk⟩ hX
  refine lv_aload_n hx hb dJ0_charAt_5068e_0 (i := 0) rfl rfl ?_
  refine t_after (va_runV (C := RJ0) (b := P.2.1 (j + 3)) (As := []) (rest := []) ⟨hx, hb, hml, hown, hts⟩ (t_lat hj) (cwV 0 hts gJ0_charAt_5068e_J0_isLatin1_aae02 rfl rfl rfl ⟨rfl, by decide +kernel, by decide +kernel, by decide +kernel⟩ ⟨Nat.le_of_ble_eq_true rfl, Nat.le_of_ble_eq_true rfl⟩) ⟨tPc_blind _ _ _, vk_recv (adK := fun i => P.2.1 (i + 3)) (i := j) hX.1 hj va_S.rf, tPc_at hX⟩ rfl rfl rfl rfl (Nat.le_of_ble_eq_true rfl) dJ0_charAt_5068e_1 ⟨Nat.zero_le _, Nat.zero_le _⟩) ?_
  intro L hL
  refine lv_if_eq hx hb dJ0_charAt_5068e_4 (tgt := 16) rfl (fun q => absurd q (by decide)) (fun _ => ?_)
  refine lv_aload_n hx hb dJ0_charAt_5068e_7 (i := 0) rfl rfl ?_
  refine vk_getf hx hb (hX.1.1 j hj).2.2.1 ⟨Nat.le_refl _, fun _ _ _ => rfl, hL⟩ hown (hts _ (List.mem_cons_of_mem _ (List.mem_append_left _ List.mem_cons_self))) (fun x h => h) dJ0_charAt_5068e_8 ?_
  refine lv_iload_n hx hb dJ0_charAt_5068e_11 (i := 1) rfl rfl ?_
  refine t_after (va_runS (As := [.ref (adV j), .int i]) (rest := []) ⟨hx, hb, hml, hown, hts⟩ (t_lchar hj h0 hi) (va_cwS 2 hts gJ0_charAt_5068e_J1_charAt_3b067 rfl rfl rfl ⟨by decide +kernel, by decide +kernel, by decide +kernel⟩ ⟨Nat.le_of_ble_eq_true rfl, Nat.le_of_ble_eq_true rfl⟩) ⟨tPc_blind _ _ _, tPc_at hX⟩ rfl rfl rfl rfl (Nat.le_of_ble_eq_true rfl) dJ0_charAt_5068e_12 ⟨Nat.zero_le _, Nat.zero_le _⟩) ?_
  intro L2 hL2
  exact W.zret hx hb hr (tch_ok j hj _ hi).1 (fun t ht hW => ⟨rfl, ht⟩) (fun q h => (List.mem_append.mp h).elim (hL q) (hL2 q)) dJ0_charAt_5068e_15 (hlocks := hlk)
end TSTR
