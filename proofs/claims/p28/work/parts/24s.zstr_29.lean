section TSTR
variable {l : Launch} {P : zP} {adV : Nat → Nat}
theorem tln_ok : ∀ j, j < 2 → (zLen.getD j 0 = (zTx (j + 3)).length ∧ zLen.getD j 0 < 65536 ∧ Int32.ofNat (zLen.getD j 0) >>> ((0 : Int32) &&& 31) = Int32.ofNat (zLen.getD j 0)) := by decide +kernel
end TSTR
section TSTR
variable {l : Launch} {P : zP} {adV : Nat → Nat}
theorem t_lchar {j : Nat} (hj : j < 2) {i : Int32} (h0 : ¬ i < 0) (hi : i.toNatClampNeg < zLen.getD j 0) : tMet l P adV yJ1_charAt_3b067 wsJ1_charAt_3b067 2 [.ref (adV j), .int i] (some (.int (tch j i.toNatClampNeg))) := by
  refine t_met (cc := cJ1_charAt_3b067) (nL := 2) (ret := some .char) (by decide +kernel) rfl (Nat.le_refl 2) ?_
  intro p e s m below meth c ⟨hx, hb, hml, hown, hts, hr, hlk⟩ hX
  obtain ⟨cell, g1, g2, g3, g4, g5, g6, g7⟩ := (hX.1.1 j hj).2.2.2
  have hlt : i < Int32.ofNat (zLen.getD j 0) := by
    have b := (tln_ok j hj).2.1
    refine Int32.lt_iff_toInt_lt.mpr ?_
    have e1 : (Int32.ofNat (zLen.getD j 0)).toInt = ((zLen.getD j 0 : Nat) : Int) := z_ofNat (by omega)
    have e2 : i.toInt.toNat < zLen.getD j 0 := hi
    rw [e1]
    omega
  refine lv_iload_n hx hb dJ1_charAt_3b067_0 (i := 1) rfl rfl ?_
  refine lv_aload_n hx hb dJ1_charAt_3b067_1 (i := 0) rfl rfl ?_
  refine W.alen (n := Int32.ofNat (zLen.getD j 0)) hx hb g1 g2 g5 rfl rfl dJ1_charAt_3b067_2 ?_
  refine t_after (va_runS (As := [.int i, .int (Int32.ofNat (zLen.getD j 0))]) (rest := []) ⟨hx, hb, hml, hown, hts⟩ (t_scheck h0 hlt) (va_cwS 2 hts gJ1_charAt_3b067_J0_checkIndex_df160 rfl rfl rfl ⟨by decide +kernel, by decide +kernel, by decide +kernel⟩ ⟨Nat.le_of_ble_eq_true rfl, Nat.le_of_ble_eq_true rfl⟩) ⟨tPc_blind _ _ _, tPc_at hX⟩ rfl rfl rfl rfl (Nat.le_of_ble_eq_true rfl) dJ1_charAt_3b067_3 ⟨Nat.zero_le _, Nat.zero_le _⟩) ?_
  intro L hL
  refine lv_aload_n hx hb dJ1_charAt_3b067_6 (i := 0) rfl rfl ?_
  refine lv_iload_n hx hb dJ1_charAt_3b067_7 (i := 1) rfl rfl ?_
  refine W.bald (v := .int ((zByt.getD j []).getD i.toNatClampNeg 0)) hx hb g1 g2 g3 (fun q => q.elim h0 (fun h => absurd (Nat.lt_of_lt_of_le hi g4) (Nat.not_lt.mpr h))) (g6 _ hi) rfl rfl dJ1_charAt_3b067_8 ?_
  refine lv_sipush hx hb dJ1_charAt_3b067_9 (v := 255) (by decide) ?_
  refine lv_iand hx hb dJ1_charAt_3b067_12 ?_
  refine lv_i2c hx hb dJ1_charAt_3b067_13 (v := tch j i.toNatClampNeg) rfl ?_
  exact W.zret hx hb hr (tch_ok j hj _ hi).1 (fun t ht hW => ⟨rfl, ht⟩) hL dJ1_charAt_3b067_14 (hlocks := hlk)
end TSTR
section TSTR
variable {l : Launch} {P : zP} {adV : Nat → Nat}
theorem t_lat {j : Nat} (hj : j < 2) : tMet l P adV yJ0_isLatin1_aae02 wsJ0_isLatin1_aae02 0 [.ref (P.2.1 (j + 3))] (some (.int 1)) := by
  refine t_met (cc := cJ0_isLatin1_aae02) (nL := 1) (ret := some .boolean) (by decide +kernel) rfl (Nat.le_refl 1) ?_
  intro p e s m below meth c ⟨hx, hb, hml, hown, hts, hr, hlk⟩ hX
  refine va_gets hx hb hX.2.1 va_S.rf hown (hts _ (List.mem_cons_of_mem _ List.mem_cons_self)) (fun x h => h) dJ0_isLatin1_aae02_0 ?_
  refine lv_if_eq hx hb dJ0_isLatin1_aae02_3 (tgt := 17) rfl (fun q => absurd q (by decide)) (fun _ => ?_)
  refine lv_aload_n hx hb dJ0_isLatin1_aae02_6 (i := 0) rfl rfl ?_
  refine vk_getf hx hb (hX.1.1 j hj).2.1 va_S.rf hown (hts _ (List.mem_cons_of_mem _ (List.mem_cons_of_mem _ List.mem_cons_self))) (fun x h => h) dJ0_isLatin1_aae02_7 ?_
  refine lv_if_ne hx hb dJ0_isLatin1_aae02_10 (tgt := 17) rfl (fun q => absurd rfl q) (fun _ => ?_)
  refine lv_iconst hx hb dJ0_isLatin1_aae02_13 (v := 1) (by decide) ?_
  refine lv_goto hx hb dJ0_isLatin1_aae02_14 (tgt := 18) rfl ?_
  exact W.zret hx hb hr rfl (fun t ht hW => ⟨rfl, ht⟩) (fun q h => absurd h List.not_mem_nil) dJ0_isLatin1_aae02_18 (hlocks := hlk)
end TSTR
