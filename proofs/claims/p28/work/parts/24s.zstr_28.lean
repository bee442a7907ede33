section TSTR
variable {l : Launch} {P : zP} {adV : Nat → Nat}
theorem t_scheck {i n : Int32} (h0 : ¬ i < 0) (hn : i < n) : tMet l P adV yJ0_checkIndex_df160 wsJ0_checkIndex_df160 1 [.int i, .int n] none := by
  refine t_met (cc := cJ0_checkIndex_df160) (nL := 2) (ret := none) (by decide +kernel) rfl (Nat.le_refl 2) ?_
  intro p e s m below meth c ⟨hx, hb, hml, hown, hts, hr, hlk⟩ hX
  refine lv_iload_n hx hb dJ0_checkIndex_df160_0 (i := 0) rfl rfl ?_
  refine lv_iload_n hx hb dJ0_checkIndex_df160_1 (i := 1) rfl rfl ?_
  obtain ⟨v, hv, hZ⟩ : ∃ v : Value, (v = .null ∨ ∃ t : Nat, v = .ref t) ∧ va_Z "jdk/internal/util/Preconditions" "SIOOBE_FORMATTER" "Ljava/util/function/BiFunction;" v (fun z => P.1 ≤ z) s s.heap := by
    rcases hX.2.2 with h | ⟨t, h⟩
    · exact ⟨_, Or.inl rfl, h⟩
    · exact ⟨_, Or.inr ⟨t, rfl⟩, h⟩
  refine va_gets hx hb hZ va_S.rf hown (hts _ (List.mem_cons_of_mem _ List.mem_cons_self)) (fun x h => h) dJ0_checkIndex_df160_2 ?_
  refine t_after (va_runS (As := [.int i, .int n, v]) (rest := []) ⟨hx, hb, hml, hown, hts⟩ (t_check h0 hn hv) (va_cwS 3 hts gJ0_checkIndex_df160_J3_checkIndex_8e157 rfl rfl rfl ⟨by decide +kernel, by decide +kernel, by decide +kernel⟩ ⟨Nat.le_of_ble_eq_true rfl, Nat.le_of_ble_eq_true rfl⟩) ⟨tPc_blind _ _ _, tPc_at hX⟩ rfl rfl rfl rfl (Nat.le_of_ble_eq_true rfl) dJ0_checkIndex_df160_5 ⟨Nat.zero_le _, Nat.zero_le _⟩) ?_
  intro L hL
  refine lv_pop hx hb dJ0_checkIndex_df160_8 rfl ?_
  exact W.vret hx hb hr (fun t ht hW => ⟨rfl, ht⟩) hL dJ0_checkIndex_df160_9 (hlocks := hlk)
end TSTR
section TSTR
variable {l : Launch} {P : zP} {adV : Nat → Nat}
def tch (j k : Nat) : Int32 := (((zByt.getD j []).getD k 0 &&& 255).toUInt32 % 65536).toInt32
end TSTR
section TSTR
variable {l : Launch} {P : zP} {adV : Nat → Nat}
theorem tch_ok : ∀ j, j < 2 → ∀ k, k < zLen.getD j 0 → (narrow .char (.int (tch j k)) = .int (tch j k) ∧ (tch j k).toInt = (zTx (j + 3)).getD k 0) := by decide +kernel
end TSTR
