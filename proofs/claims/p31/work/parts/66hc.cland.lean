/-! printed by wip/l/gent3.py: the class reads a LAND into cell 39 -/
theorem qx_cell_39 {D : zD} {T : zT} (hT : hTab T) (hO : vOK T) {N : Nat} {h : zH} {Q : zR → Prop} {B : Nat → Int} {n m i : Nat} {τ : PT} (w R : Int) (hv0 : zHv h) (hX : cX B n m τ i h) (hw : h 39 0 = (0, w)) (hr : h 39 1 = (0, R)) (bw : 0 ≤ w ∧ w ≤ 8) (br : 0 ≤ R ∧ R ≤ 6)
    (k0 : ∀ (g2 : zH) (x1 : Int), (tF h g2) → (pNum τ 0 ((w - 1)) i = .inr (x1, i + 1)) → (0 ≤ x1) → (x1 ≤ (w - 1)) → (cX B n m τ (i + 1) g2) → ∀ (g6 : zH) (x5 : Int), (tF g2 g6) → (pNum τ 0 ((R - 1)) (i + 1) = .inr (x5, i + 1 + 1)) → (0 ≤ x5) → (x5 ≤ (R - 1)) → (cX B n m τ (i + 1 + 1) g6) → Q (g6, some (0, ((x5 * 8) + x1))))
    (k1 : ∀ (g2 : zH) (x1 : Int), (tF h g2) → (pNum τ 0 ((w - 1)) i = .inr (x1, i + 1)) → (0 ≤ x1) → (x1 ≤ (w - 1)) → (cX B n m τ (i + 1) g2) → ∀ (g7 : zH) (e7 : Er), (tF g2 g7) → (pNum τ 0 ((R - 1)) (i + 1) = .inl e7) → (cB e7 g7) → Q (g7, some (0, -1)))
    (k2 : ∀ (g3 : zH) (e3 : Er), (tF h g3) → (pNum τ 0 ((w - 1)) i = .inl e3) → (cB e3 g3) → Q (g3, some (0, -1))) :
    vP D T N 121 0 h [some (2, 10), some (2, 39), none, none] [] Q := by
  refine v_load (v := (2, 10)) (hz_X8_takeCell hT _ _ rfl) rfl rfl ?_
  refine v_push (0) (hz_X8_takeCell hT _ _ rfl) rfl ?_
  refine v_load (v := (2, 39)) (hz_X8_takeCell hT _ _ rfl) rfl rfl ?_
  refine v_getf (v := (0, w)) (r := 39) (hz_X8_takeCell hT _ _ rfl) rfl rfl (fun _ => hw) ?_
  refine v_push (1) (hz_X8_takeCell hT _ _ rfl) rfl ?_
  refine v_bin (w := (w - 1)) (hz_X8_takeCell hT _ _ rfl) (hq_sub (by omega) (by omega)) ?_
  refine v_call (w := 4) [some (2, 10), some (0, 0), some (0, (w - 1)), none] hO (hz_X8_takeCell hT _ _ rfl) rfl rfl (cx_num hT hO 0 ((w - 1)) hX (fun g2 x1 ft2 q2 bux1 bvx1 hX2 => ?_) (fun g3 e3 ft3 q3 c3 => ?_))
  · show vP D T N 121 11 g2 [some (2, 10), some (2, 39), none, none] [(0, x1)] _
    refine vP_hv (fun hv2 => ?_)
    refine v_store1 [some (2, 10), some (2, 39), some (0, x1), none] (hi_X8_takeCell_11 hT) ⟨rfl, Nat.ne_of_beq_eq_false rfl⟩ (Nat.le_of_ble_eq_true rfl) rfl ?_
    refine v_load (v := (0, x1)) (hi_X8_takeCell_12 hT) rfl rfl ?_
    refine v_push (-1) (hi_X8_takeCell_13 hT) rfl ?_
    refine v_ic (hi_X8_takeCell_14 hT) (fun hc4 => absurd (show x1 = -1 from hc4) (by omega)) (fun _ => ?_)
    refine v_load (v := (2, 10)) (hz_X8_takeCell hT _ _ rfl) rfl rfl ?_
    refine v_push (0) (hz_X8_takeCell hT _ _ rfl) rfl ?_
    refine v_load (v := (2, 39)) (hz_X8_takeCell hT _ _ rfl) rfl rfl ?_
    refine v_getf (v := (0, R)) (r := 39) (hz_X8_takeCell hT _ _ rfl) rfl rfl (fun _ => (Eq.trans (ft2 39 1 (by first | decide | exact fun c => by omega)) hr)) ?_
    refine v_push (1) (hz_X8_takeCell hT _ _ rfl) rfl ?_
    refine v_bin (w := (R - 1)) (hz_X8_takeCell hT _ _ rfl) (hq_sub (by omega) (by omega)) ?_
    refine v_call (w := 4) [some (2, 10), some (0, 0), some (0, (R - 1)), none] hO (hz_X8_takeCell hT _ _ rfl) rfl rfl (cx_num hT hO 0 ((R - 1)) hX2 (fun g6 x5 ft6 q6 bux5 bvx5 hX6 => ?_) (fun g7 e7 ft7 q7 c7 => ?_))
    · show vP D T N 121 30 g6 [some (2, 10), some (2, 39), some (0, x1), none] [(0, x5)] _
      refine vP_hv (fun hv6 => ?_)
      refine v_store1 [some (2, 10), some (2, 39), some (0, x1), some (0, x5)] (hi_X8_takeCell_30 hT) ⟨rfl, Nat.ne_of_beq_eq_false rfl⟩ (Nat.le_of_ble_eq_true rfl) rfl ?_
      refine v_load (v := (0, x5)) (hi_X8_takeCell_31 hT) rfl rfl ?_
      refine v_push (-1) (hi_X8_takeCell_32 hT) rfl ?_
      refine v_ic (hi_X8_takeCell_33 hT) (fun hc8 => absurd (show x5 = -1 from hc8) (by omega)) (fun _ => ?_)
      refine v_load (v := (0, x1)) (hz_X8_takeCell hT _ _ rfl) rfl rfl ?_
      refine v_load (v := (0, x5)) (hz_X8_takeCell hT _ _ rfl) rfl rfl ?_
      refine v_call (w := 2) [some (0, x1), some (0, x5)] hO (hz_X8_takeCell hT _ _ rfl) rfl rfl ?_
      refine v_load (v := (0, x5)) (hi_X2_cellAt_0 hT) rfl rfl ?_
      refine v_push (8) (hi_X2_cellAt_1 hT) rfl ?_
      refine v_bin (w := (x5 * 8)) (hi_X2_cellAt_3 hT) (hq_mul (by omega) (by omega)) ?_
      refine v_load (v := (0, x1)) (hi_X2_cellAt_4 hT) rfl rfl ?_
      refine v_bin (w := ((x5 * 8) + x1)) (hi_X2_cellAt_5 hT) (hq_add (by omega) (by omega)) ?_
      refine v_ret (hi_X2_cellAt_6 hT) (Or.inl rfl) ?_
      show vP D T N 121 45 g6 [some (2, 10), some (2, 39), some (0, x1), some (0, x5)] [(0, ((x5 * 8) + x1))] _
      refine v_ret (hi_X8_takeCell_45 hT) (Or.inl rfl) ?_
      exact k0 g2 x1 ft2 q2 bux1 bvx1 hX2 g6 x5 ft6 q6 bux5 bvx5 hX6
    · show vP D T N 121 30 g7 [some (2, 10), some (2, 39), some (0, x1), none] [(0, -1)] _
      refine vP_hv (fun hv7 => ?_)
      refine v_store1 [some (2, 10), some (2, 39), some (0, x1), some (0, -1)] (hi_X8_takeCell_30 hT) ⟨rfl, Nat.ne_of_beq_eq_false rfl⟩ (Nat.le_of_ble_eq_true rfl) rfl ?_
      refine v_load (v := (0, -1)) (hi_X8_takeCell_31 hT) rfl rfl ?_
      refine v_push (-1) (hi_X8_takeCell_32 hT) rfl ?_
      refine v_ic (hi_X8_takeCell_33 hT) (fun _ => ?_) (fun hc9 => absurd (show (-1 : Int) = -1 from (by decide)) hc9)
      refine v_push (-1) (hz_X8_takeCell hT _ _ rfl) rfl ?_
      refine v_goto (hz_X8_takeCell hT _ _ rfl) ?_
      refine v_ret (hi_X8_takeCell_45 hT) (Or.inl rfl) ?_
      exact k1 g2 x1 ft2 q2 bux1 bvx1 hX2 g7 e7 ft7 q7 c7
  · show vP D T N 121 11 g3 [some (2, 10), some (2, 39), none, none] [(0, -1)] _
    refine vP_hv (fun hv3 => ?_)
    refine v_store1 [some (2, 10), some (2, 39), some (0, -1), none] (hi_X8_takeCell_11 hT) ⟨rfl, Nat.ne_of_beq_eq_false rfl⟩ (Nat.le_of_ble_eq_true rfl) rfl ?_
    refine v_load (v := (0, -1)) (hi_X8_takeCell_12 hT) rfl rfl ?_
    refine v_push (-1) (hi_X8_takeCell_13 hT) rfl ?_
    refine v_ic (hi_X8_takeCell_14 hT) (fun _ => ?_) (fun hc10 => absurd (show (-1 : Int) = -1 from (by decide)) hc10)
    refine v_push (-1) (hz_X8_takeCell hT _ _ rfl) rfl ?_
    refine v_ret (hz_X8_takeCell hT _ _ rfl) (Or.inl rfl) ?_
    exact k2 g3 e3 ft3 q3 c3
theorem qx_named0_39 {D : zD} {T : zT} (hT : hTab T) (hO : vOK T) {N : Nat} {h : zH} {Q : zR → Prop} {P : PT} (v : Int) (hv0 : zHv h)
    (k0 : vP D T N 31 2 h [some (2, 39), some (1, v), none, some (0, 0)] [] Q) :
    vP D T N 31 0 h [some (2, 39), some (1, v), none, none] [] Q := by
  refine v_push (0) (hz_X2_companyNamed hT _ _ rfl) rfl ?_
  refine v_store1 [some (2, 39), some (1, v), none, some (0, 0)] (hz_X2_companyNamed hT _ _ rfl) ⟨rfl, Nat.ne_of_beq_eq_false rfl⟩ (Nat.le_of_ble_eq_true rfl) rfl ?_
  exact k0 
theorem qx_named2_39 {D : zD} {T : zT} (hT : hTab T) (hO : vOK T) {N : Nat} {h : zH} {Q : zR → Prop} {P : PT} (v k : Int) (hv0 : zHv h) (hP : cP 39 P h) (hk : 0 ≤ k ∧ k ≤ 6)
    (k0 : (k < (P 0 3)) → (0 ≤ k) → (k < 6) → ((h 43 k.toNat).2 = v) → Q (h, some (0, k)))
    (k1 : (k < (P 0 3)) → (0 ≤ k) → (k < 6) → ((h 43 k.toNat).2 ≠ v) → vP D T N 31 2 h [some (2, 39), some (1, v), none, some (0, (k + 1))] [] Q)
    (k2 : ((P 0 3) ≤ k) → Q (h, some (0, -1))) :
    vP D T (N + 1) 31 2 h [some (2, 39), some (1, v), none, some (0, k)] [] Q := by
  refine v_loadS (v := (0, k)) (hz_X2_companyNamed hT _ _ rfl) rfl rfl ?_
  refine v_load (v := (2, 39)) (hz_X2_companyNamed hT _ _ rfl) rfl rfl ?_
  refine v_getf (v := (0, (P 0 3))) (r := 39) (hz_X2_companyNamed hT _ _ rfl) rfl rfl (fun _ => hP.m) ?_
  refine v_ic (hz_X2_companyNamed hT _ _ rfl) (fun hc1 => ?_) (fun hc1 => ?_)
  · have hc1 : k < (P 0 3) := hc1
    refine v_load (v := (2, 39)) (hz_X2_companyNamed hT _ _ rfl) rfl rfl ?_
    refine v_getR (c := 43) (r := 39) (hz_X2_companyNamed hT _ _ rfl) rfl rfl rfl ?_
    refine v_load (v := (0, k)) (hz_X2_companyNamed hT _ _ rfl) rfl rfl ?_
    refine v_ald (t := 1) (r := 43) (hz_X2_companyNamed hT _ _ rfl) rfl rfl rfl (fun ha2 hb3 => ?_)
    refine v_load (v := (1, v)) (hz_X2_companyNamed hT _ _ rfl) rfl rfl ?_
    refine v_lif (hz_X2_companyNamed hT _ _ rfl) (hz_X2_companyNamed hT _ _ rfl) (fun hc4 => ?_) (fun hc4 => ?_)
    · have hc4 : (h 43 k.toNat).2 = v := hc4
      refine v_load (v := (0, k)) (hz_X2_companyNamed hT _ _ rfl) rfl rfl ?_
      refine v_ret (hz_X2_companyNamed hT _ _ rfl) (Or.inl rfl) ?_
      exact k0 hc1 ha2 hb3 hc4
    · have hc4 : (h 43 k.toNat).2 ≠ v := hc4
      refine v_iinc (x := k) (u := 1) (w := (k + 1)) [some (2, 39), some (1, v), none, some (0, (k + 1))] (hz_X2_companyNamed hT _ _ rfl) rfl rfl (Nat.le_of_ble_eq_true rfl) (vz_inc (by omega) (by omega)) rfl ?_
      refine v_goto (hz_X2_companyNamed hT _ _ rfl) ?_
      exact k1 hc1 ha2 hb3 hc4
  · have hc1 : (P 0 3) ≤ k := Int.not_lt.mp hc1
    refine v_push (-1) (hz_X2_companyNamed hT _ _ rfl) rfl ?_
    refine v_ret (hz_X2_companyNamed hT _ _ rfl) (Or.inl rfl) ?_
    exact k2 hc1
theorem cx_cell_39 {D : zD} {T : zT} {N : Nat} {h : zH} {Q : zR → Prop} {B : Nat → Int} {n m i : Nat} {τ : PT} (hT : hTab T) (hO : vOK T) (w R : Int) (hX : cX B n m τ i h) (hw : h 39 0 = (0, w)) (hr : h 39 1 = (0, R)) (bw : 0 ≤ w ∧ w ≤ 8) (br : 0 ≤ R ∧ R ≤ 6) (k1 : ∀ g x y, tF h g → pCell τ w R i = .inr (x, y, i + 1 + 1) → 0 ≤ x → x ≤ w - 1 → 0 ≤ y → y ≤ R - 1 → cX B n m τ (i + 1 + 1) g → Q (g, some (0, y * 8 + x))) (k2 : ∀ g e, tF h g → pCell τ w R i = .inl e → cB e g → Q (g, some (0, -1))) : vP D T N 121 0 h [some (2, 10), some (2, 39), none, none] [] Q := by
  refine vP_hv (fun hv => qx_cell_39 hT hO w R hv hX hw hr bw br ?_ ?_ ?_)
  · exact fun g2 x1 f2 q2 b1 b2 _ g6 x5 f6 q6 b3 b4 hX6 => k1 g6 x1 x5 (f2.trans f6) (by simp only [pCell, q2, q6, eb_r]) b1 b2 b3 b4 hX6
  · exact fun g2 x1 f2 q2 _ _ _ g7 e7 f7 q7 c7 => k2 g7 e7 (f2.trans f7) (by simp only [pCell, q2, q7, eb_r, eb_l]) c7
  · exact fun g3 e3 f3 q3 c3 => k2 g3 e3 f3 (by simp only [pCell, q3, eb_l]) c3
theorem cx_named_39 {D : zD} {T : zT} {N : Nat} {h : zH} {Q : zR → Prop} {P : PT} (hT : hTab T) (hO : vOK T) (v : Int) (hP : cP 39 P h) (hb : 0 ≤ P 0 3 ∧ P 0 3 ≤ 6) (k : Q (h, some (0, pIx (P 4) v (P 0 3).toNat 0))) : vP D T N 31 0 h [some (2, 39), some (1, v), none, none] [] Q := by
  refine vP_hv (fun hv => qx_named0_39 (P := P) hT hO v hv ?_)
  refine vP_loop (fun h' l => h' = h ∧ ∃ j : Nat, j ≤ (P 0 3).toNat ∧ l = [some (2, 39), some (1, v), none, some (0, (j : Int))] ∧ pIx (P 4) v (P 0 3).toNat 0 = pIx (P 4) v ((P 0 3).toNat - j) j) ?_ N _ _ ⟨rfl, 0, Nat.zero_le _, rfl, rfl⟩
  rintro N h' l ⟨rfl, j, hj, rfl, he⟩ ih
  rw [he] at k
  have ej : ((j : Int)).toNat = j := Int.toNat_natCast j
  refine vP_hv (fun hv => qx_named2_39 hT hO v j hv hP ⟨by omega, by omega⟩ ?_ ?_ ?_)
  · intro c1 _ _ c2
    rw [ej, (hP.2.2.2.2 j c1).1] at c2
    rw [show (P 0 3).toNat - j = ((P 0 3).toNat - j - 1) + 1 from by omega] at k
    have k : Q (h', some (0, if P 4 j = v then (j : Int) else pIx (P 4) v ((P 0 3).toNat - j - 1) (j + 1))) := k
    rw [if_pos c2] at k
    exact k
  · intro c1 _ _ c2
    rw [ej, (hP.2.2.2.2 j c1).1] at c2
    refine ih _ _ ⟨rfl, j + 1, by omega, rfl, ?_⟩
    rw [he, show (P 0 3).toNat - j = ((P 0 3).toNat - (j + 1)) + 1 from by omega]
    exact if_neg c2
  · intro c1
    rw [show (P 0 3).toNat - j = 0 from by omega] at k
    exact k
theorem cx_wide_39 {D : zD} {T : zT} (hT : hTab T) (hO : vOK T) {N : Nat} {h : zH} {B : Nat → Int} {n m i : Nat} {τ P : PT} (hv0 : zHv h) (hX : cX B n m τ i h) (hK : Tks B n m τ) (hL : cL 39 P h) (hb : (0 ≤ P 0 0 ∧ P 0 0 ≤ 8) ∧ (0 ≤ P 0 1 ∧ P 0 1 ≤ 6) ∧ (0 ≤ P 0 2 ∧ P 0 2 ≤ 3) ∧ (0 ≤ P 0 3 ∧ P 0 3 ≤ 6)) :
    vP D T N 69 0 h [some (2, 16), none] [] (cRd B n m τ 39 (pWide τ P i) h) := by
  refine v_load (v := (2, 16)) (hz_X3_readWide hT _ _ rfl) rfl rfl ?_
  refine v_getR (c := 10) (r := 16) (hz_X3_readWide hT _ _ rfl) rfl rfl rfl ?_
  refine v_push (0) (hz_X3_readWide hT _ _ rfl) rfl ?_
  refine v_call (w := 2) [some (2, 10), some (0, 0)] hO (hz_X3_readWide hT _ _ rfl) rfl rfl (cx_word hT hO 0 hX (fun g1 ft1 q1 hX1 => ?_) (fun g2 e2 ft2 q2 c2 => ?_))
  · show vP D T N 69 8 g1 [some (2, 16), none] [(0, 1)] _
    refine vP_hv (fun hv1 => ?_)
    refine v_if (hi_X3_readWide_8 hT) (fun hc3 => absurd (show (1 : Int) = 0 from hc3) (by decide)) (fun _ => ?_)
    refine v_load (v := (2, 16)) (hz_X3_readWide hT _ _ rfl) rfl rfl ?_
    refine v_getR (c := 10) (r := 16) (hz_X3_readWide hT _ _ rfl) rfl rfl rfl ?_
    refine v_push (2) (hz_X3_readWide hT _ _ rfl) rfl ?_
    refine v_push (8) (hz_X3_readWide hT _ _ rfl) rfl ?_
    refine v_call (w := 4) [some (2, 10), some (0, 2), some (0, 8), none] hO (hz_X3_readWide hT _ _ rfl) rfl rfl (cx_num hT hO 2 8 hX1 (fun g5 x4 ft5 q5 bux4 bvx4 hX5 => ?_) (fun g6 e6 ft6 q6 c6 => ?_))
    · show vP D T N 69 23 g5 [some (2, 16), none] [(0, x4)] _
      refine vP_hv (fun hv5 => ?_)
      refine v_store1 [some (2, 16), some (0, x4)] (hi_X3_readWide_23 hT) ⟨rfl, Nat.ne_of_beq_eq_false rfl⟩ (Nat.le_of_ble_eq_true rfl) rfl ?_
      refine v_load (v := (0, x4)) (hi_X3_readWide_24 hT) rfl rfl ?_
      refine v_push (-1) (hi_X3_readWide_25 hT) rfl ?_
      refine v_ic (hi_X3_readWide_26 hT) (fun hc7 => absurd (show x4 = -1 from hc7) (by omega)) (fun _ => ?_)
      refine v_load (v := (2, 16)) (hz_X3_readWide hT _ _ rfl) rfl rfl ?_
      refine v_getf (v := (2, 39)) (r := 16) (hz_X3_readWide hT _ _ rfl) rfl rfl (fun _ => (Eq.trans (ft5 16 1 (by first | decide | exact fun c => by omega)) (Eq.trans (ft1 16 1 (by first | decide | exact fun c => by omega)) hL.rf))) ?_
      refine v_load (v := (0, x4)) (hz_X3_readWide hT _ _ rfl) rfl rfl ?_
      refine v_putf (r := 39) hO (hz_X3_readWide hT _ _ rfl) rfl (fun hf8 => ?_)
      refine v_load (v := (2, 16)) (hz_X3_readWide hT _ _ rfl) rfl rfl ?_
      refine v_getR (c := 10) (r := 16) (hz_X3_readWide hT _ _ rfl) rfl rfl rfl ?_
      refine v_call (w := 1) [some (2, 10)] hO (hz_X3_readWide hT _ _ rfl) rfl rfl (cx_stop hT hO (cX.z (r := 39) (k := 0) (v := (0, x4)) (by decide) hX5) (fun g9 ft9 q9 hX9 => ?_) (fun g10 e10 ft10 q10 c10 => ?_))
      · show vP D T N 69 46 g9 [some (2, 16), some (0, x4)] [(0, 1)] _
        refine vP_hv (fun hv9 => ?_)
        refine v_ret (hi_X3_readWide_46 hT) (Or.inl rfl) ?_
        exact cRd_y (P := (pset P 0 0 x4)) (j := i + 1 + 1 + 1) (by simp only [pWide, q1, q5, q9, ne_eq, not_true_eq_false, not_false_eq_true, if_true, if_false, eq_self, eb_l, eb_r]) hX9 (cL.tf (cL.f (k := 0) (v := x4) (by decide) (cL.tf (cL.tf hL ft1) ft5)) ft9) (lF.t (lF.z (a := 39) (b := 0) (v := (0, x4)) (by decide) (lF.t (lF.t lF.rfl ft1) ft5)) ft9) (show (0 ≤ x4 ∧ x4 ≤ 8) ∧ (0 ≤ P 0 1 ∧ P 0 1 ≤ 6) ∧ (0 ≤ P 0 2 ∧ P 0 2 ≤ 3) ∧ (0 ≤ P 0 3 ∧ P 0 3 ≤ 6) from by omega)
      · show vP D T N 69 46 g10 [some (2, 16), some (0, x4)] [(0, 0)] _
        refine vP_hv (fun hv10 => ?_)
        refine v_ret (hi_X3_readWide_46 hT) (Or.inl rfl) ?_
        exact cRd_n (by simp only [pWide, q1, q5, q10, ne_eq, not_true_eq_false, not_false_eq_true, if_true, if_false, eq_self, eb_l, eb_r]) c10 (lF.t (lF.z (a := 39) (b := 0) (v := (0, x4)) (by decide) (lF.t (lF.t lF.rfl ft1) ft5)) ft10)
    · show vP D T N 69 23 g6 [some (2, 16), none] [(0, -1)] _
      refine vP_hv (fun hv6 => ?_)
      refine v_store1 [some (2, 16), some (0, -1)] (hi_X3_readWide_23 hT) ⟨rfl, Nat.ne_of_beq_eq_false rfl⟩ (Nat.le_of_ble_eq_true rfl) rfl ?_
      refine v_load (v := (0, -1)) (hi_X3_readWide_24 hT) rfl rfl ?_
      refine v_push (-1) (hi_X3_readWide_25 hT) rfl ?_
      refine v_ic (hi_X3_readWide_26 hT) (fun _ => ?_) (fun hc11 => absurd (show (-1 : Int) = -1 from (by decide)) hc11)
      refine v_push (0) (hz_X3_readWide hT _ _ rfl) rfl ?_
      refine v_ret (hz_X3_readWide hT _ _ rfl) (Or.inl rfl) ?_
      exact cRd_n (by simp only [pWide, q1, q6, ne_eq, not_true_eq_false, not_false_eq_true, if_true, if_false, eq_self, eb_l, eb_r]) c6 (lF.t (lF.t lF.rfl ft1) ft6)
  · show vP D T N 69 8 g2 [some (2, 16), none] [(0, 0)] _
    refine vP_hv (fun hv2 => ?_)
    refine v_if (hi_X3_readWide_8 hT) (fun _ => ?_) (fun hc12 => absurd (show (0 : Int) = 0 from (by decide)) hc12)
    refine v_push (0) (hz_X3_readWide hT _ _ rfl) rfl ?_
    refine v_ret (hz_X3_readWide hT _ _ rfl) (Or.inl rfl) ?_
    exact cRd_n (by simp only [pWide, q2, ne_eq, not_true_eq_false, not_false_eq_true, if_true, if_false, eq_self, eb_l, eb_r]) c2 (lF.t lF.rfl ft2)
theorem cx_rise_39 {D : zD} {T : zT} (hT : hTab T) (hO : vOK T) {N : Nat} {h : zH} {B : Nat → Int} {n m i : Nat} {τ P : PT} (hv0 : zHv h) (hX : cX B n m τ i h) (hK : Tks B n m τ) (hL : cL 39 P h) (hb : (0 ≤ P 0 0 ∧ P 0 0 ≤ 8) ∧ (0 ≤ P 0 1 ∧ P 0 1 ≤ 6) ∧ (0 ≤ P 0 2 ∧ P 0 2 ≤ 3) ∧ (0 ≤ P 0 3 ∧ P 0 3 ≤ 6)) (h1 : bW τ 2 i ≠ 0) :
    vP D T N 66 0 h [some (2, 16), none, none] [] (cRd B n m τ 39 (pS τ (pRise τ P i)) h) := by
  refine v_load (v := (2, 16)) (hz_X3_readRise hT _ _ rfl) rfl rfl ?_
  refine v_getR (c := 10) (r := 16) (hz_X3_readRise hT _ _ rfl) rfl rfl rfl ?_
  refine v_call (w := 1) [some (2, 10)] hO (hz_X3_readRise hT _ _ rfl) rfl rfl (cx_adv hT hO hX (ne_10 (bW_y.mp h1).1) (ne_14 (bW_y.mp h1).1) (fun g1 ft1 hX1 => ?_))
  · show vP D T N 66 7 g1 [some (2, 16), none, none] [] _
    refine vP_hv (fun hv1 => ?_)
    refine v_load (v := (2, 16)) (hz_X3_readRise hT _ _ rfl) rfl rfl ?_
    refine v_getR (c := 10) (r := 16) (hz_X3_readRise hT _ _ rfl) rfl rfl rfl ?_
    refine v_load (v := (2, 16)) (hz_X3_readRise hT _ _ rfl) rfl rfl ?_
    refine v_getf (v := (2, 39)) (r := 16) (hz_X3_readRise hT _ _ rfl) rfl rfl (fun _ => (Eq.trans (ft1 16 1 (by first | decide | exact fun c => by omega)) hL.rf)) ?_
    refine v_call (w := 4) [some (2, 10), some (2, 39), none, none] hO (hz_X3_readRise hT _ _ rfl) rfl rfl (cx_cell_39 hT hO ((P 0 0)) ((P 0 1)) hX1 (Eq.trans (ft1 39 0 (by first | decide | exact fun c => by omega)) hL.w) (Eq.trans (ft1 39 1 (by first | decide | exact fun c => by omega)) hL.ro) (by omega) (by omega) (fun g3 x2 y2 ft3 q3 bax2 bbx2 bcx2 bdx2 hX3 => ?_) (fun g4 e4 ft4 q4 c4 => ?_))
    · show vP D T N 66 18 g3 [some (2, 16), none, none] [(0, (y2 * 8 + x2))] _
      refine vP_hv (fun hv3 => ?_)
      refine v_store1 [some (2, 16), some (0, (y2 * 8 + x2)), none] (hi_X3_readRise_18 hT) ⟨rfl, Nat.ne_of_beq_eq_false rfl⟩ (Nat.le_of_ble_eq_true rfl) rfl ?_
      refine v_load (v := (0, (y2 * 8 + x2))) (hi_X3_readRise_19 hT) rfl rfl ?_
      refine v_push (-1) (hi_X3_readRise_20 hT) rfl ?_
      refine v_ic (hi_X3_readRise_21 hT) (fun hc5 => absurd (show (y2 * 8 + x2) = -1 from hc5) (by omega)) (fun _ => ?_)
      refine v_load (v := (2, 16)) (hz_X3_readRise hT _ _ rfl) rfl rfl ?_
      refine v_getR (c := 10) (r := 16) (hz_X3_readRise hT _ _ rfl) rfl rfl rfl ?_
      refine v_push (3) (hz_X3_readRise hT _ _ rfl) rfl ?_
      refine v_call (w := 2) [some (2, 10), some (0, 3)] hO (hz_X3_readRise hT _ _ rfl) rfl rfl (cx_word hT hO 3 hX3 (fun g6 ft6 q6 hX6 => ?_) (fun g7 e7 ft7 q7 c7 => ?_))
      · show vP D T N 66 32 g6 [some (2, 16), some (0, (y2 * 8 + x2)), none] [(0, 1)] _
        refine vP_hv (fun hv6 => ?_)
        refine v_if (hi_X3_readRise_32 hT) (fun hc8 => absurd (show (1 : Int) = 0 from hc8) (by decide)) (fun _ => ?_)
        refine v_load (v := (2, 16)) (hz_X3_readRise hT _ _ rfl) rfl rfl ?_
        refine v_getR (c := 10) (r := 16) (hz_X3_readRise hT _ _ rfl) rfl rfl rfl ?_
        refine v_push (0) (hz_X3_readRise hT _ _ rfl) rfl ?_
        refine v_push (9) (hz_X3_readRise hT _ _ rfl) rfl ?_
        refine v_call (w := 4) [some (2, 10), some (0, 0), some (0, 9), none] hO (hz_X3_readRise hT _ _ rfl) rfl rfl (cx_num hT hO 0 9 hX6 (fun g10 x9 ft10 q10 bux9 bvx9 hX10 => ?_) (fun g11 e11 ft11 q11 c11 => ?_))
        · show vP D T N 66 47 g10 [some (2, 16), some (0, (y2 * 8 + x2)), none] [(0, x9)] _
          refine vP_hv (fun hv10 => ?_)
          refine v_store1 [some (2, 16), some (0, (y2 * 8 + x2)), some (0, x9)] (hi_X3_readRise_47 hT) ⟨rfl, Nat.ne_of_beq_eq_false rfl⟩ (Nat.le_of_ble_eq_true rfl) rfl ?_
          refine v_load (v := (0, x9)) (hi_X3_readRise_48 hT) rfl rfl ?_
          refine v_push (-1) (hi_X3_readRise_49 hT) rfl ?_
          refine v_ic (hi_X3_readRise_50 hT) (fun hc12 => absurd (show x9 = -1 from hc12) (by omega)) (fun _ => ?_)
          refine v_load (v := (2, 16)) (hz_X3_readRise hT _ _ rfl) rfl rfl ?_
          refine v_getf (v := (2, 39)) (r := 16) (hz_X3_readRise hT _ _ rfl) rfl rfl (fun _ => (Eq.trans (ft10 16 1 (by first | decide | exact fun c => by omega)) (Eq.trans (ft6 16 1 (by first | decide | exact fun c => by omega)) (Eq.trans (ft3 16 1 (by first | decide | exact fun c => by omega)) (Eq.trans (ft1 16 1 (by first | decide | exact fun c => by omega)) hL.rf))))) ?_
          refine v_getR (c := 41) (r := 39) (hz_X3_readRise hT _ _ rfl) rfl rfl rfl ?_
          refine v_load (v := (0, (y2 * 8 + x2))) (hz_X3_readRise hT _ _ rfl) rfl rfl ?_
          refine v_load (v := (0, x9)) (hz_X3_readRise hT _ _ rfl) rfl rfl ?_
          refine v_ast (r := 41) (hz_X3_readRise hT _ _ rfl) rfl rfl (fun ha13 hb14 hf15 => ?_)
          refine v_load (v := (2, 16)) (hz_X3_readRise hT _ _ rfl) rfl rfl ?_
          refine v_getR (c := 10) (r := 16) (hz_X3_readRise hT _ _ rfl) rfl rfl rfl ?_
          refine v_call (w := 1) [some (2, 10)] hO (hz_X3_readRise hT _ _ rfl) rfl rfl (cx_stop hT hO (cX.z (r := 41) (k := (((y2 * 8 + x2)).toNat)) (v := (0, x9)) (by decide) hX10) (fun g16 ft16 q16 hX16 => ?_) (fun g17 e17 ft17 q17 c17 => ?_))
          · show vP D T N 66 72 g16 [some (2, 16), some (0, (y2 * 8 + x2)), some (0, x9)] [(0, 1)] _
            refine vP_hv (fun hv16 => ?_)
            refine v_ret (hi_X3_readRise_72 hT) (Or.inl rfl) ?_
            exact cRd_y (P := (pset P 2 (((y2 * 8 + x2)).toNat) x9)) (j := i + 1 + 1 + 1 + 1 + 1 + 1) (by simp only [pS, pRise, pCl, q3, q6, q10, q16, ne_eq, not_true_eq_false, not_false_eq_true, if_true, if_false, eq_self, eb_l, eb_r]) hX16 (cL.tf (cL.a2 (k := (((y2 * 8 + x2)).toNat)) (v := x9) (cL.tf (cL.tf (cL.tf (cL.tf hL ft1) ft3) ft6) ft10)) ft16) (lF.t (lF.z (a := 41) (b := (((y2 * 8 + x2)).toNat)) (v := (0, x9)) (by decide) (lF.t (lF.t (lF.t (lF.t lF.rfl ft1) ft3) ft6) ft10)) ft16) (show (0 ≤ P 0 0 ∧ P 0 0 ≤ 8) ∧ (0 ≤ P 0 1 ∧ P 0 1 ≤ 6) ∧ (0 ≤ P 0 2 ∧ P 0 2 ≤ 3) ∧ (0 ≤ P 0 3 ∧ P 0 3 ≤ 6) from by omega)
          · show vP D T N 66 72 g17 [some (2, 16), some (0, (y2 * 8 + x2)), some (0, x9)] [(0, 0)] _
            refine vP_hv (fun hv17 => ?_)
            refine v_ret (hi_X3_readRise_72 hT) (Or.inl rfl) ?_
            exact cRd_n (by simp only [pS, pRise, pCl, q3, q6, q10, q17, ne_eq, not_true_eq_false, not_false_eq_true, if_true, if_false, eq_self, eb_l, eb_r]) c17 (lF.t (lF.z (a := 41) (b := (((y2 * 8 + x2)).toNat)) (v := (0, x9)) (by decide) (lF.t (lF.t (lF.t (lF.t lF.rfl ft1) ft3) ft6) ft10)) ft17)
        · show vP D T N 66 47 g11 [some (2, 16), some (0, (y2 * 8 + x2)), none] [(0, -1)] _
          refine vP_hv (fun hv11 => ?_)
          refine v_store1 [some (2, 16), some (0, (y2 * 8 + x2)), some (0, -1)] (hi_X3_readRise_47 hT) ⟨rfl, Nat.ne_of_beq_eq_false rfl⟩ (Nat.le_of_ble_eq_true rfl) rfl ?_
          refine v_load (v := (0, -1)) (hi_X3_readRise_48 hT) rfl rfl ?_
          refine v_push (-1) (hi_X3_readRise_49 hT) rfl ?_
          refine v_ic (hi_X3_readRise_50 hT) (fun _ => ?_) (fun hc18 => absurd (show (-1 : Int) = -1 from (by decide)) hc18)
          refine v_push (0) (hz_X3_readRise hT _ _ rfl) rfl ?_
          refine v_ret (hz_X3_readRise hT _ _ rfl) (Or.inl rfl) ?_
          exact cRd_n (by simp only [pS, pRise, pCl, q3, q6, q11, ne_eq, not_true_eq_false, not_false_eq_true, if_true, if_false, eq_self, eb_l, eb_r]) c11 (lF.t (lF.t (lF.t (lF.t lF.rfl ft1) ft3) ft6) ft11)
      · show vP D T N 66 32 g7 [some (2, 16), some (0, (y2 * 8 + x2)), none] [(0, 0)] _
        refine vP_hv (fun hv7 => ?_)
        refine v_if (hi_X3_readRise_32 hT) (fun _ => ?_) (fun hc19 => absurd (show (0 : Int) = 0 from (by decide)) hc19)
        refine v_push (0) (hi_X3_readRise_35 hT) rfl ?_
        refine v_ret (hi_X3_readRise_36 hT) (Or.inl rfl) ?_
        exact cRd_n (by simp only [pS, pRise, pCl, q3, q7, ne_eq, not_true_eq_false, not_false_eq_true, if_true, if_false, eq_self, eb_l, eb_r]) c7 (lF.t (lF.t (lF.t lF.rfl ft1) ft3) ft7)
    · show vP D T N 66 18 g4 [some (2, 16), none, none] [(0, -1)] _
      refine vP_hv (fun hv4 => ?_)
      refine v_store1 [some (2, 16), some (0, -1), none] (hi_X3_readRise_18 hT) ⟨rfl, Nat.ne_of_beq_eq_false rfl⟩ (Nat.le_of_ble_eq_true rfl) rfl ?_
      refine v_load (v := (0, -1)) (hi_X3_readRise_19 hT) rfl rfl ?_
      refine v_push (-1) (hi_X3_readRise_20 hT) rfl ?_
      refine v_ic (hi_X3_readRise_21 hT) (fun _ => ?_) (fun hc20 => absurd (show (-1 : Int) = -1 from (by decide)) hc20)
      refine v_push (0) (hi_X3_readRise_35 hT) rfl ?_
      refine v_ret (hi_X3_readRise_36 hT) (Or.inl rfl) ?_
      exact cRd_n (by simp only [pS, pRise, pCl, q4, ne_eq, not_true_eq_false, not_false_eq_true, if_true, if_false, eq_self, eb_l, eb_r]) c4 (lF.t (lF.t lF.rfl ft1) ft4)
theorem cx_cops_39 {D : zD} {T : zT} (hT : hTab T) (hO : vOK T) {N : Nat} {h : zH} {B : Nat → Int} {n m i : Nat} {τ P : PT} (hv0 : zHv h) (hX : cX B n m τ i h) (hK : Tks B n m τ) (hL : cL 39 P h) (hb : (0 ≤ P 0 0 ∧ P 0 0 ≤ 8) ∧ (0 ≤ P 0 1 ∧ P 0 1 ≤ 6) ∧ (0 ≤ P 0 2 ∧ P 0 2 ≤ 3) ∧ (0 ≤ P 0 3 ∧ P 0 3 ≤ 6)) (h1 : bW τ 4 i ≠ 0) :
    vP D T N 63 0 h [some (2, 16), none] [] (cRd B n m τ 39 (pS τ (pCopies τ P i)) h) := by
  refine v_load (v := (2, 16)) (hz_X3_readCopies hT _ _ rfl) rfl rfl ?_
  refine v_getf (v := (0, (P 0 9))) (r := 16) (hz_X3_readCopies hT _ _ rfl) rfl rfl (fun _ => hL.td) ?_
  refine v_if (hz_X3_readCopies hT _ _ rfl) (fun hc1 => ?_) (fun hc1 => ?_)
  · have hc1 : (P 0 9) = 0 := hc1
    refine v_load (v := (2, 16)) (hz_X3_readCopies hT _ _ rfl) rfl rfl ?_
    refine v_getR (c := 10) (r := 16) (hz_X3_readCopies hT _ _ rfl) rfl rfl rfl ?_
    refine v_call (w := 1) [some (2, 10)] hO (hz_X3_readCopies hT _ _ rfl) rfl rfl (cx_adv hT hO hX (ne_10 (bW_y.mp h1).1) (ne_14 (bW_y.mp h1).1) (fun g2 ft2 hX2 => ?_))
    · show vP D T N 63 23 g2 [some (2, 16), none] [] _
      refine vP_hv (fun hv2 => ?_)
      refine v_load (v := (2, 16)) (hz_X3_readCopies hT _ _ rfl) rfl rfl ?_
      refine v_getR (c := 10) (r := 16) (hz_X3_readCopies hT _ _ rfl) rfl rfl rfl ?_
      refine v_push (1) (hz_X3_readCopies hT _ _ rfl) rfl ?_
      refine v_push (3) (hz_X3_readCopies hT _ _ rfl) rfl ?_
      refine v_call (w := 4) [some (2, 10), some (0, 1), some (0, 3), none] hO (hz_X3_readCopies hT _ _ rfl) rfl rfl (cx_num hT hO 1 3 hX2 (fun g4 x3 ft4 q4 bux3 bvx3 hX4 => ?_) (fun g5 e5 ft5 q5 c5 => ?_))
      · show vP D T N 63 32 g4 [some (2, 16), none] [(0, x3)] _
        refine vP_hv (fun hv4 => ?_)
        refine v_store1 [some (2, 16), some (0, x3)] (hi_X3_readCopies_32 hT) ⟨rfl, Nat.ne_of_beq_eq_false rfl⟩ (Nat.le_of_ble_eq_true rfl) rfl ?_
        refine v_load (v := (0, x3)) (hi_X3_readCopies_33 hT) rfl rfl ?_
        refine v_push (-1) (hi_X3_readCopies_34 hT) rfl ?_
        refine v_ic (hi_X3_readCopies_35 hT) (fun hc6 => absurd (show x3 = -1 from hc6) (by omega)) (fun _ => ?_)
        refine v_load (v := (2, 16)) (hz_X3_readCopies hT _ _ rfl) rfl rfl ?_
        refine v_getf (v := (2, 39)) (r := 16) (hz_X3_readCopies hT _ _ rfl) rfl rfl (fun _ => (Eq.trans (ft4 16 1 (by first | decide | exact fun c => by omega)) (Eq.trans (ft2 16 1 (by first | decide | exact fun c => by omega)) hL.rf))) ?_
        refine v_load (v := (0, x3)) (hz_X3_readCopies hT _ _ rfl) rfl rfl ?_
        refine v_putf (r := 39) hO (hz_X3_readCopies hT _ _ rfl) rfl (fun hf7 => ?_)
        refine v_load (v := (2, 16)) (hz_X3_readCopies hT _ _ rfl) rfl rfl ?_
        refine v_push (1) (hz_X3_readCopies hT _ _ rfl) rfl ?_
        refine v_putf (r := 16) hO (hz_X3_readCopies hT _ _ rfl) rfl (fun hf8 => ?_)
        refine v_load (v := (2, 16)) (hz_X3_readCopies hT _ _ rfl) rfl rfl ?_
        refine v_getR (c := 10) (r := 16) (hz_X3_readCopies hT _ _ rfl) rfl rfl rfl ?_
        refine v_call (w := 1) [some (2, 10)] hO (hz_X3_readCopies hT _ _ rfl) rfl rfl (cx_stop hT hO (cX.z (r := 16) (k := 2) (v := (0, 1)) (by decide) (cX.z (r := 39) (k := 2) (v := (0, x3)) (by decide) hX4)) (fun g9 ft9 q9 hX9 => ?_) (fun g10 e10 ft10 q10 c10 => ?_))
        · show vP D T N 63 60 g9 [some (2, 16), some (0, x3)] [(0, 1)] _
          refine vP_hv (fun hv9 => ?_)
          refine v_ret (hi_X3_readCopies_60 hT) (Or.inl rfl) ?_
          exact cRd_y (P := (pset (pset P 0 2 x3) 0 9 1)) (j := i + 1 + 1 + 1) (by simp only [pS, pCopies, hc1, q4, q9, ne_eq, not_true_eq_false, not_false_eq_true, if_true, if_false, eq_self, eb_l, eb_r]) hX9 (cL.tf (cL.d (v := 1) (cL.f (k := 2) (v := x3) (by decide) (cL.tf (cL.tf hL ft2) ft4))) ft9) (lF.t (lF.z (a := 16) (b := 2) (v := (0, 1)) (by decide) (lF.z (a := 39) (b := 2) (v := (0, x3)) (by decide) (lF.t (lF.t lF.rfl ft2) ft4))) ft9) (show (0 ≤ P 0 0 ∧ P 0 0 ≤ 8) ∧ (0 ≤ P 0 1 ∧ P 0 1 ≤ 6) ∧ (0 ≤ x3 ∧ x3 ≤ 3) ∧ (0 ≤ P 0 3 ∧ P 0 3 ≤ 6) from by omega)
        · show vP D T N 63 60 g10 [some (2, 16), some (0, x3)] [(0, 0)] _
          refine vP_hv (fun hv10 => ?_)
          refine v_ret (hi_X3_readCopies_60 hT) (Or.inl rfl) ?_
          exact cRd_n (by simp only [pS, pCopies, hc1, q4, q10, ne_eq, not_true_eq_false, not_false_eq_true, if_true, if_false, eq_self, eb_l, eb_r]) c10 (lF.t (lF.z (a := 16) (b := 2) (v := (0, 1)) (by decide) (lF.z (a := 39) (b := 2) (v := (0, x3)) (by decide) (lF.t (lF.t lF.rfl ft2) ft4))) ft10)
      · show vP D T N 63 32 g5 [some (2, 16), none] [(0, -1)] _
        refine vP_hv (fun hv5 => ?_)
        refine v_store1 [some (2, 16), some (0, -1)] (hi_X3_readCopies_32 hT) ⟨rfl, Nat.ne_of_beq_eq_false rfl⟩ (Nat.le_of_ble_eq_true rfl) rfl ?_
        refine v_load (v := (0, -1)) (hi_X3_readCopies_33 hT) rfl rfl ?_
        refine v_push (-1) (hi_X3_readCopies_34 hT) rfl ?_
        refine v_ic (hi_X3_readCopies_35 hT) (fun _ => ?_) (fun hc11 => absurd (show (-1 : Int) = -1 from (by decide)) hc11)
        refine v_push (0) (hz_X3_readCopies hT _ _ rfl) rfl ?_
        refine v_ret (hz_X3_readCopies hT _ _ rfl) (Or.inl rfl) ?_
        exact cRd_n (by simp only [pS, pCopies, hc1, q5, ne_eq, not_true_eq_false, not_false_eq_true, if_true, if_false, eq_self, eb_l, eb_r]) c5 (lF.t (lF.t lF.rfl ft2) ft5)
  · have hc1 : (P 0 9) ≠ 0 := hc1
    refine v_load (v := (2, 16)) (hz_X3_readCopies hT _ _ rfl) rfl rfl ?_
    refine v_getR (c := 10) (r := 16) (hz_X3_readCopies hT _ _ rfl) rfl rfl rfl ?_
    refine v_push (5) (hz_X3_readCopies hT _ _ rfl) rfl ?_
    refine v_call (w := 2) [some (2, 10), some (0, 5)] hO (hz_X3_readCopies hT _ _ rfl) rfl rfl (cx_blame hT hO 5 hX (fun g12 ft12 c12 => ?_))
    · show vP D T N 63 15 g12 [some (2, 16), none] [(0, 0)] _
      refine vP_hv (fun hv12 => ?_)
      refine v_ret (hz_X3_readCopies hT _ _ rfl) (Or.inl rfl) ?_
      exact cRd_n (by simp only [pS, pCopies, hc1, ne_eq, not_true_eq_false, not_false_eq_true, if_true, if_false, eq_self, eb_l, eb_r]) c12 (lF.t lF.rfl ft12)
theorem cx_comp_39 {D : zD} {T : zT} (hT : hTab T) (hO : vOK T) {N : Nat} {h : zH} {B : Nat → Int} {n m i : Nat} {τ P : PT} (hv0 : zHv h) (hX : cX B n m τ i h) (hK : Tks B n m τ) (hL : cL 39 P h) (hb : (0 ≤ P 0 0 ∧ P 0 0 ≤ 8) ∧ (0 ≤ P 0 1 ∧ P 0 1 ≤ 6) ∧ (0 ≤ P 0 2 ∧ P 0 2 ≤ 3) ∧ (0 ≤ P 0 3 ∧ P 0 3 ≤ 6)) (h1 : bW τ 5 i ≠ 0) :
    vP D T N 62 0 h [some (2, 16), none, none, none, none, none] [] (cRd B n m τ 39 (pS τ (pCompany τ P i)) h) := by
  refine v_load (v := (2, 16)) (hz_X3_readCompany hT _ _ rfl) rfl rfl ?_
  refine v_getf (v := (2, 39)) (r := 16) (hz_X3_readCompany hT _ _ rfl) rfl rfl (fun _ => hL.rf) ?_
  refine v_getf (v := (0, (P 0 3))) (r := 39) (hz_X3_readCompany hT _ _ rfl) rfl rfl (fun _ => hL.m) ?_
  refine v_push (6) (hz_X3_readCompany hT _ _ rfl) rfl ?_
  refine v_ic (hz_X3_readCompany hT _ _ rfl) (fun hc1 => ?_) (fun hc1 => ?_)
  · have hc1 : (P 0 3) < 6 := hc1
    refine v_load (v := (2, 16)) (hz_X3_readCompany hT _ _ rfl) rfl rfl ?_
    refine v_getR (c := 10) (r := 16) (hz_X3_readCompany hT _ _ rfl) rfl rfl rfl ?_
    refine v_call (w := 1) [some (2, 10)] hO (hz_X3_readCompany hT _ _ rfl) rfl rfl (cx_adv hT hO hX (ne_10 (bW_y.mp h1).1) (ne_14 (bW_y.mp h1).1) (fun g2 ft2 hX2 => ?_))
    · show vP D T N 62 29 g2 [some (2, 16), none, none, none, none, none] [] _
      refine vP_hv (fun hv2 => ?_)
      refine v_load (v := (2, 16)) (hz_X3_readCompany hT _ _ rfl) rfl rfl ?_
      refine v_getR (c := 10) (r := 16) (hz_X3_readCompany hT _ _ rfl) rfl rfl rfl ?_
      refine v_call (w := 1) [some (2, 10)] hO (hz_X3_readCompany hT _ _ rfl) rfl rfl (cx_isName hT hO hX2 hK ?_)
      show vP D T N 62 36 g2 [some (2, 16), none, none, none, none, none] [(0, (bN τ (i + 1)))] _
      refine v_if (hz_X3_readCompany hT _ _ rfl) (fun hc3 => ?_) (fun hc3 => ?_)
      · have hc3 : (bN τ (i + 1)) = 0 := hc3
        refine v_load (v := (2, 16)) (hz_X3_readCompany hT _ _ rfl) rfl rfl ?_
        refine v_getR (c := 10) (r := 16) (hz_X3_readCompany hT _ _ rfl) rfl rfl rfl ?_
        refine v_push (2) (hz_X3_readCompany hT _ _ rfl) rfl ?_
        refine v_call (w := 2) [some (2, 10), some (0, 2)] hO (hz_X3_readCompany hT _ _ rfl) rfl rfl (cx_blame hT hO 2 hX2 (fun g4 ft4 c4 => ?_))
        · show vP D T N 62 47 g4 [some (2, 16), none, none, none, none, none] [(0, 0)] _
          refine vP_hv (fun hv4 => ?_)
          refine v_ret (hz_X3_readCompany hT _ _ rfl) (Or.inl rfl) ?_
          exact cRd_n (by simp only [pS, pCompany, pBy, pCi, Int.not_le.mpr hc1, hc3, ne_eq, not_true_eq_false, not_false_eq_true, if_true, if_false, eq_self, eb_l, eb_r]) c4 (lF.t (lF.t lF.rfl ft2) ft4)
      · have hc3 : (bN τ (i + 1)) ≠ 0 := hc3
        refine v_load (v := (2, 16)) (hz_X3_readCompany hT _ _ rfl) rfl rfl ?_
        refine v_getR (c := 10) (r := 16) (hz_X3_readCompany hT _ _ rfl) rfl rfl rfl ?_
        refine v_call (w := 4) [some (2, 10), none, none, none] hO (hz_X3_readCompany hT _ _ rfl) rfl rfl (cx_name hT hO hX2 hK hc3 ?_)
        show vP D T N 62 55 g2 [some (2, 16), none, none, none, none, none] [(1, (τ 4 (i + 1)))] _
        refine v_store2 [some (2, 16), some (1, (τ 4 (i + 1))), none, none, none, none] (hz_X3_readCompany hT _ _ rfl) (Nat.le_of_ble_eq_true rfl) rfl ?_
        refine v_load (v := (2, 16)) (hz_X3_readCompany hT _ _ rfl) rfl rfl ?_
        refine v_getf (v := (2, 39)) (r := 16) (hz_X3_readCompany hT _ _ rfl) rfl rfl (fun _ => (Eq.trans (ft2 16 1 (by first | decide | exact fun c => by omega)) hL.rf)) ?_
        refine v_load (v := (1, (τ 4 (i + 1)))) (hz_X3_readCompany hT _ _ rfl) rfl rfl ?_
        refine v_call (w := 4) [some (2, 39), some (1, (τ 4 (i + 1))), none, none] hO (hz_X3_readCompany hT _ _ rfl) rfl rfl (cx_named_39 hT hO ((τ 4 (i + 1))) (cL.tf hL ft2).p (by omega) ?_)
        show vP D T N 62 64 g2 [some (2, 16), some (1, (τ 4 (i + 1))), none, none, none, none] [(0, (pIx (P 4) ((τ 4 (i + 1))) (P 0 3).toNat 0))] _
        refine v_push (-1) (hz_X3_readCompany hT _ _ rfl) rfl ?_
        refine v_ic (hz_X3_readCompany hT _ _ rfl) (fun hc5 => ?_) (fun hc5 => ?_)
        · have hc5 : (pIx (P 4) ((τ 4 (i + 1))) (P 0 3).toNat 0) = -1 := hc5
          refine v_load (v := (2, 16)) (hz_X3_readCompany hT _ _ rfl) rfl rfl ?_
          refine v_getR (c := 10) (r := 16) (hz_X3_readCompany hT _ _ rfl) rfl rfl rfl ?_
          refine v_call (w := 1) [some (2, 10)] hO (hz_X3_readCompany hT _ _ rfl) rfl rfl (cx_adv hT hO hX2 (ne_10 (bN_y.mp hc3).1) (ne_14 (bN_y.mp hc3).1) (fun g6 ft6 hX6 => ?_))
          · show vP D T N 62 84 g6 [some (2, 16), some (1, (τ 4 (i + 1))), none, none, none, none] [] _
            refine vP_hv (fun hv6 => ?_)
            refine v_load (v := (2, 16)) (hz_X3_readCompany hT _ _ rfl) rfl rfl ?_
            refine v_getR (c := 10) (r := 16) (hz_X3_readCompany hT _ _ rfl) rfl rfl rfl ?_
            refine v_push (6) (hz_X3_readCompany hT _ _ rfl) rfl ?_
            refine v_call (w := 2) [some (2, 10), some (0, 6)] hO (hz_X3_readCompany hT _ _ rfl) rfl rfl (cx_word hT hO 6 hX6 (fun g7 ft7 q7 hX7 => ?_) (fun g8 e8 ft8 q8 c8 => ?_))
            · show vP D T N 62 93 g7 [some (2, 16), some (1, (τ 4 (i + 1))), none, none, none, none] [(0, 1)] _
              refine vP_hv (fun hv7 => ?_)
              refine v_if (hi_X3_readCompany_93 hT) (fun hc9 => absurd (show (1 : Int) = 0 from hc9) (by decide)) (fun _ => ?_)
              refine v_load (v := (2, 16)) (hz_X3_readCompany hT _ _ rfl) rfl rfl ?_
              refine v_getR (c := 10) (r := 16) (hz_X3_readCompany hT _ _ rfl) rfl rfl rfl ?_
              refine v_load (v := (2, 16)) (hz_X3_readCompany hT _ _ rfl) rfl rfl ?_
              refine v_getf (v := (2, 39)) (r := 16) (hz_X3_readCompany hT _ _ rfl) rfl rfl (fun _ => (Eq.trans (ft7 16 1 (by first | decide | exact fun c => by omega)) (Eq.trans (ft6 16 1 (by first | decide | exact fun c => by omega)) (Eq.trans (ft2 16 1 (by first | decide | exact fun c => by omega)) hL.rf)))) ?_
              refine v_call (w := 4) [some (2, 10), some (2, 39), none, none] hO (hz_X3_readCompany hT _ _ rfl) rfl rfl (cx_cell_39 hT hO ((P 0 0)) ((P 0 1)) hX7 (Eq.trans (ft7 39 0 (by first | decide | exact fun c => by omega)) (Eq.trans (ft6 39 0 (by first | decide | exact fun c => by omega)) (Eq.trans (ft2 39 0 (by first | decide | exact fun c => by omega)) hL.w))) (Eq.trans (ft7 39 1 (by first | decide | exact fun c => by omega)) (Eq.trans (ft6 39 1 (by first | decide | exact fun c => by omega)) (Eq.trans (ft2 39 1 (by first | decide | exact fun c => by omega)) hL.ro))) (by omega) (by omega) (fun g11 x10 y10 ft11 q11 bax10 bbx10 bcx10 bdx10 hX11 => ?_) (fun g12 e12 ft12 q12 c12 => ?_))
              · show vP D T N 62 109 g11 [some (2, 16), some (1, (τ 4 (i + 1))), none, none, none, none] [(0, (y10 * 8 + x10))] _
                refine vP_hv (fun hv11 => ?_)
                refine v_store1 [some (2, 16), some (1, (τ 4 (i + 1))), none, some (0, (y10 * 8 + x10)), none, none] (hi_X3_readCompany_109 hT) ⟨rfl, Nat.ne_of_beq_eq_false rfl⟩ (Nat.le_of_ble_eq_true rfl) rfl ?_
                refine v_load (v := (0, (y10 * 8 + x10))) (hi_X3_readCompany_110 hT) rfl rfl ?_
                refine v_push (-1) (hi_X3_readCompany_111 hT) rfl ?_
                refine v_ic (hi_X3_readCompany_112 hT) (fun hc13 => absurd (show (y10 * 8 + x10) = -1 from hc13) (by omega)) (fun _ => ?_)
                refine v_load (v := (2, 16)) (hz_X3_readCompany hT _ _ rfl) rfl rfl ?_
                refine v_getR (c := 10) (r := 16) (hz_X3_readCompany hT _ _ rfl) rfl rfl rfl ?_
                refine v_push (7) (hz_X3_readCompany hT _ _ rfl) rfl ?_
                refine v_call (w := 2) [some (2, 10), some (0, 7)] hO (hz_X3_readCompany hT _ _ rfl) rfl rfl (cx_word hT hO 7 hX11 (fun g14 ft14 q14 hX14 => ?_) (fun g15 e15 ft15 q15 c15 => ?_))
                · show vP D T N 62 124 g14 [some (2, 16), some (1, (τ 4 (i + 1))), none, some (0, (y10 * 8 + x10)), none, none] [(0, 1)] _
                  refine vP_hv (fun hv14 => ?_)
                  refine v_if (hi_X3_readCompany_124 hT) (fun hc16 => absurd (show (1 : Int) = 0 from hc16) (by decide)) (fun _ => ?_)
                  refine v_load (v := (2, 16)) (hz_X3_readCompany hT _ _ rfl) rfl rfl ?_
                  refine v_getR (c := 10) (r := 16) (hz_X3_readCompany hT _ _ rfl) rfl rfl rfl ?_
                  refine v_load (v := (2, 16)) (hz_X3_readCompany hT _ _ rfl) rfl rfl ?_
                  refine v_getf (v := (2, 39)) (r := 16) (hz_X3_readCompany hT _ _ rfl) rfl rfl (fun _ => (Eq.trans (ft14 16 1 (by first | decide | exact fun c => by omega)) (Eq.trans (ft11 16 1 (by first | decide | exact fun c => by omega)) (Eq.trans (ft7 16 1 (by first | decide | exact fun c => by omega)) (Eq.trans (ft6 16 1 (by first | decide | exact fun c => by omega)) (Eq.trans (ft2 16 1 (by first | decide | exact fun c => by omega)) hL.rf)))))) ?_
                  refine v_call (w := 4) [some (2, 10), some (2, 39), none, none] hO (hz_X3_readCompany hT _ _ rfl) rfl rfl (cx_cell_39 hT hO ((P 0 0)) ((P 0 1)) hX14 (Eq.trans (ft14 39 0 (by first | decide | exact fun c => by omega)) (Eq.trans (ft11 39 0 (by first | decide | exact fun c => by omega)) (Eq.trans (ft7 39 0 (by first | decide | exact fun c => by omega)) (Eq.trans (ft6 39 0 (by first | decide | exact fun c => by omega)) (Eq.trans (ft2 39 0 (by first | decide | exact fun c => by omega)) hL.w))))) (Eq.trans (ft14 39 1 (by first | decide | exact fun c => by omega)) (Eq.trans (ft11 39 1 (by first | decide | exact fun c => by omega)) (Eq.trans (ft7 39 1 (by first | decide | exact fun c => by omega)) (Eq.trans (ft6 39 1 (by first | decide | exact fun c => by omega)) (Eq.trans (ft2 39 1 (by first | decide | exact fun c => by omega)) hL.ro))))) (by omega) (by omega) (fun g18 x17 y17 ft18 q18 bax17 bbx17 bcx17 bdx17 hX18 => ?_) (fun g19 e19 ft19 q19 c19 => ?_))
                  · show vP D T N 62 140 g18 [some (2, 16), some (1, (τ 4 (i + 1))), none, some (0, (y10 * 8 + x10)), none, none] [(0, (y17 * 8 + x17))] _
                    refine vP_hv (fun hv18 => ?_)
                    refine v_store1 [some (2, 16), some (1, (τ 4 (i + 1))), none, some (0, (y10 * 8 + x10)), some (0, (y17 * 8 + x17)), none] (hi_X3_readCompany_140 hT) ⟨rfl, Nat.ne_of_beq_eq_false rfl⟩ (Nat.le_of_ble_eq_true rfl) rfl ?_
                    refine v_load (v := (0, (y17 * 8 + x17))) (hi_X3_readCompany_142 hT) rfl rfl ?_
                    refine v_push (-1) (hi_X3_readCompany_144 hT) rfl ?_
                    refine v_ic (hi_X3_readCompany_145 hT) (fun hc20 => absurd (show (y17 * 8 + x17) = -1 from hc20) (by omega)) (fun _ => ?_)
                    refine v_load (v := (2, 16)) (hz_X3_readCompany hT _ _ rfl) rfl rfl ?_
                    refine v_call (w := 1) [some (2, 16)] hO (hz_X3_readCompany hT _ _ rfl) rfl rfl ?_
                    refine v_load (v := (2, 16)) (hz_X3_readBy hT _ _ rfl) rfl rfl ?_
                    refine v_getR (c := 10) (r := 16) (hz_X3_readBy hT _ _ rfl) rfl rfl rfl ?_
                    refine v_push (3) (hz_X3_readBy hT _ _ rfl) rfl ?_
                    refine v_call (w := 2) [some (2, 10), some (0, 3)] hO (hz_X3_readBy hT _ _ rfl) rfl rfl (cx_isWord hT hO 3 hX18 ?_)
                    show vP D T N 61 8 g18 [some (2, 16)] [(0, (bW τ 3 (i + 1 + 1 + 1 + 1 + 1 + 1 + 1 + 1)))] _
                    refine v_if (hz_X3_readBy hT _ _ rfl) (fun hc21 => ?_) (fun hc21 => ?_)
                    · have hc21 : (bW τ 3 (i + 1 + 1 + 1 + 1 + 1 + 1 + 1 + 1)) = 0 := hc21
                      refine v_push (0) (hz_X3_readBy hT _ _ rfl) rfl ?_
                      refine v_ret (hz_X3_readBy hT _ _ rfl) (Or.inl rfl) ?_
                      show vP D T N 62 154 g18 [some (2, 16), some (1, (τ 4 (i + 1))), none, some (0, (y10 * 8 + x10)), some (0, (y17 * 8 + x17)), none] [(0, 0)] _
                      refine v_store1 [some (2, 16), some (1, (τ 4 (i + 1))), none, some (0, (y10 * 8 + x10)), some (0, (y17 * 8 + x17)), some (0, 0)] (hi_X3_readCompany_154 hT) ⟨rfl, Nat.ne_of_beq_eq_false rfl⟩ (Nat.le_of_ble_eq_true rfl) rfl ?_
                      refine v_load (v := (0, 0)) (hi_X3_readCompany_156 hT) rfl rfl ?_
                      refine v_push (-1) (hi_X3_readCompany_158 hT) rfl ?_
                      refine v_ic (hi_X3_readCompany_159 hT) (fun hc22 => absurd (show (0 : Int) = -1 from hc22) (by decide)) (fun _ => ?_)
                      refine v_load (v := (2, 16)) (hi_X3_readCompany_164 hT) rfl rfl ?_
                      refine v_getf (v := (2, 39)) (r := 16) (hi_X3_readCompany_165 hT) rfl rfl (fun _ => (Eq.trans (ft18 16 1 (by first | decide | exact fun c => by omega)) (Eq.trans (ft14 16 1 (by first | decide | exact fun c => by omega)) (Eq.trans (ft11 16 1 (by first | decide | exact fun c => by omega)) (Eq.trans (ft7 16 1 (by first | decide | exact fun c => by omega)) (Eq.trans (ft6 16 1 (by first | decide | exact fun c => by omega)) (Eq.trans (ft2 16 1 (by first | decide | exact fun c => by omega)) hL.rf))))))) ?_
                      refine v_load (v := (1, (τ 4 (i + 1)))) (hi_X3_readCompany_168 hT) rfl rfl ?_
                      refine v_load (v := (0, (y10 * 8 + x10))) (hi_X3_readCompany_169 hT) rfl rfl ?_
                      refine v_load (v := (0, (y17 * 8 + x17))) (hi_X3_readCompany_170 hT) rfl rfl ?_
                      refine v_load (v := (0, 0)) (hi_X3_readCompany_172 hT) rfl rfl ?_
                      refine v_call (w := 6) [some (2, 39), some (1, (τ 4 (i + 1))), none, some (0, (y10 * 8 + x10)), some (0, (y17 * 8 + x17)), some (0, 0)] hO (hi_X3_readCompany_174 hT) rfl rfl ?_
                      refine v_load (v := (2, 39)) (hi_X2_addCompany_0 hT) rfl rfl ?_
                      refine v_getf (v := (0, (P 0 3))) (r := 39) (hi_X2_addCompany_1 hT) rfl rfl (fun _ => (Eq.trans (ft18 39 3 (by first | decide | exact fun c => by omega)) (Eq.trans (ft14 39 3 (by first | decide | exact fun c => by omega)) (Eq.trans (ft11 39 3 (by first | decide | exact fun c => by omega)) (Eq.trans (ft7 39 3 (by first | decide | exact fun c => by omega)) (Eq.trans (ft6 39 3 (by first | decide | exact fun c => by omega)) (Eq.trans (ft2 39 3 (by first | decide | exact fun c => by omega)) hL.m))))))) ?_
                      refine v_push (6) (hi_X2_addCompany_4 hT) rfl ?_
                      refine v_ic (hi_X2_addCompany_6 hT) (fun _ => ?_) (fun hc23 => absurd (show (P 0 3) < 6 from hc1) hc23)
                      refine v_load (v := (2, 39)) (hi_X2_addCompany_9 hT) rfl rfl ?_
                      refine v_getR (c := 43) (r := 39) (hi_X2_addCompany_10 hT) rfl rfl rfl ?_
                      refine v_load (v := (2, 39)) (hi_X2_addCompany_13 hT) rfl rfl ?_
                      refine v_getf (v := (0, (P 0 3))) (r := 39) (hi_X2_addCompany_14 hT) rfl rfl (fun _ => (Eq.trans (ft18 39 3 (by first | decide | exact fun c => by omega)) (Eq.trans (ft14 39 3 (by first | decide | exact fun c => by omega)) (Eq.trans (ft11 39 3 (by first | decide | exact fun c => by omega)) (Eq.trans (ft7 39 3 (by first | decide | exact fun c => by omega)) (Eq.trans (ft6 39 3 (by first | decide | exact fun c => by omega)) (Eq.trans (ft2 39 3 (by first | decide | exact fun c => by omega)) hL.m))))))) ?_
                      refine v_load (v := (1, (τ 4 (i + 1)))) (hi_X2_addCompany_17 hT) rfl rfl ?_
                      refine v_ast (r := 43) (hi_X2_addCompany_18 hT) rfl rfl (fun ha24 hb25 hf26 => ?_)
                      refine v_load (v := (2, 39)) (hi_X2_addCompany_19 hT) rfl rfl ?_
                      refine v_getR (c := 44) (r := 39) (hi_X2_addCompany_20 hT) rfl rfl rfl ?_
                      refine v_load (v := (2, 39)) (hi_X2_addCompany_23 hT) rfl rfl ?_
                      refine v_getf (v := (0, (P 0 3))) (r := 39) (hi_X2_addCompany_24 hT) rfl rfl (fun _ => Eq.trans (zset_ne (fun c => absurd c.1 (by decide))) ((Eq.trans (ft18 39 3 (by first | decide | exact fun c => by omega)) (Eq.trans (ft14 39 3 (by first | decide | exact fun c => by omega)) (Eq.trans (ft11 39 3 (by first | decide | exact fun c => by omega)) (Eq.trans (ft7 39 3 (by first | decide | exact fun c => by omega)) (Eq.trans (ft6 39 3 (by first | decide | exact fun c => by omega)) (Eq.trans (ft2 39 3 (by first | decide | exact fun c => by omega)) hL.m)))))))) ?_
                      refine v_load (v := (0, (y10 * 8 + x10))) (hi_X2_addCompany_27 hT) rfl rfl ?_
                      refine v_ast (r := 44) (hi_X2_addCompany_28 hT) rfl rfl (fun ha27 hb28 hf29 => ?_)
                      refine v_load (v := (2, 39)) (hi_X2_addCompany_29 hT) rfl rfl ?_
                      refine v_getR (c := 45) (r := 39) (hi_X2_addCompany_30 hT) rfl rfl rfl ?_
                      refine v_load (v := (2, 39)) (hi_X2_addCompany_33 hT) rfl rfl ?_
                      refine v_getf (v := (0, (P 0 3))) (r := 39) (hi_X2_addCompany_34 hT) rfl rfl (fun _ => Eq.trans (Eq.trans (zset_ne (fun c => absurd c.1 (by decide))) (zset_ne (fun c => absurd c.1 (by decide)))) ((Eq.trans (ft18 39 3 (by first | decide | exact fun c => by omega)) (Eq.trans (ft14 39 3 (by first | decide | exact fun c => by omega)) (Eq.trans (ft11 39 3 (by first | decide | exact fun c => by omega)) (Eq.trans (ft7 39 3 (by first | decide | exact fun c => by omega)) (Eq.trans (ft6 39 3 (by first | decide | exact fun c => by omega)) (Eq.trans (ft2 39 3 (by first | decide | exact fun c => by omega)) hL.m)))))))) ?_
                      refine v_load (v := (0, (y10 * 8 + x10))) (hi_X2_addCompany_37 hT) rfl rfl ?_
                      refine v_ast (r := 45) (hi_X2_addCompany_38 hT) rfl rfl (fun ha30 hb31 hf32 => ?_)
                      refine v_load (v := (2, 39)) (hi_X2_addCompany_39 hT) rfl rfl ?_
                      refine v_getR (c := 46) (r := 39) (hi_X2_addCompany_40 hT) rfl rfl rfl ?_
                      refine v_load (v := (2, 39)) (hi_X2_addCompany_43 hT) rfl rfl ?_
                      refine v_getf (v := (0, (P 0 3))) (r := 39) (hi_X2_addCompany_44 hT) rfl rfl (fun _ => Eq.trans (Eq.trans (zset_ne (fun c => absurd c.1 (by decide))) (Eq.trans (zset_ne (fun c => absurd c.1 (by decide))) (zset_ne (fun c => absurd c.1 (by decide))))) ((Eq.trans (ft18 39 3 (by first | decide | exact fun c => by omega)) (Eq.trans (ft14 39 3 (by first | decide | exact fun c => by omega)) (Eq.trans (ft11 39 3 (by first | decide | exact fun c => by omega)) (Eq.trans (ft7 39 3 (by first | decide | exact fun c => by omega)) (Eq.trans (ft6 39 3 (by first | decide | exact fun c => by omega)) (Eq.trans (ft2 39 3 (by first | decide | exact fun c => by omega)) hL.m)))))))) ?_
                      refine v_load (v := (0, (y17 * 8 + x17))) (hi_X2_addCompany_47 hT) rfl rfl ?_
                      refine v_ast (r := 46) (hi_X2_addCompany_49 hT) rfl rfl (fun ha33 hb34 hf35 => ?_)
                      refine v_load (v := (2, 39)) (hi_X2_addCompany_50 hT) rfl rfl ?_
                      refine v_getR (c := 47) (r := 39) (hi_X2_addCompany_51 hT) rfl rfl rfl ?_
                      refine v_load (v := (2, 39)) (hi_X2_addCompany_54 hT) rfl rfl ?_
                      refine v_getf (v := (0, (P 0 3))) (r := 39) (hi_X2_addCompany_55 hT) rfl rfl (fun _ => Eq.trans (Eq.trans (zset_ne (fun c => absurd c.1 (by decide))) (Eq.trans (zset_ne (fun c => absurd c.1 (by decide))) (Eq.trans (zset_ne (fun c => absurd c.1 (by decide))) (zset_ne (fun c => absurd c.1 (by decide)))))) ((Eq.trans (ft18 39 3 (by first | decide | exact fun c => by omega)) (Eq.trans (ft14 39 3 (by first | decide | exact fun c => by omega)) (Eq.trans (ft11 39 3 (by first | decide | exact fun c => by omega)) (Eq.trans (ft7 39 3 (by first | decide | exact fun c => by omega)) (Eq.trans (ft6 39 3 (by first | decide | exact fun c => by omega)) (Eq.trans (ft2 39 3 (by first | decide | exact fun c => by omega)) hL.m)))))))) ?_
                      refine v_load (v := (0, 0)) (hi_X2_addCompany_58 hT) rfl rfl ?_
                      refine v_ast (r := 47) (hi_X2_addCompany_60 hT) rfl rfl (fun ha36 hb37 hf38 => ?_)
                      refine v_load (v := (2, 39)) (hi_X2_addCompany_61 hT) rfl rfl ?_
                      refine v_getR (c := 48) (r := 39) (hi_X2_addCompany_62 hT) rfl rfl rfl ?_
                      refine v_load (v := (2, 39)) (hi_X2_addCompany_65 hT) rfl rfl ?_
                      refine v_getf (v := (0, (P 0 3))) (r := 39) (hi_X2_addCompany_66 hT) rfl rfl (fun _ => Eq.trans (Eq.trans (zset_ne (fun c => absurd c.1 (by decide))) (Eq.trans (zset_ne (fun c => absurd c.1 (by decide))) (Eq.trans (zset_ne (fun c => absurd c.1 (by decide))) (Eq.trans (zset_ne (fun c => absurd c.1 (by decide))) (zset_ne (fun c => absurd c.1 (by decide))))))) ((Eq.trans (ft18 39 3 (by first | decide | exact fun c => by omega)) (Eq.trans (ft14 39 3 (by first | decide | exact fun c => by omega)) (Eq.trans (ft11 39 3 (by first | decide | exact fun c => by omega)) (Eq.trans (ft7 39 3 (by first | decide | exact fun c => by omega)) (Eq.trans (ft6 39 3 (by first | decide | exact fun c => by omega)) (Eq.trans (ft2 39 3 (by first | decide | exact fun c => by omega)) hL.m)))))))) ?_
                      refine v_push (0) (hi_X2_addCompany_69 hT) rfl ?_
                      refine v_ast (r := 48) (hi_X2_addCompany_70 hT) rfl rfl (fun ha39 hb40 hf41 => ?_)
                      refine v_load (v := (2, 39)) (hi_X2_addCompany_71 hT) rfl rfl ?_
                      refine v_dup (hi_X2_addCompany_72 hT) (Nat.ne_of_beq_eq_false rfl) ?_
                      refine v_getf (v := (0, (P 0 3))) (r := 39) (hi_X2_addCompany_73 hT) rfl rfl (fun _ => Eq.trans (Eq.trans (zset_ne (fun c => absurd c.1 (by decide))) (Eq.trans (zset_ne (fun c => absurd c.1 (by decide))) (Eq.trans (zset_ne (fun c => absurd c.1 (by decide))) (Eq.trans (zset_ne (fun c => absurd c.1 (by decide))) (Eq.trans (zset_ne (fun c => absurd c.1 (by decide))) (zset_ne (fun c => absurd c.1 (by decide)))))))) ((Eq.trans (ft18 39 3 (by first | decide | exact fun c => by omega)) (Eq.trans (ft14 39 3 (by first | decide | exact fun c => by omega)) (Eq.trans (ft11 39 3 (by first | decide | exact fun c => by omega)) (Eq.trans (ft7 39 3 (by first | decide | exact fun c => by omega)) (Eq.trans (ft6 39 3 (by first | decide | exact fun c => by omega)) (Eq.trans (ft2 39 3 (by first | decide | exact fun c => by omega)) hL.m)))))))) ?_
                      refine v_push (1) (hi_X2_addCompany_76 hT) rfl ?_
                      refine v_bin (w := ((P 0 3) + 1)) (hi_X2_addCompany_77 hT) (hq_add (by omega) (by omega)) ?_
                      refine v_putf (r := 39) hO (hi_X2_addCompany_78 hT) rfl (fun hf42 => ?_)
                      refine v_ret0 (hi_X2_addCompany_81 hT) ?_
                      show vP D T N 62 177 (zset (zset (zset (zset (zset (zset (zset g18 43 (((P 0 3)).toNat) (1, (τ 4 (i + 1)))) 44 (((P 0 3)).toNat) (0, (y10 * 8 + x10))) 45 (((P 0 3)).toNat) (0, (y10 * 8 + x10))) 46 (((P 0 3)).toNat) (0, (y17 * 8 + x17))) 47 (((P 0 3)).toNat) (0, 0)) 48 (((P 0 3)).toNat) (0, 0)) 39 3 (0, ((P 0 3) + 1))) [some (2, 16), some (1, (τ 4 (i + 1))), none, some (0, (y10 * 8 + x10)), some (0, (y17 * 8 + x17)), some (0, 0)] [] _
                      refine v_load (v := (2, 16)) (hi_X3_readCompany_177 hT) rfl rfl ?_
                      refine v_getR (c := 10) (r := 16) (hi_X3_readCompany_178 hT) rfl rfl rfl ?_
                      refine v_call (w := 1) [some (2, 10)] hO (hi_X3_readCompany_181 hT) rfl rfl (cx_stop hT hO (cX.z (r := 39) (k := 3) (v := (0, ((P 0 3) + 1))) (by decide) (cX.z (r := 48) (k := (((P 0 3)).toNat)) (v := (0, 0)) (by decide) (cX.z (r := 47) (k := (((P 0 3)).toNat)) (v := (0, 0)) (by decide) (cX.z (r := 46) (k := (((P 0 3)).toNat)) (v := (0, (y17 * 8 + x17))) (by decide) (cX.z (r := 45) (k := (((P 0 3)).toNat)) (v := (0, (y10 * 8 + x10))) (by decide) (cX.z (r := 44) (k := (((P 0 3)).toNat)) (v := (0, (y10 * 8 + x10))) (by decide) (cX.z (r := 43) (k := (((P 0 3)).toNat)) (v := (1, (τ 4 (i + 1)))) (by decide) hX18))))))) (fun g43 ft43 q43 hX43 => ?_) (fun g44 e44 ft44 q44 c44 => ?_))
                      · show vP D T N 62 184 g43 [some (2, 16), some (1, (τ 4 (i + 1))), none, some (0, (y10 * 8 + x10)), some (0, (y17 * 8 + x17)), some (0, 0)] [(0, 1)] _
                        refine vP_hv (fun hv43 => ?_)
                        refine v_ret (hi_X3_readCompany_184 hT) (Or.inl rfl) ?_
                        exact cRd_y (P := (pAdd P ((τ 4 (i + 1))) ((y10 * 8 + x10)) ((y17 * 8 + x17)) 0)) (j := i + 1 + 1 + 1 + 1 + 1 + 1 + 1 + 1 + 1) (by simp only [pS, pCompany, pBy, pCi, Int.not_le.mpr hc1, hc3, hc5, q7, q11, q14, q18, hc21, q43, ne_eq, not_true_eq_false, not_false_eq_true, if_true, if_false, eq_self, eb_l, eb_r]) hX43 (cL.tf (cL.add (cL.tf (cL.tf (cL.tf (cL.tf (cL.tf (cL.tf hL ft2) ft6) ft7) ft11) ft14) ft18)) ft43) (lF.t (lF.z (a := 39) (b := 3) (v := (0, ((P 0 3) + 1))) (by decide) (lF.z (a := 48) (b := (((P 0 3)).toNat)) (v := (0, 0)) (by decide) (lF.z (a := 47) (b := (((P 0 3)).toNat)) (v := (0, 0)) (by decide) (lF.z (a := 46) (b := (((P 0 3)).toNat)) (v := (0, (y17 * 8 + x17))) (by decide) (lF.z (a := 45) (b := (((P 0 3)).toNat)) (v := (0, (y10 * 8 + x10))) (by decide) (lF.z (a := 44) (b := (((P 0 3)).toNat)) (v := (0, (y10 * 8 + x10))) (by decide) (lF.z (a := 43) (b := (((P 0 3)).toNat)) (v := (1, (τ 4 (i + 1)))) (by decide) (lF.t (lF.t (lF.t (lF.t (lF.t (lF.t lF.rfl ft2) ft6) ft7) ft11) ft14) ft18)))))))) ft43) (show (0 ≤ P 0 0 ∧ P 0 0 ≤ 8) ∧ (0 ≤ P 0 1 ∧ P 0 1 ≤ 6) ∧ (0 ≤ P 0 2 ∧ P 0 2 ≤ 3) ∧ (0 ≤ P 0 3 + 1 ∧ P 0 3 + 1 ≤ 6) from by omega)
                      · show vP D T N 62 184 g44 [some (2, 16), some (1, (τ 4 (i + 1))), none, some (0, (y10 * 8 + x10)), some (0, (y17 * 8 + x17)), some (0, 0)] [(0, 0)] _
                        refine vP_hv (fun hv44 => ?_)
                        refine v_ret (hi_X3_readCompany_184 hT) (Or.inl rfl) ?_
                        exact cRd_n (by simp only [pS, pCompany, pBy, pCi, Int.not_le.mpr hc1, hc3, hc5, q7, q11, q14, q18, hc21, q44, ne_eq, not_true_eq_false, not_false_eq_true, if_true, if_false, eq_self, eb_l, eb_r]) c44 (lF.t (lF.z (a := 39) (b := 3) (v := (0, ((P 0 3) + 1))) (by decide) (lF.z (a := 48) (b := (((P 0 3)).toNat)) (v := (0, 0)) (by decide) (lF.z (a := 47) (b := (((P 0 3)).toNat)) (v := (0, 0)) (by decide) (lF.z (a := 46) (b := (((P 0 3)).toNat)) (v := (0, (y17 * 8 + x17))) (by decide) (lF.z (a := 45) (b := (((P 0 3)).toNat)) (v := (0, (y10 * 8 + x10))) (by decide) (lF.z (a := 44) (b := (((P 0 3)).toNat)) (v := (0, (y10 * 8 + x10))) (by decide) (lF.z (a := 43) (b := (((P 0 3)).toNat)) (v := (1, (τ 4 (i + 1)))) (by decide) (lF.t (lF.t (lF.t (lF.t (lF.t (lF.t lF.rfl ft2) ft6) ft7) ft11) ft14) ft18)))))))) ft44)
                    · have hc21 : (bW τ 3 (i + 1 + 1 + 1 + 1 + 1 + 1 + 1 + 1)) ≠ 0 := hc21
                      refine v_load (v := (2, 16)) (hz_X3_readBy hT _ _ rfl) rfl rfl ?_
                      refine v_getR (c := 10) (r := 16) (hz_X3_readBy hT _ _ rfl) rfl rfl rfl ?_
                      refine v_call (w := 1) [some (2, 10)] hO (hz_X3_readBy hT _ _ rfl) rfl rfl (cx_adv hT hO hX18 (ne_10 (bW_y.mp hc21).1) (ne_14 (bW_y.mp hc21).1) (fun g45 ft45 hX45 => ?_))
                      · show vP D T N 61 20 g45 [some (2, 16)] [] _
                        refine vP_hv (fun hv45 => ?_)
                        refine v_load (v := (2, 16)) (hz_X3_readBy hT _ _ rfl) rfl rfl ?_
                        refine v_getR (c := 10) (r := 16) (hz_X3_readBy hT _ _ rfl) rfl rfl rfl ?_
                        refine v_push (0) (hz_X3_readBy hT _ _ rfl) rfl ?_
                        refine v_load (v := (2, 16)) (hz_X3_readBy hT _ _ rfl) rfl rfl ?_
                        refine v_getf (v := (2, 39)) (r := 16) (hz_X3_readBy hT _ _ rfl) rfl rfl (fun _ => (Eq.trans (ft45 16 1 (by first | decide | exact fun c => by omega)) (Eq.trans (ft18 16 1 (by first | decide | exact fun c => by omega)) (Eq.trans (ft14 16 1 (by first | decide | exact fun c => by omega)) (Eq.trans (ft11 16 1 (by first | decide | exact fun c => by omega)) (Eq.trans (ft7 16 1 (by first | decide | exact fun c => by omega)) (Eq.trans (ft6 16 1 (by first | decide | exact fun c => by omega)) (Eq.trans (ft2 16 1 (by first | decide | exact fun c => by omega)) hL.rf)))))))) ?_
                        refine v_getf (v := (0, (P 0 2))) (r := 39) (hz_X3_readBy hT _ _ rfl) rfl rfl (fun _ => (Eq.trans (ft45 39 2 (by first | decide | exact fun c => by omega)) (Eq.trans (ft18 39 2 (by first | decide | exact fun c => by omega)) (Eq.trans (ft14 39 2 (by first | decide | exact fun c => by omega)) (Eq.trans (ft11 39 2 (by first | decide | exact fun c => by omega)) (Eq.trans (ft7 39 2 (by first | decide | exact fun c => by omega)) (Eq.trans (ft6 39 2 (by first | decide | exact fun c => by omega)) (Eq.trans (ft2 39 2 (by first | decide | exact fun c => by omega)) hL.c)))))))) ?_
                        refine v_push (1) (hz_X3_readBy hT _ _ rfl) rfl ?_
                        refine v_bin (w := ((P 0 2) - 1)) (hz_X3_readBy hT _ _ rfl) (hq_sub (by omega) (by omega)) ?_
                        refine v_call (w := 4) [some (2, 10), some (0, 0), some (0, ((P 0 2) - 1)), none] hO (hz_X3_readBy hT _ _ rfl) rfl rfl (cx_num hT hO 0 (((P 0 2) - 1)) hX45 (fun g47 x46 ft47 q47 bux46 bvx46 hX47 => ?_) (fun g48 e48 ft48 q48 c48 => ?_))
                        · show vP D T N 61 37 g47 [some (2, 16)] [(0, x46)] _
                          refine vP_hv (fun hv47 => ?_)
                          refine v_ret (hi_X3_readBy_37 hT) (Or.inl rfl) ?_
                          show vP D T N 62 154 g47 [some (2, 16), some (1, (τ 4 (i + 1))), none, some (0, (y10 * 8 + x10)), some (0, (y17 * 8 + x17)), none] [(0, x46)] _
                          refine v_store1 [some (2, 16), some (1, (τ 4 (i + 1))), none, some (0, (y10 * 8 + x10)), some (0, (y17 * 8 + x17)), some (0, x46)] (hi_X3_readCompany_154 hT) ⟨rfl, Nat.ne_of_beq_eq_false rfl⟩ (Nat.le_of_ble_eq_true rfl) rfl ?_
                          refine v_load (v := (0, x46)) (hi_X3_readCompany_156 hT) rfl rfl ?_
                          refine v_push (-1) (hi_X3_readCompany_158 hT) rfl ?_
                          refine v_ic (hi_X3_readCompany_159 hT) (fun hc49 => absurd (show x46 = -1 from hc49) (by omega)) (fun _ => ?_)
                          refine v_load (v := (2, 16)) (hi_X3_readCompany_164 hT) rfl rfl ?_
                          refine v_getf (v := (2, 39)) (r := 16) (hi_X3_readCompany_165 hT) rfl rfl (fun _ => (Eq.trans (ft47 16 1 (by first | decide | exact fun c => by omega)) (Eq.trans (ft45 16 1 (by first | decide | exact fun c => by omega)) (Eq.trans (ft18 16 1 (by first | decide | exact fun c => by omega)) (Eq.trans (ft14 16 1 (by first | decide | exact fun c => by omega)) (Eq.trans (ft11 16 1 (by first | decide | exact fun c => by omega)) (Eq.trans (ft7 16 1 (by first | decide | exact fun c => by omega)) (Eq.trans (ft6 16 1 (by first | decide | exact fun c => by omega)) (Eq.trans (ft2 16 1 (by first | decide | exact fun c => by omega)) hL.rf))))))))) ?_
                          refine v_load (v := (1, (τ 4 (i + 1)))) (hi_X3_readCompany_168 hT) rfl rfl ?_
                          refine v_load (v := (0, (y10 * 8 + x10))) (hi_X3_readCompany_169 hT) rfl rfl ?_
                          refine v_load (v := (0, (y17 * 8 + x17))) (hi_X3_readCompany_170 hT) rfl rfl ?_
                          refine v_load (v := (0, x46)) (hi_X3_readCompany_172 hT) rfl rfl ?_
                          refine v_call (w := 6) [some (2, 39), some (1, (τ 4 (i + 1))), none, some (0, (y10 * 8 + x10)), some (0, (y17 * 8 + x17)), some (0, x46)] hO (hi_X3_readCompany_174 hT) rfl rfl ?_
                          refine v_load (v := (2, 39)) (hi_X2_addCompany_0 hT) rfl rfl ?_
                          refine v_getf (v := (0, (P 0 3))) (r := 39) (hi_X2_addCompany_1 hT) rfl rfl (fun _ => (Eq.trans (ft47 39 3 (by first | decide | exact fun c => by omega)) (Eq.trans (ft45 39 3 (by first | decide | exact fun c => by omega)) (Eq.trans (ft18 39 3 (by first | decide | exact fun c => by omega)) (Eq.trans (ft14 39 3 (by first | decide | exact fun c => by omega)) (Eq.trans (ft11 39 3 (by first | decide | exact fun c => by omega)) (Eq.trans (ft7 39 3 (by first | decide | exact fun c => by omega)) (Eq.trans (ft6 39 3 (by first | decide | exact fun c => by omega)) (Eq.trans (ft2 39 3 (by first | decide | exact fun c => by omega)) hL.m))))))))) ?_
                          refine v_push (6) (hi_X2_addCompany_4 hT) rfl ?_
                          refine v_ic (hi_X2_addCompany_6 hT) (fun _ => ?_) (fun hc50 => absurd (show (P 0 3) < 6 from hc1) hc50)
                          refine v_load (v := (2, 39)) (hi_X2_addCompany_9 hT) rfl rfl ?_
                          refine v_getR (c := 43) (r := 39) (hi_X2_addCompany_10 hT) rfl rfl rfl ?_
                          refine v_load (v := (2, 39)) (hi_X2_addCompany_13 hT) rfl rfl ?_
                          refine v_getf (v := (0, (P 0 3))) (r := 39) (hi_X2_addCompany_14 hT) rfl rfl (fun _ => (Eq.trans (ft47 39 3 (by first | decide | exact fun c => by omega)) (Eq.trans (ft45 39 3 (by first | decide | exact fun c => by omega)) (Eq.trans (ft18 39 3 (by first | decide | exact fun c => by omega)) (Eq.trans (ft14 39 3 (by first | decide | exact fun c => by omega)) (Eq.trans (ft11 39 3 (by first | decide | exact fun c => by omega)) (Eq.trans (ft7 39 3 (by first | decide | exact fun c => by omega)) (Eq.trans (ft6 39 3 (by first | decide | exact fun c => by omega)) (Eq.trans (ft2 39 3 (by first | decide | exact fun c => by omega)) hL.m))))))))) ?_
                          refine v_load (v := (1, (τ 4 (i + 1)))) (hi_X2_addCompany_17 hT) rfl rfl ?_
                          refine v_ast (r := 43) (hi_X2_addCompany_18 hT) rfl rfl (fun ha51 hb52 hf53 => ?_)
                          refine v_load (v := (2, 39)) (hi_X2_addCompany_19 hT) rfl rfl ?_
                          refine v_getR (c := 44) (r := 39) (hi_X2_addCompany_20 hT) rfl rfl rfl ?_
                          refine v_load (v := (2, 39)) (hi_X2_addCompany_23 hT) rfl rfl ?_
                          refine v_getf (v := (0, (P 0 3))) (r := 39) (hi_X2_addCompany_24 hT) rfl rfl (fun _ => Eq.trans (zset_ne (fun c => absurd c.1 (by decide))) ((Eq.trans (ft47 39 3 (by first | decide | exact fun c => by omega)) (Eq.trans (ft45 39 3 (by first | decide | exact fun c => by omega)) (Eq.trans (ft18 39 3 (by first | decide | exact fun c => by omega)) (Eq.trans (ft14 39 3 (by first | decide | exact fun c => by omega)) (Eq.trans (ft11 39 3 (by first | decide | exact fun c => by omega)) (Eq.trans (ft7 39 3 (by first | decide | exact fun c => by omega)) (Eq.trans (ft6 39 3 (by first | decide | exact fun c => by omega)) (Eq.trans (ft2 39 3 (by first | decide | exact fun c => by omega)) hL.m)))))))))) ?_
                          refine v_load (v := (0, (y10 * 8 + x10))) (hi_X2_addCompany_27 hT) rfl rfl ?_
                          refine v_ast (r := 44) (hi_X2_addCompany_28 hT) rfl rfl (fun ha54 hb55 hf56 => ?_)
                          refine v_load (v := (2, 39)) (hi_X2_addCompany_29 hT) rfl rfl ?_
                          refine v_getR (c := 45) (r := 39) (hi_X2_addCompany_30 hT) rfl rfl rfl ?_
                          refine v_load (v := (2, 39)) (hi_X2_addCompany_33 hT) rfl rfl ?_
                          refine v_getf (v := (0, (P 0 3))) (r := 39) (hi_X2_addCompany_34 hT) rfl rfl (fun _ => Eq.trans (Eq.trans (zset_ne (fun c => absurd c.1 (by decide))) (zset_ne (fun c => absurd c.1 (by decide)))) ((Eq.trans (ft47 39 3 (by first | decide | exact fun c => by omega)) (Eq.trans (ft45 39 3 (by first | decide | exact fun c => by omega)) (Eq.trans (ft18 39 3 (by first | decide | exact fun c => by omega)) (Eq.trans (ft14 39 3 (by first | decide | exact fun c => by omega)) (Eq.trans (ft11 39 3 (by first | decide | exact fun c => by omega)) (Eq.trans (ft7 39 3 (by first | decide | exact fun c => by omega)) (Eq.trans (ft6 39 3 (by first | decide | exact fun c => by omega)) (Eq.trans (ft2 39 3 (by first | decide | exact fun c => by omega)) hL.m)))))))))) ?_
                          refine v_load (v := (0, (y10 * 8 + x10))) (hi_X2_addCompany_37 hT) rfl rfl ?_
                          refine v_ast (r := 45) (hi_X2_addCompany_38 hT) rfl rfl (fun ha57 hb58 hf59 => ?_)
                          refine v_load (v := (2, 39)) (hi_X2_addCompany_39 hT) rfl rfl ?_
                          refine v_getR (c := 46) (r := 39) (hi_X2_addCompany_40 hT) rfl rfl rfl ?_
                          refine v_load (v := (2, 39)) (hi_X2_addCompany_43 hT) rfl rfl ?_
                          refine v_getf (v := (0, (P 0 3))) (r := 39) (hi_X2_addCompany_44 hT) rfl rfl (fun _ => Eq.trans (Eq.trans (zset_ne (fun c => absurd c.1 (by decide))) (Eq.trans (zset_ne (fun c => absurd c.1 (by decide))) (zset_ne (fun c => absurd c.1 (by decide))))) ((Eq.trans (ft47 39 3 (by first | decide | exact fun c => by omega)) (Eq.trans (ft45 39 3 (by first | decide | exact fun c => by omega)) (Eq.trans (ft18 39 3 (by first | decide | exact fun c => by omega)) (Eq.trans (ft14 39 3 (by first | decide | exact fun c => by omega)) (Eq.trans (ft11 39 3 (by first | decide | exact fun c => by omega)) (Eq.trans (ft7 39 3 (by first | decide | exact fun c => by omega)) (Eq.trans (ft6 39 3 (by first | decide | exact fun c => by omega)) (Eq.trans (ft2 39 3 (by first | decide | exact fun c => by omega)) hL.m)))))))))) ?_
                          refine v_load (v := (0, (y17 * 8 + x17))) (hi_X2_addCompany_47 hT) rfl rfl ?_
                          refine v_ast (r := 46) (hi_X2_addCompany_49 hT) rfl rfl (fun ha60 hb61 hf62 => ?_)
                          refine v_load (v := (2, 39)) (hi_X2_addCompany_50 hT) rfl rfl ?_
                          refine v_getR (c := 47) (r := 39) (hi_X2_addCompany_51 hT) rfl rfl rfl ?_
                          refine v_load (v := (2, 39)) (hi_X2_addCompany_54 hT) rfl rfl ?_
                          refine v_getf (v := (0, (P 0 3))) (r := 39) (hi_X2_addCompany_55 hT) rfl rfl (fun _ => Eq.trans (Eq.trans (zset_ne (fun c => absurd c.1 (by decide))) (Eq.trans (zset_ne (fun c => absurd c.1 (by decide))) (Eq.trans (zset_ne (fun c => absurd c.1 (by decide))) (zset_ne (fun c => absurd c.1 (by decide)))))) ((Eq.trans (ft47 39 3 (by first | decide | exact fun c => by omega)) (Eq.trans (ft45 39 3 (by first | decide | exact fun c => by omega)) (Eq.trans (ft18 39 3 (by first | decide | exact fun c => by omega)) (Eq.trans (ft14 39 3 (by first | decide | exact fun c => by omega)) (Eq.trans (ft11 39 3 (by first | decide | exact fun c => by omega)) (Eq.trans (ft7 39 3 (by first | decide | exact fun c => by omega)) (Eq.trans (ft6 39 3 (by first | decide | exact fun c => by omega)) (Eq.trans (ft2 39 3 (by first | decide | exact fun c => by omega)) hL.m)))))))))) ?_
                          refine v_load (v := (0, x46)) (hi_X2_addCompany_58 hT) rfl rfl ?_
                          refine v_ast (r := 47) (hi_X2_addCompany_60 hT) rfl rfl (fun ha63 hb64 hf65 => ?_)
                          refine v_load (v := (2, 39)) (hi_X2_addCompany_61 hT) rfl rfl ?_
                          refine v_getR (c := 48) (r := 39) (hi_X2_addCompany_62 hT) rfl rfl rfl ?_
                          refine v_load (v := (2, 39)) (hi_X2_addCompany_65 hT) rfl rfl ?_
                          refine v_getf (v := (0, (P 0 3))) (r := 39) (hi_X2_addCompany_66 hT) rfl rfl (fun _ => Eq.trans (Eq.trans (zset_ne (fun c => absurd c.1 (by decide))) (Eq.trans (zset_ne (fun c => absurd c.1 (by decide))) (Eq.trans (zset_ne (fun c => absurd c.1 (by decide))) (Eq.trans (zset_ne (fun c => absurd c.1 (by decide))) (zset_ne (fun c => absurd c.1 (by decide))))))) ((Eq.trans (ft47 39 3 (by first | decide | exact fun c => by omega)) (Eq.trans (ft45 39 3 (by first | decide | exact fun c => by omega)) (Eq.trans (ft18 39 3 (by first | decide | exact fun c => by omega)) (Eq.trans (ft14 39 3 (by first | decide | exact fun c => by omega)) (Eq.trans (ft11 39 3 (by first | decide | exact fun c => by omega)) (Eq.trans (ft7 39 3 (by first | decide | exact fun c => by omega)) (Eq.trans (ft6 39 3 (by first | decide | exact fun c => by omega)) (Eq.trans (ft2 39 3 (by first | decide | exact fun c => by omega)) hL.m)))))))))) ?_
                          refine v_push (0) (hi_X2_addCompany_69 hT) rfl ?_
                          refine v_ast (r := 48) (hi_X2_addCompany_70 hT) rfl rfl (fun ha66 hb67 hf68 => ?_)
                          refine v_load (v := (2, 39)) (hi_X2_addCompany_71 hT) rfl rfl ?_
                          refine v_dup (hi_X2_addCompany_72 hT) (Nat.ne_of_beq_eq_false rfl) ?_
                          refine v_getf (v := (0, (P 0 3))) (r := 39) (hi_X2_addCompany_73 hT) rfl rfl (fun _ => Eq.trans (Eq.trans (zset_ne (fun c => absurd c.1 (by decide))) (Eq.trans (zset_ne (fun c => absurd c.1 (by decide))) (Eq.trans (zset_ne (fun c => absurd c.1 (by decide))) (Eq.trans (zset_ne (fun c => absurd c.1 (by decide))) (Eq.trans (zset_ne (fun c => absurd c.1 (by decide))) (zset_ne (fun c => absurd c.1 (by decide)))))))) ((Eq.trans (ft47 39 3 (by first | decide | exact fun c => by omega)) (Eq.trans (ft45 39 3 (by first | decide | exact fun c => by omega)) (Eq.trans (ft18 39 3 (by first | decide | exact fun c => by omega)) (Eq.trans (ft14 39 3 (by first | decide | exact fun c => by omega)) (Eq.trans (ft11 39 3 (by first | decide | exact fun c => by omega)) (Eq.trans (ft7 39 3 (by first | decide | exact fun c => by omega)) (Eq.trans (ft6 39 3 (by first | decide | exact fun c => by omega)) (Eq.trans (ft2 39 3 (by first | decide | exact fun c => by omega)) hL.m)))))))))) ?_
                          refine v_push (1) (hi_X2_addCompany_76 hT) rfl ?_
                          refine v_bin (w := ((P 0 3) + 1)) (hi_X2_addCompany_77 hT) (hq_add (by omega) (by omega)) ?_
                          refine v_putf (r := 39) hO (hi_X2_addCompany_78 hT) rfl (fun hf69 => ?_)
                          refine v_ret0 (hi_X2_addCompany_81 hT) ?_
                          show vP D T N 62 177 (zset (zset (zset (zset (zset (zset (zset g47 43 (((P 0 3)).toNat) (1, (τ 4 (i + 1)))) 44 (((P 0 3)).toNat) (0, (y10 * 8 + x10))) 45 (((P 0 3)).toNat) (0, (y10 * 8 + x10))) 46 (((P 0 3)).toNat) (0, (y17 * 8 + x17))) 47 (((P 0 3)).toNat) (0, x46)) 48 (((P 0 3)).toNat) (0, 0)) 39 3 (0, ((P 0 3) + 1))) [some (2, 16), some (1, (τ 4 (i + 1))), none, some (0, (y10 * 8 + x10)), some (0, (y17 * 8 + x17)), some (0, x46)] [] _
                          refine v_load (v := (2, 16)) (hi_X3_readCompany_177 hT) rfl rfl ?_
                          refine v_getR (c := 10) (r := 16) (hi_X3_readCompany_178 hT) rfl rfl rfl ?_
                          refine v_call (w := 1) [some (2, 10)] hO (hi_X3_readCompany_181 hT) rfl rfl (cx_stop hT hO (cX.z (r := 39) (k := 3) (v := (0, ((P 0 3) + 1))) (by decide) (cX.z (r := 48) (k := (((P 0 3)).toNat)) (v := (0, 0)) (by decide) (cX.z (r := 47) (k := (((P 0 3)).toNat)) (v := (0, x46)) (by decide) (cX.z (r := 46) (k := (((P 0 3)).toNat)) (v := (0, (y17 * 8 + x17))) (by decide) (cX.z (r := 45) (k := (((P 0 3)).toNat)) (v := (0, (y10 * 8 + x10))) (by decide) (cX.z (r := 44) (k := (((P 0 3)).toNat)) (v := (0, (y10 * 8 + x10))) (by decide) (cX.z (r := 43) (k := (((P 0 3)).toNat)) (v := (1, (τ 4 (i + 1)))) (by decide) hX47))))))) (fun g70 ft70 q70 hX70 => ?_) (fun g71 e71 ft71 q71 c71 => ?_))
                          · show vP D T N 62 184 g70 [some (2, 16), some (1, (τ 4 (i + 1))), none, some (0, (y10 * 8 + x10)), some (0, (y17 * 8 + x17)), some (0, x46)] [(0, 1)] _
                            refine vP_hv (fun hv70 => ?_)
                            refine v_ret (hi_X3_readCompany_184 hT) (Or.inl rfl) ?_
                            exact cRd_y (P := (pAdd P ((τ 4 (i + 1))) ((y10 * 8 + x10)) ((y17 * 8 + x17)) x46)) (j := i + 1 + 1 + 1 + 1 + 1 + 1 + 1 + 1 + 1 + 1 + 1) (by simp only [pS, pCompany, pBy, pCi, Int.not_le.mpr hc1, hc3, hc5, q7, q11, q14, q18, hc21, q47, q70, ne_eq, not_true_eq_false, not_false_eq_true, if_true, if_false, eq_self, eb_l, eb_r]) hX70 (cL.tf (cL.add (cL.tf (cL.tf (cL.tf (cL.tf (cL.tf (cL.tf (cL.tf (cL.tf hL ft2) ft6) ft7) ft11) ft14) ft18) ft45) ft47)) ft70) (lF.t (lF.z (a := 39) (b := 3) (v := (0, ((P 0 3) + 1))) (by decide) (lF.z (a := 48) (b := (((P 0 3)).toNat)) (v := (0, 0)) (by decide) (lF.z (a := 47) (b := (((P 0 3)).toNat)) (v := (0, x46)) (by decide) (lF.z (a := 46) (b := (((P 0 3)).toNat)) (v := (0, (y17 * 8 + x17))) (by decide) (lF.z (a := 45) (b := (((P 0 3)).toNat)) (v := (0, (y10 * 8 + x10))) (by decide) (lF.z (a := 44) (b := (((P 0 3)).toNat)) (v := (0, (y10 * 8 + x10))) (by decide) (lF.z (a := 43) (b := (((P 0 3)).toNat)) (v := (1, (τ 4 (i + 1)))) (by decide) (lF.t (lF.t (lF.t (lF.t (lF.t (lF.t (lF.t (lF.t lF.rfl ft2) ft6) ft7) ft11) ft14) ft18) ft45) ft47)))))))) ft70) (show (0 ≤ P 0 0 ∧ P 0 0 ≤ 8) ∧ (0 ≤ P 0 1 ∧ P 0 1 ≤ 6) ∧ (0 ≤ P 0 2 ∧ P 0 2 ≤ 3) ∧ (0 ≤ P 0 3 + 1 ∧ P 0 3 + 1 ≤ 6) from by omega)
                          · show vP D T N 62 184 g71 [some (2, 16), some (1, (τ 4 (i + 1))), none, some (0, (y10 * 8 + x10)), some (0, (y17 * 8 + x17)), some (0, x46)] [(0, 0)] _
                            refine vP_hv (fun hv71 => ?_)
                            refine v_ret (hi_X3_readCompany_184 hT) (Or.inl rfl) ?_
                            exact cRd_n (by simp only [pS, pCompany, pBy, pCi, Int.not_le.mpr hc1, hc3, hc5, q7, q11, q14, q18, hc21, q47, q71, ne_eq, not_true_eq_false, not_false_eq_true, if_true, if_false, eq_self, eb_l, eb_r]) c71 (lF.t (lF.z (a := 39) (b := 3) (v := (0, ((P 0 3) + 1))) (by decide) (lF.z (a := 48) (b := (((P 0 3)).toNat)) (v := (0, 0)) (by decide) (lF.z (a := 47) (b := (((P 0 3)).toNat)) (v := (0, x46)) (by decide) (lF.z (a := 46) (b := (((P 0 3)).toNat)) (v := (0, (y17 * 8 + x17))) (by decide) (lF.z (a := 45) (b := (((P 0 3)).toNat)) (v := (0, (y10 * 8 + x10))) (by decide) (lF.z (a := 44) (b := (((P 0 3)).toNat)) (v := (0, (y10 * 8 + x10))) (by decide) (lF.z (a := 43) (b := (((P 0 3)).toNat)) (v := (1, (τ 4 (i + 1)))) (by decide) (lF.t (lF.t (lF.t (lF.t (lF.t (lF.t (lF.t (lF.t lF.rfl ft2) ft6) ft7) ft11) ft14) ft18) ft45) ft47)))))))) ft71)
                        · show vP D T N 61 37 g48 [some (2, 16)] [(0, -1)] _
                          refine vP_hv (fun hv48 => ?_)
                          refine v_ret (hi_X3_readBy_37 hT) (Or.inl rfl) ?_
                          show vP D T N 62 154 g48 [some (2, 16), some (1, (τ 4 (i + 1))), none, some (0, (y10 * 8 + x10)), some (0, (y17 * 8 + x17)), none] [(0, -1)] _
                          refine v_store1 [some (2, 16), some (1, (τ 4 (i + 1))), none, some (0, (y10 * 8 + x10)), some (0, (y17 * 8 + x17)), some (0, -1)] (hi_X3_readCompany_154 hT) ⟨rfl, Nat.ne_of_beq_eq_false rfl⟩ (Nat.le_of_ble_eq_true rfl) rfl ?_
                          refine v_load (v := (0, -1)) (hi_X3_readCompany_156 hT) rfl rfl ?_
                          refine v_push (-1) (hi_X3_readCompany_158 hT) rfl ?_
                          refine v_ic (hi_X3_readCompany_159 hT) (fun _ => ?_) (fun hc72 => absurd (show (-1 : Int) = -1 from (by decide)) hc72)
                          refine v_push (0) (hz_X3_readCompany hT _ _ rfl) rfl ?_
                          refine v_ret (hz_X3_readCompany hT _ _ rfl) (Or.inl rfl) ?_
                          exact cRd_n (by simp only [pS, pCompany, pBy, pCi, Int.not_le.mpr hc1, hc3, hc5, q7, q11, q14, q18, hc21, q48, ne_eq, not_true_eq_false, not_false_eq_true, if_true, if_false, eq_self, eb_l, eb_r]) c48 (lF.t (lF.t (lF.t (lF.t (lF.t (lF.t (lF.t (lF.t lF.rfl ft2) ft6) ft7) ft11) ft14) ft18) ft45) ft48)
                  · show vP D T N 62 140 g19 [some (2, 16), some (1, (τ 4 (i + 1))), none, some (0, (y10 * 8 + x10)), none, none] [(0, -1)] _
                    refine vP_hv (fun hv19 => ?_)
                    refine v_store1 [some (2, 16), some (1, (τ 4 (i + 1))), none, some (0, (y10 * 8 + x10)), some (0, -1), none] (hi_X3_readCompany_140 hT) ⟨rfl, Nat.ne_of_beq_eq_false rfl⟩ (Nat.le_of_ble_eq_true rfl) rfl ?_
                    refine v_load (v := (0, -1)) (hi_X3_readCompany_142 hT) rfl rfl ?_
                    refine v_push (-1) (hi_X3_readCompany_144 hT) rfl ?_
                    refine v_ic (hi_X3_readCompany_145 hT) (fun _ => ?_) (fun hc73 => absurd (show (-1 : Int) = -1 from (by decide)) hc73)
                    refine v_push (0) (hz_X3_readCompany hT _ _ rfl) rfl ?_
                    refine v_ret (hz_X3_readCompany hT _ _ rfl) (Or.inl rfl) ?_
                    exact cRd_n (by simp only [pS, pCompany, pBy, pCi, Int.not_le.mpr hc1, hc3, hc5, q7, q11, q14, q19, ne_eq, not_true_eq_false, not_false_eq_true, if_true, if_false, eq_self, eb_l, eb_r]) c19 (lF.t (lF.t (lF.t (lF.t (lF.t (lF.t lF.rfl ft2) ft6) ft7) ft11) ft14) ft19)
                · show vP D T N 62 124 g15 [some (2, 16), some (1, (τ 4 (i + 1))), none, some (0, (y10 * 8 + x10)), none, none] [(0, 0)] _
                  refine vP_hv (fun hv15 => ?_)
                  refine v_if (hi_X3_readCompany_124 hT) (fun _ => ?_) (fun hc74 => absurd (show (0 : Int) = 0 from (by decide)) hc74)
                  refine v_push (0) (hi_X3_readCompany_127 hT) rfl ?_
                  refine v_ret (hi_X3_readCompany_128 hT) (Or.inl rfl) ?_
                  exact cRd_n (by simp only [pS, pCompany, pBy, pCi, Int.not_le.mpr hc1, hc3, hc5, q7, q11, q15, ne_eq, not_true_eq_false, not_false_eq_true, if_true, if_false, eq_self, eb_l, eb_r]) c15 (lF.t (lF.t (lF.t (lF.t (lF.t lF.rfl ft2) ft6) ft7) ft11) ft15)
              · show vP D T N 62 109 g12 [some (2, 16), some (1, (τ 4 (i + 1))), none, none, none, none] [(0, -1)] _
                refine vP_hv (fun hv12 => ?_)
                refine v_store1 [some (2, 16), some (1, (τ 4 (i + 1))), none, some (0, -1), none, none] (hi_X3_readCompany_109 hT) ⟨rfl, Nat.ne_of_beq_eq_false rfl⟩ (Nat.le_of_ble_eq_true rfl) rfl ?_
                refine v_load (v := (0, -1)) (hi_X3_readCompany_110 hT) rfl rfl ?_
                refine v_push (-1) (hi_X3_readCompany_111 hT) rfl ?_
                refine v_ic (hi_X3_readCompany_112 hT) (fun _ => ?_) (fun hc75 => absurd (show (-1 : Int) = -1 from (by decide)) hc75)
                refine v_push (0) (hi_X3_readCompany_127 hT) rfl ?_
                refine v_ret (hi_X3_readCompany_128 hT) (Or.inl rfl) ?_
                exact cRd_n (by simp only [pS, pCompany, pBy, pCi, Int.not_le.mpr hc1, hc3, hc5, q7, q12, ne_eq, not_true_eq_false, not_false_eq_true, if_true, if_false, eq_self, eb_l, eb_r]) c12 (lF.t (lF.t (lF.t (lF.t lF.rfl ft2) ft6) ft7) ft12)
            · show vP D T N 62 93 g8 [some (2, 16), some (1, (τ 4 (i + 1))), none, none, none, none] [(0, 0)] _
              refine vP_hv (fun hv8 => ?_)
              refine v_if (hi_X3_readCompany_93 hT) (fun _ => ?_) (fun hc76 => absurd (show (0 : Int) = 0 from (by decide)) hc76)
              refine v_push (0) (hz_X3_readCompany hT _ _ rfl) rfl ?_
              refine v_ret (hz_X3_readCompany hT _ _ rfl) (Or.inl rfl) ?_
              exact cRd_n (by simp only [pS, pCompany, pBy, pCi, Int.not_le.mpr hc1, hc3, hc5, q8, ne_eq, not_true_eq_false, not_false_eq_true, if_true, if_false, eq_self, eb_l, eb_r]) c8 (lF.t (lF.t (lF.t lF.rfl ft2) ft6) ft8)
        · have hc5 : (pIx (P 4) ((τ 4 (i + 1))) (P 0 3).toNat 0) ≠ -1 := hc5
          refine v_load (v := (2, 16)) (hz_X3_readCompany hT _ _ rfl) rfl rfl ?_
          refine v_getR (c := 10) (r := 16) (hz_X3_readCompany hT _ _ rfl) rfl rfl rfl ?_
          refine v_push (3) (hz_X3_readCompany hT _ _ rfl) rfl ?_
          refine v_call (w := 2) [some (2, 10), some (0, 3)] hO (hz_X3_readCompany hT _ _ rfl) rfl rfl (cx_blame hT hO 3 hX2 (fun g77 ft77 c77 => ?_))
          · show vP D T N 62 76 g77 [some (2, 16), some (1, (τ 4 (i + 1))), none, none, none, none] [(0, 0)] _
            refine vP_hv (fun hv77 => ?_)
            refine v_ret (hz_X3_readCompany hT _ _ rfl) (Or.inl rfl) ?_
            exact cRd_n (by simp only [pS, pCompany, pBy, pCi, Int.not_le.mpr hc1, hc3, hc5, ne_eq, not_true_eq_false, not_false_eq_true, if_true, if_false, eq_self, eb_l, eb_r]) c77 (lF.t (lF.t lF.rfl ft2) ft77)
  · have hc1 : 6 ≤ (P 0 3) := Int.not_lt.mp hc1
    refine v_load (v := (2, 16)) (hz_X3_readCompany hT _ _ rfl) rfl rfl ?_
    refine v_getR (c := 10) (r := 16) (hz_X3_readCompany hT _ _ rfl) rfl rfl rfl ?_
    refine v_push (6) (hz_X3_readCompany hT _ _ rfl) rfl ?_
    refine v_call (w := 2) [some (2, 10), some (0, 6)] hO (hz_X3_readCompany hT _ _ rfl) rfl rfl (cx_blame hT hO 6 hX (fun g78 ft78 c78 => ?_))
    · show vP D T N 62 21 g78 [some (2, 16), none, none, none, none, none] [(0, 0)] _
      refine vP_hv (fun hv78 => ?_)
      refine v_ret (hz_X3_readCompany hT _ _ rfl) (Or.inl rfl) ?_
      exact cRd_n (by simp only [pS, pCompany, pBy, pCi, hc1, ne_eq, not_true_eq_false, not_false_eq_true, if_true, if_false, eq_self, eb_l, eb_r]) c78 (lF.t lF.rfl ft78)
theorem qx_let0_39 {D : zD} {T : zT} (hT : hTab T) (hO : vOK T) {N : Nat} {h : zH} {Q : zR → Prop} {B : Nat → Int} {n m i : Nat} {τ P : PT} (hv0 : zHv h) (hX : cX B n m τ i h) (hK : Tks B n m τ) (hL : cL 39 P h) (hb : (0 ≤ P 0 0 ∧ P 0 0 ≤ 8) ∧ (0 ≤ P 0 1 ∧ P 0 1 ≤ 6) ∧ (0 ≤ P 0 2 ∧ P 0 2 ≤ 3) ∧ (0 ≤ P 0 3 ∧ P 0 3 ≤ 6))
    (k0 : ((bL τ ((P 0 0)) i) = 0) → ∀ (g2 : zH), (tF h g2) → (cB (eF τ i 2) g2) → Q (g2, some (0, 0)))
    (k1 : ((bL τ ((P 0 0)) i) ≠ 0) → vP D T N 64 28 h [some (2, 16), some (0, 0), none] [] Q) :
    vP D T N 64 0 h [some (2, 16), none, none] [] Q := by
  refine v_load (v := (2, 16)) (hz_X3_readLetters hT _ _ rfl) rfl rfl ?_
  refine v_getR (c := 10) (r := 16) (hz_X3_readLetters hT _ _ rfl) rfl rfl rfl ?_
  refine v_load (v := (2, 16)) (hz_X3_readLetters hT _ _ rfl) rfl rfl ?_
  refine v_getf (v := (2, 39)) (r := 16) (hz_X3_readLetters hT _ _ rfl) rfl rfl (fun _ => hL.rf) ?_
  refine v_getf (v := (0, (P 0 0))) (r := 39) (hz_X3_readLetters hT _ _ rfl) rfl rfl (fun _ => hL.w) ?_
  refine v_call (w := 2) [some (2, 10), some (0, (P 0 0))] hO (hz_X3_readLetters hT _ _ rfl) rfl rfl (cx_isWordOf hT hO ((P 0 0)) hX hK ?_)
  show vP D T N 64 14 h [some (2, 16), none, none] [(0, (bL τ ((P 0 0)) i))] _
  refine v_if (hz_X3_readLetters hT _ _ rfl) (fun hc1 => ?_) (fun hc1 => ?_)
  · have hc1 : (bL τ ((P 0 0)) i) = 0 := hc1
    refine v_load (v := (2, 16)) (hz_X3_readLetters hT _ _ rfl) rfl rfl ?_
    refine v_getR (c := 10) (r := 16) (hz_X3_readLetters hT _ _ rfl) rfl rfl rfl ?_
    refine v_push (2) (hz_X3_readLetters hT _ _ rfl) rfl ?_
    refine v_call (w := 2) [some (2, 10), some (0, 2)] hO (hz_X3_readLetters hT _ _ rfl) rfl rfl (cx_blame hT hO 2 hX (fun g2 ft2 c2 => ?_))
    · show vP D T N 64 25 g2 [some (2, 16), none, none] [(0, 0)] _
      refine vP_hv (fun hv2 => ?_)
      refine v_ret (hz_X3_readLetters hT _ _ rfl) (Or.inl rfl) ?_
      exact k0 hc1 g2 ft2 c2
  · have hc1 : (bL τ ((P 0 0)) i) ≠ 0 := hc1
    refine v_push (0) (hz_X3_readLetters hT _ _ rfl) rfl ?_
    refine v_store1 [some (2, 16), some (0, 0), none] (hz_X3_readLetters hT _ _ rfl) ⟨rfl, Nat.ne_of_beq_eq_false rfl⟩ (Nat.le_of_ble_eq_true rfl) rfl ?_
    exact k1 hc1
theorem qx_letx_39 {D : zD} {T : zT} (hT : hTab T) (hO : vOK T) {N : Nat} {h : zH} {Q : zR → Prop} {B : Nat → Int} {n m i : Nat} {τ P : PT} (x : Int) (o : Option zV) (hv0 : zHv h) (hX : cX B n m τ i h) (hK : Tks B n m τ) (hL : cL 39 P h) (hb : (0 ≤ P 0 0 ∧ P 0 0 ≤ 8) ∧ (0 ≤ P 0 1 ∧ P 0 1 ≤ 6) ∧ (0 ≤ P 0 2 ∧ P 0 2 ≤ 3) ∧ (0 ≤ P 0 3 ∧ P 0 3 ≤ 6)) (hx : 0 ≤ x ∧ x ≤ 8) (h1 : bL τ (P 0 0) i ≠ 0) (b1 : 0 ≤ τ 1 i ∧ τ 1 i ≤ 900)
    (k0 : (x < (P 0 0)) → (x < 0) → ((lt (-1)) = -1) → ∀ (g6 : zH), (tF h g6) → (cB (eF τ i 2) g6) → Q (g6, some (0, 0)))
    (k1 : (x < (P 0 0)) → (x < 0) → ((lt (-1)) ≠ -1) → (0 ≤ (((P 0 1) * 8) + x)) → ((((P 0 1) * 8) + x) < 48) → vP D T N 64 28 (zset h 40 (((((P 0 1) * 8) + x)).toNat) (0, (lt (-1)))) [some (2, 16), some (0, (x + 1)), some (0, (lt (-1)))] [] Q)
    (k2 : (x < (P 0 0)) → (0 ≤ x) → (((τ 1 i) + x) < (τ 2 i)) → (0 ≤ ((τ 1 i) + x)) → (((τ 1 i) + x) < 900) → ((lt ((h 11 (((τ 1 i) + x)).toNat).2)) = -1) → ∀ (g16 : zH), (tF h g16) → (cB (eF τ i 2) g16) → Q (g16, some (0, 0)))
    (k3 : (x < (P 0 0)) → (0 ≤ x) → (((τ 1 i) + x) < (τ 2 i)) → (0 ≤ ((τ 1 i) + x)) → (((τ 1 i) + x) < 900) → ((lt ((h 11 (((τ 1 i) + x)).toNat).2)) ≠ -1) → (0 ≤ (((P 0 1) * 8) + x)) → ((((P 0 1) * 8) + x) < 48) → vP D T N 64 28 (zset h 40 (((((P 0 1) * 8) + x)).toNat) (0, (lt ((h 11 (((τ 1 i) + x)).toNat).2)))) [some (2, 16), some (0, (x + 1)), some (0, (lt ((h 11 (((τ 1 i) + x)).toNat).2)))] [] Q)
    (k4 : (x < (P 0 0)) → (0 ≤ x) → ((τ 2 i) ≤ ((τ 1 i) + x)) → ((lt (-1)) = -1) → ∀ (g21 : zH), (tF h g21) → (cB (eF τ i 2) g21) → Q (g21, some (0, 0)))
    (k5 : (x < (P 0 0)) → (0 ≤ x) → ((τ 2 i) ≤ ((τ 1 i) + x)) → ((lt (-1)) ≠ -1) → (0 ≤ (((P 0 1) * 8) + x)) → ((((P 0 1) * 8) + x) < 48) → vP D T N 64 28 (zset h 40 (((((P 0 1) * 8) + x)).toNat) (0, (lt (-1)))) [some (2, 16), some (0, (x + 1)), some (0, (lt (-1)))] [] Q)
    (k6 : ((P 0 0) ≤ x) → ∀ (g26 : zH), (tF (zset h 39 1 (0, ((P 0 1) + 1))) g26) → (cX B n m τ (i + 1) g26) → ∀ (g27 : zH), (tF g26 g27) → (pSg τ 59 (i + 1) = .inr (i + 1 + 1)) → (cX B n m τ (i + 1 + 1) g27) → Q (g27, some (0, 1)))
    (k7 : ((P 0 0) ≤ x) → ∀ (g26 : zH), (tF (zset h 39 1 (0, ((P 0 1) + 1))) g26) → (cX B n m τ (i + 1) g26) → ∀ (g28 : zH) (e28 : Er), (tF g26 g28) → (pSg τ 59 (i + 1) = .inl e28) → (cB e28 g28) → Q (g28, some (0, 0))) :
    vP D T (N + 1) 64 28 h [some (2, 16), some (0, x), o] [] Q := by
  refine v_loadS (v := (0, x)) (hz_X3_readLetters hT _ _ rfl) rfl rfl ?_
  refine v_load (v := (2, 16)) (hz_X3_readLetters hT _ _ rfl) rfl rfl ?_
  refine v_getf (v := (2, 39)) (r := 16) (hz_X3_readLetters hT _ _ rfl) rfl rfl (fun _ => hL.rf) ?_
  refine v_getf (v := (0, (P 0 0))) (r := 39) (hz_X3_readLetters hT _ _ rfl) rfl rfl (fun _ => hL.w) ?_
  refine v_ic (hz_X3_readLetters hT _ _ rfl) (fun hc1 => ?_) (fun hc1 => ?_)
  · have hc1 : x < (P 0 0) := hc1
    refine v_load (v := (2, 16)) (hz_X3_readLetters hT _ _ rfl) rfl rfl ?_
    refine v_getR (c := 10) (r := 16) (hz_X3_readLetters hT _ _ rfl) rfl rfl rfl ?_
    refine v_load (v := (0, x)) (hz_X3_readLetters hT _ _ rfl) rfl rfl ?_
    refine v_call (w := 3) [some (2, 10), some (0, x), none] hO (hz_X3_readLetters hT _ _ rfl) rfl rfl ?_
    refine v_load (v := (2, 10)) (hz_X8_byteHere hT _ _ rfl) rfl rfl ?_
    refine v_getR (c := 13) (r := 10) (hz_X8_byteHere hT _ _ rfl) rfl rfl rfl ?_
    refine v_load (v := (2, 10)) (hz_X8_byteHere hT _ _ rfl) rfl rfl ?_
    refine v_getf (v := (0, (i : Int))) (r := 10) (hz_X8_byteHere hT _ _ rfl) rfl rfl (fun _ => hX.at) ?_
    refine v_aldE (t := 0) (r := 13) (w := (τ 1 i)) (hz_X8_byteHere hT _ _ rfl) rfl rfl rfl (hX.k1 i) (fun ha2 hb3 => ?_)
    refine v_load (v := (0, x)) (hz_X8_byteHere hT _ _ rfl) rfl rfl ?_
    refine v_bin (w := ((τ 1 i) + x)) (hz_X8_byteHere hT _ _ rfl) (hq_add (by omega) (by omega)) ?_
    refine v_store1 [some (2, 10), some (0, x), some (0, ((τ 1 i) + x))] (hz_X8_byteHere hT _ _ rfl) ⟨rfl, Nat.ne_of_beq_eq_false rfl⟩ (Nat.le_of_ble_eq_true rfl) rfl ?_
    refine v_load (v := (0, x)) (hz_X8_byteHere hT _ _ rfl) rfl rfl ?_
    refine v_if (hz_X8_byteHere hT _ _ rfl) (fun hc4 => ?_) (fun hc4 => ?_)
    · have hc4 : x < 0 := hc4
      refine v_push (-1) (hi_X8_byteHere_38 hT) rfl ?_
      refine v_ret (hi_X8_byteHere_39 hT) (Or.inl rfl) ?_
      show vP D T N 64 47 h [some (2, 16), some (0, x), o] [(0, -1)] _
      refine v_call (w := 2) [some (0, -1), none] hO (hi_X3_readLetters_47 hT) rfl rfl (c_letter hT hO (-1) ?_)
      show vP D T N 64 50 h [some (2, 16), some (0, x), o] [(0, (lt (-1)))] _
      refine v_store1 [some (2, 16), some (0, x), some (0, (lt (-1)))] (hi_X3_readLetters_50 hT) ⟨rfl, Nat.ne_of_beq_eq_false rfl⟩ (Nat.le_of_ble_eq_true rfl) rfl ?_
      refine v_load (v := (0, (lt (-1)))) (hi_X3_readLetters_51 hT) rfl rfl ?_
      refine v_push (-1) (hi_X3_readLetters_52 hT) rfl ?_
      refine v_ic (hi_X3_readLetters_53 hT) (fun hc5 => ?_) (fun hc5 => ?_)
      · have hc5 : (lt (-1)) = -1 := hc5
        refine v_load (v := (2, 16)) (hi_X3_readLetters_56 hT) rfl rfl ?_
        refine v_getR (c := 10) (r := 16) (hi_X3_readLetters_57 hT) rfl rfl rfl ?_
        refine v_push (2) (hi_X3_readLetters_60 hT) rfl ?_
        refine v_call (w := 2) [some (2, 10), some (0, 2)] hO (hi_X3_readLetters_61 hT) rfl rfl (cx_blame hT hO 2 hX (fun g6 ft6 c6 => ?_))
        · show vP D T N 64 64 g6 [some (2, 16), some (0, x), some (0, (lt (-1)))] [(0, 0)] _
          refine vP_hv (fun hv6 => ?_)
          refine v_ret (hi_X3_readLetters_64 hT) (Or.inl rfl) ?_
          exact k0 hc1 hc4 hc5 g6 ft6 c6
      · have hc5 : (lt (-1)) ≠ -1 := hc5
        refine v_load (v := (2, 16)) (hi_X3_readLetters_65 hT) rfl rfl ?_
        refine v_getf (v := (2, 39)) (r := 16) (hi_X3_readLetters_66 hT) rfl rfl (fun _ => hL.rf) ?_
        refine v_getR (c := 40) (r := 39) (hi_X3_readLetters_69 hT) rfl rfl rfl ?_
        refine v_load (v := (0, x)) (hi_X3_readLetters_72 hT) rfl rfl ?_
        refine v_load (v := (2, 16)) (hi_X3_readLetters_73 hT) rfl rfl ?_
        refine v_getf (v := (2, 39)) (r := 16) (hi_X3_readLetters_74 hT) rfl rfl (fun _ => hL.rf) ?_
        refine v_getf (v := (0, (P 0 1))) (r := 39) (hi_X3_readLetters_77 hT) rfl rfl (fun _ => hL.ro) ?_
        refine v_call (w := 2) [some (0, x), some (0, (P 0 1))] hO (hi_X3_readLetters_80 hT) rfl rfl ?_
        refine v_load (v := (0, (P 0 1))) (hi_X2_cellAt_0 hT) rfl rfl ?_
        refine v_push (8) (hi_X2_cellAt_1 hT) rfl ?_
        refine v_bin (w := ((P 0 1) * 8)) (hi_X2_cellAt_3 hT) (hq_mul (by omega) (by omega)) ?_
        refine v_load (v := (0, x)) (hi_X2_cellAt_4 hT) rfl rfl ?_
        refine v_bin (w := (((P 0 1) * 8) + x)) (hi_X2_cellAt_5 hT) (hq_add (by omega) (by omega)) ?_
        refine v_ret (hi_X2_cellAt_6 hT) (Or.inl rfl) ?_
        show vP D T N 64 83 h [some (2, 16), some (0, x), some (0, (lt (-1)))] [(0, (((P 0 1) * 8) + x)), (2, 40)] _
        refine v_load (v := (0, (lt (-1)))) (hi_X3_readLetters_83 hT) rfl rfl ?_
        refine v_ast (r := 40) (hi_X3_readLetters_84 hT) rfl rfl (fun ha7 hb8 hf9 => ?_)
        refine v_iinc (x := x) (u := 1) (w := (x + 1)) [some (2, 16), some (0, (x + 1)), some (0, (lt (-1)))] (hi_X3_readLetters_85 hT) rfl rfl (Nat.le_of_ble_eq_true rfl) (vz_inc (by omega) (by omega)) rfl ?_
        refine v_goto (hi_X3_readLetters_88 hT) ?_
        exact k1 hc1 hc4 hc5 ha7 hb8
    · have hc4 : 0 ≤ x := Int.not_lt.mp hc4
      refine v_load (v := (0, ((τ 1 i) + x))) (hz_X8_byteHere hT _ _ rfl) rfl rfl ?_
      refine v_load (v := (2, 10)) (hz_X8_byteHere hT _ _ rfl) rfl rfl ?_
      refine v_getR (c := 14) (r := 10) (hz_X8_byteHere hT _ _ rfl) rfl rfl rfl ?_
      refine v_load (v := (2, 10)) (hz_X8_byteHere hT _ _ rfl) rfl rfl ?_
      refine v_getf (v := (0, (i : Int))) (r := 10) (hz_X8_byteHere hT _ _ rfl) rfl rfl (fun _ => hX.at) ?_
      refine v_aldE (t := 0) (r := 14) (w := (τ 2 i)) (hz_X8_byteHere hT _ _ rfl) rfl rfl rfl (hX.k2 i) (fun ha10 hb11 => ?_)
      refine v_ic (hz_X8_byteHere hT _ _ rfl) (fun hc12 => ?_) (fun hc12 => ?_)
      · have hc12 : ((τ 1 i) + x) < (τ 2 i) := hc12
        refine v_load (v := (2, 10)) (hz_X8_byteHere hT _ _ rfl) rfl rfl ?_
        refine v_getR (c := 11) (r := 10) (hz_X8_byteHere hT _ _ rfl) rfl rfl rfl ?_
        refine v_load (v := (0, ((τ 1 i) + x))) (hz_X8_byteHere hT _ _ rfl) rfl rfl ?_
        refine v_ald (t := 0) (r := 11) (hz_X8_byteHere hT _ _ rfl) rfl rfl rfl (fun ha13 hb14 => ?_)
        refine v_goto (hz_X8_byteHere hT _ _ rfl) ?_
        refine v_ret (hi_X8_byteHere_39 hT) (Or.inl rfl) ?_
        show vP D T N 64 47 h [some (2, 16), some (0, x), o] [(0, (h 11 (((τ 1 i) + x)).toNat).2)] _
        refine v_call (w := 2) [some (0, (h 11 (((τ 1 i) + x)).toNat).2), none] hO (hi_X3_readLetters_47 hT) rfl rfl (c_letter hT hO ((h 11 (((τ 1 i) + x)).toNat).2) ?_)
        show vP D T N 64 50 h [some (2, 16), some (0, x), o] [(0, (lt ((h 11 (((τ 1 i) + x)).toNat).2)))] _
        refine v_store1 [some (2, 16), some (0, x), some (0, (lt ((h 11 (((τ 1 i) + x)).toNat).2)))] (hi_X3_readLetters_50 hT) ⟨rfl, Nat.ne_of_beq_eq_false rfl⟩ (Nat.le_of_ble_eq_true rfl) rfl ?_
        refine v_load (v := (0, (lt ((h 11 (((τ 1 i) + x)).toNat).2)))) (hi_X3_readLetters_51 hT) rfl rfl ?_
        refine v_push (-1) (hi_X3_readLetters_52 hT) rfl ?_
        refine v_ic (hi_X3_readLetters_53 hT) (fun hc15 => ?_) (fun hc15 => ?_)
        · have hc15 : (lt ((h 11 (((τ 1 i) + x)).toNat).2)) = -1 := hc15
          refine v_load (v := (2, 16)) (hi_X3_readLetters_56 hT) rfl rfl ?_
          refine v_getR (c := 10) (r := 16) (hi_X3_readLetters_57 hT) rfl rfl rfl ?_
          refine v_push (2) (hi_X3_readLetters_60 hT) rfl ?_
          refine v_call (w := 2) [some (2, 10), some (0, 2)] hO (hi_X3_readLetters_61 hT) rfl rfl (cx_blame hT hO 2 hX (fun g16 ft16 c16 => ?_))
          · show vP D T N 64 64 g16 [some (2, 16), some (0, x), some (0, (lt ((h 11 (((τ 1 i) + x)).toNat).2)))] [(0, 0)] _
            refine vP_hv (fun hv16 => ?_)
            refine v_ret (hi_X3_readLetters_64 hT) (Or.inl rfl) ?_
            exact k2 hc1 hc4 hc12 ha13 hb14 hc15 g16 ft16 c16
        · have hc15 : (lt ((h 11 (((τ 1 i) + x)).toNat).2)) ≠ -1 := hc15
          refine v_load (v := (2, 16)) (hi_X3_readLetters_65 hT) rfl rfl ?_
          refine v_getf (v := (2, 39)) (r := 16) (hi_X3_readLetters_66 hT) rfl rfl (fun _ => hL.rf) ?_
          refine v_getR (c := 40) (r := 39) (hi_X3_readLetters_69 hT) rfl rfl rfl ?_
          refine v_load (v := (0, x)) (hi_X3_readLetters_72 hT) rfl rfl ?_
          refine v_load (v := (2, 16)) (hi_X3_readLetters_73 hT) rfl rfl ?_
          refine v_getf (v := (2, 39)) (r := 16) (hi_X3_readLetters_74 hT) rfl rfl (fun _ => hL.rf) ?_
          refine v_getf (v := (0, (P 0 1))) (r := 39) (hi_X3_readLetters_77 hT) rfl rfl (fun _ => hL.ro) ?_
          refine v_call (w := 2) [some (0, x), some (0, (P 0 1))] hO (hi_X3_readLetters_80 hT) rfl rfl ?_
          refine v_load (v := (0, (P 0 1))) (hi_X2_cellAt_0 hT) rfl rfl ?_
          refine v_push (8) (hi_X2_cellAt_1 hT) rfl ?_
          refine v_bin (w := ((P 0 1) * 8)) (hi_X2_cellAt_3 hT) (hq_mul (by omega) (by omega)) ?_
          refine v_load (v := (0, x)) (hi_X2_cellAt_4 hT) rfl rfl ?_
          refine v_bin (w := (((P 0 1) * 8) + x)) (hi_X2_cellAt_5 hT) (hq_add (by omega) (by omega)) ?_
          refine v_ret (hi_X2_cellAt_6 hT) (Or.inl rfl) ?_
          show vP D T N 64 83 h [some (2, 16), some (0, x), some (0, (lt ((h 11 (((τ 1 i) + x)).toNat).2)))] [(0, (((P 0 1) * 8) + x)), (2, 40)] _
          refine v_load (v := (0, (lt ((h 11 (((τ 1 i) + x)).toNat).2)))) (hi_X3_readLetters_83 hT) rfl rfl ?_
          refine v_ast (r := 40) (hi_X3_readLetters_84 hT) rfl rfl (fun ha17 hb18 hf19 => ?_)
          refine v_iinc (x := x) (u := 1) (w := (x + 1)) [some (2, 16), some (0, (x + 1)), some (0, (lt ((h 11 (((τ 1 i) + x)).toNat).2)))] (hi_X3_readLetters_85 hT) rfl rfl (Nat.le_of_ble_eq_true rfl) (vz_inc (by omega) (by omega)) rfl ?_
          refine v_goto (hi_X3_readLetters_88 hT) ?_
          exact k3 hc1 hc4 hc12 ha13 hb14 hc15 ha17 hb18
      · have hc12 : (τ 2 i) ≤ ((τ 1 i) + x) := Int.not_lt.mp hc12
        refine v_push (-1) (hi_X8_byteHere_38 hT) rfl ?_
        refine v_ret (hi_X8_byteHere_39 hT) (Or.inl rfl) ?_
        show vP D T N 64 47 h [some (2, 16), some (0, x), o] [(0, -1)] _
        refine v_call (w := 2) [some (0, -1), none] hO (hi_X3_readLetters_47 hT) rfl rfl (c_letter hT hO (-1) ?_)
        show vP D T N 64 50 h [some (2, 16), some (0, x), o] [(0, (lt (-1)))] _
        refine v_store1 [some (2, 16), some (0, x), some (0, (lt (-1)))] (hi_X3_readLetters_50 hT) ⟨rfl, Nat.ne_of_beq_eq_false rfl⟩ (Nat.le_of_ble_eq_true rfl) rfl ?_
        refine v_load (v := (0, (lt (-1)))) (hi_X3_readLetters_51 hT) rfl rfl ?_
        refine v_push (-1) (hi_X3_readLetters_52 hT) rfl ?_
        refine v_ic (hi_X3_readLetters_53 hT) (fun hc20 => ?_) (fun hc20 => ?_)
        · have hc20 : (lt (-1)) = -1 := hc20
          refine v_load (v := (2, 16)) (hi_X3_readLetters_56 hT) rfl rfl ?_
          refine v_getR (c := 10) (r := 16) (hi_X3_readLetters_57 hT) rfl rfl rfl ?_
          refine v_push (2) (hi_X3_readLetters_60 hT) rfl ?_
          refine v_call (w := 2) [some (2, 10), some (0, 2)] hO (hi_X3_readLetters_61 hT) rfl rfl (cx_blame hT hO 2 hX (fun g21 ft21 c21 => ?_))
          · show vP D T N 64 64 g21 [some (2, 16), some (0, x), some (0, (lt (-1)))] [(0, 0)] _
            refine vP_hv (fun hv21 => ?_)
            refine v_ret (hi_X3_readLetters_64 hT) (Or.inl rfl) ?_
            exact k4 hc1 hc4 hc12 hc20 g21 ft21 c21
        · have hc20 : (lt (-1)) ≠ -1 := hc20
          refine v_load (v := (2, 16)) (hi_X3_readLetters_65 hT) rfl rfl ?_
          refine v_getf (v := (2, 39)) (r := 16) (hi_X3_readLetters_66 hT) rfl rfl (fun _ => hL.rf) ?_
          refine v_getR (c := 40) (r := 39) (hi_X3_readLetters_69 hT) rfl rfl rfl ?_
          refine v_load (v := (0, x)) (hi_X3_readLetters_72 hT) rfl rfl ?_
          refine v_load (v := (2, 16)) (hi_X3_readLetters_73 hT) rfl rfl ?_
          refine v_getf (v := (2, 39)) (r := 16) (hi_X3_readLetters_74 hT) rfl rfl (fun _ => hL.rf) ?_
          refine v_getf (v := (0, (P 0 1))) (r := 39) (hi_X3_readLetters_77 hT) rfl rfl (fun _ => hL.ro) ?_
          refine v_call (w := 2) [some (0, x), some (0, (P 0 1))] hO (hi_X3_readLetters_80 hT) rfl rfl ?_
          refine v_load (v := (0, (P 0 1))) (hi_X2_cellAt_0 hT) rfl rfl ?_
          refine v_push (8) (hi_X2_cellAt_1 hT) rfl ?_
          refine v_bin (w := ((P 0 1) * 8)) (hi_X2_cellAt_3 hT) (hq_mul (by omega) (by omega)) ?_
          refine v_load (v := (0, x)) (hi_X2_cellAt_4 hT) rfl rfl ?_
          refine v_bin (w := (((P 0 1) * 8) + x)) (hi_X2_cellAt_5 hT) (hq_add (by omega) (by omega)) ?_
          refine v_ret (hi_X2_cellAt_6 hT) (Or.inl rfl) ?_
          show vP D T N 64 83 h [some (2, 16), some (0, x), some (0, (lt (-1)))] [(0, (((P 0 1) * 8) + x)), (2, 40)] _
          refine v_load (v := (0, (lt (-1)))) (hi_X3_readLetters_83 hT) rfl rfl ?_
          refine v_ast (r := 40) (hi_X3_readLetters_84 hT) rfl rfl (fun ha22 hb23 hf24 => ?_)
          refine v_iinc (x := x) (u := 1) (w := (x + 1)) [some (2, 16), some (0, (x + 1)), some (0, (lt (-1)))] (hi_X3_readLetters_85 hT) rfl rfl (Nat.le_of_ble_eq_true rfl) (vz_inc (by omega) (by omega)) rfl ?_
          refine v_goto (hi_X3_readLetters_88 hT) ?_
          exact k5 hc1 hc4 hc12 hc20 ha22 hb23
  · have hc1 : (P 0 0) ≤ x := Int.not_lt.mp hc1
    refine v_load (v := (2, 16)) (hz_X3_readLetters hT _ _ rfl) rfl rfl ?_
    refine v_getf (v := (2, 39)) (r := 16) (hz_X3_readLetters hT _ _ rfl) rfl rfl (fun _ => hL.rf) ?_
    refine v_dup (hz_X3_readLetters hT _ _ rfl) (Nat.ne_of_beq_eq_false rfl) ?_
    refine v_getf (v := (0, (P 0 1))) (r := 39) (hz_X3_readLetters hT _ _ rfl) rfl rfl (fun _ => hL.ro) ?_
    refine v_push (1) (hz_X3_readLetters hT _ _ rfl) rfl ?_
    refine v_bin (w := ((P 0 1) + 1)) (hz_X3_readLetters hT _ _ rfl) (hq_add (by omega) (by omega)) ?_
    refine v_putf (r := 39) hO (hz_X3_readLetters hT _ _ rfl) rfl (fun hf25 => ?_)
    refine v_load (v := (2, 16)) (hz_X3_readLetters hT _ _ rfl) rfl rfl ?_
    refine v_getR (c := 10) (r := 16) (hz_X3_readLetters hT _ _ rfl) rfl rfl rfl ?_
    refine v_call (w := 1) [some (2, 10)] hO (hz_X3_readLetters hT _ _ rfl) rfl rfl (cx_adv hT hO (cX.z (r := 39) (k := 1) (v := (0, ((P 0 1) + 1))) (by decide) hX) (ne_10 (bL_y.mp h1).1) (ne_14 (bL_y.mp h1).1) (fun g26 ft26 hX26 => ?_))
    · show vP D T N 64 111 g26 [some (2, 16), some (0, x), o] [] _
      refine vP_hv (fun hv26 => ?_)
      refine v_load (v := (2, 16)) (hz_X3_readLetters hT _ _ rfl) rfl rfl ?_
      refine v_getR (c := 10) (r := 16) (hz_X3_readLetters hT _ _ rfl) rfl rfl rfl ?_
      refine v_call (w := 1) [some (2, 10)] hO (hz_X3_readLetters hT _ _ rfl) rfl rfl (cx_stop hT hO hX26 (fun g27 ft27 q27 hX27 => ?_) (fun g28 e28 ft28 q28 c28 => ?_))
      · show vP D T N 64 118 g27 [some (2, 16), some (0, x), o] [(0, 1)] _
        refine vP_hv (fun hv27 => ?_)
        refine v_ret (hi_X3_readLetters_118 hT) (Or.inl rfl) ?_
        exact k6 hc1 g26 ft26 hX26 g27 ft27 q27 hX27
      · show vP D T N 64 118 g28 [some (2, 16), some (0, x), o] [(0, 0)] _
        refine vP_hv (fun hv28 => ?_)
        refine v_ret (hi_X3_readLetters_118 hT) (Or.inl rfl) ?_
        exact k7 hc1 g26 ft26 hX26 g28 e28 ft28 q28 c28
theorem cx_let_39 {D : zD} {T : zT} (hT : hTab T) (hO : vOK T) {N : Nat} {h : zH} {B : Nat → Int} {n m i : Nat} {τ P : PT} (hv0 : zHv h) (hX : cX B n m τ i h) (hK : Tks B n m τ) (hL : cL 39 P h) (hb : (0 ≤ P 0 0 ∧ P 0 0 ≤ 8) ∧ (0 ≤ P 0 1 ∧ P 0 1 ≤ 6) ∧ (0 ≤ P 0 2 ∧ P 0 2 ≤ 3) ∧ (0 ≤ P 0 3 ∧ P 0 3 ≤ 6)) (h6 : P 0 1 < 6) : vP D T N 64 0 h [some (2, 16), none, none] [] (cRd B n m τ 39 (pS τ (pRowL τ P i)) h) := by
  refine qx_let0_39 hT hO hv0 hX hK hL hb ?_ ?_
  · exact fun c g f cb => cRd_n (by simp only [pS, pRowL, c, ne_eq, not_true_eq_false, false_and, if_false, eb_l, eq_self]) cb (lF.t lF.rfl f)
  · intro c1
    obtain ⟨w1, w2⟩ := bL_y.mp c1
    have tb := tk_b hK hX.im.1
    have b9 := hX.1.1.1.1
    obtain ⟨s, e, e1, e2, hR, hs, he, _, _, _, hl⟩ := tk_w hK hX.im.1 w1
    have f0 : ∀ x k, pLt τ P i x 0 k = P 0 k := fun x k => if_neg (fun c => absurd c.1 (by decide))
    refine vP_loop (fun h' l => ∃ (x : Nat) (o : Option zV), l = [some (2, 16), some (0, (x : Int)), o] ∧ (x : Int) ≤ P 0 0 ∧ cX B n m τ i h' ∧ cL 39 (pLt τ P i x) h' ∧ lF 39 h h' ∧ ∀ y, y < x → 0 ≤ τ (10 + y) i) ?_ N _ _ ⟨0, none, rfl, by omega, hX, ?_, lF.rfl, fun y hy => absurd hy (by omega)⟩
    · rintro N h' l ⟨x, o, rfl, hx, hX', hL', hF', hy⟩ ih
      have ex : ((x : Int)).toNat = x := Int.toNat_natCast x
      have hw : ((x : Int) < P 0 0) → 0 ≤ τ 1 i + x ∧ τ 1 i + x < τ 2 i ∧ (h' 11 (τ 1 i + x).toNat).2 = B (s + x) ∧ τ (10 + x) i = lt (B (s + x)) := fun c => by
        have e3 : (τ 1 i + x).toNat = s + x := by omega
        exact ⟨by omega, by omega, by rw [e3]; exact hX'.1.1.at (by omega), hl x⟩
      refine vP_hv (fun hv => qx_letx_39 (P := pLt τ P i x) hT hO x o hv hX' hK hL' (by rw [f0, f0, f0, f0]; exact hb) ⟨by omega, by omega⟩ (by rw [f0]; exact c1) ⟨by omega, by omega⟩ ?_ ?_ ?_ ?_ ?_ ?_ ?_ ?_) <;> rw [f0]
      · intros; omega
      · intros; omega
      · intro d1 _ _ _ _ d2 g f cb
        obtain ⟨_, _, q3, q4⟩ := hw d1
        rw [q3, ← q4] at d2
        refine cRd_n ?_ cb (lF.t hF' f)
        have : ¬ (bL τ (P 0 0) i ≠ 0 ∧ pAll τ i (P 0 0).toNat = true) := fun f => by
          have := pAll_y.mp f.2 x (by omega)
          omega
        unfold pS pRowL
        rw [if_neg this, eb_l]
      · intro d1 _ _ _ _ d2 d3 d4
        rw [f0] at d3 d4 ⊢
        obtain ⟨_, _, q3, q4⟩ := hw d1
        rw [q3, ← q4] at d2 ⊢
        have hge : 0 ≤ τ (10 + x) i := by
          rw [q4] at d2 ⊢
          exact lt_ge d2
        have ep : pset (pLt τ P i x) 1 (P 0 1 * 8 + x).toNat (τ (10 + x) i) = pLt τ P i (x + 1) := by
          funext a b
          unfold pset pLt
          by_cases q1 : a = 1 ∧ b = (P 0 1 * 8 + x).toNat
          · rw [if_pos q1, if_pos ⟨q1.1, by omega, by omega⟩, show b - 8 * (P 0 1).toNat = x from by omega]
          · rw [if_neg q1]
            by_cases q2 : a = 1 ∧ 8 * (P 0 1).toNat ≤ b ∧ b < 8 * (P 0 1).toNat + x
            · rw [if_pos q2, if_pos ⟨q2.1, q2.2.1, by omega⟩]
            · rw [if_neg q2, if_neg (fun c => by omega)]
        refine ih _ _ ⟨x + 1, _, rfl, by omega, hX'.z (by decide), ?_, hF'.z (by decide), fun y hy' => ?_⟩
        · rw [← ep]
          exact hL'.a1
        · by_cases q1 : y = x
          · rw [q1]; exact hge
          · exact hy y (by omega)
      · intro d1 _ d2
        have := hw d1
        omega
      · intro d1 _ d2
        have := hw d1
        omega
      · intro d1 g26 f26 hX26 g27 f27 q27 hX27
        have exw : x = (P 0 0).toNat := by omega
        have hall : pAll τ i (P 0 0).toNat = true := pAll_y.mpr (fun y hy' => hy y (by omega))
        rw [f0] at f26
        refine cRd_y (P := pset (pLt τ P i x) 0 1 (P 0 1 + 1)) (j := i + 1 + 1) ?_ hX27 ((hL'.f (by decide)).tf (f26.trans f27)) ((hF'.z (by decide)).t (f26.trans f27)) ?_
        · rw [exw]
          simp only [pS, pRowL, c1, hall, q27, ne_eq, not_false_eq_true, and_self, if_true, eb_r]
        · show (0 ≤ P 0 0 ∧ P 0 0 ≤ 8) ∧ (0 ≤ P 0 1 + 1 ∧ P 0 1 + 1 ≤ 6) ∧ (0 ≤ P 0 2 ∧ P 0 2 ≤ 3) ∧ (0 ≤ P 0 3 ∧ P 0 3 ≤ 6)
          omega
      · intro d1 g26 f26 hX26 g28 e28 f28 q28 c28
        have exw : x = (P 0 0).toNat := by omega
        have hall : pAll τ i (P 0 0).toNat = true := pAll_y.mpr (fun y hy' => hy y (by omega))
        rw [f0] at f26
        refine cRd_n (e := e28) ?_ c28 ((hF'.z (by decide)).t (f26.trans f28))
        simp only [pS, pRowL, c1, hall, q28, ne_eq, not_false_eq_true, and_self, if_true, eb_r, eb_l]
    · have e0 : pLt τ P i 0 = P := by
        funext a b
        exact if_neg (fun c => by omega)
      rw [e0]
      exact hL
theorem qx_row0_39 {D : zD} {T : zT} (hT : hTab T) (hO : vOK T) {N : Nat} {h : zH} {Q : zR → Prop} {B : Nat → Int} {n m i : Nat} {τ P : PT} (hv0 : zHv h) (hX : cX B n m τ i h) (hK : Tks B n m τ) (hL : cL 39 P h) (hb : (0 ≤ P 0 0 ∧ P 0 0 ≤ 8) ∧ (0 ≤ P 0 1 ∧ P 0 1 ≤ 6) ∧ (0 ≤ P 0 2 ∧ P 0 2 ≤ 3) ∧ (0 ≤ P 0 3 ∧ P 0 3 ≤ 6))
    (k0 : vP D T N 67 2 h [some (2, 16), some (0, 0)] [] Q) :
    vP D T N 67 0 h [some (2, 16), none] [] Q := by
  refine v_push (0) (hz_X3_readRows hT _ _ rfl) rfl ?_
  refine v_store1 [some (2, 16), some (0, 0)] (hz_X3_readRows hT _ _ rfl) ⟨rfl, Nat.ne_of_beq_eq_false rfl⟩ (Nat.le_of_ble_eq_true rfl) rfl ?_
  exact k0 
theorem qx_rows_39 {D : zD} {T : zT} (hT : hTab T) (hO : vOK T) {N : Nat} {h : zH} {Q : zR → Prop} {B : Nat → Int} {n m i : Nat} {τ P : PT} (x : Int) (hv0 : zHv h) (hX : cX B n m τ i h) (hK : Tks B n m τ) (hL : cL 39 P h) (hb : (0 ≤ P 0 0 ∧ P 0 0 ≤ 8) ∧ (0 ≤ P 0 1 ∧ P 0 1 ≤ 6) ∧ (0 ≤ P 0 2 ∧ P 0 2 ≤ 3) ∧ (0 ≤ P 0 3 ∧ P 0 3 ≤ 6)) (hx : 0 ≤ x ∧ x ≤ 7)
    (k0 : (6 < x) → (0 < (P 0 1)) → Q (h, some (0, 1)))
    (k1 : (6 < x) → ((P 0 1) ≤ 0) → ∀ (g3 : zH), (tF h g3) → (cB (eF τ i 2) g3) → Q (g3, some (0, 0)))
    (k2 : (x ≤ 6) → ((bW τ 1 i) = 0) → (0 < (P 0 1)) → Q (h, some (0, 1)))
    (k3 : (x ≤ 6) → ((bW τ 1 i) = 0) → ((P 0 1) ≤ 0) → ∀ (g7 : zH), (tF h g7) → (cB (eF τ i 2) g7) → Q (g7, some (0, 0)))
    (k4 : (x ≤ 6) → ((bW τ 1 i) ≠ 0) → ((P 0 1) < 6) → ∀ (g10 : zH), (tF h g10) → (cX B n m τ (i + 1) g10) → ∀ (g11 : zH) (P11 : PT) (j11 : Nat), (lF 39 g10 g11) → (pS τ (pRowL τ P (i + 1)) = .inr (P11, j11)) → (cX B n m τ j11 g11) → (cL 39 P11 g11) → ((0 ≤ P11 0 0 ∧ P11 0 0 ≤ 8) ∧ (0 ≤ P11 0 1 ∧ P11 0 1 ≤ 6) ∧ (0 ≤ P11 0 2 ∧ P11 0 2 ≤ 3) ∧ (0 ≤ P11 0 3 ∧ P11 0 3 ≤ 6)) → vP D T N 67 2 g11 [some (2, 16), some (0, (x + 1))] [] Q)
    (k5 : (x ≤ 6) → ((bW τ 1 i) ≠ 0) → ((P 0 1) < 6) → ∀ (g10 : zH), (tF h g10) → (cX B n m τ (i + 1) g10) → ∀ (g12 : zH) (e12 : Er), (lF 39 g10 g12) → (pS τ (pRowL τ P (i + 1)) = .inl e12) → (cB e12 g12) → Q (g12, some (0, 0)))
    (k6 : (x ≤ 6) → ((bW τ 1 i) ≠ 0) → (6 ≤ (P 0 1)) → ∀ (g15 : zH), (tF h g15) → (cB (eF τ i 6) g15) → Q (g15, some (0, 0))) :
    vP D T (N + 1) 67 2 h [some (2, 16), some (0, x)] [] Q := by
  refine v_loadS (v := (0, x)) (hz_X3_readRows hT _ _ rfl) rfl rfl ?_
  refine v_push (6) (hz_X3_readRows hT _ _ rfl) rfl ?_
  refine v_ic (hz_X3_readRows hT _ _ rfl) (fun hc1 => ?_) (fun hc1 => ?_)
  · have hc1 : 6 < x := hc1
    refine v_load (v := (2, 16)) (hi_X3_readRows_63 hT) rfl rfl ?_
    refine v_getf (v := (2, 39)) (r := 16) (hi_X3_readRows_64 hT) rfl rfl (fun _ => hL.rf) ?_
    refine v_getf (v := (0, (P 0 1))) (r := 39) (hi_X3_readRows_67 hT) rfl rfl (fun _ => hL.ro) ?_
    refine v_if (hi_X3_readRows_70 hT) (fun hc2 => ?_) (fun hc2 => ?_)
    · have hc2 : 0 < (P 0 1) := hc2
      refine v_push (1) (hi_X3_readRows_84 hT) rfl ?_
      refine v_goto (hi_X3_readRows_85 hT) ?_
      refine v_ret (hi_X3_readRows_89 hT) (Or.inl rfl) ?_
      exact k0 hc1 hc2
    · have hc2 : (P 0 1) ≤ 0 := Int.not_lt.mp hc2
      refine v_load (v := (2, 16)) (hi_X3_readRows_73 hT) rfl rfl ?_
      refine v_getR (c := 10) (r := 16) (hi_X3_readRows_74 hT) rfl rfl rfl ?_
      refine v_push (2) (hi_X3_readRows_77 hT) rfl ?_
      refine v_call (w := 2) [some (2, 10), some (0, 2)] hO (hi_X3_readRows_78 hT) rfl rfl (cx_blame hT hO 2 hX (fun g3 ft3 c3 => ?_))
      · show vP D T N 67 81 g3 [some (2, 16), some (0, x)] [(0, 0)] _
        refine vP_hv (fun hv3 => ?_)
        refine v_if (hi_X3_readRows_81 hT) (fun _ => ?_) (fun hc4 => absurd (show (0 : Int) = 0 from (by decide)) hc4)
        refine v_push (0) (hi_X3_readRows_88 hT) rfl ?_
        refine v_ret (hi_X3_readRows_89 hT) (Or.inl rfl) ?_
        exact k1 hc1 hc2 g3 ft3 c3
  · have hc1 : x ≤ 6 := Int.not_lt.mp hc1
    refine v_load (v := (2, 16)) (hz_X3_readRows hT _ _ rfl) rfl rfl ?_
    refine v_getR (c := 10) (r := 16) (hz_X3_readRows hT _ _ rfl) rfl rfl rfl ?_
    refine v_push (1) (hz_X3_readRows hT _ _ rfl) rfl ?_
    refine v_call (w := 2) [some (2, 10), some (0, 1)] hO (hz_X3_readRows hT _ _ rfl) rfl rfl (cx_isWord hT hO 1 hX ?_)
    show vP D T N 67 16 h [some (2, 16), some (0, x)] [(0, (bW τ 1 i))] _
    refine v_if (hz_X3_readRows hT _ _ rfl) (fun hc5 => ?_) (fun hc5 => ?_)
    · have hc5 : (bW τ 1 i) = 0 := hc5
      refine v_load (v := (2, 16)) (hi_X3_readRows_63 hT) rfl rfl ?_
      refine v_getf (v := (2, 39)) (r := 16) (hi_X3_readRows_64 hT) rfl rfl (fun _ => hL.rf) ?_
      refine v_getf (v := (0, (P 0 1))) (r := 39) (hi_X3_readRows_67 hT) rfl rfl (fun _ => hL.ro) ?_
      refine v_if (hi_X3_readRows_70 hT) (fun hc6 => ?_) (fun hc6 => ?_)
      · have hc6 : 0 < (P 0 1) := hc6
        refine v_push (1) (hi_X3_readRows_84 hT) rfl ?_
        refine v_goto (hi_X3_readRows_85 hT) ?_
        refine v_ret (hi_X3_readRows_89 hT) (Or.inl rfl) ?_
        exact k2 hc1 hc5 hc6
      · have hc6 : (P 0 1) ≤ 0 := Int.not_lt.mp hc6
        refine v_load (v := (2, 16)) (hi_X3_readRows_73 hT) rfl rfl ?_
        refine v_getR (c := 10) (r := 16) (hi_X3_readRows_74 hT) rfl rfl rfl ?_
        refine v_push (2) (hi_X3_readRows_77 hT) rfl ?_
        refine v_call (w := 2) [some (2, 10), some (0, 2)] hO (hi_X3_readRows_78 hT) rfl rfl (cx_blame hT hO 2 hX (fun g7 ft7 c7 => ?_))
        · show vP D T N 67 81 g7 [some (2, 16), some (0, x)] [(0, 0)] _
          refine vP_hv (fun hv7 => ?_)
          refine v_if (hi_X3_readRows_81 hT) (fun _ => ?_) (fun hc8 => absurd (show (0 : Int) = 0 from (by decide)) hc8)
          refine v_push (0) (hi_X3_readRows_88 hT) rfl ?_
          refine v_ret (hi_X3_readRows_89 hT) (Or.inl rfl) ?_
          exact k3 hc1 hc5 hc6 g7 ft7 c7
    · have hc5 : (bW τ 1 i) ≠ 0 := hc5
      refine v_load (v := (2, 16)) (hz_X3_readRows hT _ _ rfl) rfl rfl ?_
      refine v_getf (v := (2, 39)) (r := 16) (hz_X3_readRows hT _ _ rfl) rfl rfl (fun _ => hL.rf) ?_
      refine v_getf (v := (0, (P 0 1))) (r := 39) (hz_X3_readRows hT _ _ rfl) rfl rfl (fun _ => hL.ro) ?_
      refine v_push (6) (hz_X3_readRows hT _ _ rfl) rfl ?_
      refine v_ic (hz_X3_readRows hT _ _ rfl) (fun hc9 => ?_) (fun hc9 => ?_)
      · have hc9 : (P 0 1) < 6 := hc9
        refine v_load (v := (2, 16)) (hz_X3_readRows hT _ _ rfl) rfl rfl ?_
        refine v_getR (c := 10) (r := 16) (hz_X3_readRows hT _ _ rfl) rfl rfl rfl ?_
        refine v_call (w := 1) [some (2, 10)] hO (hz_X3_readRows hT _ _ rfl) rfl rfl (cx_adv hT hO hX (ne_10 (bW_y.mp hc5).1) (ne_14 (bW_y.mp hc5).1) (fun g10 ft10 hX10 => ?_))
        · show vP D T N 67 48 g10 [some (2, 16), some (0, x)] [] _
          refine vP_hv (fun hv10 => ?_)
          refine v_load (v := (2, 16)) (hz_X3_readRows hT _ _ rfl) rfl rfl ?_
          refine v_call (w := 3) [some (2, 16), none, none] hO (hz_X3_readRows hT _ _ rfl) rfl rfl (cRd_k (vP_hv (fun hv_ => cx_let_39 hT hO hv_ hX10 hK (cL.tf hL ft10) (show (0 ≤ P 0 0 ∧ P 0 0 ≤ 8) ∧ (0 ≤ P 0 1 ∧ P 0 1 ≤ 6) ∧ (0 ≤ P 0 2 ∧ P 0 2 ≤ 3) ∧ (0 ≤ P 0 3 ∧ P 0 3 ≤ 6) from by omega) (by omega))) (fun g11 P11 j11 lf11 q11 hX11 hL11 hb11 => ?_) (fun g12 e12 lf12 q12 c12 => ?_))
          · show vP D T N 67 52 g11 [some (2, 16), some (0, x)] [(0, 1)] _
            have hb11 : (0 ≤ P11 0 0 ∧ P11 0 0 ≤ 8) ∧ (0 ≤ P11 0 1 ∧ P11 0 1 ≤ 6) ∧ (0 ≤ P11 0 2 ∧ P11 0 2 ≤ 3) ∧ (0 ≤ P11 0 3 ∧ P11 0 3 ≤ 6) := hb11
            refine vP_hv (fun hv11 => ?_)
            refine v_if (hi_X3_readRows_52 hT) (fun hc13 => absurd (show (1 : Int) = 0 from hc13) (by decide)) (fun _ => ?_)
            refine v_iinc (x := x) (u := 1) (w := (x + 1)) [some (2, 16), some (0, (x + 1))] (hz_X3_readRows hT _ _ rfl) rfl rfl (Nat.le_of_ble_eq_true rfl) (vz_inc (by omega) (by omega)) rfl ?_
            refine v_goto (hz_X3_readRows hT _ _ rfl) ?_
            exact k4 hc1 hc5 hc9 g10 ft10 hX10 g11 P11 j11 lf11 q11 hX11 hL11 hb11
          · show vP D T N 67 52 g12 [some (2, 16), some (0, x)] [(0, 0)] _
            refine vP_hv (fun hv12 => ?_)
            refine v_if (hi_X3_readRows_52 hT) (fun _ => ?_) (fun hc14 => absurd (show (0 : Int) = 0 from (by decide)) hc14)
            refine v_push (0) (hz_X3_readRows hT _ _ rfl) rfl ?_
            refine v_ret (hz_X3_readRows hT _ _ rfl) (Or.inl rfl) ?_
            exact k5 hc1 hc5 hc9 g10 ft10 hX10 g12 e12 lf12 q12 c12
      · have hc9 : 6 ≤ (P 0 1) := Int.not_lt.mp hc9
        refine v_load (v := (2, 16)) (hz_X3_readRows hT _ _ rfl) rfl rfl ?_
        refine v_getR (c := 10) (r := 16) (hz_X3_readRows hT _ _ rfl) rfl rfl rfl ?_
        refine v_push (6) (hz_X3_readRows hT _ _ rfl) rfl ?_
        refine v_call (w := 2) [some (2, 10), some (0, 6)] hO (hz_X3_readRows hT _ _ rfl) rfl rfl (cx_blame hT hO 6 hX (fun g15 ft15 c15 => ?_))
        · show vP D T N 67 40 g15 [some (2, 16), some (0, x)] [(0, 0)] _
          refine vP_hv (fun hv15 => ?_)
          refine v_ret (hz_X3_readRows hT _ _ rfl) (Or.inl rfl) ?_
          exact k6 hc1 hc5 hc9 g15 ft15 c15
theorem cx_rows_39 {D : zD} {T : zT} (hT : hTab T) (hO : vOK T) {N : Nat} {h : zH} {B : Nat → Int} {n m i : Nat} {τ P : PT} (hv0 : zHv h) (hX : cX B n m τ i h) (hK : Tks B n m τ) (hL : cL 39 P h) (hb : (0 ≤ P 0 0 ∧ P 0 0 ≤ 8) ∧ (0 ≤ P 0 1 ∧ P 0 1 ≤ 6) ∧ (0 ≤ P 0 2 ∧ P 0 2 ≤ 3) ∧ (0 ≤ P 0 3 ∧ P 0 3 ≤ 6)) (h0 : P 0 1 = 0) : vP D T N 67 0 h [some (2, 16), none] [] (cRd B n m τ 39 (pRows τ 7 P i) h) := by
  refine qx_row0_39 hT hO hv0 hX hK hL hb ?_
  refine vP_loop (fun h' l => ∃ (x : Nat) (P' : PT) (j : Nat), l = [some (2, 16), some (0, (x : Int))] ∧ x ≤ 6 ∧ P' 0 1 = (x : Int) ∧ cX B n m τ j h' ∧ cL 39 P' h' ∧ lF 39 h h' ∧ lB P' ∧ pRows τ 7 P i = pRows τ (7 - x) P' j) ?_ N _ _ ⟨0, P, i, rfl, by decide, h0, hX, hL, lF.rfl, hb, rfl⟩
  rintro N h' l ⟨x, P', j, rfl, hx, hP1, hX', hL', hF', hb', he⟩ ih
  have e7 : 7 - x = (6 - x) + 1 := by omega
  refine vP_hv (fun hv => qx_rows_39 hT hO x hv hX' hK hL' hb' ⟨by omega, by omega⟩ ?_ ?_ ?_ ?_ ?_ ?_ ?_)
  · intros; omega
  · intros; omega
  · intro _ c1 c2
    exact cRd_y (by rw [he, e7]; simp only [pRows, c1, c2, ne_eq, not_true_eq_false, if_false, if_true]) hX' hL' hF' hb'
  · intro _ c1 c2 g f cb
    exact cRd_n (by rw [he, e7]; simp only [pRows, c1, Int.not_lt.mpr c2, ne_eq, not_true_eq_false, if_false]) cb (hF'.t f)
  · intro _ c1 c2 g10 f10 hX10 g11 P11 j11 f11 q11 hX11 hL11 hb11
    have e1 : pRows τ (6 - x + 1) P' j = pRows τ (6 - x) P11 j11 := by
      simp only [pRows, pRow, c1, Int.not_le.mpr c2, q11, ne_eq, not_false_eq_true, if_true, if_false, eb_r]
    have e2 : P11 0 1 = P' 0 1 + 1 := pRowL_r q11
    refine ih _ _ ⟨x + 1, P11, j11, rfl, by omega, by omega, hX11, hL11, (hF'.t f10).trans f11, hb11, ?_⟩
    rw [he, e7, e1, show 7 - (x + 1) = 6 - x from by omega]
  · intro _ c1 c2 g10 f10 hX10 g12 e12 f12 q12 c12
    exact cRd_n (by rw [he, e7]; simp only [pRows, pRow, c1, Int.not_le.mpr c2, q12, ne_eq, not_false_eq_true, if_true, if_false, eb_l]) c12 ((hF'.t f10).trans f12)
  · intro _ c1 c2 g f cb
    exact cRd_n (by rw [he, e7]; simp only [pRows, pRow, pS, c1, c2, ne_eq, not_false_eq_true, if_true, eb_l]) cb (hF'.t f)
theorem cx_part_39 {D : zD} {T : zT} (hT : hTab T) (hO : vOK T) {N : Nat} {h : zH} {B : Nat → Int} {n m i : Nat} {τ P : PT} (hv0 : zHv h) (hX : cX B n m τ i h) (hK : Tks B n m τ) (hL : cL 39 P h) (hb : (0 ≤ P 0 0 ∧ P 0 0 ≤ 8) ∧ (0 ≤ P 0 1 ∧ P 0 1 ≤ 6) ∧ (0 ≤ P 0 2 ∧ P 0 2 ≤ 3) ∧ (0 ≤ P 0 3 ∧ P 0 3 ≤ 6)) :
    vP D T N 65 0 h [some (2, 16)] [] (cRd B n m τ 39 (pS τ (pPart τ P i)) h) := by
  refine v_load (v := (2, 16)) (hz_X3_readPart hT _ _ rfl) rfl rfl ?_
  refine v_getR (c := 10) (r := 16) (hz_X3_readPart hT _ _ rfl) rfl rfl rfl ?_
  refine v_push (2) (hz_X3_readPart hT _ _ rfl) rfl ?_
  refine v_call (w := 2) [some (2, 10), some (0, 2)] hO (hz_X3_readPart hT _ _ rfl) rfl rfl (cx_isWord hT hO 2 hX ?_)
  show vP D T N 65 8 h [some (2, 16)] [(0, (bW τ 2 i))] _
  refine v_if (hz_X3_readPart hT _ _ rfl) (fun hc1 => ?_) (fun hc1 => ?_)
  · have hc1 : (bW τ 2 i) = 0 := hc1
    refine v_load (v := (2, 16)) (hz_X3_readPart hT _ _ rfl) rfl rfl ?_
    refine v_getR (c := 10) (r := 16) (hz_X3_readPart hT _ _ rfl) rfl rfl rfl ?_
    refine v_push (4) (hz_X3_readPart hT _ _ rfl) rfl ?_
    refine v_call (w := 2) [some (2, 10), some (0, 4)] hO (hz_X3_readPart hT _ _ rfl) rfl rfl (cx_isWord hT hO 4 hX ?_)
    show vP D T N 65 24 h [some (2, 16)] [(0, (bW τ 4 i))] _
    refine v_if (hz_X3_readPart hT _ _ rfl) (fun hc2 => ?_) (fun hc2 => ?_)
    · have hc2 : (bW τ 4 i) = 0 := hc2
      refine v_load (v := (2, 16)) (hz_X3_readPart hT _ _ rfl) rfl rfl ?_
      refine v_getR (c := 10) (r := 16) (hz_X3_readPart hT _ _ rfl) rfl rfl rfl ?_
      refine v_push (5) (hz_X3_readPart hT _ _ rfl) rfl ?_
      refine v_call (w := 2) [some (2, 10), some (0, 5)] hO (hz_X3_readPart hT _ _ rfl) rfl rfl (cx_isWord hT hO 5 hX ?_)
      show vP D T N 65 40 h [some (2, 16)] [(0, (bW τ 5 i))] _
      refine v_if (hz_X3_readPart hT _ _ rfl) (fun hc3 => ?_) (fun hc3 => ?_)
      · have hc3 : (bW τ 5 i) = 0 := hc3
        refine v_load (v := (2, 16)) (hz_X3_readPart hT _ _ rfl) rfl rfl ?_
        refine v_getR (c := 10) (r := 16) (hz_X3_readPart hT _ _ rfl) rfl rfl rfl ?_
        refine v_push (2) (hz_X3_readPart hT _ _ rfl) rfl ?_
        refine v_call (w := 2) [some (2, 10), some (0, 2)] hO (hz_X3_readPart hT _ _ rfl) rfl rfl (cx_blame hT hO 2 hX (fun g4 ft4 c4 => ?_))
        · show vP D T N 65 56 g4 [some (2, 16)] [(0, 0)] _
          refine vP_hv (fun hv4 => ?_)
          refine v_ret (hz_X3_readPart hT _ _ rfl) (Or.inl rfl) ?_
          exact cRd_n (by simp only [pS, pPart, hc1, hc2, hc3, ne_eq, not_true_eq_false, not_false_eq_true, if_true, if_false, eq_self, eb_l, eb_r]) c4 (lF.t lF.rfl ft4)
      · have hc3 : (bW τ 5 i) ≠ 0 := hc3
        refine v_load (v := (2, 16)) (hz_X3_readPart hT _ _ rfl) rfl rfl ?_
        refine v_call (w := 6) [some (2, 16), none, none, none, none, none] hO (hz_X3_readPart hT _ _ rfl) rfl rfl (cRd_k (vP_hv (fun hv_ => cx_comp_39 hT hO hv_ hX hK hL (show (0 ≤ P 0 0 ∧ P 0 0 ≤ 8) ∧ (0 ≤ P 0 1 ∧ P 0 1 ≤ 6) ∧ (0 ≤ P 0 2 ∧ P 0 2 ≤ 3) ∧ (0 ≤ P 0 3 ∧ P 0 3 ≤ 6) from by omega) hc3)) (fun g5 P5 j5 lf5 q5 hX5 hL5 hb5 => ?_) (fun g6 e6 lf6 q6 c6 => ?_))
        · show vP D T N 65 47 g5 [some (2, 16)] [(0, 1)] _
          have hb5 : (0 ≤ P5 0 0 ∧ P5 0 0 ≤ 8) ∧ (0 ≤ P5 0 1 ∧ P5 0 1 ≤ 6) ∧ (0 ≤ P5 0 2 ∧ P5 0 2 ≤ 3) ∧ (0 ≤ P5 0 3 ∧ P5 0 3 ≤ 6) := hb5
          refine vP_hv (fun hv5 => ?_)
          refine v_ret (hi_X3_readPart_47 hT) (Or.inl rfl) ?_
          exact cRd_y (P := P5) (j := j5) (Eq.trans (by simp only [pS, pPart, hc1, hc2, hc3, ne_eq, not_true_eq_false, not_false_eq_true, if_true, if_false, eq_self, eb_l, eb_r]) q5) hX5 hL5 (lF.trans lF.rfl lf5) (show (0 ≤ P5 0 0 ∧ P5 0 0 ≤ 8) ∧ (0 ≤ P5 0 1 ∧ P5 0 1 ≤ 6) ∧ (0 ≤ P5 0 2 ∧ P5 0 2 ≤ 3) ∧ (0 ≤ P5 0 3 ∧ P5 0 3 ≤ 6) from by omega)
        · show vP D T N 65 47 g6 [some (2, 16)] [(0, 0)] _
          refine vP_hv (fun hv6 => ?_)
          refine v_ret (hi_X3_readPart_47 hT) (Or.inl rfl) ?_
          exact cRd_n (Eq.trans (by simp only [pS, pPart, hc1, hc2, hc3, ne_eq, not_true_eq_false, not_false_eq_true, if_true, if_false, eq_self, eb_l, eb_r]) q6) c6 (lF.trans lF.rfl lf6)
    · have hc2 : (bW τ 4 i) ≠ 0 := hc2
      refine v_load (v := (2, 16)) (hz_X3_readPart hT _ _ rfl) rfl rfl ?_
      refine v_call (w := 2) [some (2, 16), none] hO (hz_X3_readPart hT _ _ rfl) rfl rfl (cRd_k (vP_hv (fun hv_ => cx_cops_39 hT hO hv_ hX hK hL (show (0 ≤ P 0 0 ∧ P 0 0 ≤ 8) ∧ (0 ≤ P 0 1 ∧ P 0 1 ≤ 6) ∧ (0 ≤ P 0 2 ∧ P 0 2 ≤ 3) ∧ (0 ≤ P 0 3 ∧ P 0 3 ≤ 6) from by omega) hc2)) (fun g7 P7 j7 lf7 q7 hX7 hL7 hb7 => ?_) (fun g8 e8 lf8 q8 c8 => ?_))
      · show vP D T N 65 31 g7 [some (2, 16)] [(0, 1)] _
        have hb7 : (0 ≤ P7 0 0 ∧ P7 0 0 ≤ 8) ∧ (0 ≤ P7 0 1 ∧ P7 0 1 ≤ 6) ∧ (0 ≤ P7 0 2 ∧ P7 0 2 ≤ 3) ∧ (0 ≤ P7 0 3 ∧ P7 0 3 ≤ 6) := hb7
        refine vP_hv (fun hv7 => ?_)
        refine v_ret (hi_X3_readPart_31 hT) (Or.inl rfl) ?_
        exact cRd_y (P := P7) (j := j7) (Eq.trans (by simp only [pS, pPart, hc1, hc2, ne_eq, not_true_eq_false, not_false_eq_true, if_true, if_false, eq_self, eb_l, eb_r]) q7) hX7 hL7 (lF.trans lF.rfl lf7) (show (0 ≤ P7 0 0 ∧ P7 0 0 ≤ 8) ∧ (0 ≤ P7 0 1 ∧ P7 0 1 ≤ 6) ∧ (0 ≤ P7 0 2 ∧ P7 0 2 ≤ 3) ∧ (0 ≤ P7 0 3 ∧ P7 0 3 ≤ 6) from by omega)
      · show vP D T N 65 31 g8 [some (2, 16)] [(0, 0)] _
        refine vP_hv (fun hv8 => ?_)
        refine v_ret (hi_X3_readPart_31 hT) (Or.inl rfl) ?_
        exact cRd_n (Eq.trans (by simp only [pS, pPart, hc1, hc2, ne_eq, not_true_eq_false, not_false_eq_true, if_true, if_false, eq_self, eb_l, eb_r]) q8) c8 (lF.trans lF.rfl lf8)
  · have hc1 : (bW τ 2 i) ≠ 0 := hc1
    refine v_load (v := (2, 16)) (hz_X3_readPart hT _ _ rfl) rfl rfl ?_
    refine v_call (w := 3) [some (2, 16), none, none] hO (hz_X3_readPart hT _ _ rfl) rfl rfl (cRd_k (vP_hv (fun hv_ => cx_rise_39 hT hO hv_ hX hK hL (show (0 ≤ P 0 0 ∧ P 0 0 ≤ 8) ∧ (0 ≤ P 0 1 ∧ P 0 1 ≤ 6) ∧ (0 ≤ P 0 2 ∧ P 0 2 ≤ 3) ∧ (0 ≤ P 0 3 ∧ P 0 3 ≤ 6) from by omega) hc1)) (fun g9 P9 j9 lf9 q9 hX9 hL9 hb9 => ?_) (fun g10 e10 lf10 q10 c10 => ?_))
    · show vP D T N 65 15 g9 [some (2, 16)] [(0, 1)] _
      have hb9 : (0 ≤ P9 0 0 ∧ P9 0 0 ≤ 8) ∧ (0 ≤ P9 0 1 ∧ P9 0 1 ≤ 6) ∧ (0 ≤ P9 0 2 ∧ P9 0 2 ≤ 3) ∧ (0 ≤ P9 0 3 ∧ P9 0 3 ≤ 6) := hb9
      refine vP_hv (fun hv9 => ?_)
      refine v_ret (hi_X3_readPart_15 hT) (Or.inl rfl) ?_
      exact cRd_y (P := P9) (j := j9) (Eq.trans (by simp only [pS, pPart, hc1, ne_eq, not_true_eq_false, not_false_eq_true, if_true, if_false, eq_self, eb_l, eb_r]) q9) hX9 hL9 (lF.trans lF.rfl lf9) (show (0 ≤ P9 0 0 ∧ P9 0 0 ≤ 8) ∧ (0 ≤ P9 0 1 ∧ P9 0 1 ≤ 6) ∧ (0 ≤ P9 0 2 ∧ P9 0 2 ≤ 3) ∧ (0 ≤ P9 0 3 ∧ P9 0 3 ≤ 6) from by omega)
    · show vP D T N 65 15 g10 [some (2, 16)] [(0, 0)] _
      refine vP_hv (fun hv10 => ?_)
      refine v_ret (hi_X3_readPart_15 hT) (Or.inl rfl) ?_
      exact cRd_n (Eq.trans (by simp only [pS, pPart, hc1, ne_eq, not_true_eq_false, not_false_eq_true, if_true, if_false, eq_self, eb_l, eb_r]) q10) c10 (lF.trans lF.rfl lf10)
theorem q_fi0_40 {D : zD} {T : zT} (hT : hTab T) (hO : vOK T) {N : Nat} {h : zH} {Q : zR → Prop} (v : Int) (hv0 : zHv h)
    (k0 : vP D T N 0 5 h [some (2, 40), some (0, v), some (0, 0), some (0, 48)] [] Q) :
    vP D T N 0 0 h [some (2, 40), some (0, v), none, none] [] Q := by
  refine v_push (0) (hi_J7_fill_53178_0 hT) rfl ?_
  refine v_store1 [some (2, 40), some (0, v), some (0, 0), none] (hi_J7_fill_53178_1 hT) ⟨rfl, Nat.ne_of_beq_eq_false rfl⟩ (Nat.le_of_ble_eq_true rfl) rfl ?_
  refine v_load (v := (2, 40)) (hi_J7_fill_53178_2 hT) rfl rfl ?_
  refine v_alen (r := 40) (n := 48) (hi_J7_fill_53178_3 hT) rfl rfl ?_
  show vP D T N 0 4 h [some (2, 40), some (0, v), some (0, 0), none] [(0, 48)] _
  refine v_store1 [some (2, 40), some (0, v), some (0, 0), some (0, 48)] (hi_J7_fill_53178_4 hT) ⟨rfl, Nat.ne_of_beq_eq_false rfl⟩ (Nat.le_of_ble_eq_true rfl) rfl ?_
  exact k0 
theorem q_fi1_40 {D : zD} {T : zT} (hT : hTab T) (hO : vOK T) {N : Nat} {h : zH} {Q : zR → Prop} (v i : Int) (hv0 : zHv h)
    (k0 : (i < 48) → (0 ≤ i) → vP D T N 0 5 (zset h 40 i.toNat (0, v)) [some (2, 40), some (0, v), some (0, (i + 1)), some (0, 48)] [] Q)
    (k1 : (48 ≤ i) → Q (h, none)) :
    vP D T (N + 1) 0 5 h [some (2, 40), some (0, v), some (0, i), some (0, 48)] [] Q := by
  refine v_loadS (v := (0, i)) (hi_J7_fill_53178_5 hT) rfl rfl ?_
  refine v_load (v := (0, 48)) (hi_J7_fill_53178_6 hT) rfl rfl ?_
  refine v_ic (hi_J7_fill_53178_7 hT) (fun hc1 => ?_) (fun hc1 => ?_)
  · have hc1 : i < 48 := hc1
    refine v_load (v := (2, 40)) (hi_J7_fill_53178_10 hT) rfl rfl ?_
    refine v_load (v := (0, i)) (hi_J7_fill_53178_11 hT) rfl rfl ?_
    refine v_load (v := (0, v)) (hi_J7_fill_53178_12 hT) rfl rfl ?_
    refine v_ast (r := 40) (hi_J7_fill_53178_13 hT) rfl rfl (fun ha2 hb3 hf4 => ?_)
    refine v_iinc (x := i) (u := 1) (w := (i + 1)) [some (2, 40), some (0, v), some (0, (i + 1)), some (0, 48)] (hi_J7_fill_53178_14 hT) rfl rfl (Nat.le_of_ble_eq_true rfl) (vz_inc (by omega) (by omega)) rfl ?_
    refine v_goto (hi_J7_fill_53178_17 hT) ?_
    exact k0 hc1 ha2
  · have hc1 : 48 ≤ i := Int.not_lt.mp hc1
    refine v_ret0 (hi_J7_fill_53178_20 hT) ?_
    exact k1 hc1
theorem cx_fi_40 {D : zD} {T : zT} (hT : hTab T) (hO : vOK T) {N : Nat} {h : zH} {Q : zR → Prop} (v : Int) (k : ∀ g : zH, (∀ a b, g a b = if a = 40 ∧ b < 48 then (0, v) else h a b) → Q (g, none)) : vP D T N 0 0 h [some (2, 40), some (0, v), none, none] [] Q := by
  refine vP_hv (fun hv => q_fi0_40 hT hO v hv ?_)
  have key := vP_loop (D := D) (T := T) (mi := 0) (pc := 5) (Q := Q) (fun h' l => ∃ i : Int, 0 ≤ i ∧ i ≤ 48 ∧ l = [some (2, 40), some (0, v), some (0, i), some (0, 48)] ∧ ∀ a b, h' a b = if a = 40 ∧ (b : Int) < i then (0, v) else h a b) ?_
  · refine key N h _ ⟨0, Int.le_refl _, by decide, rfl, fun a b => ?_⟩
    rw [if_neg (fun c => by omega)]
  · rintro N h' l ⟨i, i0, i1, rfl, he⟩ ih
    refine vP_hv (fun hv' => q_fi1_40 hT hO v i hv' ?_ ?_)
    · intro c1 c2
      refine ih _ _ ⟨i + 1, by omega, by omega, rfl, fun a b => ?_⟩
      by_cases e : a = 40 ∧ b = i.toNat
      · rw [show zset h' 40 i.toNat (0, v) a b = (0, v) from if_pos e, if_pos ⟨e.1, by omega⟩]
      · rw [zset_ne e, he]
        by_cases e2 : a = 40 ∧ (b : Int) < i
        · rw [if_pos e2, if_pos ⟨e2.1, by omega⟩]
        · rw [if_neg e2, if_neg (fun c => e2 ⟨c.1, by have := e; omega⟩)]
    · intro c1
      refine k h' (fun a b => ?_)
      rw [he]
      by_cases e : a = 40 ∧ b < 48
      · rw [if_pos e, if_pos ⟨e.1, by omega⟩]
      · rw [if_neg e, if_neg (fun c => e ⟨c.1, by omega⟩)]
theorem q_fi0_41 {D : zD} {T : zT} (hT : hTab T) (hO : vOK T) {N : Nat} {h : zH} {Q : zR → Prop} (v : Int) (hv0 : zHv h)
    (k0 : vP D T N 0 5 h [some (2, 41), some (0, v), some (0, 0), some (0, 48)] [] Q) :
    vP D T N 0 0 h [some (2, 41), some (0, v), none, none] [] Q := by
  refine v_push (0) (hi_J7_fill_53178_0 hT) rfl ?_
  refine v_store1 [some (2, 41), some (0, v), some (0, 0), none] (hi_J7_fill_53178_1 hT) ⟨rfl, Nat.ne_of_beq_eq_false rfl⟩ (Nat.le_of_ble_eq_true rfl) rfl ?_
  refine v_load (v := (2, 41)) (hi_J7_fill_53178_2 hT) rfl rfl ?_
  refine v_alen (r := 41) (n := 48) (hi_J7_fill_53178_3 hT) rfl rfl ?_
  show vP D T N 0 4 h [some (2, 41), some (0, v), some (0, 0), none] [(0, 48)] _
  refine v_store1 [some (2, 41), some (0, v), some (0, 0), some (0, 48)] (hi_J7_fill_53178_4 hT) ⟨rfl, Nat.ne_of_beq_eq_false rfl⟩ (Nat.le_of_ble_eq_true rfl) rfl ?_
  exact k0 
theorem q_fi1_41 {D : zD} {T : zT} (hT : hTab T) (hO : vOK T) {N : Nat} {h : zH} {Q : zR → Prop} (v i : Int) (hv0 : zHv h)
    (k0 : (i < 48) → (0 ≤ i) → vP D T N 0 5 (zset h 41 i.toNat (0, v)) [some (2, 41), some (0, v), some (0, (i + 1)), some (0, 48)] [] Q)
    (k1 : (48 ≤ i) → Q (h, none)) :
    vP D T (N + 1) 0 5 h [some (2, 41), some (0, v), some (0, i), some (0, 48)] [] Q := by
  refine v_loadS (v := (0, i)) (hi_J7_fill_53178_5 hT) rfl rfl ?_
  refine v_load (v := (0, 48)) (hi_J7_fill_53178_6 hT) rfl rfl ?_
  refine v_ic (hi_J7_fill_53178_7 hT) (fun hc1 => ?_) (fun hc1 => ?_)
  · have hc1 : i < 48 := hc1
    refine v_load (v := (2, 41)) (hi_J7_fill_53178_10 hT) rfl rfl ?_
    refine v_load (v := (0, i)) (hi_J7_fill_53178_11 hT) rfl rfl ?_
    refine v_load (v := (0, v)) (hi_J7_fill_53178_12 hT) rfl rfl ?_
    refine v_ast (r := 41) (hi_J7_fill_53178_13 hT) rfl rfl (fun ha2 hb3 hf4 => ?_)
    refine v_iinc (x := i) (u := 1) (w := (i + 1)) [some (2, 41), some (0, v), some (0, (i + 1)), some (0, 48)] (hi_J7_fill_53178_14 hT) rfl rfl (Nat.le_of_ble_eq_true rfl) (vz_inc (by omega) (by omega)) rfl ?_
    refine v_goto (hi_J7_fill_53178_17 hT) ?_
    exact k0 hc1 ha2
  · have hc1 : 48 ≤ i := Int.not_lt.mp hc1
    refine v_ret0 (hi_J7_fill_53178_20 hT) ?_
    exact k1 hc1
theorem cx_fi_41 {D : zD} {T : zT} (hT : hTab T) (hO : vOK T) {N : Nat} {h : zH} {Q : zR → Prop} (v : Int) (k : ∀ g : zH, (∀ a b, g a b = if a = 41 ∧ b < 48 then (0, v) else h a b) → Q (g, none)) : vP D T N 0 0 h [some (2, 41), some (0, v), none, none] [] Q := by
  refine vP_hv (fun hv => q_fi0_41 hT hO v hv ?_)
  have key := vP_loop (D := D) (T := T) (mi := 0) (pc := 5) (Q := Q) (fun h' l => ∃ i : Int, 0 ≤ i ∧ i ≤ 48 ∧ l = [some (2, 41), some (0, v), some (0, i), some (0, 48)] ∧ ∀ a b, h' a b = if a = 41 ∧ (b : Int) < i then (0, v) else h a b) ?_
  · refine key N h _ ⟨0, Int.le_refl _, by decide, rfl, fun a b => ?_⟩
    rw [if_neg (fun c => by omega)]
  · rintro N h' l ⟨i, i0, i1, rfl, he⟩ ih
    refine vP_hv (fun hv' => q_fi1_41 hT hO v i hv' ?_ ?_)
    · intro c1 c2
      refine ih _ _ ⟨i + 1, by omega, by omega, rfl, fun a b => ?_⟩
      by_cases e : a = 41 ∧ b = i.toNat
      · rw [show zset h' 41 i.toNat (0, v) a b = (0, v) from if_pos e, if_pos ⟨e.1, by omega⟩]
      · rw [zset_ne e, he]
        by_cases e2 : a = 41 ∧ (b : Int) < i
        · rw [if_pos e2, if_pos ⟨e2.1, by omega⟩]
        · rw [if_neg e2, if_neg (fun c => e2 ⟨c.1, by have := e; omega⟩)]
    · intro c1
      refine k h' (fun a b => ?_)
      rw [he]
      by_cases e : a = 41 ∧ b < 48
      · rw [if_pos e, if_pos ⟨e.1, by omega⟩]
      · rw [if_neg e, if_neg (fun c => e ⟨c.1, by omega⟩)]
theorem q_fi0_42 {D : zD} {T : zT} (hT : hTab T) (hO : vOK T) {N : Nat} {h : zH} {Q : zR → Prop} (v : Int) (hv0 : zHv h)
    (k0 : vP D T N 0 5 h [some (2, 42), some (0, v), some (0, 0), some (0, 144)] [] Q) :
    vP D T N 0 0 h [some (2, 42), some (0, v), none, none] [] Q := by
  refine v_push (0) (hi_J7_fill_53178_0 hT) rfl ?_
  refine v_store1 [some (2, 42), some (0, v), some (0, 0), none] (hi_J7_fill_53178_1 hT) ⟨rfl, Nat.ne_of_beq_eq_false rfl⟩ (Nat.le_of_ble_eq_true rfl) rfl ?_
  refine v_load (v := (2, 42)) (hi_J7_fill_53178_2 hT) rfl rfl ?_
  refine v_alen (r := 42) (n := 144) (hi_J7_fill_53178_3 hT) rfl rfl ?_
  show vP D T N 0 4 h [some (2, 42), some (0, v), some (0, 0), none] [(0, 144)] _
  refine v_store1 [some (2, 42), some (0, v), some (0, 0), some (0, 144)] (hi_J7_fill_53178_4 hT) ⟨rfl, Nat.ne_of_beq_eq_false rfl⟩ (Nat.le_of_ble_eq_true rfl) rfl ?_
  exact k0 
theorem q_fi1_42 {D : zD} {T : zT} (hT : hTab T) (hO : vOK T) {N : Nat} {h : zH} {Q : zR → Prop} (v i : Int) (hv0 : zHv h)
    (k0 : (i < 144) → (0 ≤ i) → vP D T N 0 5 (zset h 42 i.toNat (0, v)) [some (2, 42), some (0, v), some (0, (i + 1)), some (0, 144)] [] Q)
    (k1 : (144 ≤ i) → Q (h, none)) :
    vP D T (N + 1) 0 5 h [some (2, 42), some (0, v), some (0, i), some (0, 144)] [] Q := by
  refine v_loadS (v := (0, i)) (hi_J7_fill_53178_5 hT) rfl rfl ?_
  refine v_load (v := (0, 144)) (hi_J7_fill_53178_6 hT) rfl rfl ?_
  refine v_ic (hi_J7_fill_53178_7 hT) (fun hc1 => ?_) (fun hc1 => ?_)
  · have hc1 : i < 144 := hc1
    refine v_load (v := (2, 42)) (hi_J7_fill_53178_10 hT) rfl rfl ?_
    refine v_load (v := (0, i)) (hi_J7_fill_53178_11 hT) rfl rfl ?_
    refine v_load (v := (0, v)) (hi_J7_fill_53178_12 hT) rfl rfl ?_
    refine v_ast (r := 42) (hi_J7_fill_53178_13 hT) rfl rfl (fun ha2 hb3 hf4 => ?_)
    refine v_iinc (x := i) (u := 1) (w := (i + 1)) [some (2, 42), some (0, v), some (0, (i + 1)), some (0, 144)] (hi_J7_fill_53178_14 hT) rfl rfl (Nat.le_of_ble_eq_true rfl) (vz_inc (by omega) (by omega)) rfl ?_
    refine v_goto (hi_J7_fill_53178_17 hT) ?_
    exact k0 hc1 ha2
  · have hc1 : 144 ≤ i := Int.not_lt.mp hc1
    refine v_ret0 (hi_J7_fill_53178_20 hT) ?_
    exact k1 hc1
theorem cx_fi_42 {D : zD} {T : zT} (hT : hTab T) (hO : vOK T) {N : Nat} {h : zH} {Q : zR → Prop} (v : Int) (k : ∀ g : zH, (∀ a b, g a b = if a = 42 ∧ b < 144 then (0, v) else h a b) → Q (g, none)) : vP D T N 0 0 h [some (2, 42), some (0, v), none, none] [] Q := by
  refine vP_hv (fun hv => q_fi0_42 hT hO v hv ?_)
  have key := vP_loop (D := D) (T := T) (mi := 0) (pc := 5) (Q := Q) (fun h' l => ∃ i : Int, 0 ≤ i ∧ i ≤ 144 ∧ l = [some (2, 42), some (0, v), some (0, i), some (0, 144)] ∧ ∀ a b, h' a b = if a = 42 ∧ (b : Int) < i then (0, v) else h a b) ?_
  · refine key N h _ ⟨0, Int.le_refl _, by decide, rfl, fun a b => ?_⟩
    rw [if_neg (fun c => by omega)]
  · rintro N h' l ⟨i, i0, i1, rfl, he⟩ ih
    refine vP_hv (fun hv' => q_fi1_42 hT hO v i hv' ?_ ?_)
    · intro c1 c2
      refine ih _ _ ⟨i + 1, by omega, by omega, rfl, fun a b => ?_⟩
      by_cases e : a = 42 ∧ b = i.toNat
      · rw [show zset h' 42 i.toNat (0, v) a b = (0, v) from if_pos e, if_pos ⟨e.1, by omega⟩]
      · rw [zset_ne e, he]
        by_cases e2 : a = 42 ∧ (b : Int) < i
        · rw [if_pos e2, if_pos ⟨e2.1, by omega⟩]
        · rw [if_neg e2, if_neg (fun c => e2 ⟨c.1, by have := e; omega⟩)]
    · intro c1
      refine k h' (fun a b => ?_)
      rw [he]
      by_cases e : a = 42 ∧ b < 144
      · rw [if_pos e, if_pos ⟨e.1, by omega⟩]
      · rw [if_neg e, if_neg (fun c => e ⟨c.1, by omega⟩)]
theorem qx_clear_39 {D : zD} {T : zT} (hT : hTab T) (hO : vOK T) {N : Nat} {h : zH} {Q : zR → Prop}  (hv0 : zHv h)
    (k0 : ∀ (g6 : zH), (∀ a b, g6 a b = if a = 40 ∧ b < 48 then (0, 0) else (zset (zset (zset (zset (zset h 39 0 (0, 0)) 39 1 (0, 0)) 39 2 (0, 1)) 39 3 (0, 0)) 39 4 (0, 0)) a b) → ∀ (g7 : zH), (∀ a b, g7 a b = if a = 41 ∧ b < 48 then (0, 0) else g6 a b) → ∀ (g8 : zH), (∀ a b, g8 a b = if a = 42 ∧ b < 144 then (0, 0) else g7 a b) → Q (zset (zset g8 49 0 (0, -1)) 49 1 (0, 0), none)) :
    vP D T N 30 0 h [some (2, 39)] [] Q := by
  refine v_load (v := (2, 39)) (hz_X2_clear hT _ _ rfl) rfl rfl ?_
  refine v_push (0) (hz_X2_clear hT _ _ rfl) rfl ?_
  refine v_putf (r := 39) hO (hz_X2_clear hT _ _ rfl) rfl (fun hf1 => ?_)
  refine v_load (v := (2, 39)) (hz_X2_clear hT _ _ rfl) rfl rfl ?_
  refine v_push (0) (hz_X2_clear hT _ _ rfl) rfl ?_
  refine v_putf (r := 39) hO (hz_X2_clear hT _ _ rfl) rfl (fun hf2 => ?_)
  refine v_load (v := (2, 39)) (hz_X2_clear hT _ _ rfl) rfl rfl ?_
  refine v_push (1) (hz_X2_clear hT _ _ rfl) rfl ?_
  refine v_putf (r := 39) hO (hz_X2_clear hT _ _ rfl) rfl (fun hf3 => ?_)
  refine v_load (v := (2, 39)) (hz_X2_clear hT _ _ rfl) rfl rfl ?_
  refine v_push (0) (hz_X2_clear hT _ _ rfl) rfl ?_
  refine v_putf (r := 39) hO (hz_X2_clear hT _ _ rfl) rfl (fun hf4 => ?_)
  refine v_load (v := (2, 39)) (hz_X2_clear hT _ _ rfl) rfl rfl ?_
  refine v_push (0) (hz_X2_clear hT _ _ rfl) rfl ?_
  refine v_putf (r := 39) hO (hz_X2_clear hT _ _ rfl) rfl (fun hf5 => ?_)
  refine v_load (v := (2, 39)) (hz_X2_clear hT _ _ rfl) rfl rfl ?_
  refine v_getR (c := 40) (r := 39) (hz_X2_clear hT _ _ rfl) rfl rfl rfl ?_
  refine v_push (0) (hz_X2_clear hT _ _ rfl) rfl ?_
  refine v_call (w := 4) [some (2, 40), some (0, 0), none, none] hO (hz_X2_clear hT _ _ rfl) rfl rfl (cx_fi_40 hT hO 0 (fun g6 ff6 => ?_))
  · show vP D T N 30 33 g6 [some (2, 39)] [] _
    refine vP_hv (fun hv6 => ?_)
    refine v_load (v := (2, 39)) (hz_X2_clear hT _ _ rfl) rfl rfl ?_
    refine v_getR (c := 41) (r := 39) (hz_X2_clear hT _ _ rfl) rfl rfl rfl ?_
    refine v_push (0) (hz_X2_clear hT _ _ rfl) rfl ?_
    refine v_call (w := 4) [some (2, 41), some (0, 0), none, none] hO (hz_X2_clear hT _ _ rfl) rfl rfl (cx_fi_41 hT hO 0 (fun g7 ff7 => ?_))
    · show vP D T N 30 41 g7 [some (2, 39)] [] _
      refine vP_hv (fun hv7 => ?_)
      refine v_load (v := (2, 39)) (hz_X2_clear hT _ _ rfl) rfl rfl ?_
      refine v_getR (c := 42) (r := 39) (hz_X2_clear hT _ _ rfl) rfl rfl rfl ?_
      refine v_push (0) (hz_X2_clear hT _ _ rfl) rfl ?_
      refine v_call (w := 4) [some (2, 42), some (0, 0), none, none] hO (hz_X2_clear hT _ _ rfl) rfl rfl (cx_fi_42 hT hO 0 (fun g8 ff8 => ?_))
      · show vP D T N 30 49 g8 [some (2, 39)] [] _
        refine vP_hv (fun hv8 => ?_)
        refine v_load (v := (2, 39)) (hz_X2_clear hT _ _ rfl) rfl rfl ?_
        refine v_getR (c := 49) (r := 39) (hz_X2_clear hT _ _ rfl) rfl rfl rfl ?_
        refine v_call (w := 1) [some (2, 49)] hO (hz_X2_clear hT _ _ rfl) rfl rfl ?_
        refine v_load (v := (2, 49)) (hz_X5_forget hT _ _ rfl) rfl rfl ?_
        refine v_push (-1) (hz_X5_forget hT _ _ rfl) rfl ?_
        refine v_putf (r := 49) hO (hz_X5_forget hT _ _ rfl) rfl (fun hf9 => ?_)
        refine v_load (v := (2, 49)) (hz_X5_forget hT _ _ rfl) rfl rfl ?_
        refine v_push (0) (hz_X5_forget hT _ _ rfl) rfl ?_
        refine v_putf (r := 49) hO (hz_X5_forget hT _ _ rfl) rfl (fun hf10 => ?_)
        refine v_ret0 (hz_X5_forget hT _ _ rfl) ?_
        show vP D T N 30 56 (zset (zset g8 49 0 (0, -1)) 49 1 (0, 0)) [some (2, 39)] [] _
        refine v_ret0 (hz_X2_clear hT _ _ rfl) ?_
        exact k0 g6 ff6 g7 ff7 g8 ff8
theorem cx_clear_39 {D : zD} {T : zT} {N : Nat} {h : zH} {Q : zR → Prop} (hT : hTab T) (hO : vOK T) (k : ∀ g, (∀ a b, ¬ (39 ≤ a ∧ a ≤ 49) → g a b = h a b) → cP 39 pO g → g 49 0 = (0, -1) → g 49 1 = (0, 0) → Q (g, none)) : vP D T N 30 0 h [some (2, 39)] [] Q := by
  refine vP_hv (fun hv => qx_clear_39 hT hO hv ?_)
  intro g6 f6 g7 f7 g8 f8
  have e8 : ∀ a b, a ≠ 40 → a ≠ 41 → a ≠ 42 → g8 a b = zset (zset (zset (zset (zset h 39 0 (0, 0)) 39 1 (0, 0)) 39 2 (0, 1)) 39 3 (0, 0)) 39 4 (0, 0) a b := fun a b h1 h2 h3 => by
    rw [f8, if_neg (fun c => h3 c.1), f7, if_neg (fun c => h2 c.1), f6, if_neg (fun c => h1 c.1)]
  refine k _ (fun a b hn => ?_) ⟨⟨?_, ?_, ?_, ?_, ?_⟩, fun j hj => ?_, fun j hj => ?_, fun j hj => ?_, fun j hj => absurd hj (by show ¬ (j : Int) < 0; omega)⟩ ((zset_ne (by decide)).trans zset_same) zset_same
  · rw [zset_ne (fun c => by omega), zset_ne (fun c => by omega), e8 a b (by omega) (by omega) (by omega), zset_ne (fun c => by omega), zset_ne (fun c => by omega), zset_ne (fun c => by omega), zset_ne (fun c => by omega), zset_ne (fun c => by omega)]
  · rw [zset_ne (fun c => by omega), zset_ne (fun c => by omega), e8 _ _ (by omega) (by omega) (by omega), zset_ne (fun c => by omega), zset_ne (fun c => by omega), zset_ne (fun c => by omega), zset_ne (fun c => by omega), zset_same]
    rfl
  · rw [zset_ne (fun c => by omega), zset_ne (fun c => by omega), e8 _ _ (by omega) (by omega) (by omega), zset_ne (fun c => by omega), zset_ne (fun c => by omega), zset_ne (fun c => by omega), zset_same]
    rfl
  · rw [zset_ne (fun c => by omega), zset_ne (fun c => by omega), e8 _ _ (by omega) (by omega) (by omega), zset_ne (fun c => by omega), zset_ne (fun c => by omega), zset_same]
    rfl
  · rw [zset_ne (fun c => by omega), zset_ne (fun c => by omega), e8 _ _ (by omega) (by omega) (by omega), zset_ne (fun c => by omega), zset_same]
    rfl
  · rw [zset_ne (fun c => by omega), zset_ne (fun c => by omega), e8 _ _ (by omega) (by omega) (by omega), zset_same]
    rfl
  · rw [zset_ne (fun c => by omega), zset_ne (fun c => by omega), f8, if_neg (fun c => by omega), f7, if_neg (fun c => by omega), f6, if_pos ⟨rfl, hj⟩]
    rfl
  · rw [zset_ne (fun c => by omega), zset_ne (fun c => by omega), f8, if_neg (fun c => by omega), f7, if_pos ⟨rfl, hj⟩]
    rfl
  · rw [zset_ne (fun c => by omega), zset_ne (fun c => by omega), f8, if_pos ⟨rfl, hj⟩]
    rfl
theorem qx_text0_39 {D : zD} {T : zT} (hT : hTab T) (hO : vOK T) {N : Nat} {h : zH} {Q : zR → Prop} {B : Nat → Int} {n : Nat} (hv0 : zHv h) (hB : TXc B n h) (hn : (n : Int) ≤ (h 10 1).2)
    (k0 : ∀ (g2 : zH), (∀ a b, ¬ (39 ≤ a ∧ a ≤ 49) → g2 a b = (zset h 16 1 (2, 39)) a b) → (cP 39 pO g2) → (g2 49 0 = (0, -1)) → (g2 49 1 = (0, 0)) → ∀ (g4 : zH) (m : Nat) (τ : PT), (bF (zset g2 16 2 (0, 0)) g4) → (Tks B n m τ) → (cX B n m τ 0 g4) → vP D T N 68 25 g4 [some (2, 16), some (2, 39), some (0, (n : Int)), none] [] Q) :
    vP D T N 68 0 h [some (2, 16), some (2, 39), some (0, (n : Int)), none] [] Q := by
  refine v_load (v := (2, 16)) (hz_X3_readText hT _ _ rfl) rfl rfl ?_
  refine v_load (v := (2, 39)) (hz_X3_readText hT _ _ rfl) rfl rfl ?_
  refine v_putf (r := 16) hO (hz_X3_readText hT _ _ rfl) rfl (fun hf1 => ?_)
  refine v_load (v := (2, 16)) (hz_X3_readText hT _ _ rfl) rfl rfl ?_
  refine v_getf (v := (2, 39)) (r := 16) (hz_X3_readText hT _ _ rfl) rfl rfl (fun _ => zset_same) ?_
  refine v_call (w := 1) [some (2, 39)] hO (hz_X3_readText hT _ _ rfl) rfl rfl (cx_clear_39 hT hO (fun g2 ff2 hp2 oa2 ob2 => ?_))
  · show vP D T N 68 12 g2 [some (2, 16), some (2, 39), some (0, (n : Int)), none] [] _
    refine vP_hv (fun hv2 => ?_)
    refine v_load (v := (2, 16)) (hz_X3_readText hT _ _ rfl) rfl rfl ?_
    refine v_push (0) (hz_X3_readText hT _ _ rfl) rfl ?_
    refine v_putf (r := 16) hO (hz_X3_readText hT _ _ rfl) rfl (fun hf3 => ?_)
    refine v_load (v := (2, 16)) (hz_X3_readText hT _ _ rfl) rfl rfl ?_
    refine v_getR (c := 10) (r := 16) (hz_X3_readText hT _ _ rfl) rfl rfl rfl ?_
    refine v_load (v := (0, (n : Int))) (hz_X3_readText hT _ _ rfl) rfl rfl ?_
    refine v_call (w := 5) [some (2, 10), some (0, (n : Int)), none, none, none] hO (hz_X3_readText hT _ _ rfl) rfl rfl (cx_begin hT hO (TXc.z (r := 16) (k := 2) (v := (0, 0)) (by decide) (TXc.e (fun q => (ff2 11 q (fun c => by omega)).trans (zset_ne (fun c => absurd c.1 (by decide)))) hB)) (Int.le_trans hn (Int.le_of_eq (congrArg Prod.snd ((zset_ne (fun c => absurd c.1 (by decide))).trans ((ff2 10 1 (fun c => by omega)).trans (zset_ne (fun c => absurd c.1 (by decide))))).symm))) (fun g4 m τ bf4 hK4 hX4 => ?_))
    · show vP D T N 68 25 g4 [some (2, 16), some (2, 39), some (0, (n : Int)), none] [] _
      refine vP_hv (fun hv4 => ?_)
      exact k0 g2 ff2 hp2 oa2 ob2 g4 m τ bf4 hK4 hX4
theorem qx_text25_39 {D : zD} {T : zT} (hT : hTab T) (hO : vOK T) {N : Nat} {h : zH} {Q : zR → Prop} {B : Nat → Int} {n m i : Nat} {τ P : PT} (z : Int) (hv0 : zHv h) (hX : cX B n m τ i h) (hK : Tks B n m τ) (hL : cL 39 P h) (hb : (0 ≤ P 0 0 ∧ P 0 0 ≤ 8) ∧ (0 ≤ P 0 1 ∧ P 0 1 ≤ 6) ∧ (0 ≤ P 0 2 ∧ P 0 2 ≤ 3) ∧ (0 ≤ P 0 3 ∧ P 0 3 ≤ 6)) (hr0 : P 0 1 = 0)
    (k0 : ∀ (g1 : zH) (P1 : PT) (j1 : Nat), (lF 39 h g1) → (pWide τ P i = .inr (P1, j1)) → (cX B n m τ j1 g1) → (cL 39 P1 g1) → ((0 ≤ P1 0 0 ∧ P1 0 0 ≤ 8) ∧ (0 ≤ P1 0 1 ∧ P1 0 1 ≤ 6) ∧ (0 ≤ P1 0 2 ∧ P1 0 2 ≤ 3) ∧ (0 ≤ P1 0 3 ∧ P1 0 3 ≤ 6)) → ∀ (g4 : zH) (P4 : PT) (j4 : Nat), (lF 39 g1 g4) → (pRows τ 7 P1 j1 = .inr (P4, j4)) → (cX B n m τ j4 g4) → (cL 39 P4 g4) → ((0 ≤ P4 0 0 ∧ P4 0 0 ≤ 8) ∧ (0 ≤ P4 0 1 ∧ P4 0 1 ≤ 6) ∧ (0 ≤ P4 0 2 ∧ P4 0 2 ≤ 3) ∧ (0 ≤ P4 0 3 ∧ P4 0 3 ≤ 6)) → vP D T N 68 43 g4 [some (2, 16), some (2, 39), some (0, z), some (0, 0)] [] Q)
    (k1 : ∀ (g1 : zH) (P1 : PT) (j1 : Nat), (lF 39 h g1) → (pWide τ P i = .inr (P1, j1)) → (cX B n m τ j1 g1) → (cL 39 P1 g1) → ((0 ≤ P1 0 0 ∧ P1 0 0 ≤ 8) ∧ (0 ≤ P1 0 1 ∧ P1 0 1 ≤ 6) ∧ (0 ≤ P1 0 2 ∧ P1 0 2 ≤ 3) ∧ (0 ≤ P1 0 3 ∧ P1 0 3 ≤ 6)) → ∀ (g5 : zH) (e5 : Er), (lF 39 g1 g5) → (pRows τ 7 P1 j1 = .inl e5) → (cB e5 g5) → Q (g5, some (0, 0)))
    (k2 : ∀ (g2 : zH) (e2 : Er), (lF 39 h g2) → (pWide τ P i = .inl e2) → (cB e2 g2) → Q (g2, some (0, 0))) :
    vP D T N 68 25 h [some (2, 16), some (2, 39), some (0, z), none] [] Q := by
  refine v_load (v := (2, 16)) (hz_X3_readText hT _ _ rfl) rfl rfl ?_
  refine v_call (w := 2) [some (2, 16), none] hO (hz_X3_readText hT _ _ rfl) rfl rfl (cRd_k (vP_hv (fun hv_ => cx_wide_39 hT hO hv_ hX hK hL (show (0 ≤ P 0 0 ∧ P 0 0 ≤ 8) ∧ (0 ≤ P 0 1 ∧ P 0 1 ≤ 6) ∧ (0 ≤ P 0 2 ∧ P 0 2 ≤ 3) ∧ (0 ≤ P 0 3 ∧ P 0 3 ≤ 6) from by omega))) (fun g1 P1 j1 lf1 q1 hX1 hL1 hb1 => ?_) (fun g2 e2 lf2 q2 c2 => ?_))
  · show vP D T N 68 29 g1 [some (2, 16), some (2, 39), some (0, z), none] [(0, 1)] _
    have hb1 : (0 ≤ P1 0 0 ∧ P1 0 0 ≤ 8) ∧ (0 ≤ P1 0 1 ∧ P1 0 1 ≤ 6) ∧ (0 ≤ P1 0 2 ∧ P1 0 2 ≤ 3) ∧ (0 ≤ P1 0 3 ∧ P1 0 3 ≤ 6) := hb1
    refine vP_hv (fun hv1 => ?_)
    refine v_if (hi_X3_readText_29 hT) (fun hc3 => absurd (show (1 : Int) = 0 from hc3) (by decide)) (fun _ => ?_)
    refine v_load (v := (2, 16)) (hz_X3_readText hT _ _ rfl) rfl rfl ?_
    refine v_call (w := 2) [some (2, 16), none] hO (hz_X3_readText hT _ _ rfl) rfl rfl (cRd_k (vP_hv (fun hv_ => cx_rows_39 hT hO hv_ hX1 hK hL1 (show (0 ≤ P1 0 0 ∧ P1 0 0 ≤ 8) ∧ (0 ≤ P1 0 1 ∧ P1 0 1 ≤ 6) ∧ (0 ≤ P1 0 2 ∧ P1 0 2 ≤ 3) ∧ (0 ≤ P1 0 3 ∧ P1 0 3 ≤ 6) from by omega) ((pWide_r q1).trans hr0))) (fun g4 P4 j4 lf4 q4 hX4 hL4 hb4 => ?_) (fun g5 e5 lf5 q5 c5 => ?_))
    · show vP D T N 68 36 g4 [some (2, 16), some (2, 39), some (0, z), none] [(0, 1)] _
      have hb4 : (0 ≤ P4 0 0 ∧ P4 0 0 ≤ 8) ∧ (0 ≤ P4 0 1 ∧ P4 0 1 ≤ 6) ∧ (0 ≤ P4 0 2 ∧ P4 0 2 ≤ 3) ∧ (0 ≤ P4 0 3 ∧ P4 0 3 ≤ 6) := hb4
      refine vP_hv (fun hv4 => ?_)
      refine v_if (hi_X3_readText_36 hT) (fun hc6 => absurd (show (1 : Int) = 0 from hc6) (by decide)) (fun _ => ?_)
      refine v_push (0) (hz_X3_readText hT _ _ rfl) rfl ?_
      refine v_store1 [some (2, 16), some (2, 39), some (0, z), some (0, 0)] (hz_X3_readText hT _ _ rfl) ⟨rfl, Nat.ne_of_beq_eq_false rfl⟩ (Nat.le_of_ble_eq_true rfl) rfl ?_
      exact k0 g1 P1 j1 lf1 q1 hX1 hL1 hb1 g4 P4 j4 lf4 q4 hX4 hL4 hb4
    · show vP D T N 68 36 g5 [some (2, 16), some (2, 39), some (0, z), none] [(0, 0)] _
      refine vP_hv (fun hv5 => ?_)
      refine v_if (hi_X3_readText_36 hT) (fun _ => ?_) (fun hc7 => absurd (show (0 : Int) = 0 from (by decide)) hc7)
      refine v_push (0) (hi_X3_readText_39 hT) rfl ?_
      refine v_ret (hi_X3_readText_40 hT) (Or.inl rfl) ?_
      exact k1 g1 P1 j1 lf1 q1 hX1 hL1 hb1 g5 e5 lf5 q5 c5
  · show vP D T N 68 29 g2 [some (2, 16), some (2, 39), some (0, z), none] [(0, 0)] _
    refine vP_hv (fun hv2 => ?_)
    refine v_if (hi_X3_readText_29 hT) (fun _ => ?_) (fun hc8 => absurd (show (0 : Int) = 0 from (by decide)) hc8)
    refine v_push (0) (hi_X3_readText_39 hT) rfl ?_
    refine v_ret (hi_X3_readText_40 hT) (Or.inl rfl) ?_
    exact k2 g2 e2 lf2 q2 c2
theorem qx_text43_39 {D : zD} {T : zT} (hT : hTab T) (hO : vOK T) {N : Nat} {h : zH} {Q : zR → Prop} {B : Nat → Int} {n m i : Nat} {τ P : PT} (z x : Int) (hv0 : zHv h) (hX : cX B n m τ i h) (hK : Tks B n m τ) (hL : cL 39 P h) (hb : (0 ≤ P 0 0 ∧ P 0 0 ≤ 8) ∧ (0 ≤ P 0 1 ∧ P 0 1 ≤ 6) ∧ (0 ≤ P 0 2 ∧ P 0 2 ≤ 3) ∧ (0 ≤ P 0 3 ∧ P 0 3 ≤ 6)) (hx : 0 ≤ x ∧ x ≤ 900)
    (k0 : (x < 900) → ((bEn τ i) = 0) → ∀ (g3 : zH) (P3 : PT) (j3 : Nat), (lF 39 h g3) → (pS τ (pPart τ P i) = .inr (P3, j3)) → (cX B n m τ j3 g3) → (cL 39 P3 g3) → ((0 ≤ P3 0 0 ∧ P3 0 0 ≤ 8) ∧ (0 ≤ P3 0 1 ∧ P3 0 1 ≤ 6) ∧ (0 ≤ P3 0 2 ∧ P3 0 2 ≤ 3) ∧ (0 ≤ P3 0 3 ∧ P3 0 3 ≤ 6)) → vP D T N 68 43 g3 [some (2, 16), some (2, 39), some (0, z), some (0, (x + 1))] [] Q)
    (k1 : (x < 900) → ((bEn τ i) = 0) → ∀ (g4 : zH) (e4 : Er), (lF 39 h g4) → (pS τ (pPart τ P i) = .inl e4) → (cB e4 g4) → Q (g4, some (0, 0)))
    (k2 : (x < 900) → ((bEn τ i) ≠ 0) → Q (h, some (0, 1)))
    (k3 : (900 ≤ x) → Q (h, some (0, 1))) :
    vP D T (N + 1) 68 43 h [some (2, 16), some (2, 39), some (0, z), some (0, x)] [] Q := by
  refine v_loadS (v := (0, x)) (hz_X3_readText hT _ _ rfl) rfl rfl ?_
  refine v_push (900) (hz_X3_readText hT _ _ rfl) rfl ?_
  refine v_ic (hz_X3_readText hT _ _ rfl) (fun hc1 => ?_) (fun hc1 => ?_)
  · have hc1 : x < 900 := hc1
    refine v_load (v := (2, 16)) (hz_X3_readText hT _ _ rfl) rfl rfl ?_
    refine v_getR (c := 10) (r := 16) (hz_X3_readText hT _ _ rfl) rfl rfl rfl ?_
    refine v_call (w := 1) [some (2, 10)] hO (hz_X3_readText hT _ _ rfl) rfl rfl (cx_isEnd hT hO hX ?_)
    show vP D T N 68 57 h [some (2, 16), some (2, 39), some (0, z), some (0, x)] [(0, (bEn τ i))] _
    refine v_if (hz_X3_readText hT _ _ rfl) (fun hc2 => ?_) (fun hc2 => ?_)
    · have hc2 : (bEn τ i) = 0 := hc2
      refine v_load (v := (2, 16)) (hz_X3_readText hT _ _ rfl) rfl rfl ?_
      refine v_call (w := 1) [some (2, 16)] hO (hz_X3_readText hT _ _ rfl) rfl rfl (cRd_k (vP_hv (fun hv_ => cx_part_39 hT hO hv_ hX hK hL (show (0 ≤ P 0 0 ∧ P 0 0 ≤ 8) ∧ (0 ≤ P 0 1 ∧ P 0 1 ≤ 6) ∧ (0 ≤ P 0 2 ∧ P 0 2 ≤ 3) ∧ (0 ≤ P 0 3 ∧ P 0 3 ≤ 6) from by omega))) (fun g3 P3 j3 lf3 q3 hX3 hL3 hb3 => ?_) (fun g4 e4 lf4 q4 c4 => ?_))
      · show vP D T N 68 64 g3 [some (2, 16), some (2, 39), some (0, z), some (0, x)] [(0, 1)] _
        have hb3 : (0 ≤ P3 0 0 ∧ P3 0 0 ≤ 8) ∧ (0 ≤ P3 0 1 ∧ P3 0 1 ≤ 6) ∧ (0 ≤ P3 0 2 ∧ P3 0 2 ≤ 3) ∧ (0 ≤ P3 0 3 ∧ P3 0 3 ≤ 6) := hb3
        refine vP_hv (fun hv3 => ?_)
        refine v_if (hi_X3_readText_64 hT) (fun hc5 => absurd (show (1 : Int) = 0 from hc5) (by decide)) (fun _ => ?_)
        refine v_iinc (x := x) (u := 1) (w := (x + 1)) [some (2, 16), some (2, 39), some (0, z), some (0, (x + 1))] (hz_X3_readText hT _ _ rfl) rfl rfl (Nat.le_of_ble_eq_true rfl) (vz_inc (by omega) (by omega)) rfl ?_
        refine v_goto (hz_X3_readText hT _ _ rfl) ?_
        exact k0 hc1 hc2 g3 P3 j3 lf3 q3 hX3 hL3 hb3
      · show vP D T N 68 64 g4 [some (2, 16), some (2, 39), some (0, z), some (0, x)] [(0, 0)] _
        refine vP_hv (fun hv4 => ?_)
        refine v_if (hi_X3_readText_64 hT) (fun _ => ?_) (fun hc6 => absurd (show (0 : Int) = 0 from (by decide)) hc6)
        refine v_push (0) (hz_X3_readText hT _ _ rfl) rfl ?_
        refine v_ret (hz_X3_readText hT _ _ rfl) (Or.inl rfl) ?_
        exact k1 hc1 hc2 g4 e4 lf4 q4 c4
    · have hc2 : (bEn τ i) ≠ 0 := hc2
      refine v_push (1) (hi_X3_readText_75 hT) rfl ?_
      refine v_ret (hi_X3_readText_76 hT) (Or.inl rfl) ?_
      exact k2 hc1 hc2
  · have hc1 : 900 ≤ x := Int.not_lt.mp hc1
    refine v_push (1) (hi_X3_readText_75 hT) rfl ?_
    refine v_ret (hi_X3_readText_76 hT) (Or.inl rfl) ?_
    exact k3 hc1
theorem cx_text_39 {D : zD} {T : zT} (hT : hTab T) (hO : vOK T) {N : Nat} {h : zH} {B : Nat → Int} {n : Nat} (hB : TXc B n h) (hn : (n : Int) ≤ (h 10 1).2) : vP D T N 68 0 h [some (2, 16), some (2, 39), some (0, (n : Int)), none] [] (cTx B n 39 h) := by
  refine vP_hv (fun hv => qx_text0_39 hT hO hv hB hn ?_)
  intro g2 f2 p2 o1 o2 g4 m τ f4 hK hX
  have hL : cL 39 pO g4 := ⟨p2.eq (fun a b h1 h2 => (f4 a b (fun c => by omega)).trans (zset_ne (fun c => by omega))), (f4 16 1 (fun c => by omega)).trans ((zset_ne (by decide)).trans ((f2 16 1 (fun c => by omega)).trans zset_same)), (f4 16 2 (fun c => by omega)).trans zset_same⟩
  have fr : ∀ g, lF 39 g4 g → xFr 39 h g := fun g f a b hn => by
    rw [f a b (fun c => hn (by omega)), f4 a b (fun c => hn (by omega)), zset_ne (fun c => hn (by omega)), f2 a b (fun c => hn (by omega)), zset_ne (fun c => hn (by omega))]
  have od : ∀ g, lF 39 g4 g → g 49 0 = (0, -1) ∧ g 49 1 = (0, 0) := fun g f => ⟨by
    rw [f 49 0 (fun c => by omega), f4 49 0 (fun c => by omega), zset_ne (fun c => by omega)]
    exact o1, by
    rw [f 49 1 (fun c => by omega), f4 49 1 (fun c => by omega), zset_ne (fun c => by omega)]
    exact o2⟩
  have hbO : (0 ≤ pO 0 0 ∧ pO 0 0 ≤ 8) ∧ (0 ≤ pO 0 1 ∧ pO 0 1 ≤ 6) ∧ (0 ≤ pO 0 2 ∧ pO 0 2 ≤ 3) ∧ (0 ≤ pO 0 3 ∧ pO 0 3 ≤ 6) := by decide
  refine vP_hv (fun hv => qx_text25_39 hT hO n hv hX hK hL hbO rfl ?_ ?_ ?_)
  · intro g1 P1 j1 f1 q1 hX1 hL1 hb1 g5 P5 j5 f5 q5 hX5 hL5 hb5
    have f15 := f1.trans f5
    refine vP_loop (fun h' l => ∃ (x : Nat) (P' : PT) (j : Nat), l = [some (2, 16), some (2, 39), some (0, (n : Int)), some (0, (x : Int))] ∧ x ≤ 900 ∧ x < j ∧ cX B n m τ j h' ∧ cL 39 P' h' ∧ lF 39 g4 h' ∧ lB P' ∧ pParts τ 900 P5 j5 = pParts τ (900 - x) P' j) ?_ N _ _ ⟨0, P5, j5, rfl, by decide, Nat.lt_of_lt_of_le (pWide_i q1) (pRows_i q5), hX5, hL5, f15, hb5, rfl⟩
    rintro N h' l ⟨x, P', j, rfl, hx, hxj, hX', hL', hF', hb', he⟩ ih
    have him := hX'.im
    have hland : ∀ F, pParts τ (900 - x) P' j = F → pLand τ = F := fun F hF => by
      unfold pLand
      rw [q1, eb_r, q5, eb_r, he, hF]
    have e9 : 900 - x = (899 - x) + 1 := by omega
    refine vP_hv (fun hv => qx_text43_39 hT hO n x hv hX' hK hL' hb' ⟨by omega, by omega⟩ ?_ ?_ ?_ ?_)
    · intro c1 c2 g3 P3 j3 f3 q3 hX3 hL3 hb3
      obtain ⟨j', i1, i2⟩ := pS_i q3
      have i3 := pPart_i i1
      refine ih _ _ ⟨x + 1, P3, j3, rfl, by omega, by omega, hX3, hL3, hF'.trans f3, hb3, ?_⟩
      have c3 : ¬ τ 0 j = 0 := fun f => by
        have := bEn_y.mpr f
        exact this c2
      rw [he, e9, show 900 - (x + 1) = 899 - x from by omega]
      show (if τ 0 j = 0 then _ else eb (pS τ (pPart τ P' j)) fun a => pParts τ (899 - x) a.1 a.2) = _
      rw [if_neg c3, q3, eb_r]
    · intro c1 c2 g3 e3 f3 q3 c3
      have c4 : ¬ τ 0 j = 0 := fun f => by
        have := bEn_y.mpr f
        exact this c2
      refine ⟨m, τ, hK, Or.inl ⟨e3, hland _ ?_, rfl, c3⟩, fr _ (hF'.trans f3)⟩
      rw [e9]
      show (if τ 0 j = 0 then _ else eb (pS τ (pPart τ P' j)) fun a => pParts τ (899 - x) a.1 a.2) = _
      rw [if_neg c4, q3, eb_l]
    · intro c1 c2
      have c3 := bEn_y.mp c2
      refine ⟨m, τ, hK, Or.inr ⟨P', hland _ ?_, rfl, hL'.p, hb', hX'.fl, hX'.pl, od _ hF'⟩, fr _ hF'⟩
      rw [e9]
      exact if_pos c3
    · intros; omega
  · intro g1 P1 j1 f1 q1 hX1 hL1 hb1 g5 e5 f5 q5 c5
    refine ⟨m, τ, hK, Or.inl ⟨e5, ?_, rfl, c5⟩, fr _ (f1.trans f5)⟩
    unfold pLand
    rw [q1, eb_r, q5, eb_l]
  · intro g2 e2 f2 q2 c2
    refine ⟨m, τ, hK, Or.inl ⟨e2, ?_, rfl, c2⟩, fr _ f2⟩
    unfold pLand
    rw [q2, eb_l]
