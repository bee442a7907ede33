/-! printed by wip/l/gent1.py: runs of both sides, by steps -/
theorem y_X8_append {D : zD} {T : zT} (hT : hTab T) (hO : vOK T) {N : Nat} {h : zH} {Q : zR → Prop} (x : Int) (hv0 : zHv h) (hL : 0 ≤ (h 10 1).2 ∧ (h 10 1).2 ≤ 896)
    (k0 : ((h 10 1).2 < 900) → (0 ≤ (h 10 1).2) → (zfit 2 (0, (vB ((v32 7 x 24)))) = true) → (((h 10 1).2 + 1) < 900) → (0 ≤ ((h 10 1).2 + 1)) → (zfit 2 (0, (vB ((v32 7 x 16)))) = true) → ((((h 10 1).2 + 1) + 1) < 900) → (0 ≤ (((h 10 1).2 + 1) + 1)) → (zfit 2 (0, (vB ((v32 7 x 8)))) = true) → (((((h 10 1).2 + 1) + 1) + 1) < 900) → (0 ≤ ((((h 10 1).2 + 1) + 1) + 1)) → (zfit 2 (0, (vB ((v32 7 x 0)))) = true) → Q (zset (zset (zset (zset (zset (zset (zset (zset h 11 (((h 10 1).2).toNat) (0, (vB ((v32 7 x 24))))) 10 1 (0, ((h 10 1).2 + 1))) 11 ((((h 10 1).2 + 1)).toNat) (0, (vB ((v32 7 x 16))))) 10 1 (0, (((h 10 1).2 + 1) + 1))) 11 (((((h 10 1).2 + 1) + 1)).toNat) (0, (vB ((v32 7 x 8))))) 10 1 (0, ((((h 10 1).2 + 1) + 1) + 1))) 11 ((((((h 10 1).2 + 1) + 1) + 1)).toNat) (0, (vB ((v32 7 x 0))))) 10 1 (0, (((((h 10 1).2 + 1) + 1) + 1) + 1)), none))
    (k1 : ((h 10 1).2 < 900) → (0 ≤ (h 10 1).2) → (zfit 2 (0, (vB ((v32 7 x 24)))) = true) → (((h 10 1).2 + 1) < 900) → (0 ≤ ((h 10 1).2 + 1)) → (zfit 2 (0, (vB ((v32 7 x 16)))) = true) → ((((h 10 1).2 + 1) + 1) < 900) → (0 ≤ (((h 10 1).2 + 1) + 1)) → (zfit 2 (0, (vB ((v32 7 x 8)))) = true) → (900 ≤ ((((h 10 1).2 + 1) + 1) + 1)) → Q (zset (zset (zset (zset (zset (zset h 11 (((h 10 1).2).toNat) (0, (vB ((v32 7 x 24))))) 10 1 (0, ((h 10 1).2 + 1))) 11 ((((h 10 1).2 + 1)).toNat) (0, (vB ((v32 7 x 16))))) 10 1 (0, (((h 10 1).2 + 1) + 1))) 11 (((((h 10 1).2 + 1) + 1)).toNat) (0, (vB ((v32 7 x 8))))) 10 1 (0, ((((h 10 1).2 + 1) + 1) + 1)), none))
    (k2 : ((h 10 1).2 < 900) → (0 ≤ (h 10 1).2) → (zfit 2 (0, (vB ((v32 7 x 24)))) = true) → (((h 10 1).2 + 1) < 900) → (0 ≤ ((h 10 1).2 + 1)) → (zfit 2 (0, (vB ((v32 7 x 16)))) = true) → (900 ≤ (((h 10 1).2 + 1) + 1)) → Q (zset (zset (zset (zset h 11 (((h 10 1).2).toNat) (0, (vB ((v32 7 x 24))))) 10 1 (0, ((h 10 1).2 + 1))) 11 ((((h 10 1).2 + 1)).toNat) (0, (vB ((v32 7 x 16))))) 10 1 (0, (((h 10 1).2 + 1) + 1)), none))
    (k3 : ((h 10 1).2 < 900) → (0 ≤ (h 10 1).2) → (zfit 2 (0, (vB ((v32 7 x 24)))) = true) → (900 ≤ ((h 10 1).2 + 1)) → Q (zset (zset h 11 (((h 10 1).2).toNat) (0, (vB ((v32 7 x 24))))) 10 1 (0, ((h 10 1).2 + 1)), none))
    (k4 : (900 ≤ (h 10 1).2) → Q (h, none)) :
    vP D T N 101 0 h [some (2, 10), some (0, x), none] [] Q := by
  refine v_push (24) (hz_X8_append hT _ _ rfl) rfl ?_
  refine v_store1 [some (2, 10), some (0, x), some (0, 24)] (hz_X8_append hT _ _ rfl) ⟨rfl, Nat.ne_of_beq_eq_false rfl⟩ (Nat.le_of_ble_eq_true rfl) rfl ?_
  refine v_load (v := (0, 24)) (hi_X8_append_3 hT) rfl rfl ?_
  refine v_if (hi_X8_append_4 hT) (fun hc1 => absurd (show (24 : Int) < 0 from hc1) (by decide)) (fun _ => ?_)
  refine v_load (v := (2, 10)) (hi_X8_append_7 hT) rfl rfl ?_
  refine v_getI (t := 0) (r := 10) (hi_X8_append_8 hT) rfl rfl rfl ?_
  refine v_push (900) (hi_X8_append_11 hT) rfl ?_
  refine v_ic (hi_X8_append_14 hT) (fun hc2 => ?_) (fun hc2 => ?_)
  · have hc2 : (h 10 1).2 < 900 := hc2
    refine v_load (v := (2, 10)) (hi_X8_append_17 hT) rfl rfl ?_
    refine v_getR (c := 11) (r := 10) (hi_X8_append_18 hT) rfl rfl rfl ?_
    refine v_load (v := (2, 10)) (hi_X8_append_21 hT) rfl rfl ?_
    refine v_getI (t := 0) (r := 10) (hi_X8_append_22 hT) rfl rfl rfl ?_
    refine v_load (v := (0, x)) (hi_X8_append_25 hT) rfl rfl ?_
    refine v_load (v := (0, 24)) (hi_X8_append_26 hT) rfl rfl ?_
    refine v_bin (w := (v32 7 x 24)) (hi_X8_append_27 hT) rfl ?_
    refine v_un (w := (vB ((v32 7 x 24)))) (hi_X8_append_28 hT) rfl ?_
    refine v_ast (r := 11) (hi_X8_append_29 hT) rfl rfl (fun ha3 hb4 hf5 => ?_)
    refine v_load (v := (2, 10)) (hi_X8_append_30 hT) rfl rfl ?_
    refine v_dup (hi_X8_append_31 hT) (Nat.ne_of_beq_eq_false rfl) ?_
    refine v_getf (v := (0, (h 10 1).2)) (r := 10) (hi_X8_append_32 hT) rfl rfl (fun hv_ => Eq.trans (zset_ne (fun c => absurd c.1 (by decide))) (hv0.at rfl)) ?_
    refine v_push (1) (hi_X8_append_35 hT) rfl ?_
    refine v_bin (w := ((h 10 1).2 + 1)) (hi_X8_append_36 hT) (hq_add (by omega) (by omega)) ?_
    refine v_putf (r := 10) hO (hi_X8_append_37 hT) rfl (fun hf6 => ?_)
    refine v_iinc (x := 24) (u := -8) (w := 16) [some (2, 10), some (0, x), some (0, 16)] (hi_X8_append_40 hT) rfl rfl (Nat.le_of_ble_eq_true rfl) (by decide) rfl ?_
    refine v_goto (hi_X8_append_43 hT) ?_
    refine v_load (v := (0, 16)) (hi_X8_append_3 hT) rfl rfl ?_
    refine v_if (hi_X8_append_4 hT) (fun hc7 => absurd (show (16 : Int) < 0 from hc7) (by decide)) (fun _ => ?_)
    refine v_load (v := (2, 10)) (hi_X8_append_7 hT) rfl rfl ?_
    refine v_getf (v := (0, ((h 10 1).2 + 1))) (r := 10) (hi_X8_append_8 hT) rfl rfl (fun _ => zset_same) ?_
    refine v_push (900) (hi_X8_append_11 hT) rfl ?_
    refine v_ic (hi_X8_append_14 hT) (fun hc8 => ?_) (fun hc8 => ?_)
    · have hc8 : ((h 10 1).2 + 1) < 900 := hc8
      refine v_load (v := (2, 10)) (hi_X8_append_17 hT) rfl rfl ?_
      refine v_getR (c := 11) (r := 10) (hi_X8_append_18 hT) rfl rfl rfl ?_
      refine v_load (v := (2, 10)) (hi_X8_append_21 hT) rfl rfl ?_
      refine v_getf (v := (0, ((h 10 1).2 + 1))) (r := 10) (hi_X8_append_22 hT) rfl rfl (fun _ => zset_same) ?_
      refine v_load (v := (0, x)) (hi_X8_append_25 hT) rfl rfl ?_
      refine v_load (v := (0, 16)) (hi_X8_append_26 hT) rfl rfl ?_
      refine v_bin (w := (v32 7 x 16)) (hi_X8_append_27 hT) rfl ?_
      refine v_un (w := (vB ((v32 7 x 16)))) (hi_X8_append_28 hT) rfl ?_
      refine v_ast (r := 11) (hi_X8_append_29 hT) rfl rfl (fun ha9 hb10 hf11 => ?_)
      refine v_load (v := (2, 10)) (hi_X8_append_30 hT) rfl rfl ?_
      refine v_dup (hi_X8_append_31 hT) (Nat.ne_of_beq_eq_false rfl) ?_
      refine v_getf (v := (0, ((h 10 1).2 + 1))) (r := 10) (hi_X8_append_32 hT) rfl rfl (fun _ => Eq.trans (zset_ne (fun c => absurd c.1 (by decide))) zset_same) ?_
      refine v_push (1) (hi_X8_append_35 hT) rfl ?_
      refine v_bin (w := (((h 10 1).2 + 1) + 1)) (hi_X8_append_36 hT) (hq_add (by omega) (by omega)) ?_
      refine v_putf (r := 10) hO (hi_X8_append_37 hT) rfl (fun hf12 => ?_)
      refine v_iinc (x := 16) (u := -8) (w := 8) [some (2, 10), some (0, x), some (0, 8)] (hi_X8_append_40 hT) rfl rfl (Nat.le_of_ble_eq_true rfl) (by decide) rfl ?_
      refine v_goto (hi_X8_append_43 hT) ?_
      refine v_load (v := (0, 8)) (hi_X8_append_3 hT) rfl rfl ?_
      refine v_if (hi_X8_append_4 hT) (fun hc13 => absurd (show (8 : Int) < 0 from hc13) (by decide)) (fun _ => ?_)
      refine v_load (v := (2, 10)) (hi_X8_append_7 hT) rfl rfl ?_
      refine v_getf (v := (0, (((h 10 1).2 + 1) + 1))) (r := 10) (hi_X8_append_8 hT) rfl rfl (fun _ => zset_same) ?_
      refine v_push (900) (hi_X8_append_11 hT) rfl ?_
      refine v_ic (hi_X8_append_14 hT) (fun hc14 => ?_) (fun hc14 => ?_)
      · have hc14 : (((h 10 1).2 + 1) + 1) < 900 := hc14
        refine v_load (v := (2, 10)) (hi_X8_append_17 hT) rfl rfl ?_
        refine v_getR (c := 11) (r := 10) (hi_X8_append_18 hT) rfl rfl rfl ?_
        refine v_load (v := (2, 10)) (hi_X8_append_21 hT) rfl rfl ?_
        refine v_getf (v := (0, (((h 10 1).2 + 1) + 1))) (r := 10) (hi_X8_append_22 hT) rfl rfl (fun _ => zset_same) ?_
        refine v_load (v := (0, x)) (hi_X8_append_25 hT) rfl rfl ?_
        refine v_load (v := (0, 8)) (hi_X8_append_26 hT) rfl rfl ?_
        refine v_bin (w := (v32 7 x 8)) (hi_X8_append_27 hT) rfl ?_
        refine v_un (w := (vB ((v32 7 x 8)))) (hi_X8_append_28 hT) rfl ?_
        refine v_ast (r := 11) (hi_X8_append_29 hT) rfl rfl (fun ha15 hb16 hf17 => ?_)
        refine v_load (v := (2, 10)) (hi_X8_append_30 hT) rfl rfl ?_
        refine v_dup (hi_X8_append_31 hT) (Nat.ne_of_beq_eq_false rfl) ?_
        refine v_getf (v := (0, (((h 10 1).2 + 1) + 1))) (r := 10) (hi_X8_append_32 hT) rfl rfl (fun _ => Eq.trans (zset_ne (fun c => absurd c.1 (by decide))) zset_same) ?_
        refine v_push (1) (hi_X8_append_35 hT) rfl ?_
        refine v_bin (w := ((((h 10 1).2 + 1) + 1) + 1)) (hi_X8_append_36 hT) (hq_add (by omega) (by omega)) ?_
        refine v_putf (r := 10) hO (hi_X8_append_37 hT) rfl (fun hf18 => ?_)
        refine v_iinc (x := 8) (u := -8) (w := 0) [some (2, 10), some (0, x), some (0, 0)] (hi_X8_append_40 hT) rfl rfl (Nat.le_of_ble_eq_true rfl) (by decide) rfl ?_
        refine v_goto (hi_X8_append_43 hT) ?_
        refine v_load (v := (0, 0)) (hi_X8_append_3 hT) rfl rfl ?_
        refine v_if (hi_X8_append_4 hT) (fun hc19 => absurd (show (0 : Int) < 0 from hc19) (by decide)) (fun _ => ?_)
        refine v_load (v := (2, 10)) (hi_X8_append_7 hT) rfl rfl ?_
        refine v_getf (v := (0, ((((h 10 1).2 + 1) + 1) + 1))) (r := 10) (hi_X8_append_8 hT) rfl rfl (fun _ => zset_same) ?_
        refine v_push (900) (hi_X8_append_11 hT) rfl ?_
        refine v_ic (hi_X8_append_14 hT) (fun hc20 => ?_) (fun hc20 => ?_)
        · have hc20 : ((((h 10 1).2 + 1) + 1) + 1) < 900 := hc20
          refine v_load (v := (2, 10)) (hi_X8_append_17 hT) rfl rfl ?_
          refine v_getR (c := 11) (r := 10) (hi_X8_append_18 hT) rfl rfl rfl ?_
          refine v_load (v := (2, 10)) (hi_X8_append_21 hT) rfl rfl ?_
          refine v_getf (v := (0, ((((h 10 1).2 + 1) + 1) + 1))) (r := 10) (hi_X8_append_22 hT) rfl rfl (fun _ => zset_same) ?_
          refine v_load (v := (0, x)) (hi_X8_append_25 hT) rfl rfl ?_
          refine v_load (v := (0, 0)) (hi_X8_append_26 hT) rfl rfl ?_
          refine v_bin (w := (v32 7 x 0)) (hi_X8_append_27 hT) rfl ?_
          refine v_un (w := (vB ((v32 7 x 0)))) (hi_X8_append_28 hT) rfl ?_
          refine v_ast (r := 11) (hi_X8_append_29 hT) rfl rfl (fun ha21 hb22 hf23 => ?_)
          refine v_load (v := (2, 10)) (hi_X8_append_30 hT) rfl rfl ?_
          refine v_dup (hi_X8_append_31 hT) (Nat.ne_of_beq_eq_false rfl) ?_
          refine v_getf (v := (0, ((((h 10 1).2 + 1) + 1) + 1))) (r := 10) (hi_X8_append_32 hT) rfl rfl (fun _ => Eq.trans (zset_ne (fun c => absurd c.1 (by decide))) zset_same) ?_
          refine v_push (1) (hi_X8_append_35 hT) rfl ?_
          refine v_bin (w := (((((h 10 1).2 + 1) + 1) + 1) + 1)) (hi_X8_append_36 hT) (hq_add (by omega) (by omega)) ?_
          refine v_putf (r := 10) hO (hi_X8_append_37 hT) rfl (fun hf24 => ?_)
          refine v_iinc (x := 0) (u := -8) (w := -8) [some (2, 10), some (0, x), some (0, -8)] (hi_X8_append_40 hT) rfl rfl (Nat.le_of_ble_eq_true rfl) (by decide) rfl ?_
          refine v_goto (hi_X8_append_43 hT) ?_
          refine v_load (v := (0, -8)) (hi_X8_append_3 hT) rfl rfl ?_
          refine v_if (hi_X8_append_4 hT) (fun _ => ?_) (fun hc25 => absurd (show (-8 : Int) < 0 from (by decide)) hc25)
          refine v_ret0 (hi_X8_append_46 hT) ?_
          exact k0 hc2 ha3 hf5 hc8 ha9 hf11 hc14 ha15 hf17 hc20 ha21 hf23
        · have hc20 : 900 ≤ ((((h 10 1).2 + 1) + 1) + 1) := Int.not_lt.mp hc20
          refine v_iinc (x := 0) (u := -8) (w := -8) [some (2, 10), some (0, x), some (0, -8)] (hi_X8_append_40 hT) rfl rfl (Nat.le_of_ble_eq_true rfl) (by decide) rfl ?_
          refine v_goto (hi_X8_append_43 hT) ?_
          refine v_load (v := (0, -8)) (hi_X8_append_3 hT) rfl rfl ?_
          refine v_if (hi_X8_append_4 hT) (fun _ => ?_) (fun hc26 => absurd (show (-8 : Int) < 0 from (by decide)) hc26)
          refine v_ret0 (hi_X8_append_46 hT) ?_
          exact k1 hc2 ha3 hf5 hc8 ha9 hf11 hc14 ha15 hf17 hc20
      · have hc14 : 900 ≤ (((h 10 1).2 + 1) + 1) := Int.not_lt.mp hc14
        refine v_iinc (x := 8) (u := -8) (w := 0) [some (2, 10), some (0, x), some (0, 0)] (hi_X8_append_40 hT) rfl rfl (Nat.le_of_ble_eq_true rfl) (by decide) rfl ?_
        refine v_goto (hi_X8_append_43 hT) ?_
        refine v_load (v := (0, 0)) (hi_X8_append_3 hT) rfl rfl ?_
        refine v_if (hi_X8_append_4 hT) (fun hc27 => absurd (show (0 : Int) < 0 from hc27) (by decide)) (fun _ => ?_)
        refine v_load (v := (2, 10)) (hi_X8_append_7 hT) rfl rfl ?_
        refine v_getf (v := (0, (((h 10 1).2 + 1) + 1))) (r := 10) (hi_X8_append_8 hT) rfl rfl (fun _ => zset_same) ?_
        refine v_push (900) (hi_X8_append_11 hT) rfl ?_
        refine v_ic (hi_X8_append_14 hT) (fun hc28 => absurd (show (((h 10 1).2 + 1) + 1) < 900 from hc28) (by omega)) (fun _ => ?_)
        refine v_iinc (x := 0) (u := -8) (w := -8) [some (2, 10), some (0, x), some (0, -8)] (hi_X8_append_40 hT) rfl rfl (Nat.le_of_ble_eq_true rfl) (by decide) rfl ?_
        refine v_goto (hi_X8_append_43 hT) ?_
        refine v_load (v := (0, -8)) (hi_X8_append_3 hT) rfl rfl ?_
        refine v_if (hi_X8_append_4 hT) (fun _ => ?_) (fun hc29 => absurd (show (-8 : Int) < 0 from (by decide)) hc29)
        refine v_ret0 (hi_X8_append_46 hT) ?_
        exact k2 hc2 ha3 hf5 hc8 ha9 hf11 hc14
    · have hc8 : 900 ≤ ((h 10 1).2 + 1) := Int.not_lt.mp hc8
      refine v_iinc (x := 16) (u := -8) (w := 8) [some (2, 10), some (0, x), some (0, 8)] (hi_X8_append_40 hT) rfl rfl (Nat.le_of_ble_eq_true rfl) (by decide) rfl ?_
      refine v_goto (hi_X8_append_43 hT) ?_
      refine v_load (v := (0, 8)) (hi_X8_append_3 hT) rfl rfl ?_
      refine v_if (hi_X8_append_4 hT) (fun hc30 => absurd (show (8 : Int) < 0 from hc30) (by decide)) (fun _ => ?_)
      refine v_load (v := (2, 10)) (hi_X8_append_7 hT) rfl rfl ?_
      refine v_getf (v := (0, ((h 10 1).2 + 1))) (r := 10) (hi_X8_append_8 hT) rfl rfl (fun _ => zset_same) ?_
      refine v_push (900) (hi_X8_append_11 hT) rfl ?_
      refine v_ic (hi_X8_append_14 hT) (fun hc31 => absurd (show ((h 10 1).2 + 1) < 900 from hc31) (by omega)) (fun _ => ?_)
      refine v_iinc (x := 8) (u := -8) (w := 0) [some (2, 10), some (0, x), some (0, 0)] (hi_X8_append_40 hT) rfl rfl (Nat.le_of_ble_eq_true rfl) (by decide) rfl ?_
      refine v_goto (hi_X8_append_43 hT) ?_
      refine v_load (v := (0, 0)) (hi_X8_append_3 hT) rfl rfl ?_
      refine v_if (hi_X8_append_4 hT) (fun hc32 => absurd (show (0 : Int) < 0 from hc32) (by decide)) (fun _ => ?_)
      refine v_load (v := (2, 10)) (hi_X8_append_7 hT) rfl rfl ?_
      refine v_getf (v := (0, ((h 10 1).2 + 1))) (r := 10) (hi_X8_append_8 hT) rfl rfl (fun _ => zset_same) ?_
      refine v_push (900) (hi_X8_append_11 hT) rfl ?_
      refine v_ic (hi_X8_append_14 hT) (fun hc33 => absurd (show ((h 10 1).2 + 1) < 900 from hc33) (by omega)) (fun _ => ?_)
      refine v_iinc (x := 0) (u := -8) (w := -8) [some (2, 10), some (0, x), some (0, -8)] (hi_X8_append_40 hT) rfl rfl (Nat.le_of_ble_eq_true rfl) (by decide) rfl ?_
      refine v_goto (hi_X8_append_43 hT) ?_
      refine v_load (v := (0, -8)) (hi_X8_append_3 hT) rfl rfl ?_
      refine v_if (hi_X8_append_4 hT) (fun _ => ?_) (fun hc34 => absurd (show (-8 : Int) < 0 from (by decide)) hc34)
      refine v_ret0 (hi_X8_append_46 hT) ?_
      exact k3 hc2 ha3 hf5 hc8
  · have hc2 : 900 ≤ (h 10 1).2 := Int.not_lt.mp hc2
    refine v_iinc (x := 24) (u := -8) (w := 16) [some (2, 10), some (0, x), some (0, 16)] (hi_X8_append_40 hT) rfl rfl (Nat.le_of_ble_eq_true rfl) (by decide) rfl ?_
    refine v_goto (hi_X8_append_43 hT) ?_
    refine v_load (v := (0, 16)) (hi_X8_append_3 hT) rfl rfl ?_
    refine v_if (hi_X8_append_4 hT) (fun hc35 => absurd (show (16 : Int) < 0 from hc35) (by decide)) (fun _ => ?_)
    refine v_load (v := (2, 10)) (hi_X8_append_7 hT) rfl rfl ?_
    refine v_getI (t := 0) (r := 10) (hi_X8_append_8 hT) rfl rfl rfl ?_
    refine v_push (900) (hi_X8_append_11 hT) rfl ?_
    refine v_ic (hi_X8_append_14 hT) (fun hc36 => absurd (show (h 10 1).2 < 900 from hc36) (by omega)) (fun _ => ?_)
    refine v_iinc (x := 16) (u := -8) (w := 8) [some (2, 10), some (0, x), some (0, 8)] (hi_X8_append_40 hT) rfl rfl (Nat.le_of_ble_eq_true rfl) (by decide) rfl ?_
    refine v_goto (hi_X8_append_43 hT) ?_
    refine v_load (v := (0, 8)) (hi_X8_append_3 hT) rfl rfl ?_
    refine v_if (hi_X8_append_4 hT) (fun hc37 => absurd (show (8 : Int) < 0 from hc37) (by decide)) (fun _ => ?_)
    refine v_load (v := (2, 10)) (hi_X8_append_7 hT) rfl rfl ?_
    refine v_getI (t := 0) (r := 10) (hi_X8_append_8 hT) rfl rfl rfl ?_
    refine v_push (900) (hi_X8_append_11 hT) rfl ?_
    refine v_ic (hi_X8_append_14 hT) (fun hc38 => absurd (show (h 10 1).2 < 900 from hc38) (by omega)) (fun _ => ?_)
    refine v_iinc (x := 8) (u := -8) (w := 0) [some (2, 10), some (0, x), some (0, 0)] (hi_X8_append_40 hT) rfl rfl (Nat.le_of_ble_eq_true rfl) (by decide) rfl ?_
    refine v_goto (hi_X8_append_43 hT) ?_
    refine v_load (v := (0, 0)) (hi_X8_append_3 hT) rfl rfl ?_
    refine v_if (hi_X8_append_4 hT) (fun hc39 => absurd (show (0 : Int) < 0 from hc39) (by decide)) (fun _ => ?_)
    refine v_load (v := (2, 10)) (hi_X8_append_7 hT) rfl rfl ?_
    refine v_getI (t := 0) (r := 10) (hi_X8_append_8 hT) rfl rfl rfl ?_
    refine v_push (900) (hi_X8_append_11 hT) rfl ?_
    refine v_ic (hi_X8_append_14 hT) (fun hc40 => absurd (show (h 10 1).2 < 900 from hc40) (by omega)) (fun _ => ?_)
    refine v_iinc (x := 0) (u := -8) (w := -8) [some (2, 10), some (0, x), some (0, -8)] (hi_X8_append_40 hT) rfl rfl (Nat.le_of_ble_eq_true rfl) (by decide) rfl ?_
    refine v_goto (hi_X8_append_43 hT) ?_
    refine v_load (v := (0, -8)) (hi_X8_append_3 hT) rfl rfl ?_
    refine v_if (hi_X8_append_4 hT) (fun _ => ?_) (fun hc41 => absurd (show (-8 : Int) < 0 from (by decide)) hc41)
    refine v_ret0 (hi_X8_append_46 hT) ?_
    exact k4 hc2
theorem y_X12_lay {D : zD} {T : zT} (hT : hTab T) (hO : vOK T) {N : Nat} {h : zH} {Q : zR → Prop} (x : Int) (hv0 : zHv h) (hL : 0 ≤ (h 121 8).2 ∧ (h 121 8).2 ≤ 896)
    (k0 : (0 ≤ (h 121 8).2) → ((h 121 8).2 < 900) → (zfit 2 (0, (vB ((v32 7 x 24)))) = true) → (0 ≤ ((h 121 8).2 + 1)) → (((h 121 8).2 + 1) < 900) → (zfit 2 (0, (vB ((v32 7 x 16)))) = true) → (0 ≤ (((h 121 8).2 + 1) + 1)) → ((((h 121 8).2 + 1) + 1) < 900) → (zfit 2 (0, (vB ((v32 7 x 8)))) = true) → (0 ≤ ((((h 121 8).2 + 1) + 1) + 1)) → (((((h 121 8).2 + 1) + 1) + 1) < 900) → (zfit 2 (0, (vB ((v32 7 x 0)))) = true) → Q (zset (zset (zset (zset (zset (zset (zset (zset h 125 (((h 121 8).2).toNat) (0, (vB ((v32 7 x 24))))) 121 8 (0, ((h 121 8).2 + 1))) 125 ((((h 121 8).2 + 1)).toNat) (0, (vB ((v32 7 x 16))))) 121 8 (0, (((h 121 8).2 + 1) + 1))) 125 (((((h 121 8).2 + 1) + 1)).toNat) (0, (vB ((v32 7 x 8))))) 121 8 (0, ((((h 121 8).2 + 1) + 1) + 1))) 125 ((((((h 121 8).2 + 1) + 1) + 1)).toNat) (0, (vB ((v32 7 x 0))))) 121 8 (0, (((((h 121 8).2 + 1) + 1) + 1) + 1)), none)) :
    vP D T N 269 0 h [some (2, 121), some (0, x), none] [] Q := by
  refine v_push (3) (hz_X12_lay hT _ _ rfl) rfl ?_
  refine v_store1 [some (2, 121), some (0, x), some (0, 3)] (hz_X12_lay hT _ _ rfl) ⟨rfl, Nat.ne_of_beq_eq_false rfl⟩ (Nat.le_of_ble_eq_true rfl) rfl ?_
  refine v_load (v := (0, 3)) (hi_X12_lay_2 hT) rfl rfl ?_
  refine v_if (hi_X12_lay_3 hT) (fun hc1 => absurd (show (3 : Int) < 0 from hc1) (by decide)) (fun _ => ?_)
  refine v_load (v := (2, 121)) (hi_X12_lay_6 hT) rfl rfl ?_
  refine v_getR (c := 125) (r := 121) (hi_X12_lay_7 hT) rfl rfl rfl ?_
  refine v_load (v := (2, 121)) (hi_X12_lay_10 hT) rfl rfl ?_
  refine v_getI (t := 0) (r := 121) (hi_X12_lay_11 hT) rfl rfl rfl ?_
  refine v_load (v := (0, x)) (hi_X12_lay_14 hT) rfl rfl ?_
  refine v_push (8) (hi_X12_lay_15 hT) rfl ?_
  refine v_load (v := (0, 3)) (hi_X12_lay_17 hT) rfl rfl ?_
  refine v_bin (w := 24) (hi_X12_lay_18 hT) (by decide) ?_
  refine v_bin (w := (v32 7 x 24)) (hi_X12_lay_19 hT) rfl ?_
  refine v_un (w := (vB ((v32 7 x 24)))) (hi_X12_lay_20 hT) rfl ?_
  refine v_ast (r := 125) (hi_X12_lay_21 hT) rfl rfl (fun ha2 hb3 hf4 => ?_)
  refine v_load (v := (2, 121)) (hi_X12_lay_22 hT) rfl rfl ?_
  refine v_dup (hi_X12_lay_23 hT) (Nat.ne_of_beq_eq_false rfl) ?_
  refine v_getf (v := (0, (h 121 8).2)) (r := 121) (hi_X12_lay_24 hT) rfl rfl (fun hv_ => Eq.trans (zset_ne (fun c => absurd c.1 (by decide))) (hv0.at rfl)) ?_
  refine v_push (1) (hi_X12_lay_27 hT) rfl ?_
  refine v_bin (w := ((h 121 8).2 + 1)) (hi_X12_lay_28 hT) (hq_add (by omega) (by omega)) ?_
  refine v_putf (r := 121) hO (hi_X12_lay_29 hT) rfl (fun hf5 => ?_)
  refine v_iinc (x := 3) (u := -1) (w := 2) [some (2, 121), some (0, x), some (0, 2)] (hi_X12_lay_32 hT) rfl rfl (Nat.le_of_ble_eq_true rfl) (by decide) rfl ?_
  refine v_goto (hi_X12_lay_35 hT) ?_
  refine v_load (v := (0, 2)) (hi_X12_lay_2 hT) rfl rfl ?_
  refine v_if (hi_X12_lay_3 hT) (fun hc6 => absurd (show (2 : Int) < 0 from hc6) (by decide)) (fun _ => ?_)
  refine v_load (v := (2, 121)) (hi_X12_lay_6 hT) rfl rfl ?_
  refine v_getR (c := 125) (r := 121) (hi_X12_lay_7 hT) rfl rfl rfl ?_
  refine v_load (v := (2, 121)) (hi_X12_lay_10 hT) rfl rfl ?_
  refine v_getf (v := (0, ((h 121 8).2 + 1))) (r := 121) (hi_X12_lay_11 hT) rfl rfl (fun _ => zset_same) ?_
  refine v_load (v := (0, x)) (hi_X12_lay_14 hT) rfl rfl ?_
  refine v_push (8) (hi_X12_lay_15 hT) rfl ?_
  refine v_load (v := (0, 2)) (hi_X12_lay_17 hT) rfl rfl ?_
  refine v_bin (w := 16) (hi_X12_lay_18 hT) (by decide) ?_
  refine v_bin (w := (v32 7 x 16)) (hi_X12_lay_19 hT) rfl ?_
  refine v_un (w := (vB ((v32 7 x 16)))) (hi_X12_lay_20 hT) rfl ?_
  refine v_ast (r := 125) (hi_X12_lay_21 hT) rfl rfl (fun ha7 hb8 hf9 => ?_)
  refine v_load (v := (2, 121)) (hi_X12_lay_22 hT) rfl rfl ?_
  refine v_dup (hi_X12_lay_23 hT) (Nat.ne_of_beq_eq_false rfl) ?_
  refine v_getf (v := (0, ((h 121 8).2 + 1))) (r := 121) (hi_X12_lay_24 hT) rfl rfl (fun _ => Eq.trans (zset_ne (fun c => absurd c.1 (by decide))) zset_same) ?_
  refine v_push (1) (hi_X12_lay_27 hT) rfl ?_
  refine v_bin (w := (((h 121 8).2 + 1) + 1)) (hi_X12_lay_28 hT) (hq_add (by omega) (by omega)) ?_
  refine v_putf (r := 121) hO (hi_X12_lay_29 hT) rfl (fun hf10 => ?_)
  refine v_iinc (x := 2) (u := -1) (w := 1) [some (2, 121), some (0, x), some (0, 1)] (hi_X12_lay_32 hT) rfl rfl (Nat.le_of_ble_eq_true rfl) (by decide) rfl ?_
  refine v_goto (hi_X12_lay_35 hT) ?_
  refine v_load (v := (0, 1)) (hi_X12_lay_2 hT) rfl rfl ?_
  refine v_if (hi_X12_lay_3 hT) (fun hc11 => absurd (show (1 : Int) < 0 from hc11) (by decide)) (fun _ => ?_)
  refine v_load (v := (2, 121)) (hi_X12_lay_6 hT) rfl rfl ?_
  refine v_getR (c := 125) (r := 121) (hi_X12_lay_7 hT) rfl rfl rfl ?_
  refine v_load (v := (2, 121)) (hi_X12_lay_10 hT) rfl rfl ?_
  refine v_getf (v := (0, (((h 121 8).2 + 1) + 1))) (r := 121) (hi_X12_lay_11 hT) rfl rfl (fun _ => zset_same) ?_
  refine v_load (v := (0, x)) (hi_X12_lay_14 hT) rfl rfl ?_
  refine v_push (8) (hi_X12_lay_15 hT) rfl ?_
  refine v_load (v := (0, 1)) (hi_X12_lay_17 hT) rfl rfl ?_
  refine v_bin (w := 8) (hi_X12_lay_18 hT) (by decide) ?_
  refine v_bin (w := (v32 7 x 8)) (hi_X12_lay_19 hT) rfl ?_
  refine v_un (w := (vB ((v32 7 x 8)))) (hi_X12_lay_20 hT) rfl ?_
  refine v_ast (r := 125) (hi_X12_lay_21 hT) rfl rfl (fun ha12 hb13 hf14 => ?_)
  refine v_load (v := (2, 121)) (hi_X12_lay_22 hT) rfl rfl ?_
  refine v_dup (hi_X12_lay_23 hT) (Nat.ne_of_beq_eq_false rfl) ?_
  refine v_getf (v := (0, (((h 121 8).2 + 1) + 1))) (r := 121) (hi_X12_lay_24 hT) rfl rfl (fun _ => Eq.trans (zset_ne (fun c => absurd c.1 (by decide))) zset_same) ?_
  refine v_push (1) (hi_X12_lay_27 hT) rfl ?_
  refine v_bin (w := ((((h 121 8).2 + 1) + 1) + 1)) (hi_X12_lay_28 hT) (hq_add (by omega) (by omega)) ?_
  refine v_putf (r := 121) hO (hi_X12_lay_29 hT) rfl (fun hf15 => ?_)
  refine v_iinc (x := 1) (u := -1) (w := 0) [some (2, 121), some (0, x), some (0, 0)] (hi_X12_lay_32 hT) rfl rfl (Nat.le_of_ble_eq_true rfl) (by decide) rfl ?_
  refine v_goto (hi_X12_lay_35 hT) ?_
  refine v_load (v := (0, 0)) (hi_X12_lay_2 hT) rfl rfl ?_
  refine v_if (hi_X12_lay_3 hT) (fun hc16 => absurd (show (0 : Int) < 0 from hc16) (by decide)) (fun _ => ?_)
  refine v_load (v := (2, 121)) (hi_X12_lay_6 hT) rfl rfl ?_
  refine v_getR (c := 125) (r := 121) (hi_X12_lay_7 hT) rfl rfl rfl ?_
  refine v_load (v := (2, 121)) (hi_X12_lay_10 hT) rfl rfl ?_
  refine v_getf (v := (0, ((((h 121 8).2 + 1) + 1) + 1))) (r := 121) (hi_X12_lay_11 hT) rfl rfl (fun _ => zset_same) ?_
  refine v_load (v := (0, x)) (hi_X12_lay_14 hT) rfl rfl ?_
  refine v_push (8) (hi_X12_lay_15 hT) rfl ?_
  refine v_load (v := (0, 0)) (hi_X12_lay_17 hT) rfl rfl ?_
  refine v_bin (w := 0) (hi_X12_lay_18 hT) (by decide) ?_
  refine v_bin (w := (v32 7 x 0)) (hi_X12_lay_19 hT) rfl ?_
  refine v_un (w := (vB ((v32 7 x 0)))) (hi_X12_lay_20 hT) rfl ?_
  refine v_ast (r := 125) (hi_X12_lay_21 hT) rfl rfl (fun ha17 hb18 hf19 => ?_)
  refine v_load (v := (2, 121)) (hi_X12_lay_22 hT) rfl rfl ?_
  refine v_dup (hi_X12_lay_23 hT) (Nat.ne_of_beq_eq_false rfl) ?_
  refine v_getf (v := (0, ((((h 121 8).2 + 1) + 1) + 1))) (r := 121) (hi_X12_lay_24 hT) rfl rfl (fun _ => Eq.trans (zset_ne (fun c => absurd c.1 (by decide))) zset_same) ?_
  refine v_push (1) (hi_X12_lay_27 hT) rfl ?_
  refine v_bin (w := (((((h 121 8).2 + 1) + 1) + 1) + 1)) (hi_X12_lay_28 hT) (hq_add (by omega) (by omega)) ?_
  refine v_putf (r := 121) hO (hi_X12_lay_29 hT) rfl (fun hf20 => ?_)
  refine v_iinc (x := 0) (u := -1) (w := -1) [some (2, 121), some (0, x), some (0, -1)] (hi_X12_lay_32 hT) rfl rfl (Nat.le_of_ble_eq_true rfl) (by decide) rfl ?_
  refine v_goto (hi_X12_lay_35 hT) ?_
  refine v_load (v := (0, -1)) (hi_X12_lay_2 hT) rfl rfl ?_
  refine v_if (hi_X12_lay_3 hT) (fun _ => ?_) (fun hc21 => absurd (show (-1 : Int) < 0 from (by decide)) hc21)
  refine v_ret0 (hz_X12_lay hT _ _ rfl) ?_
  exact k0 ha2 hb3 hf4 ha7 hb8 hf9 ha12 hb13 hf14 ha17 hb18 hf19
theorem y_X11_feed {D : zD} {T : zT} (hT : hTab T) (hO : vOK T) {N : Nat} {h : zH} {Q : zR → Prop} (a b c d e : Int) (hv0 : zHv h) (hL : 0 ≤ (h 10 1).2 ∧ (h 10 1).2 ≤ 900)
    (k0 : (900 < ((h 10 1).2 + 20)) → Q (h, some (0, -1)))
    (k1 : (((h 10 1).2 + 20) ≤ 900) → vP D T N 101 0 h [some (2, 10), some (0, a), none] [] (fun r1 => vP D T N 155 20 r1.1 [some (2, 0), some (0, a), some (0, b), some (0, c), some (0, d), some (0, e)] (zpush r1.2 []) Q)) :
    vP D T N 155 0 h [some (2, 0), some (0, a), some (0, b), some (0, c), some (0, d), some (0, e)] [] Q := by
  refine v_load (v := (2, 0)) (hz_X11_feed hT _ _ rfl) rfl rfl ?_
  refine v_getR (c := 10) (r := 0) (hz_X11_feed hT _ _ rfl) rfl rfl rfl ?_
  refine v_call (w := 1) [some (2, 10)] hO (hz_X11_feed hT _ _ rfl) rfl rfl ?_
  refine v_load (v := (2, 10)) (hz_X8_hasRoom hT _ _ rfl) rfl rfl ?_
  refine v_getI (t := 0) (r := 10) (hz_X8_hasRoom hT _ _ rfl) rfl rfl rfl ?_
  refine v_push (20) (hz_X8_hasRoom hT _ _ rfl) rfl ?_
  refine v_bin (w := ((h 10 1).2 + 20)) (hz_X8_hasRoom hT _ _ rfl) (hq_add (by omega) (by omega)) ?_
  refine v_push (900) (hz_X8_hasRoom hT _ _ rfl) rfl ?_
  refine v_ic (hz_X8_hasRoom hT _ _ rfl) (fun hc1 => ?_) (fun hc1 => ?_)
  · have hc1 : 900 < ((h 10 1).2 + 20) := hc1
    refine v_push (0) (hz_X8_hasRoom hT _ _ rfl) rfl ?_
    refine v_ret (hz_X8_hasRoom hT _ _ rfl) (Or.inl rfl) ?_
    show vP D T N 155 7 h [some (2, 0), some (0, a), some (0, b), some (0, c), some (0, d), some (0, e)] [(0, 0)] _
    refine v_if (hz_X11_feed hT _ _ rfl) (fun _ => ?_) (fun hc2 => absurd (show (0 : Int) = 0 from (by decide)) hc2)
    refine v_push (-1) (hz_X11_feed hT _ _ rfl) rfl ?_
    refine v_ret (hz_X11_feed hT _ _ rfl) (Or.inl rfl) ?_
    exact k0 hc1
  · have hc1 : ((h 10 1).2 + 20) ≤ 900 := Int.not_lt.mp hc1
    refine v_push (1) (hz_X8_hasRoom hT _ _ rfl) rfl ?_
    refine v_goto (hz_X8_hasRoom hT _ _ rfl) ?_
    refine v_ret (hz_X8_hasRoom hT _ _ rfl) (Or.inl rfl) ?_
    show vP D T N 155 7 h [some (2, 0), some (0, a), some (0, b), some (0, c), some (0, d), some (0, e)] [(0, 1)] _
    refine v_if (hz_X11_feed hT _ _ rfl) (fun hc3 => absurd (show (1 : Int) = 0 from hc3) (by decide)) (fun _ => ?_)
    refine v_load (v := (2, 0)) (hz_X11_feed hT _ _ rfl) rfl rfl ?_
    refine v_getR (c := 10) (r := 0) (hz_X11_feed hT _ _ rfl) rfl rfl rfl ?_
    refine v_load (v := (0, a)) (hz_X11_feed hT _ _ rfl) rfl rfl ?_
    refine v_call (w := 3) [some (2, 10), some (0, a), none] hO (hz_X11_feed hT _ _ rfl) rfl rfl ?_
    exact k1 hc1
theorem y_X11_feed_1 {D : zD} {T : zT} (hT : hTab T) (hO : vOK T) {N : Nat} {h : zH} {Q : zR → Prop} (a b c d e : Int) (hv0 : zHv h)
    (k0 : vP D T N 101 0 h [some (2, 10), some (0, b), none] [] (fun r1 => vP D T N 155 28 r1.1 [some (2, 0), some (0, a), some (0, b), some (0, c), some (0, d), some (0, e)] (zpush r1.2 []) Q)) :
    vP D T N 155 20 h [some (2, 0), some (0, a), some (0, b), some (0, c), some (0, d), some (0, e)] [] Q := by
  refine v_load (v := (2, 0)) (hz_X11_feed hT _ _ rfl) rfl rfl ?_
  refine v_getR (c := 10) (r := 0) (hz_X11_feed hT _ _ rfl) rfl rfl rfl ?_
  refine v_load (v := (0, b)) (hz_X11_feed hT _ _ rfl) rfl rfl ?_
  refine v_call (w := 3) [some (2, 10), some (0, b), none] hO (hz_X11_feed hT _ _ rfl) rfl rfl ?_
  exact k0 
theorem y_X11_feed_2 {D : zD} {T : zT} (hT : hTab T) (hO : vOK T) {N : Nat} {h : zH} {Q : zR → Prop} (a b c d e : Int) (hv0 : zHv h)
    (k0 : vP D T N 101 0 h [some (2, 10), some (0, c), none] [] (fun r1 => vP D T N 155 36 r1.1 [some (2, 0), some (0, a), some (0, b), some (0, c), some (0, d), some (0, e)] (zpush r1.2 []) Q)) :
    vP D T N 155 28 h [some (2, 0), some (0, a), some (0, b), some (0, c), some (0, d), some (0, e)] [] Q := by
  refine v_load (v := (2, 0)) (hz_X11_feed hT _ _ rfl) rfl rfl ?_
  refine v_getR (c := 10) (r := 0) (hz_X11_feed hT _ _ rfl) rfl rfl rfl ?_
  refine v_load (v := (0, c)) (hz_X11_feed hT _ _ rfl) rfl rfl ?_
  refine v_call (w := 3) [some (2, 10), some (0, c), none] hO (hz_X11_feed hT _ _ rfl) rfl rfl ?_
  exact k0 
theorem y_X11_feed_3 {D : zD} {T : zT} (hT : hTab T) (hO : vOK T) {N : Nat} {h : zH} {Q : zR → Prop} (a b c d e : Int) (hv0 : zHv h)
    (k0 : vP D T N 101 0 h [some (2, 10), some (0, d), none] [] (fun r1 => vP D T N 155 45 r1.1 [some (2, 0), some (0, a), some (0, b), some (0, c), some (0, d), some (0, e)] (zpush r1.2 []) Q)) :
    vP D T N 155 36 h [some (2, 0), some (0, a), some (0, b), some (0, c), some (0, d), some (0, e)] [] Q := by
  refine v_load (v := (2, 0)) (hz_X11_feed hT _ _ rfl) rfl rfl ?_
  refine v_getR (c := 10) (r := 0) (hz_X11_feed hT _ _ rfl) rfl rfl rfl ?_
  refine v_load (v := (0, d)) (hz_X11_feed hT _ _ rfl) rfl rfl ?_
  refine v_call (w := 3) [some (2, 10), some (0, d), none] hO (hz_X11_feed hT _ _ rfl) rfl rfl ?_
  exact k0 
theorem y_X11_feed_4 {D : zD} {T : zT} (hT : hTab T) (hO : vOK T) {N : Nat} {h : zH} {Q : zR → Prop} (a b c d e : Int) (hv0 : zHv h)
    (k0 : vP D T N 101 0 h [some (2, 10), some (0, e), none] [] (fun r1 => vP D T N 155 54 r1.1 [some (2, 0), some (0, a), some (0, b), some (0, c), some (0, d), some (0, e)] (zpush r1.2 []) Q)) :
    vP D T N 155 45 h [some (2, 0), some (0, a), some (0, b), some (0, c), some (0, d), some (0, e)] [] Q := by
  refine v_load (v := (2, 0)) (hz_X11_feed hT _ _ rfl) rfl rfl ?_
  refine v_getR (c := 10) (r := 0) (hz_X11_feed hT _ _ rfl) rfl rfl rfl ?_
  refine v_load (v := (0, e)) (hz_X11_feed hT _ _ rfl) rfl rfl ?_
  refine v_call (w := 3) [some (2, 10), some (0, e), none] hO (hz_X11_feed hT _ _ rfl) rfl rfl ?_
  exact k0 
theorem y_X11_feed_5 {D : zD} {T : zT} (hT : hTab T) (hO : vOK T) {N : Nat} {h : zH} {Q : zR → Prop} (a b c d e : Int) (hv0 : zHv h)
    (k0 : Q (h, some (0, (h 10 1).2))) :
    vP D T N 155 54 h [some (2, 0), some (0, a), some (0, b), some (0, c), some (0, d), some (0, e)] [] Q := by
  refine v_load (v := (2, 0)) (hz_X11_feed hT _ _ rfl) rfl rfl ?_
  refine v_getR (c := 10) (r := 0) (hz_X11_feed hT _ _ rfl) rfl rfl rfl ?_
  refine v_getI (t := 0) (r := 10) (hz_X11_feed hT _ _ rfl) rfl rfl rfl ?_
  refine v_ret (hz_X11_feed hT _ _ rfl) (Or.inl rfl) ?_
  exact k0 
theorem y_X12_feed {D : zD} {T : zT} (hT : hTab T) (hO : vOK T) {N : Nat} {h : zH} {Q : zR → Prop} (a b c d e : Int) (hv0 : zHv h) (hL : 0 ≤ (h 121 8).2 ∧ (h 121 8).2 ≤ 900)
    (k0 : (900 < ((h 121 8).2 + 20)) → Q (zset h 121 1 (0, 0), some (0, -1)))
    (k1 : (((h 121 8).2 + 20) ≤ 900) → vP D T N 269 0 (zset h 121 1 (0, 0)) [some (2, 121), some (0, a), none] [] (fun r1 => vP D T N 227 25 r1.1 [some (2, 121), some (0, a), some (0, b), some (0, c), some (0, d), some (0, e)] (zpush r1.2 []) Q)) :
    vP D T N 227 0 h [some (2, 121), some (0, a), some (0, b), some (0, c), some (0, d), some (0, e)] [] Q := by
  refine v_load (v := (2, 121)) (hz_X12_feed hT _ _ rfl) rfl rfl ?_
  refine v_push (0) (hz_X12_feed hT _ _ rfl) rfl ?_
  refine v_putf (r := 121) hO (hz_X12_feed hT _ _ rfl) rfl (fun hf1 => ?_)
  refine v_load (v := (2, 121)) (hz_X12_feed hT _ _ rfl) rfl rfl ?_
  refine v_getf (v := (0, (h 121 8).2)) (r := 121) (hz_X12_feed hT _ _ rfl) rfl rfl (fun hv_ => Eq.trans (zset_ne (fun c => absurd c.2 (by decide))) (hv0.at rfl)) ?_
  refine v_push (20) (hz_X12_feed hT _ _ rfl) rfl ?_
  refine v_bin (w := ((h 121 8).2 + 20)) (hz_X12_feed hT _ _ rfl) (hq_add (by omega) (by omega)) ?_
  refine v_push (900) (hz_X12_feed hT _ _ rfl) rfl ?_
  refine v_ic (hz_X12_feed hT _ _ rfl) (fun hc2 => ?_) (fun hc2 => ?_)
  · have hc2 : 900 < ((h 121 8).2 + 20) := hc2
    refine v_push (-1) (hz_X12_feed hT _ _ rfl) rfl ?_
    refine v_ret (hz_X12_feed hT _ _ rfl) (Or.inl rfl) ?_
    exact k0 hc2
  · have hc2 : ((h 121 8).2 + 20) ≤ 900 := Int.not_lt.mp hc2
    refine v_load (v := (2, 121)) (hz_X12_feed hT _ _ rfl) rfl rfl ?_
    refine v_load (v := (0, a)) (hz_X12_feed hT _ _ rfl) rfl rfl ?_
    refine v_call (w := 3) [some (2, 121), some (0, a), none] hO (hz_X12_feed hT _ _ rfl) rfl rfl ?_
    exact k1 hc2
theorem y_X12_feed_1 {D : zD} {T : zT} (hT : hTab T) (hO : vOK T) {N : Nat} {h : zH} {Q : zR → Prop} (a b c d e : Int) (hv0 : zHv h)
    (k0 : vP D T N 269 0 h [some (2, 121), some (0, b), none] [] (fun r1 => vP D T N 227 30 r1.1 [some (2, 121), some (0, a), some (0, b), some (0, c), some (0, d), some (0, e)] (zpush r1.2 []) Q)) :
    vP D T N 227 25 h [some (2, 121), some (0, a), some (0, b), some (0, c), some (0, d), some (0, e)] [] Q := by
  refine v_load (v := (2, 121)) (hz_X12_feed hT _ _ rfl) rfl rfl ?_
  refine v_load (v := (0, b)) (hz_X12_feed hT _ _ rfl) rfl rfl ?_
  refine v_call (w := 3) [some (2, 121), some (0, b), none] hO (hz_X12_feed hT _ _ rfl) rfl rfl ?_
  exact k0 
theorem y_X12_feed_2 {D : zD} {T : zT} (hT : hTab T) (hO : vOK T) {N : Nat} {h : zH} {Q : zR → Prop} (a b c d e : Int) (hv0 : zHv h)
    (k0 : vP D T N 269 0 h [some (2, 121), some (0, c), none] [] (fun r1 => vP D T N 227 35 r1.1 [some (2, 121), some (0, a), some (0, b), some (0, c), some (0, d), some (0, e)] (zpush r1.2 []) Q)) :
    vP D T N 227 30 h [some (2, 121), some (0, a), some (0, b), some (0, c), some (0, d), some (0, e)] [] Q := by
  refine v_load (v := (2, 121)) (hz_X12_feed hT _ _ rfl) rfl rfl ?_
  refine v_load (v := (0, c)) (hz_X12_feed hT _ _ rfl) rfl rfl ?_
  refine v_call (w := 3) [some (2, 121), some (0, c), none] hO (hz_X12_feed hT _ _ rfl) rfl rfl ?_
  exact k0 
theorem y_X12_feed_3 {D : zD} {T : zT} (hT : hTab T) (hO : vOK T) {N : Nat} {h : zH} {Q : zR → Prop} (a b c d e : Int) (hv0 : zHv h)
    (k0 : vP D T N 269 0 h [some (2, 121), some (0, d), none] [] (fun r1 => vP D T N 227 41 r1.1 [some (2, 121), some (0, a), some (0, b), some (0, c), some (0, d), some (0, e)] (zpush r1.2 []) Q)) :
    vP D T N 227 35 h [some (2, 121), some (0, a), some (0, b), some (0, c), some (0, d), some (0, e)] [] Q := by
  refine v_load (v := (2, 121)) (hz_X12_feed hT _ _ rfl) rfl rfl ?_
  refine v_load (v := (0, d)) (hz_X12_feed hT _ _ rfl) rfl rfl ?_
  refine v_call (w := 3) [some (2, 121), some (0, d), none] hO (hz_X12_feed hT _ _ rfl) rfl rfl ?_
  exact k0 
theorem y_X12_feed_4 {D : zD} {T : zT} (hT : hTab T) (hO : vOK T) {N : Nat} {h : zH} {Q : zR → Prop} (a b c d e : Int) (hv0 : zHv h)
    (k0 : vP D T N 269 0 h [some (2, 121), some (0, e), none] [] (fun r1 => vP D T N 227 47 r1.1 [some (2, 121), some (0, a), some (0, b), some (0, c), some (0, d), some (0, e)] (zpush r1.2 []) Q)) :
    vP D T N 227 41 h [some (2, 121), some (0, a), some (0, b), some (0, c), some (0, d), some (0, e)] [] Q := by
  refine v_load (v := (2, 121)) (hz_X12_feed hT _ _ rfl) rfl rfl ?_
  refine v_load (v := (0, e)) (hz_X12_feed hT _ _ rfl) rfl rfl ?_
  refine v_call (w := 3) [some (2, 121), some (0, e), none] hO (hz_X12_feed hT _ _ rfl) rfl rfl ?_
  exact k0 
theorem y_X12_feed_5 {D : zD} {T : zT} (hT : hTab T) (hO : vOK T) {N : Nat} {h : zH} {Q : zR → Prop} (a b c d e : Int) (hv0 : zHv h)
    (k0 : Q (h, some (0, (h 121 8).2))) :
    vP D T N 227 47 h [some (2, 121), some (0, a), some (0, b), some (0, c), some (0, d), some (0, e)] [] Q := by
  refine v_load (v := (2, 121)) (hz_X12_feed hT _ _ rfl) rfl rfl ?_
  refine v_getI (t := 0) (r := 121) (hz_X12_feed hT _ _ rfl) rfl rfl rfl ?_
  refine v_ret (hz_X12_feed hT _ _ rfl) (Or.inl rfl) ?_
  exact k0 
theorem y_X11_land_24 {D : zD} {T : zT} (hT : hTab T) (hO : vOK T) {N : Nat} {h : zH} {Q : zR → Prop} (n : Int) (hv0 : zHv h) (e8 : h 0 8 = (2, 24))
    (k0 : (n < 0) → Q (zset h 0 0 (0, 5), some (0, -1)))
    (k1 : (0 ≤ n) → ((h 10 1).2 < n) → Q (zset h 0 0 (0, 5), some (0, -1)))
    (k2 : (0 ≤ n) → (n ≤ (h 10 1).2) → vP D T N 68 0 h [some (2, 16), some (2, 24), some (0, n), none] [] (fun r1 => vP D T N 162 33 r1.1 [some (2, 0), some (0, n), none, none] (zpush r1.2 []) Q)) :
    vP D T N 162 0 h [some (2, 0), some (0, n), none, none] [] Q := by
  refine v_load (v := (0, n)) (hi_X11_land_0 hT) rfl rfl ?_
  refine v_if (hi_X11_land_1 hT) (fun hc1 => ?_) (fun hc1 => ?_)
  · have hc1 : n < 0 := hc1
    refine v_load (v := (2, 0)) (hi_X11_land_15 hT) rfl rfl ?_
    refine v_push (5) (hi_X11_land_16 hT) rfl ?_
    refine v_call (w := 2) [some (2, 0), some (0, 5)] hO (hi_X11_land_17 hT) rfl rfl ?_
    refine v_load (v := (2, 0)) (hi_X11_refused_0 hT) rfl rfl ?_
    refine v_load (v := (0, 5)) (hi_X11_refused_1 hT) rfl rfl ?_
    refine v_putf (r := 0) hO (hi_X11_refused_2 hT) rfl (fun hf2 => ?_)
    refine v_push (-1) (hi_X11_refused_5 hT) rfl ?_
    refine v_ret (hi_X11_refused_6 hT) (Or.inl rfl) ?_
    show vP D T N 162 20 (zset h 0 0 (0, 5)) [some (2, 0), some (0, n), none, none] [(0, -1)] _
    refine v_ret (hi_X11_land_20 hT) (Or.inl rfl) ?_
    exact k0 hc1
  · have hc1 : 0 ≤ n := Int.not_lt.mp hc1
    refine v_load (v := (0, n)) (hi_X11_land_4 hT) rfl rfl ?_
    refine v_load (v := (2, 0)) (hi_X11_land_5 hT) rfl rfl ?_
    refine v_getR (c := 10) (r := 0) (hi_X11_land_6 hT) rfl rfl rfl ?_
    refine v_getI (t := 0) (r := 10) (hi_X11_land_9 hT) rfl rfl rfl ?_
    refine v_ic (hi_X11_land_12 hT) (fun hc3 => ?_) (fun hc3 => ?_)
    · have hc3 : (h 10 1).2 < n := hc3
      refine v_load (v := (2, 0)) (hi_X11_land_15 hT) rfl rfl ?_
      refine v_push (5) (hi_X11_land_16 hT) rfl ?_
      refine v_call (w := 2) [some (2, 0), some (0, 5)] hO (hi_X11_land_17 hT) rfl rfl ?_
      refine v_load (v := (2, 0)) (hi_X11_refused_0 hT) rfl rfl ?_
      refine v_load (v := (0, 5)) (hi_X11_refused_1 hT) rfl rfl ?_
      refine v_putf (r := 0) hO (hi_X11_refused_2 hT) rfl (fun hf4 => ?_)
      refine v_push (-1) (hi_X11_refused_5 hT) rfl ?_
      refine v_ret (hi_X11_refused_6 hT) (Or.inl rfl) ?_
      show vP D T N 162 20 (zset h 0 0 (0, 5)) [some (2, 0), some (0, n), none, none] [(0, -1)] _
      refine v_ret (hi_X11_land_20 hT) (Or.inl rfl) ?_
      exact k1 hc1 hc3
    · have hc3 : n ≤ (h 10 1).2 := Int.not_lt.mp hc3
      refine v_load (v := (2, 0)) (hi_X11_land_21 hT) rfl rfl ?_
      refine v_getR (c := 16) (r := 0) (hi_X11_land_22 hT) rfl rfl rfl ?_
      refine v_load (v := (2, 0)) (hi_X11_land_25 hT) rfl rfl ?_
      refine v_getf (v := (2, 24)) (r := 0) (hi_X11_land_26 hT) rfl rfl (fun _ => e8) ?_
      refine v_load (v := (0, n)) (hi_X11_land_29 hT) rfl rfl ?_
      refine v_call (w := 4) [some (2, 16), some (2, 24), some (0, n), none] hO (hi_X11_land_30 hT) rfl rfl ?_
      exact k2 hc1 hc3
theorem y_X11_land_39 {D : zD} {T : zT} (hT : hTab T) (hO : vOK T) {N : Nat} {h : zH} {Q : zR → Prop} (n : Int) (hv0 : zHv h) (e8 : h 0 8 = (2, 39))
    (k0 : (n < 0) → Q (zset h 0 0 (0, 5), some (0, -1)))
    (k1 : (0 ≤ n) → ((h 10 1).2 < n) → Q (zset h 0 0 (0, 5), some (0, -1)))
    (k2 : (0 ≤ n) → (n ≤ (h 10 1).2) → vP D T N 68 0 h [some (2, 16), some (2, 39), some (0, n), none] [] (fun r1 => vP D T N 162 33 r1.1 [some (2, 0), some (0, n), none, none] (zpush r1.2 []) Q)) :
    vP D T N 162 0 h [some (2, 0), some (0, n), none, none] [] Q := by
  refine v_load (v := (0, n)) (hi_X11_land_0 hT) rfl rfl ?_
  refine v_if (hi_X11_land_1 hT) (fun hc1 => ?_) (fun hc1 => ?_)
  · have hc1 : n < 0 := hc1
    refine v_load (v := (2, 0)) (hi_X11_land_15 hT) rfl rfl ?_
    refine v_push (5) (hi_X11_land_16 hT) rfl ?_
    refine v_call (w := 2) [some (2, 0), some (0, 5)] hO (hi_X11_land_17 hT) rfl rfl ?_
    refine v_load (v := (2, 0)) (hi_X11_refused_0 hT) rfl rfl ?_
    refine v_load (v := (0, 5)) (hi_X11_refused_1 hT) rfl rfl ?_
    refine v_putf (r := 0) hO (hi_X11_refused_2 hT) rfl (fun hf2 => ?_)
    refine v_push (-1) (hi_X11_refused_5 hT) rfl ?_
    refine v_ret (hi_X11_refused_6 hT) (Or.inl rfl) ?_
    show vP D T N 162 20 (zset h 0 0 (0, 5)) [some (2, 0), some (0, n), none, none] [(0, -1)] _
    refine v_ret (hi_X11_land_20 hT) (Or.inl rfl) ?_
    exact k0 hc1
  · have hc1 : 0 ≤ n := Int.not_lt.mp hc1
    refine v_load (v := (0, n)) (hi_X11_land_4 hT) rfl rfl ?_
    refine v_load (v := (2, 0)) (hi_X11_land_5 hT) rfl rfl ?_
    refine v_getR (c := 10) (r := 0) (hi_X11_land_6 hT) rfl rfl rfl ?_
    refine v_getI (t := 0) (r := 10) (hi_X11_land_9 hT) rfl rfl rfl ?_
    refine v_ic (hi_X11_land_12 hT) (fun hc3 => ?_) (fun hc3 => ?_)
    · have hc3 : (h 10 1).2 < n := hc3
      refine v_load (v := (2, 0)) (hi_X11_land_15 hT) rfl rfl ?_
      refine v_push (5) (hi_X11_land_16 hT) rfl ?_
      refine v_call (w := 2) [some (2, 0), some (0, 5)] hO (hi_X11_land_17 hT) rfl rfl ?_
      refine v_load (v := (2, 0)) (hi_X11_refused_0 hT) rfl rfl ?_
      refine v_load (v := (0, 5)) (hi_X11_refused_1 hT) rfl rfl ?_
      refine v_putf (r := 0) hO (hi_X11_refused_2 hT) rfl (fun hf4 => ?_)
      refine v_push (-1) (hi_X11_refused_5 hT) rfl ?_
      refine v_ret (hi_X11_refused_6 hT) (Or.inl rfl) ?_
      show vP D T N 162 20 (zset h 0 0 (0, 5)) [some (2, 0), some (0, n), none, none] [(0, -1)] _
      refine v_ret (hi_X11_land_20 hT) (Or.inl rfl) ?_
      exact k1 hc1 hc3
    · have hc3 : n ≤ (h 10 1).2 := Int.not_lt.mp hc3
      refine v_load (v := (2, 0)) (hi_X11_land_21 hT) rfl rfl ?_
      refine v_getR (c := 16) (r := 0) (hi_X11_land_22 hT) rfl rfl rfl ?_
      refine v_load (v := (2, 0)) (hi_X11_land_25 hT) rfl rfl ?_
      refine v_getf (v := (2, 39)) (r := 0) (hi_X11_land_26 hT) rfl rfl (fun _ => e8) ?_
      refine v_load (v := (0, n)) (hi_X11_land_29 hT) rfl rfl ?_
      refine v_call (w := 4) [some (2, 16), some (2, 39), some (0, n), none] hO (hi_X11_land_30 hT) rfl rfl ?_
      exact k2 hc1 hc3
theorem y_X11_land33 {D : zD} {T : zT} (hT : hTab T) (hO : vOK T) {N : Nat} {h : zH} {Q : zR → Prop} (n z : Int) (hv0 : zHv h)
    (k0 : vP D T N 162 41 (zset (zset (zset h 10 1 (0, 0)) 10 9 (0, (h 10 7).2)) 10 10 (0, (h 10 8).2)) [some (2, 0), some (0, n), some (0, z), none] [] Q) :
    vP D T N 162 33 h [some (2, 0), some (0, n), none, none] [(0, z)] Q := by
  refine v_store1 [some (2, 0), some (0, n), some (0, z), none] (hi_X11_land_33 hT) ⟨rfl, Nat.ne_of_beq_eq_false rfl⟩ (Nat.le_of_ble_eq_true rfl) rfl ?_
  refine v_load (v := (2, 0)) (hi_X11_land_34 hT) rfl rfl ?_
  refine v_getR (c := 10) (r := 0) (hi_X11_land_35 hT) rfl rfl rfl ?_
  refine v_call (w := 1) [some (2, 10)] hO (hi_X11_land_38 hT) rfl rfl ?_
  refine v_load (v := (2, 10)) (hi_X8_finishText_0 hT) rfl rfl ?_
  refine v_push (0) (hi_X8_finishText_1 hT) rfl ?_
  refine v_putf (r := 10) hO (hi_X8_finishText_2 hT) rfl (fun hf1 => ?_)
  refine v_load (v := (2, 10)) (hi_X8_finishText_5 hT) rfl rfl ?_
  refine v_load (v := (2, 10)) (hi_X8_finishText_6 hT) rfl rfl ?_
  refine v_getf (v := (0, (h 10 7).2)) (r := 10) (hi_X8_finishText_7 hT) rfl rfl (fun hv_ => Eq.trans (zset_ne (fun c => absurd c.2 (by decide))) (hv0.at rfl)) ?_
  refine v_putf (r := 10) hO (hi_X8_finishText_10 hT) rfl (fun hf2 => ?_)
  refine v_load (v := (2, 10)) (hi_X8_finishText_13 hT) rfl rfl ?_
  refine v_load (v := (2, 10)) (hi_X8_finishText_14 hT) rfl rfl ?_
  refine v_getf (v := (0, (h 10 8).2)) (r := 10) (hi_X8_finishText_15 hT) rfl rfl (fun hv_ => Eq.trans (Eq.trans (zset_ne (fun c => absurd c.2 (by decide))) (zset_ne (fun c => absurd c.2 (by decide)))) (hv0.at rfl)) ?_
  refine v_putf (r := 10) hO (hi_X8_finishText_18 hT) rfl (fun hf3 => ?_)
  refine v_ret0 (hi_X8_finishText_21 hT) ?_
  show vP D T N 162 41 (zset (zset (zset h 10 1 (0, 0)) 10 9 (0, (h 10 7).2)) 10 10 (0, (h 10 8).2)) [some (2, 0), some (0, n), some (0, z), none] [] _
  exact k0 
def fs_cland : List (Nat × Nat) := [(162, 41), (142, 0), (177, 0)]
theorem fs_cland_ok : fwC fs_cland 8 1 = true := by decide +kernel
theorem y_X12_land {D : zD} {T : zT} (hT : hTab T) (hO : vOK T) {N : Nat} {h : zH} {Q : zR → Prop} (n : Int) (hv0 : zHv h)
    (k0 : (n < 0) → Q (zset (zset (zset h 121 1 (0, 0)) 121 0 (0, 0)) 121 0 (0, 5), some (0, -1)))
    (k1 : (0 ≤ n) → ((h 121 8).2 < n) → Q (zset (zset (zset h 121 1 (0, 0)) 121 0 (0, 0)) 121 0 (0, 5), some (0, -1)))
    (k2 : (0 ≤ n) → (n ≤ (h 121 8).2) → (900 < n) → Q (zset (zset (zset h 121 1 (0, 0)) 121 0 (0, 0)) 121 0 (0, 5), some (0, -1)))
    (k3 : (0 ≤ n) → (n ≤ (h 121 8).2) → (n ≤ 900) → vP D T N 284 0 (zset (zset (zset (zset (zset (zset h 121 1 (0, 0)) 121 0 (0, 0)) 121 9 (0, n)) 121 8 (0, 0)) 121 16 (0, 0)) 121 12 (0, 0)) [some (2, 121), none] [] (fun r1 => vP D T N 288 47 r1.1 [some (2, 121), some (0, n), some (0, 900)] (zpush r1.2 []) (fun r2 => vP D T N 268 18 r2.1 [some (2, 121), some (0, n), none] (zpush r2.2 []) Q))) :
    vP D T N 268 0 h [some (2, 121), some (0, n), none] [] Q := by
  refine v_load (v := (2, 121)) (hi_X12_land_0 hT) rfl rfl ?_
  refine v_push (0) (hi_X12_land_1 hT) rfl ?_
  refine v_putf (r := 121) hO (hi_X12_land_2 hT) rfl (fun hf1 => ?_)
  refine v_load (v := (2, 121)) (hi_X12_land_5 hT) rfl rfl ?_
  refine v_push (0) (hi_X12_land_6 hT) rfl ?_
  refine v_putf (r := 121) hO (hi_X12_land_7 hT) rfl (fun hf2 => ?_)
  refine v_load (v := (2, 121)) (hi_X12_land_10 hT) rfl rfl ?_
  refine v_load (v := (0, n)) (hi_X12_land_11 hT) rfl rfl ?_
  refine v_push (900) (hi_X12_land_12 hT) rfl ?_
  refine v_call (w := 3) [some (2, 121), some (0, n), some (0, 900)] hO (hi_X12_land_15 hT) rfl rfl ?_
  refine v_load (v := (0, n)) (hi_X12_opens_0 hT) rfl rfl ?_
  refine v_if (hi_X12_opens_1 hT) (fun hc3 => ?_) (fun hc3 => ?_)
  · have hc3 : n < 0 := hc3
    refine v_load (v := (2, 121)) (hi_X12_opens_17 hT) rfl rfl ?_
    refine v_push (5) (hi_X12_opens_18 hT) rfl ?_
    refine v_call (w := 2) [some (2, 121), some (0, 5)] hO (hi_X12_opens_19 hT) rfl rfl ?_
    refine v_load (v := (2, 121)) (hi_X12_no_0 hT) rfl rfl ?_
    refine v_load (v := (0, 5)) (hi_X12_no_1 hT) rfl rfl ?_
    refine v_putf (r := 121) hO (hi_X12_no_2 hT) rfl (fun hf4 => ?_)
    refine v_push (0) (hi_X12_no_5 hT) rfl ?_
    refine v_ret (hi_X12_no_6 hT) (Or.inl rfl) ?_
    show vP D T N 288 22 (zset (zset (zset h 121 1 (0, 0)) 121 0 (0, 0)) 121 0 (0, 5)) [some (2, 121), some (0, n), some (0, 900)] [(0, 0)] _
    refine v_ret (hi_X12_opens_22 hT) (Or.inl rfl) ?_
    show vP D T N 268 18 (zset (zset (zset h 121 1 (0, 0)) 121 0 (0, 0)) 121 0 (0, 5)) [some (2, 121), some (0, n), none] [(0, 0)] _
    refine v_if (hi_X12_land_18 hT) (fun _ => ?_) (fun hc5 => absurd (show (0 : Int) = 0 from (by decide)) hc5)
    refine v_push (-1) (hi_X12_land_21 hT) rfl ?_
    refine v_ret (hi_X12_land_22 hT) (Or.inl rfl) ?_
    exact k0 hc3
  · have hc3 : 0 ≤ n := Int.not_lt.mp hc3
    refine v_load (v := (0, n)) (hi_X12_opens_4 hT) rfl rfl ?_
    refine v_load (v := (2, 121)) (hi_X12_opens_5 hT) rfl rfl ?_
    refine v_getf (v := (0, (h 121 8).2)) (r := 121) (hi_X12_opens_6 hT) rfl rfl (fun hv_ => Eq.trans (Eq.trans (zset_ne (fun c => absurd c.2 (by decide))) (zset_ne (fun c => absurd c.2 (by decide)))) (hv0.at rfl)) ?_
    refine v_ic (hi_X12_opens_9 hT) (fun hc6 => ?_) (fun hc6 => ?_)
    · have hc6 : (h 121 8).2 < n := hc6
      refine v_load (v := (2, 121)) (hi_X12_opens_17 hT) rfl rfl ?_
      refine v_push (5) (hi_X12_opens_18 hT) rfl ?_
      refine v_call (w := 2) [some (2, 121), some (0, 5)] hO (hi_X12_opens_19 hT) rfl rfl ?_
      refine v_load (v := (2, 121)) (hi_X12_no_0 hT) rfl rfl ?_
      refine v_load (v := (0, 5)) (hi_X12_no_1 hT) rfl rfl ?_
      refine v_putf (r := 121) hO (hi_X12_no_2 hT) rfl (fun hf7 => ?_)
      refine v_push (0) (hi_X12_no_5 hT) rfl ?_
      refine v_ret (hi_X12_no_6 hT) (Or.inl rfl) ?_
      show vP D T N 288 22 (zset (zset (zset h 121 1 (0, 0)) 121 0 (0, 0)) 121 0 (0, 5)) [some (2, 121), some (0, n), some (0, 900)] [(0, 0)] _
      refine v_ret (hi_X12_opens_22 hT) (Or.inl rfl) ?_
      show vP D T N 268 18 (zset (zset (zset h 121 1 (0, 0)) 121 0 (0, 0)) 121 0 (0, 5)) [some (2, 121), some (0, n), none] [(0, 0)] _
      refine v_if (hi_X12_land_18 hT) (fun _ => ?_) (fun hc8 => absurd (show (0 : Int) = 0 from (by decide)) hc8)
      refine v_push (-1) (hi_X12_land_21 hT) rfl ?_
      refine v_ret (hi_X12_land_22 hT) (Or.inl rfl) ?_
      exact k1 hc3 hc6
    · have hc6 : n ≤ (h 121 8).2 := Int.not_lt.mp hc6
      refine v_load (v := (0, n)) (hi_X12_opens_12 hT) rfl rfl ?_
      refine v_load (v := (0, 900)) (hi_X12_opens_13 hT) rfl rfl ?_
      refine v_ic (hi_X12_opens_14 hT) (fun hc9 => ?_) (fun hc9 => ?_)
      · have hc9 : 900 < n := hc9
        refine v_load (v := (2, 121)) (hi_X12_opens_17 hT) rfl rfl ?_
        refine v_push (5) (hi_X12_opens_18 hT) rfl ?_
        refine v_call (w := 2) [some (2, 121), some (0, 5)] hO (hi_X12_opens_19 hT) rfl rfl ?_
        refine v_load (v := (2, 121)) (hi_X12_no_0 hT) rfl rfl ?_
        refine v_load (v := (0, 5)) (hi_X12_no_1 hT) rfl rfl ?_
        refine v_putf (r := 121) hO (hi_X12_no_2 hT) rfl (fun hf10 => ?_)
        refine v_push (0) (hi_X12_no_5 hT) rfl ?_
        refine v_ret (hi_X12_no_6 hT) (Or.inl rfl) ?_
        show vP D T N 288 22 (zset (zset (zset h 121 1 (0, 0)) 121 0 (0, 0)) 121 0 (0, 5)) [some (2, 121), some (0, n), some (0, 900)] [(0, 0)] _
        refine v_ret (hi_X12_opens_22 hT) (Or.inl rfl) ?_
        show vP D T N 268 18 (zset (zset (zset h 121 1 (0, 0)) 121 0 (0, 0)) 121 0 (0, 5)) [some (2, 121), some (0, n), none] [(0, 0)] _
        refine v_if (hi_X12_land_18 hT) (fun _ => ?_) (fun hc11 => absurd (show (0 : Int) = 0 from (by decide)) hc11)
        refine v_push (-1) (hi_X12_land_21 hT) rfl ?_
        refine v_ret (hi_X12_land_22 hT) (Or.inl rfl) ?_
        exact k2 hc3 hc6 hc9
      · have hc9 : n ≤ 900 := Int.not_lt.mp hc9
        refine v_load (v := (2, 121)) (hi_X12_opens_23 hT) rfl rfl ?_
        refine v_load (v := (0, n)) (hi_X12_opens_24 hT) rfl rfl ?_
        refine v_putf (r := 121) hO (hi_X12_opens_25 hT) rfl (fun hf12 => ?_)
        refine v_load (v := (2, 121)) (hi_X12_opens_28 hT) rfl rfl ?_
        refine v_push (0) (hi_X12_opens_29 hT) rfl ?_
        refine v_putf (r := 121) hO (hi_X12_opens_30 hT) rfl (fun hf13 => ?_)
        refine v_load (v := (2, 121)) (hi_X12_opens_33 hT) rfl rfl ?_
        refine v_push (0) (hi_X12_opens_34 hT) rfl ?_
        refine v_putf (r := 121) hO (hi_X12_opens_35 hT) rfl (fun hf14 => ?_)
        refine v_load (v := (2, 121)) (hi_X12_opens_38 hT) rfl rfl ?_
        refine v_push (0) (hi_X12_opens_39 hT) rfl ?_
        refine v_putf (r := 121) hO (hi_X12_opens_40 hT) rfl (fun hf15 => ?_)
        refine v_load (v := (2, 121)) (hi_X12_opens_43 hT) rfl rfl ?_
        refine v_call (w := 2) [some (2, 121), none] hO (hi_X12_opens_44 hT) rfl rfl ?_
        exact k3 hc3 hc6 hc9
def fs_next : List (Nat × Nat) := [(284, 0), (249, 0), (254, 0), (260, 0), (272, 0)]
theorem fs_next_ok : fwC fs_next 12 8 = true := by decide +kernel
def fs_opens : List (Nat × Nat) := [(288, 47)]
theorem fs_opens_ok : fwC fs_opens 12 8 = true := by decide +kernel
def fs_rland : List (Nat × Nat) := [(268, 18), (211, 0), (225, 0), (234, 0), (241, 0), (243, 0), (245, 0), (247, 0), (249, 0), (250, 0), (252, 0), (253, 0), (254, 0), (255, 0), (257, 0), (258, 0), (259, 0), (260, 0), (262, 0), (265, 0), (266, 0), (267, 0), (272, 0), (282, 0), (283, 0), (284, 0), (285, 0), (295, 0), (296, 0), (298, 0), (300, 0), (302, 0), (303, 0), (312, 0), (318, 0), (325, 0), (340, 0)]
theorem fs_rland_ok : fwC fs_rland 12 8 = true := by decide +kernel
theorem y_X11_orders_24 {D : zD} {T : zT} (hT : hTab T) (hO : vOK T) {N : Nat} {h : zH} {Q : zR → Prop} (n : Int) (hv0 : zHv h) (e7 : h 0 7 = (2, 24))
    (k0 : (n < 0) → Q (zset h 0 0 (0, 5), some (0, -1)))
    (k1 : (0 ≤ n) → ((h 10 1).2 < n) → Q (zset h 0 0 (0, 5), some (0, -1)))
    (k2 : (0 ≤ n) → (n ≤ (h 10 1).2) → (300 < n) → Q (zset h 0 0 (0, 5), some (0, -1)))
    (k3 : (0 ≤ n) → (n ≤ (h 10 1).2) → (n ≤ 300) → vP D T N 88 0 h [some (2, 17), some (2, 24), some (0, n), none, none] [] (fun r1 => vP D T N 170 40 r1.1 [some (2, 0), some (0, n), none] (zpush r1.2 []) Q)) :
    vP D T N 170 0 h [some (2, 0), some (0, n), none] [] Q := by
  refine v_load (v := (0, n)) (hi_X11_orders_0 hT) rfl rfl ?_
  refine v_if (hi_X11_orders_1 hT) (fun hc1 => ?_) (fun hc1 => ?_)
  · have hc1 : n < 0 := hc1
    refine v_load (v := (2, 0)) (hi_X11_orders_22 hT) rfl rfl ?_
    refine v_push (5) (hi_X11_orders_23 hT) rfl ?_
    refine v_call (w := 2) [some (2, 0), some (0, 5)] hO (hi_X11_orders_24 hT) rfl rfl ?_
    refine v_load (v := (2, 0)) (hi_X11_refused_0 hT) rfl rfl ?_
    refine v_load (v := (0, 5)) (hi_X11_refused_1 hT) rfl rfl ?_
    refine v_putf (r := 0) hO (hi_X11_refused_2 hT) rfl (fun hf2 => ?_)
    refine v_push (-1) (hi_X11_refused_5 hT) rfl ?_
    refine v_ret (hi_X11_refused_6 hT) (Or.inl rfl) ?_
    show vP D T N 170 27 (zset h 0 0 (0, 5)) [some (2, 0), some (0, n), none] [(0, -1)] _
    refine v_ret (hi_X11_orders_27 hT) (Or.inl rfl) ?_
    exact k0 hc1
  · have hc1 : 0 ≤ n := Int.not_lt.mp hc1
    refine v_load (v := (0, n)) (hi_X11_orders_4 hT) rfl rfl ?_
    refine v_load (v := (2, 0)) (hi_X11_orders_5 hT) rfl rfl ?_
    refine v_getR (c := 10) (r := 0) (hi_X11_orders_6 hT) rfl rfl rfl ?_
    refine v_getI (t := 0) (r := 10) (hi_X11_orders_9 hT) rfl rfl rfl ?_
    refine v_ic (hi_X11_orders_12 hT) (fun hc3 => ?_) (fun hc3 => ?_)
    · have hc3 : (h 10 1).2 < n := hc3
      refine v_load (v := (2, 0)) (hi_X11_orders_22 hT) rfl rfl ?_
      refine v_push (5) (hi_X11_orders_23 hT) rfl ?_
      refine v_call (w := 2) [some (2, 0), some (0, 5)] hO (hi_X11_orders_24 hT) rfl rfl ?_
      refine v_load (v := (2, 0)) (hi_X11_refused_0 hT) rfl rfl ?_
      refine v_load (v := (0, 5)) (hi_X11_refused_1 hT) rfl rfl ?_
      refine v_putf (r := 0) hO (hi_X11_refused_2 hT) rfl (fun hf4 => ?_)
      refine v_push (-1) (hi_X11_refused_5 hT) rfl ?_
      refine v_ret (hi_X11_refused_6 hT) (Or.inl rfl) ?_
      show vP D T N 170 27 (zset h 0 0 (0, 5)) [some (2, 0), some (0, n), none] [(0, -1)] _
      refine v_ret (hi_X11_orders_27 hT) (Or.inl rfl) ?_
      exact k1 hc1 hc3
    · have hc3 : n ≤ (h 10 1).2 := Int.not_lt.mp hc3
      refine v_load (v := (0, n)) (hi_X11_orders_15 hT) rfl rfl ?_
      refine v_push (300) (hi_X11_orders_16 hT) rfl ?_
      refine v_ic (hi_X11_orders_19 hT) (fun hc5 => ?_) (fun hc5 => ?_)
      · have hc5 : 300 < n := hc5
        refine v_load (v := (2, 0)) (hi_X11_orders_22 hT) rfl rfl ?_
        refine v_push (5) (hi_X11_orders_23 hT) rfl ?_
        refine v_call (w := 2) [some (2, 0), some (0, 5)] hO (hi_X11_orders_24 hT) rfl rfl ?_
        refine v_load (v := (2, 0)) (hi_X11_refused_0 hT) rfl rfl ?_
        refine v_load (v := (0, 5)) (hi_X11_refused_1 hT) rfl rfl ?_
        refine v_putf (r := 0) hO (hi_X11_refused_2 hT) rfl (fun hf6 => ?_)
        refine v_push (-1) (hi_X11_refused_5 hT) rfl ?_
        refine v_ret (hi_X11_refused_6 hT) (Or.inl rfl) ?_
        show vP D T N 170 27 (zset h 0 0 (0, 5)) [some (2, 0), some (0, n), none] [(0, -1)] _
        refine v_ret (hi_X11_orders_27 hT) (Or.inl rfl) ?_
        exact k2 hc1 hc3 hc5
      · have hc5 : n ≤ 300 := Int.not_lt.mp hc5
        refine v_load (v := (2, 0)) (hi_X11_orders_28 hT) rfl rfl ?_
        refine v_getR (c := 17) (r := 0) (hi_X11_orders_29 hT) rfl rfl rfl ?_
        refine v_load (v := (2, 0)) (hi_X11_orders_32 hT) rfl rfl ?_
        refine v_getf (v := (2, 24)) (r := 0) (hi_X11_orders_33 hT) rfl rfl (fun _ => e7) ?_
        refine v_load (v := (0, n)) (hi_X11_orders_36 hT) rfl rfl ?_
        refine v_call (w := 5) [some (2, 17), some (2, 24), some (0, n), none, none] hO (hi_X11_orders_37 hT) rfl rfl ?_
        exact k3 hc1 hc3 hc5
theorem y_X11_orders_39 {D : zD} {T : zT} (hT : hTab T) (hO : vOK T) {N : Nat} {h : zH} {Q : zR → Prop} (n : Int) (hv0 : zHv h) (e7 : h 0 7 = (2, 39))
    (k0 : (n < 0) → Q (zset h 0 0 (0, 5), some (0, -1)))
    (k1 : (0 ≤ n) → ((h 10 1).2 < n) → Q (zset h 0 0 (0, 5), some (0, -1)))
    (k2 : (0 ≤ n) → (n ≤ (h 10 1).2) → (300 < n) → Q (zset h 0 0 (0, 5), some (0, -1)))
    (k3 : (0 ≤ n) → (n ≤ (h 10 1).2) → (n ≤ 300) → vP D T N 88 0 h [some (2, 17), some (2, 39), some (0, n), none, none] [] (fun r1 => vP D T N 170 40 r1.1 [some (2, 0), some (0, n), none] (zpush r1.2 []) Q)) :
    vP D T N 170 0 h [some (2, 0), some (0, n), none] [] Q := by
  refine v_load (v := (0, n)) (hi_X11_orders_0 hT) rfl rfl ?_
  refine v_if (hi_X11_orders_1 hT) (fun hc1 => ?_) (fun hc1 => ?_)
  · have hc1 : n < 0 := hc1
    refine v_load (v := (2, 0)) (hi_X11_orders_22 hT) rfl rfl ?_
    refine v_push (5) (hi_X11_orders_23 hT) rfl ?_
    refine v_call (w := 2) [some (2, 0), some (0, 5)] hO (hi_X11_orders_24 hT) rfl rfl ?_
    refine v_load (v := (2, 0)) (hi_X11_refused_0 hT) rfl rfl ?_
    refine v_load (v := (0, 5)) (hi_X11_refused_1 hT) rfl rfl ?_
    refine v_putf (r := 0) hO (hi_X11_refused_2 hT) rfl (fun hf2 => ?_)
    refine v_push (-1) (hi_X11_refused_5 hT) rfl ?_
    refine v_ret (hi_X11_refused_6 hT) (Or.inl rfl) ?_
    show vP D T N 170 27 (zset h 0 0 (0, 5)) [some (2, 0), some (0, n), none] [(0, -1)] _
    refine v_ret (hi_X11_orders_27 hT) (Or.inl rfl) ?_
    exact k0 hc1
  · have hc1 : 0 ≤ n := Int.not_lt.mp hc1
    refine v_load (v := (0, n)) (hi_X11_orders_4 hT) rfl rfl ?_
    refine v_load (v := (2, 0)) (hi_X11_orders_5 hT) rfl rfl ?_
    refine v_getR (c := 10) (r := 0) (hi_X11_orders_6 hT) rfl rfl rfl ?_
    refine v_getI (t := 0) (r := 10) (hi_X11_orders_9 hT) rfl rfl rfl ?_
    refine v_ic (hi_X11_orders_12 hT) (fun hc3 => ?_) (fun hc3 => ?_)
    · have hc3 : (h 10 1).2 < n := hc3
      refine v_load (v := (2, 0)) (hi_X11_orders_22 hT) rfl rfl ?_
      refine v_push (5) (hi_X11_orders_23 hT) rfl ?_
      refine v_call (w := 2) [some (2, 0), some (0, 5)] hO (hi_X11_orders_24 hT) rfl rfl ?_
      refine v_load (v := (2, 0)) (hi_X11_refused_0 hT) rfl rfl ?_
      refine v_load (v := (0, 5)) (hi_X11_refused_1 hT) rfl rfl ?_
      refine v_putf (r := 0) hO (hi_X11_refused_2 hT) rfl (fun hf4 => ?_)
      refine v_push (-1) (hi_X11_refused_5 hT) rfl ?_
      refine v_ret (hi_X11_refused_6 hT) (Or.inl rfl) ?_
      show vP D T N 170 27 (zset h 0 0 (0, 5)) [some (2, 0), some (0, n), none] [(0, -1)] _
      refine v_ret (hi_X11_orders_27 hT) (Or.inl rfl) ?_
      exact k1 hc1 hc3
    · have hc3 : n ≤ (h 10 1).2 := Int.not_lt.mp hc3
      refine v_load (v := (0, n)) (hi_X11_orders_15 hT) rfl rfl ?_
      refine v_push (300) (hi_X11_orders_16 hT) rfl ?_
      refine v_ic (hi_X11_orders_19 hT) (fun hc5 => ?_) (fun hc5 => ?_)
      · have hc5 : 300 < n := hc5
        refine v_load (v := (2, 0)) (hi_X11_orders_22 hT) rfl rfl ?_
        refine v_push (5) (hi_X11_orders_23 hT) rfl ?_
        refine v_call (w := 2) [some (2, 0), some (0, 5)] hO (hi_X11_orders_24 hT) rfl rfl ?_
        refine v_load (v := (2, 0)) (hi_X11_refused_0 hT) rfl rfl ?_
        refine v_load (v := (0, 5)) (hi_X11_refused_1 hT) rfl rfl ?_
        refine v_putf (r := 0) hO (hi_X11_refused_2 hT) rfl (fun hf6 => ?_)
        refine v_push (-1) (hi_X11_refused_5 hT) rfl ?_
        refine v_ret (hi_X11_refused_6 hT) (Or.inl rfl) ?_
        show vP D T N 170 27 (zset h 0 0 (0, 5)) [some (2, 0), some (0, n), none] [(0, -1)] _
        refine v_ret (hi_X11_orders_27 hT) (Or.inl rfl) ?_
        exact k2 hc1 hc3 hc5
      · have hc5 : n ≤ 300 := Int.not_lt.mp hc5
        refine v_load (v := (2, 0)) (hi_X11_orders_28 hT) rfl rfl ?_
        refine v_getR (c := 17) (r := 0) (hi_X11_orders_29 hT) rfl rfl rfl ?_
        refine v_load (v := (2, 0)) (hi_X11_orders_32 hT) rfl rfl ?_
        refine v_getf (v := (2, 39)) (r := 0) (hi_X11_orders_33 hT) rfl rfl (fun _ => e7) ?_
        refine v_load (v := (0, n)) (hi_X11_orders_36 hT) rfl rfl ?_
        refine v_call (w := 5) [some (2, 17), some (2, 39), some (0, n), none, none] hO (hi_X11_orders_37 hT) rfl rfl ?_
        exact k3 hc1 hc3 hc5
theorem y_X11_orders40 {D : zD} {T : zT} (hT : hTab T) (hO : vOK T) {N : Nat} {h : zH} {Q : zR → Prop} (n z : Int) (hv0 : zHv h)
    (k0 : vP D T N 170 48 (zset (zset (zset h 10 1 (0, 0)) 10 9 (0, (h 10 7).2)) 10 10 (0, (h 10 8).2)) [some (2, 0), some (0, n), some (0, z)] [] Q) :
    vP D T N 170 40 h [some (2, 0), some (0, n), none] [(0, z)] Q := by
  refine v_store1 [some (2, 0), some (0, n), some (0, z)] (hi_X11_orders_40 hT) ⟨rfl, Nat.ne_of_beq_eq_false rfl⟩ (Nat.le_of_ble_eq_true rfl) rfl ?_
  refine v_load (v := (2, 0)) (hi_X11_orders_41 hT) rfl rfl ?_
  refine v_getR (c := 10) (r := 0) (hi_X11_orders_42 hT) rfl rfl rfl ?_
  refine v_call (w := 1) [some (2, 10)] hO (hi_X11_orders_45 hT) rfl rfl ?_
  refine v_load (v := (2, 10)) (hi_X8_finishText_0 hT) rfl rfl ?_
  refine v_push (0) (hi_X8_finishText_1 hT) rfl ?_
  refine v_putf (r := 10) hO (hi_X8_finishText_2 hT) rfl (fun hf1 => ?_)
  refine v_load (v := (2, 10)) (hi_X8_finishText_5 hT) rfl rfl ?_
  refine v_load (v := (2, 10)) (hi_X8_finishText_6 hT) rfl rfl ?_
  refine v_getf (v := (0, (h 10 7).2)) (r := 10) (hi_X8_finishText_7 hT) rfl rfl (fun hv_ => Eq.trans (zset_ne (fun c => absurd c.2 (by decide))) (hv0.at rfl)) ?_
  refine v_putf (r := 10) hO (hi_X8_finishText_10 hT) rfl (fun hf2 => ?_)
  refine v_load (v := (2, 10)) (hi_X8_finishText_13 hT) rfl rfl ?_
  refine v_load (v := (2, 10)) (hi_X8_finishText_14 hT) rfl rfl ?_
  refine v_getf (v := (0, (h 10 8).2)) (r := 10) (hi_X8_finishText_15 hT) rfl rfl (fun hv_ => Eq.trans (Eq.trans (zset_ne (fun c => absurd c.2 (by decide))) (zset_ne (fun c => absurd c.2 (by decide)))) (hv0.at rfl)) ?_
  refine v_putf (r := 10) hO (hi_X8_finishText_18 hT) rfl (fun hf3 => ?_)
  refine v_ret0 (hi_X8_finishText_21 hT) ?_
  show vP D T N 170 48 (zset (zset (zset h 10 1 (0, 0)) 10 9 (0, (h 10 7).2)) 10 10 (0, (h 10 8).2)) [some (2, 0), some (0, n), some (0, z)] [] _
  exact k0 
def fs_corders : List (Nat × Nat) := [(170, 48), (77, 0), (142, 0), (177, 0)]
theorem fs_corders_ok : fwC fs_corders 8 1 = true := by decide +kernel
theorem y_X12_orders {D : zD} {T : zT} (hT : hTab T) (hO : vOK T) {N : Nat} {h : zH} {Q : zR → Prop} (n : Int) (hv0 : zHv h)
    (k0 : (n < 0) → Q (zset (zset (zset h 121 1 (0, 0)) 121 0 (0, 0)) 121 0 (0, 5), some (0, -1)))
    (k1 : (0 ≤ n) → ((h 121 8).2 < n) → Q (zset (zset (zset h 121 1 (0, 0)) 121 0 (0, 0)) 121 0 (0, 5), some (0, -1)))
    (k2 : (0 ≤ n) → (n ≤ (h 121 8).2) → (300 < n) → Q (zset (zset (zset h 121 1 (0, 0)) 121 0 (0, 0)) 121 0 (0, 5), some (0, -1)))
    (k3 : (0 ≤ n) → (n ≤ (h 121 8).2) → (n ≤ 300) → vP D T N 284 0 (zset (zset (zset (zset (zset (zset h 121 1 (0, 0)) 121 0 (0, 0)) 121 9 (0, n)) 121 8 (0, 0)) 121 16 (0, 0)) 121 12 (0, 0)) [some (2, 121), none] [] (fun r1 => vP D T N 288 47 r1.1 [some (2, 121), some (0, n), some (0, 300)] (zpush r1.2 []) (fun r2 => vP D T N 289 18 r2.1 [some (2, 121), some (0, n), none] (zpush r2.2 []) Q))) :
    vP D T N 289 0 h [some (2, 121), some (0, n), none] [] Q := by
  refine v_load (v := (2, 121)) (hi_X12_orders_0 hT) rfl rfl ?_
  refine v_push (0) (hi_X12_orders_1 hT) rfl ?_
  refine v_putf (r := 121) hO (hi_X12_orders_2 hT) rfl (fun hf1 => ?_)
  refine v_load (v := (2, 121)) (hi_X12_orders_5 hT) rfl rfl ?_
  refine v_push (0) (hi_X12_orders_6 hT) rfl ?_
  refine v_putf (r := 121) hO (hi_X12_orders_7 hT) rfl (fun hf2 => ?_)
  refine v_load (v := (2, 121)) (hi_X12_orders_10 hT) rfl rfl ?_
  refine v_load (v := (0, n)) (hi_X12_orders_11 hT) rfl rfl ?_
  refine v_push (300) (hi_X12_orders_12 hT) rfl ?_
  refine v_call (w := 3) [some (2, 121), some (0, n), some (0, 300)] hO (hi_X12_orders_15 hT) rfl rfl ?_
  refine v_load (v := (0, n)) (hi_X12_opens_0 hT) rfl rfl ?_
  refine v_if (hi_X12_opens_1 hT) (fun hc3 => ?_) (fun hc3 => ?_)
  · have hc3 : n < 0 := hc3
    refine v_load (v := (2, 121)) (hi_X12_opens_17 hT) rfl rfl ?_
    refine v_push (5) (hi_X12_opens_18 hT) rfl ?_
    refine v_call (w := 2) [some (2, 121), some (0, 5)] hO (hi_X12_opens_19 hT) rfl rfl ?_
    refine v_load (v := (2, 121)) (hi_X12_no_0 hT) rfl rfl ?_
    refine v_load (v := (0, 5)) (hi_X12_no_1 hT) rfl rfl ?_
    refine v_putf (r := 121) hO (hi_X12_no_2 hT) rfl (fun hf4 => ?_)
    refine v_push (0) (hi_X12_no_5 hT) rfl ?_
    refine v_ret (hi_X12_no_6 hT) (Or.inl rfl) ?_
    show vP D T N 288 22 (zset (zset (zset h 121 1 (0, 0)) 121 0 (0, 0)) 121 0 (0, 5)) [some (2, 121), some (0, n), some (0, 300)] [(0, 0)] _
    refine v_ret (hi_X12_opens_22 hT) (Or.inl rfl) ?_
    show vP D T N 289 18 (zset (zset (zset h 121 1 (0, 0)) 121 0 (0, 0)) 121 0 (0, 5)) [some (2, 121), some (0, n), none] [(0, 0)] _
    refine v_if (hi_X12_orders_18 hT) (fun _ => ?_) (fun hc5 => absurd (show (0 : Int) = 0 from (by decide)) hc5)
    refine v_push (-1) (hi_X12_orders_21 hT) rfl ?_
    refine v_ret (hi_X12_orders_22 hT) (Or.inl rfl) ?_
    exact k0 hc3
  · have hc3 : 0 ≤ n := Int.not_lt.mp hc3
    refine v_load (v := (0, n)) (hi_X12_opens_4 hT) rfl rfl ?_
    refine v_load (v := (2, 121)) (hi_X12_opens_5 hT) rfl rfl ?_
    refine v_getf (v := (0, (h 121 8).2)) (r := 121) (hi_X12_opens_6 hT) rfl rfl (fun hv_ => Eq.trans (Eq.trans (zset_ne (fun c => absurd c.2 (by decide))) (zset_ne (fun c => absurd c.2 (by decide)))) (hv0.at rfl)) ?_
    refine v_ic (hi_X12_opens_9 hT) (fun hc6 => ?_) (fun hc6 => ?_)
    · have hc6 : (h 121 8).2 < n := hc6
      refine v_load (v := (2, 121)) (hi_X12_opens_17 hT) rfl rfl ?_
      refine v_push (5) (hi_X12_opens_18 hT) rfl ?_
      refine v_call (w := 2) [some (2, 121), some (0, 5)] hO (hi_X12_opens_19 hT) rfl rfl ?_
      refine v_load (v := (2, 121)) (hi_X12_no_0 hT) rfl rfl ?_
      refine v_load (v := (0, 5)) (hi_X12_no_1 hT) rfl rfl ?_
      refine v_putf (r := 121) hO (hi_X12_no_2 hT) rfl (fun hf7 => ?_)
      refine v_push (0) (hi_X12_no_5 hT) rfl ?_
      refine v_ret (hi_X12_no_6 hT) (Or.inl rfl) ?_
      show vP D T N 288 22 (zset (zset (zset h 121 1 (0, 0)) 121 0 (0, 0)) 121 0 (0, 5)) [some (2, 121), some (0, n), some (0, 300)] [(0, 0)] _
      refine v_ret (hi_X12_opens_22 hT) (Or.inl rfl) ?_
      show vP D T N 289 18 (zset (zset (zset h 121 1 (0, 0)) 121 0 (0, 0)) 121 0 (0, 5)) [some (2, 121), some (0, n), none] [(0, 0)] _
      refine v_if (hi_X12_orders_18 hT) (fun _ => ?_) (fun hc8 => absurd (show (0 : Int) = 0 from (by decide)) hc8)
      refine v_push (-1) (hi_X12_orders_21 hT) rfl ?_
      refine v_ret (hi_X12_orders_22 hT) (Or.inl rfl) ?_
      exact k1 hc3 hc6
    · have hc6 : n ≤ (h 121 8).2 := Int.not_lt.mp hc6
      refine v_load (v := (0, n)) (hi_X12_opens_12 hT) rfl rfl ?_
      refine v_load (v := (0, 300)) (hi_X12_opens_13 hT) rfl rfl ?_
      refine v_ic (hi_X12_opens_14 hT) (fun hc9 => ?_) (fun hc9 => ?_)
      · have hc9 : 300 < n := hc9
        refine v_load (v := (2, 121)) (hi_X12_opens_17 hT) rfl rfl ?_
        refine v_push (5) (hi_X12_opens_18 hT) rfl ?_
        refine v_call (w := 2) [some (2, 121), some (0, 5)] hO (hi_X12_opens_19 hT) rfl rfl ?_
        refine v_load (v := (2, 121)) (hi_X12_no_0 hT) rfl rfl ?_
        refine v_load (v := (0, 5)) (hi_X12_no_1 hT) rfl rfl ?_
        refine v_putf (r := 121) hO (hi_X12_no_2 hT) rfl (fun hf10 => ?_)
        refine v_push (0) (hi_X12_no_5 hT) rfl ?_
        refine v_ret (hi_X12_no_6 hT) (Or.inl rfl) ?_
        show vP D T N 288 22 (zset (zset (zset h 121 1 (0, 0)) 121 0 (0, 0)) 121 0 (0, 5)) [some (2, 121), some (0, n), some (0, 300)] [(0, 0)] _
        refine v_ret (hi_X12_opens_22 hT) (Or.inl rfl) ?_
        show vP D T N 289 18 (zset (zset (zset h 121 1 (0, 0)) 121 0 (0, 0)) 121 0 (0, 5)) [some (2, 121), some (0, n), none] [(0, 0)] _
        refine v_if (hi_X12_orders_18 hT) (fun _ => ?_) (fun hc11 => absurd (show (0 : Int) = 0 from (by decide)) hc11)
        refine v_push (-1) (hi_X12_orders_21 hT) rfl ?_
        refine v_ret (hi_X12_orders_22 hT) (Or.inl rfl) ?_
        exact k2 hc3 hc6 hc9
      · have hc9 : n ≤ 300 := Int.not_lt.mp hc9
        refine v_load (v := (2, 121)) (hi_X12_opens_23 hT) rfl rfl ?_
        refine v_load (v := (0, n)) (hi_X12_opens_24 hT) rfl rfl ?_
        refine v_putf (r := 121) hO (hi_X12_opens_25 hT) rfl (fun hf12 => ?_)
        refine v_load (v := (2, 121)) (hi_X12_opens_28 hT) rfl rfl ?_
        refine v_push (0) (hi_X12_opens_29 hT) rfl ?_
        refine v_putf (r := 121) hO (hi_X12_opens_30 hT) rfl (fun hf13 => ?_)
        refine v_load (v := (2, 121)) (hi_X12_opens_33 hT) rfl rfl ?_
        refine v_push (0) (hi_X12_opens_34 hT) rfl ?_
        refine v_putf (r := 121) hO (hi_X12_opens_35 hT) rfl (fun hf14 => ?_)
        refine v_load (v := (2, 121)) (hi_X12_opens_38 hT) rfl rfl ?_
        refine v_push (0) (hi_X12_opens_39 hT) rfl ?_
        refine v_putf (r := 121) hO (hi_X12_opens_40 hT) rfl (fun hf15 => ?_)
        refine v_load (v := (2, 121)) (hi_X12_opens_43 hT) rfl rfl ?_
        refine v_call (w := 2) [some (2, 121), none] hO (hi_X12_opens_44 hT) rfl rfl ?_
        exact k3 hc3 hc6 hc9
def fs_rorders : List (Nat × Nat) := [(289, 18), (225, 0), (241, 0), (243, 0), (245, 0), (247, 0), (249, 0), (250, 0), (252, 0), (253, 0), (254, 0), (255, 0), (257, 0), (258, 0), (259, 0), (260, 0), (262, 0), (265, 0), (266, 0), (267, 0), (272, 0), (282, 0), (283, 0), (284, 0), (285, 0), (295, 0), (297, 0), (299, 0), (300, 0), (301, 0), (304, 0), (305, 0), (312, 0), (318, 0), (325, 0), (340, 0)]
theorem fs_rorders_ok : fwC fs_rorders 12 8 = true := by decide +kernel
