theorem qk_bes_39 {D : zD} {T : zT} (hT : hTab T) (hO : vOK T) {N : Nat} {h : zH} {Q : zR → Prop} {P : PT} {q d : Nat} (hv0 : zHv h) (p0 : h 39 0 = (0, P 0 0)) (p1 : h 39 1 = (0, P 0 1)) (hq : q < 48) (lb : (0 ≤ P 0 0 ∧ P 0 0 ≤ 8) ∧ (0 ≤ P 0 1 ∧ P 0 1 ≤ 6) ∧ (0 ≤ P 0 2 ∧ P 0 2 ≤ 3) ∧ (0 ≤ P 0 3 ∧ P 0 3 ≤ 6))
    (k0 : ((d : Int) = 0) → ((((q : Int) % 8) + 1) < (P 0 0)) → Q (h, some (0, ((q : Int) + 1))))
    (k1 : ((d : Int) = 0) → ((P 0 0) ≤ (((q : Int) % 8) + 1)) → Q (h, some (0, -1)))
    (k2 : ((d : Int) ≠ 0) → ((d : Int) = 1) → (((q : Int) + 8) < ((P 0 1) * 8)) → Q (h, some (0, ((q : Int) + 8))))
    (k3 : ((d : Int) ≠ 0) → ((d : Int) = 1) → (((P 0 1) * 8) ≤ ((q : Int) + 8)) → Q (h, some (0, -1)))
    (k4 : ((d : Int) ≠ 0) → ((d : Int) ≠ 1) → ((d : Int) = 2) → (0 < ((q : Int) % 8)) → Q (h, some (0, ((q : Int) - 1))))
    (k5 : ((d : Int) ≠ 0) → ((d : Int) ≠ 1) → ((d : Int) = 2) → (((q : Int) % 8) ≤ 0) → Q (h, some (0, -1)))
    (k6 : ((d : Int) ≠ 0) → ((d : Int) ≠ 1) → ((d : Int) ≠ 2) → ((q : Int) < 8) → Q (h, some (0, -1)))
    (k7 : ((d : Int) ≠ 0) → ((d : Int) ≠ 1) → ((d : Int) ≠ 2) → (8 ≤ (q : Int)) → Q (h, some (0, ((q : Int) - 8)))) :
    vP D T N 27 0 h [some (2, 39), some (0, (q : Int)), some (0, (d : Int)), none] [] Q := by
  refine v_load (v := (0, (q : Int))) (hz_X2_beside hT _ _ rfl) rfl rfl ?_
  refine v_push (7) (hz_X2_beside hT _ _ rfl) rfl ?_
  refine v_bin (w := ((q : Int) % 8)) (hz_X2_beside hT _ _ rfl) (and7 (by omega) (by omega)) ?_
  refine v_store1 [some (2, 39), some (0, (q : Int)), some (0, (d : Int)), some (0, ((q : Int) % 8))] (hz_X2_beside hT _ _ rfl) ⟨rfl, Nat.ne_of_beq_eq_false rfl⟩ (Nat.le_of_ble_eq_true rfl) rfl ?_
  refine v_load (v := (0, (d : Int))) (hz_X2_beside hT _ _ rfl) rfl rfl ?_
  refine v_sw (hz_X2_beside hT _ _ rfl) ?_
  refine ⟨fun hc1 => ?_, fun hc1 => ?_⟩
  · have hc1 : (d : Int) = 0 := hc1
    refine v_load (v := (0, ((q : Int) % 8))) (hz_X2_beside hT _ _ rfl) rfl rfl ?_
    refine v_push (1) (hz_X2_beside hT _ _ rfl) rfl ?_
    refine v_bin (w := (((q : Int) % 8) + 1)) (hz_X2_beside hT _ _ rfl) (hq_add (by omega) (by omega)) ?_
    refine v_load (v := (2, 39)) (hz_X2_beside hT _ _ rfl) rfl rfl ?_
    refine v_getf (v := (0, (P 0 0))) (r := 39) (hz_X2_beside hT _ _ rfl) rfl rfl (fun _ => p0) ?_
    refine v_ic (hz_X2_beside hT _ _ rfl) (fun hc2 => ?_) (fun hc2 => ?_)
    · have hc2 : (((q : Int) % 8) + 1) < (P 0 0) := hc2
      refine v_load (v := (0, (q : Int))) (hz_X2_beside hT _ _ rfl) rfl rfl ?_
      refine v_push (1) (hz_X2_beside hT _ _ rfl) rfl ?_
      refine v_bin (w := ((q : Int) + 1)) (hz_X2_beside hT _ _ rfl) (hq_add (by omega) (by omega)) ?_
      refine v_goto (hz_X2_beside hT _ _ rfl) ?_
      refine v_ret (hz_X2_beside hT _ _ rfl) (Or.inl rfl) ?_
      exact k0 hc1 hc2
    · have hc2 : (P 0 0) ≤ (((q : Int) % 8) + 1) := Int.not_lt.mp hc2
      refine v_push (-1) (hz_X2_beside hT _ _ rfl) rfl ?_
      refine v_ret (hz_X2_beside hT _ _ rfl) (Or.inl rfl) ?_
      exact k1 hc1 hc2
  refine ⟨fun hc3 => ?_, fun hc3 => ?_⟩
  · have hc3 : (d : Int) = 1 := hc3
    refine v_load (v := (0, (q : Int))) (hz_X2_beside hT _ _ rfl) rfl rfl ?_
    refine v_push (8) (hz_X2_beside hT _ _ rfl) rfl ?_
    refine v_bin (w := ((q : Int) + 8)) (hz_X2_beside hT _ _ rfl) (hq_add (by omega) (by omega)) ?_
    refine v_load (v := (2, 39)) (hz_X2_beside hT _ _ rfl) rfl rfl ?_
    refine v_getf (v := (0, (P 0 1))) (r := 39) (hz_X2_beside hT _ _ rfl) rfl rfl (fun _ => p1) ?_
    refine v_push (8) (hz_X2_beside hT _ _ rfl) rfl ?_
    refine v_bin (w := ((P 0 1) * 8)) (hz_X2_beside hT _ _ rfl) (hq_mul (by omega) (by omega)) ?_
    refine v_ic (hz_X2_beside hT _ _ rfl) (fun hc4 => ?_) (fun hc4 => ?_)
    · have hc4 : ((q : Int) + 8) < ((P 0 1) * 8) := hc4
      refine v_load (v := (0, (q : Int))) (hz_X2_beside hT _ _ rfl) rfl rfl ?_
      refine v_push (8) (hz_X2_beside hT _ _ rfl) rfl ?_
      refine v_bin (w := ((q : Int) + 8)) (hz_X2_beside hT _ _ rfl) (hq_add (by omega) (by omega)) ?_
      refine v_goto (hz_X2_beside hT _ _ rfl) ?_
      refine v_ret (hz_X2_beside hT _ _ rfl) (Or.inl rfl) ?_
      exact k2 hc1 hc3 hc4
    · have hc4 : ((P 0 1) * 8) ≤ ((q : Int) + 8) := Int.not_lt.mp hc4
      refine v_push (-1) (hz_X2_beside hT _ _ rfl) rfl ?_
      refine v_ret (hz_X2_beside hT _ _ rfl) (Or.inl rfl) ?_
      exact k3 hc1 hc3 hc4
  refine ⟨fun hc5 => ?_, fun hc5 => ?_⟩
  · have hc5 : (d : Int) = 2 := hc5
    refine v_load (v := (0, ((q : Int) % 8))) (hz_X2_beside hT _ _ rfl) rfl rfl ?_
    refine v_if (hz_X2_beside hT _ _ rfl) (fun hc6 => ?_) (fun hc6 => ?_)
    · have hc6 : 0 < ((q : Int) % 8) := hc6
      refine v_load (v := (0, (q : Int))) (hz_X2_beside hT _ _ rfl) rfl rfl ?_
      refine v_push (1) (hz_X2_beside hT _ _ rfl) rfl ?_
      refine v_bin (w := ((q : Int) - 1)) (hz_X2_beside hT _ _ rfl) (hq_sub (by omega) (by omega)) ?_
      refine v_goto (hz_X2_beside hT _ _ rfl) ?_
      refine v_ret (hz_X2_beside hT _ _ rfl) (Or.inl rfl) ?_
      exact k4 hc1 hc3 hc5 hc6
    · have hc6 : ((q : Int) % 8) ≤ 0 := Int.not_lt.mp hc6
      refine v_push (-1) (hz_X2_beside hT _ _ rfl) rfl ?_
      refine v_ret (hz_X2_beside hT _ _ rfl) (Or.inl rfl) ?_
      exact k5 hc1 hc3 hc5 hc6
  show vP _ _ _ _ _ _ _ _ _
  refine v_load (v := (0, (q : Int))) (hz_X2_beside hT _ _ rfl) rfl rfl ?_
  refine v_push (8) (hz_X2_beside hT _ _ rfl) rfl ?_
  refine v_ic (hz_X2_beside hT _ _ rfl) (fun hc7 => ?_) (fun hc7 => ?_)
  · have hc7 : (q : Int) < 8 := hc7
    refine v_push (-1) (hz_X2_beside hT _ _ rfl) rfl ?_
    refine v_ret (hz_X2_beside hT _ _ rfl) (Or.inl rfl) ?_
    exact k6 hc1 hc3 hc5 hc7
  · have hc7 : 8 ≤ (q : Int) := Int.not_lt.mp hc7
    refine v_load (v := (0, (q : Int))) (hz_X2_beside hT _ _ rfl) rfl rfl ?_
    refine v_push (8) (hz_X2_beside hT _ _ rfl) rfl ?_
    refine v_bin (w := ((q : Int) - 8)) (hz_X2_beside hT _ _ rfl) (hq_sub (by omega) (by omega)) ?_
    refine v_goto (hz_X2_beside hT _ _ rfl) ?_
    refine v_ret (hz_X2_beside hT _ _ rfl) (Or.inl rfl) ?_
    exact k7 hc1 hc3 hc5 hc7
theorem cb_bes_39 {D : zD} {T : zT} (hT : hTab T) (hO : vOK T) {N : Nat} {h : zH} {Q : zR → Prop} {P : PT} (x y : Int) (q d : Nat) (ex : x = (q : Int)) (ey : y = (d : Int)) (gq : gIn P q) (hd : d < 4) (p0 : h 39 0 = (0, P 0 0)) (p1 : h 39 1 = (0, P 0 1)) (lb : lB P) (k1 : gNb P q d = -1 → Q (h, some (0, -1))) (k2 : ∀ q2 : Nat, gNb P q d = (q2 : Int) → gIn P q2 → Q (h, some (0, (q2 : Int)))) : vP D T N 27 0 h [some (2, 39), some (0, x), some (0, y), none] [] Q := by
  subst ex ey
  have hq := gq.1
  have k : Q (h, some (0, gNb P q d)) := by
    rcases (gOk lb).2 q d gq hd with e | ⟨q2, g2, e, _⟩
    · rw [e]; exact k1 e
    · rw [e]; exact k2 q2 e g2
  clear k1 k2
  refine vP_hv (fun hv => qk_bes_39 hT hO hv p0 p1 hq lb ?_ ?_ ?_ ?_ ?_ ?_ ?_ ?_) <;> (intros; exact cb_eq k (by unfold gNb cBs; omega))
theorem qk_isC_39 {D : zD} {T : zT} (hT : hTab T) (hO : vOK T) {N : Nat} {h : zH} {Q : zR → Prop} {P : PT} {q : Nat} (hv0 : zHv h) (p0 : h 39 0 = (0, P 0 0)) (p1 : h 39 1 = (0, P 0 1)) (hq : q < 48)
    (k0 : ((q : Int) < 0) → Q (h, some (0, 0)))
    (k1 : (0 ≤ (q : Int)) → (((q : Int) % 8) < 0) → Q (h, some (0, 0)))
    (k2 : (0 ≤ (q : Int)) → (0 ≤ ((q : Int) % 8)) → (((q : Int) % 8) < (P 0 0)) → (((q : Int) / 8) < 0) → Q (h, some (0, 0)))
    (k3 : (0 ≤ (q : Int)) → (0 ≤ ((q : Int) % 8)) → (((q : Int) % 8) < (P 0 0)) → (0 ≤ ((q : Int) / 8)) → (((q : Int) / 8) < (P 0 1)) → Q (h, some (0, 1)))
    (k4 : (0 ≤ (q : Int)) → (0 ≤ ((q : Int) % 8)) → (((q : Int) % 8) < (P 0 0)) → (0 ≤ ((q : Int) / 8)) → ((P 0 1) ≤ ((q : Int) / 8)) → Q (h, some (0, 0)))
    (k5 : (0 ≤ (q : Int)) → (0 ≤ ((q : Int) % 8)) → ((P 0 0) ≤ ((q : Int) % 8)) → Q (h, some (0, 0))) :
    vP D T N 46 0 h [some (2, 39), some (0, (q : Int))] [] Q := by
  refine v_load (v := (0, (q : Int))) (hz_X2_isCell hT _ _ rfl) rfl rfl ?_
  refine v_if (hz_X2_isCell hT _ _ rfl) (fun hc1 => ?_) (fun hc1 => ?_)
  · have hc1 : (q : Int) < 0 := hc1
    refine v_push (0) (hz_X2_isCell hT _ _ rfl) rfl ?_
    refine v_ret (hz_X2_isCell hT _ _ rfl) (Or.inl rfl) ?_
    exact k0 hc1
  · have hc1 : 0 ≤ (q : Int) := Int.not_lt.mp hc1
    refine v_load (v := (2, 39)) (hz_X2_isCell hT _ _ rfl) rfl rfl ?_
    refine v_load (v := (0, (q : Int))) (hz_X2_isCell hT _ _ rfl) rfl rfl ?_
    refine v_call (w := 1) [some (0, (q : Int))] hO (hz_X2_isCell hT _ _ rfl) rfl rfl ?_
    refine v_load (v := (0, (q : Int))) (hz_X2_xOf hT _ _ rfl) rfl rfl ?_
    refine v_push (7) (hz_X2_xOf hT _ _ rfl) rfl ?_
    refine v_bin (w := ((q : Int) % 8)) (hz_X2_xOf hT _ _ rfl) (and7 (by omega) (by omega)) ?_
    refine v_ret (hz_X2_xOf hT _ _ rfl) (Or.inl rfl) ?_
    show vP D T N 46 9 h [some (2, 39), some (0, (q : Int))] [(0, ((q : Int) % 8)), (2, 39)] _
    refine v_load (v := (0, (q : Int))) (hz_X2_isCell hT _ _ rfl) rfl rfl ?_
    refine v_call (w := 1) [some (0, (q : Int))] hO (hz_X2_isCell hT _ _ rfl) rfl rfl ?_
    refine v_load (v := (0, (q : Int))) (hz_X2_yOf hT _ _ rfl) rfl rfl ?_
    refine v_push (3) (hz_X2_yOf hT _ _ rfl) rfl ?_
    refine v_bin (w := ((q : Int) / 8)) (hz_X2_yOf hT _ _ rfl) (shr3 (by omega) (by omega)) ?_
    refine v_ret (hz_X2_yOf hT _ _ rfl) (Or.inl rfl) ?_
    show vP D T N 46 13 h [some (2, 39), some (0, (q : Int))] [(0, ((q : Int) / 8)), (0, ((q : Int) % 8)), (2, 39)] _
    refine v_call (w := 3) [some (2, 39), some (0, ((q : Int) % 8)), some (0, ((q : Int) / 8))] hO (hz_X2_isCell hT _ _ rfl) rfl rfl ?_
    refine v_load (v := (0, ((q : Int) % 8))) (hz_X2_hasCell hT _ _ rfl) rfl rfl ?_
    refine v_if (hz_X2_hasCell hT _ _ rfl) (fun hc2 => ?_) (fun hc2 => ?_)
    · have hc2 : ((q : Int) % 8) < 0 := hc2
      refine v_push (0) (hz_X2_hasCell hT _ _ rfl) rfl ?_
      refine v_ret (hz_X2_hasCell hT _ _ rfl) (Or.inl rfl) ?_
      show vP D T N 46 16 h [some (2, 39), some (0, (q : Int))] [(0, 0)] _
      refine v_if (hz_X2_isCell hT _ _ rfl) (fun _ => ?_) (fun hc3 => absurd (show (0 : Int) = 0 from (by omega)) hc3)
      refine v_push (0) (hz_X2_isCell hT _ _ rfl) rfl ?_
      refine v_ret (hz_X2_isCell hT _ _ rfl) (Or.inl rfl) ?_
      exact k1 hc1 hc2
    · have hc2 : 0 ≤ ((q : Int) % 8) := Int.not_lt.mp hc2
      refine v_load (v := (0, ((q : Int) % 8))) (hz_X2_hasCell hT _ _ rfl) rfl rfl ?_
      refine v_load (v := (2, 39)) (hz_X2_hasCell hT _ _ rfl) rfl rfl ?_
      refine v_getf (v := (0, (P 0 0))) (r := 39) (hz_X2_hasCell hT _ _ rfl) rfl rfl (fun _ => p0) ?_
      refine v_ic (hz_X2_hasCell hT _ _ rfl) (fun hc4 => ?_) (fun hc4 => ?_)
      · have hc4 : ((q : Int) % 8) < (P 0 0) := hc4
        refine v_load (v := (0, ((q : Int) / 8))) (hz_X2_hasCell hT _ _ rfl) rfl rfl ?_
        refine v_if (hz_X2_hasCell hT _ _ rfl) (fun hc5 => ?_) (fun hc5 => ?_)
        · have hc5 : ((q : Int) / 8) < 0 := hc5
          refine v_push (0) (hz_X2_hasCell hT _ _ rfl) rfl ?_
          refine v_ret (hz_X2_hasCell hT _ _ rfl) (Or.inl rfl) ?_
          show vP D T N 46 16 h [some (2, 39), some (0, (q : Int))] [(0, 0)] _
          refine v_if (hz_X2_isCell hT _ _ rfl) (fun _ => ?_) (fun hc6 => absurd (show (0 : Int) = 0 from (by omega)) hc6)
          refine v_push (0) (hz_X2_isCell hT _ _ rfl) rfl ?_
          refine v_ret (hz_X2_isCell hT _ _ rfl) (Or.inl rfl) ?_
          exact k2 hc1 hc2 hc4 hc5
        · have hc5 : 0 ≤ ((q : Int) / 8) := Int.not_lt.mp hc5
          refine v_load (v := (0, ((q : Int) / 8))) (hz_X2_hasCell hT _ _ rfl) rfl rfl ?_
          refine v_load (v := (2, 39)) (hz_X2_hasCell hT _ _ rfl) rfl rfl ?_
          refine v_getf (v := (0, (P 0 1))) (r := 39) (hz_X2_hasCell hT _ _ rfl) rfl rfl (fun _ => p1) ?_
          refine v_ic (hz_X2_hasCell hT _ _ rfl) (fun hc7 => ?_) (fun hc7 => ?_)
          · have hc7 : ((q : Int) / 8) < (P 0 1) := hc7
            refine v_push (1) (hz_X2_hasCell hT _ _ rfl) rfl ?_
            refine v_goto (hz_X2_hasCell hT _ _ rfl) ?_
            refine v_ret (hz_X2_hasCell hT _ _ rfl) (Or.inl rfl) ?_
            show vP D T N 46 16 h [some (2, 39), some (0, (q : Int))] [(0, 1)] _
            refine v_if (hz_X2_isCell hT _ _ rfl) (fun hc8 => absurd (show (1 : Int) = 0 from hc8) (by omega)) (fun _ => ?_)
            refine v_push (1) (hz_X2_isCell hT _ _ rfl) rfl ?_
            refine v_goto (hz_X2_isCell hT _ _ rfl) ?_
            refine v_ret (hz_X2_isCell hT _ _ rfl) (Or.inl rfl) ?_
            exact k3 hc1 hc2 hc4 hc5 hc7
          · have hc7 : (P 0 1) ≤ ((q : Int) / 8) := Int.not_lt.mp hc7
            refine v_push (0) (hz_X2_hasCell hT _ _ rfl) rfl ?_
            refine v_ret (hz_X2_hasCell hT _ _ rfl) (Or.inl rfl) ?_
            show vP D T N 46 16 h [some (2, 39), some (0, (q : Int))] [(0, 0)] _
            refine v_if (hz_X2_isCell hT _ _ rfl) (fun _ => ?_) (fun hc9 => absurd (show (0 : Int) = 0 from (by omega)) hc9)
            refine v_push (0) (hz_X2_isCell hT _ _ rfl) rfl ?_
            refine v_ret (hz_X2_isCell hT _ _ rfl) (Or.inl rfl) ?_
            exact k4 hc1 hc2 hc4 hc5 hc7
      · have hc4 : (P 0 0) ≤ ((q : Int) % 8) := Int.not_lt.mp hc4
        refine v_push (0) (hz_X2_hasCell hT _ _ rfl) rfl ?_
        refine v_ret (hz_X2_hasCell hT _ _ rfl) (Or.inl rfl) ?_
        show vP D T N 46 16 h [some (2, 39), some (0, (q : Int))] [(0, 0)] _
        refine v_if (hz_X2_isCell hT _ _ rfl) (fun _ => ?_) (fun hc10 => absurd (show (0 : Int) = 0 from (by omega)) hc10)
        refine v_push (0) (hz_X2_isCell hT _ _ rfl) rfl ?_
        refine v_ret (hz_X2_isCell hT _ _ rfl) (Or.inl rfl) ?_
        exact k5 hc1 hc2 hc4
theorem cb_isC_39 {D : zD} {T : zT} (hT : hTab T) (hO : vOK T) {N : Nat} {h : zH} {Q : zR → Prop} {P : PT} (x : Int) (q : Nat) (ex : x = (q : Int)) (hq : q < 48) (p0 : h 39 0 = (0, P 0 0)) (p1 : h 39 1 = (0, P 0 1)) (lb : lB P) (k1 : gIn P q → Q (h, some (0, 1))) (k2 : ¬ gIn P q → Q (h, some (0, 0))) : vP D T N 46 0 h [some (2, 39), some (0, x)] [] Q := by
  subst ex
  have k : Q (h, some (0, gIx P q)) := by
    by_cases c : gIn P q
    · rw [gIx_y c]; exact k1 c
    · rw [gIx_n hq c]; exact k2 c
  clear k1 k2
  refine vP_hv (fun hv => qk_isC_39 hT hO hv p0 p1 hq ?_ ?_ ?_ ?_ ?_ ?_) <;> (intros; exact cb_eq k (by unfold gIx; omega))
theorem qk_st_39 {D : zD} {T : zT} (hT : hTab T) (hO : vOK T) {N : Nat} {h : zH} {Q : zR → Prop} {j q : Nat} (hv0 : zHv h) (hj : j < 3) (hq : q < 48)
    (k0 : (0 ≤ (((j : Int) * 48) + (q : Int))) → ((((j : Int) * 48) + (q : Int)) < 144) → Q (h, some (0, (h 42 ((((j : Int) * 48) + (q : Int))).toNat).2))) :
    vP D T N 56 0 h [some (2, 39), some (0, (j : Int)), some (0, (q : Int))] [] Q := by
  refine v_load (v := (2, 39)) (hz_X2_stateOf hT _ _ rfl) rfl rfl ?_
  refine v_getR (c := 42) (r := 39) (hz_X2_stateOf hT _ _ rfl) rfl rfl rfl ?_
  refine v_load (v := (0, (j : Int))) (hz_X2_stateOf hT _ _ rfl) rfl rfl ?_
  refine v_push (48) (hz_X2_stateOf hT _ _ rfl) rfl ?_
  refine v_bin (w := ((j : Int) * 48)) (hz_X2_stateOf hT _ _ rfl) (hq_mul (by omega) (by omega)) ?_
  refine v_load (v := (0, (q : Int))) (hz_X2_stateOf hT _ _ rfl) rfl rfl ?_
  refine v_bin (w := (((j : Int) * 48) + (q : Int))) (hz_X2_stateOf hT _ _ rfl) (hq_add (by omega) (by omega)) ?_
  refine v_ald (t := 0) (r := 42) (hz_X2_stateOf hT _ _ rfl) rfl rfl rfl (fun ha1 hb2 => ?_)
  refine v_ret (hz_X2_stateOf hT _ _ rfl) (Or.inl rfl) ?_
  exact k0 ha1 hb2
theorem cb_st_39 {D : zD} {T : zT} (hT : hTab T) (hO : vOK T) {N : Nat} {h : zH} {Q : zR → Prop} {P : PT} (x y : Int) (j q : Nat) (ex : x = (j : Int)) (ey : y = (q : Int)) (hj : j < 3) (hq : q < 48) (a3 : ∀ i, i < 144 → h 42 i = (0, P 3 i)) (k : Q (h, some (0, P 3 (48 * j + q)))) : vP D T N 56 0 h [some (2, 39), some (0, x), some (0, y)] [] Q := by
  subst ex ey
  refine vP_hv (fun hv => qk_st_39 hT hO hv hj hq (fun _ _ => ?_))
  rw [show ((j : Int) * 48 + (q : Int)).toNat = 48 * j + q from by omega, a3 _ (by omega)]
  exact k
theorem qk_gr_39 {D : zD} {T : zT} (hT : hTab T) (hO : vOK T) {N : Nat} {h : zH} {Q : zR → Prop} {P : PT} {q : Nat} (hv0 : zHv h) (hq : q < 48) (a1 : ∀ i, i < 48 → h 40 i = (0, P 1 i)) (a2 : ∀ i, i < 48 → h 41 i = (0, P 2 i)) (b2 : 0 ≤ P 2 q ∧ P 2 q ≤ 9) (bz : 0 ≤ zat D 2 (P 1 q).toNat ∧ zat D 2 (P 1 q).toNat ≤ 5)
    (k0 : (0 ≤ (q : Int)) → ((q : Int) < 48) → ((P 1 q) = 3) → Q (h, some (0, 0)))
    (k1 : (0 ≤ (q : Int)) → ((q : Int) < 48) → ((P 1 q) ≠ 3) → (0 ≤ (P 1 q)) → ((P 1 q) < (zlen D 2 : Int)) → Q (h, some (0, ((zat D 2 ((P 1 q)).toNat) + (P 2 q))))) :
    vP D T N 38 0 h [some (2, 39), some (0, (q : Int))] [] Q := by
  refine v_load (v := (2, 39)) (hz_X2_groundCost hT _ _ rfl) rfl rfl ?_
  refine v_getR (c := 40) (r := 39) (hz_X2_groundCost hT _ _ rfl) rfl rfl rfl ?_
  refine v_load (v := (0, (q : Int))) (hz_X2_groundCost hT _ _ rfl) rfl rfl ?_
  refine v_aldB (t := 0) (r := 40) (w := (P 1 q)) (hz_X2_groundCost hT _ _ rfl) rfl rfl rfl (fun _ _ => (congrArg Prod.snd (a1 q (by omega)))) (fun ha1 hb2 => ?_)
  refine v_push (3) (hz_X2_groundCost hT _ _ rfl) rfl ?_
  refine v_ic (hz_X2_groundCost hT _ _ rfl) (fun hc3 => ?_) (fun hc3 => ?_)
  · have hc3 : (P 1 q) = 3 := hc3
    refine v_push (0) (hz_X2_groundCost hT _ _ rfl) rfl ?_
    refine v_goto (hz_X2_groundCost hT _ _ rfl) ?_
    refine v_ret (hz_X2_groundCost hT _ _ rfl) (Or.inl rfl) ?_
    exact k0 ha1 hb2 hc3
  · have hc3 : (P 1 q) ≠ 3 := hc3
    refine v_push (2) (hz_X2_groundCost hT _ _ rfl) rfl ?_
    refine v_load (v := (2, 39)) (hz_X2_groundCost hT _ _ rfl) rfl rfl ?_
    refine v_getR (c := 40) (r := 39) (hz_X2_groundCost hT _ _ rfl) rfl rfl rfl ?_
    refine v_load (v := (0, (q : Int))) (hz_X2_groundCost hT _ _ rfl) rfl rfl ?_
    refine v_aldB (t := 0) (r := 40) (w := (P 1 q)) (hz_X2_groundCost hT _ _ rfl) rfl rfl rfl (fun _ _ => (congrArg Prod.snd (a1 q (by omega)))) (fun ha4 hb5 => ?_)
    refine v_aldS (j := 2) (hz_X2_groundCost hT _ _ rfl) rfl (fun ha6 hb7 => ?_)
    refine v_load (v := (2, 39)) (hz_X2_groundCost hT _ _ rfl) rfl rfl ?_
    refine v_getR (c := 41) (r := 39) (hz_X2_groundCost hT _ _ rfl) rfl rfl rfl ?_
    refine v_load (v := (0, (q : Int))) (hz_X2_groundCost hT _ _ rfl) rfl rfl ?_
    refine v_aldB (t := 0) (r := 41) (w := (P 2 q)) (hz_X2_groundCost hT _ _ rfl) rfl rfl rfl (fun _ _ => (congrArg Prod.snd (a2 q (by omega)))) (fun ha8 hb9 => ?_)
    refine v_bin (w := ((zat D 2 ((P 1 q)).toNat) + (P 2 q))) (hz_X2_groundCost hT _ _ rfl) (hq_add (by omega) (by omega)) ?_
    refine v_ret (hz_X2_groundCost hT _ _ rfl) (Or.inl rfl) ?_
    exact k1 ha1 hb2 hc3 ha6 hb7
theorem cb_gr_39 {D : zD} {T : zT} (hT : hTab T) (hO : vOK T) {N : Nat} {h : zH} {Q : zR → Prop} {P : PT} (x : Int) (q : Nat) (ex : x = (q : Int)) (hq : q < 48) (hb : fB P) (a1 : ∀ i, i < 48 → h 40 i = (0, P 1 i)) (a2 : ∀ i, i < 48 → h 41 i = (0, P 2 i)) (k : Q (h, some (0, gGr P q))) : vP D T N 38 0 h [some (2, 39), some (0, x)] [] Q := by
  subst ex
  refine vP_hv (fun hv => qk_gr_39 hT hO hv hq a1 a2 (hb.2.1 q hq).2 (zat2b D _) ?_ ?_)
  · intro _ _ c
    exact cb_eq k (if_pos c)
  · intro _ _ c d1 d2
    exact cb_eq k ((if_neg c).trans (congrArg (fun z => z + P 2 q) (zat2 D d1 d2).symm))
theorem qk_cr_39 {D : zD} {T : zT} (hT : hTab T) (hO : vOK T) {N : Nat} {h : zH} {Q : zR → Prop} {P : PT} {q : Nat} (hv0 : zHv h) (hq : q < 48) (a1 : ∀ i, i < 48 → h 40 i = (0, P 1 i)) (a2 : ∀ i, i < 48 → h 41 i = (0, P 2 i)) (b2 : 0 ≤ P 2 q ∧ P 2 q ≤ 9) (bz : 0 ≤ zat D 2 (P 1 q).toNat ∧ zat D 2 (P 1 q).toNat ≤ 5)
    (k0 : (0 ≤ (q : Int)) → ((q : Int) < 48) → (0 ≤ (P 1 q)) → ((P 1 q) < (zlen D 2 : Int)) → Q (h, some (0, ((zat D 2 ((P 1 q)).toNat) + (P 2 q))))) :
    vP D T N 33 0 h [some (2, 39), some (0, (q : Int))] [] Q := by
  refine v_push (2) (hz_X2_crumbsOf hT _ _ rfl) rfl ?_
  refine v_load (v := (2, 39)) (hz_X2_crumbsOf hT _ _ rfl) rfl rfl ?_
  refine v_getR (c := 40) (r := 39) (hz_X2_crumbsOf hT _ _ rfl) rfl rfl rfl ?_
  refine v_load (v := (0, (q : Int))) (hz_X2_crumbsOf hT _ _ rfl) rfl rfl ?_
  refine v_aldB (t := 0) (r := 40) (w := (P 1 q)) (hz_X2_crumbsOf hT _ _ rfl) rfl rfl rfl (fun _ _ => (congrArg Prod.snd (a1 q (by omega)))) (fun ha1 hb2 => ?_)
  refine v_aldS (j := 2) (hz_X2_crumbsOf hT _ _ rfl) rfl (fun ha3 hb4 => ?_)
  refine v_load (v := (2, 39)) (hz_X2_crumbsOf hT _ _ rfl) rfl rfl ?_
  refine v_getR (c := 41) (r := 39) (hz_X2_crumbsOf hT _ _ rfl) rfl rfl rfl ?_
  refine v_load (v := (0, (q : Int))) (hz_X2_crumbsOf hT _ _ rfl) rfl rfl ?_
  refine v_aldB (t := 0) (r := 41) (w := (P 2 q)) (hz_X2_crumbsOf hT _ _ rfl) rfl rfl rfl (fun _ _ => (congrArg Prod.snd (a2 q (by omega)))) (fun ha5 hb6 => ?_)
  refine v_bin (w := ((zat D 2 ((P 1 q)).toNat) + (P 2 q))) (hz_X2_crumbsOf hT _ _ rfl) (hq_add (by omega) (by omega)) ?_
  refine v_ret (hz_X2_crumbsOf hT _ _ rfl) (Or.inl rfl) ?_
  exact k0 ha1 hb2 ha3 hb4
theorem cb_cr_39 {D : zD} {T : zT} (hT : hTab T) (hO : vOK T) {N : Nat} {h : zH} {Q : zR → Prop} {P : PT} (x : Int) (q : Nat) (ex : x = (q : Int)) (hq : q < 48) (hb : fB P) (a1 : ∀ i, i < 48 → h 40 i = (0, P 1 i)) (a2 : ∀ i, i < 48 → h 41 i = (0, P 2 i)) (k : Q (h, some (0, gCr P q))) : vP D T N 33 0 h [some (2, 39), some (0, x)] [] Q := by
  subst ex
  refine vP_hv (fun hv => qk_cr_39 hT hO hv hq a1 a2 (hb.2.1 q hq).2 (zat2b D _) ?_)
  intro _ _ d1 d2
  exact cb_eq k (congrArg (fun z => z + P 2 q) (zat2 D d1 d2).symm)
theorem qk_sh_39 {D : zD} {T : zT} (hT : hTab T) (hO : vOK T) {N : Nat} {h : zH} {Q : zR → Prop} {P : PT} {j q : Nat} (hv0 : zHv h) (hj : j < 3) (hq : q < 48) (hb : fB P) (a1 : ∀ i, i < 48 → h 40 i = (0, P 1 i)) (a2 : ∀ i, i < 48 → h 41 i = (0, P 2 i)) (a3 : ∀ i, i < 144 → h 42 i = (0, P 3 i)) (b2 : 0 ≤ P 2 q ∧ P 2 q ≤ 9)
    (k0 : ((P 3 (48 * j + q)) = 0) → Q (h, some (0, (gGr P q))))
    (k1 : ((P 3 (48 * j + q)) ≠ 0) → ((P 3 (48 * j + q)) = 2) → (0 ≤ (q : Int)) → ((q : Int) < 48) → Q (h, some (0, (5 + (P 2 q)))))
    (k2 : ((P 3 (48 * j + q)) ≠ 0) → ((P 3 (48 * j + q)) ≠ 2) → Q (h, some (0, 0))) :
    vP D T N 53 0 h [some (2, 39), some (0, (j : Int)), some (0, (q : Int))] [] Q := by
  refine v_load (v := (2, 39)) (hz_X2_shownCost hT _ _ rfl) rfl rfl ?_
  refine v_load (v := (0, (j : Int))) (hz_X2_shownCost hT _ _ rfl) rfl rfl ?_
  refine v_load (v := (0, (q : Int))) (hz_X2_shownCost hT _ _ rfl) rfl rfl ?_
  refine v_call (w := 3) [some (2, 39), some (0, (j : Int)), some (0, (q : Int))] hO (hz_X2_shownCost hT _ _ rfl) rfl rfl (cb_st_39 hT hO ((j : Int)) ((q : Int)) j q rfl rfl (by omega) (by omega) a3 ?_)
  show vP D T N 53 6 h [some (2, 39), some (0, (j : Int)), some (0, (q : Int))] [(0, (P 3 (48 * j + q)))] _
  refine v_sw (hz_X2_shownCost hT _ _ rfl) ?_
  refine ⟨fun hc1 => ?_, fun hc1 => ?_⟩
  · have hc1 : (P 3 (48 * j + q)) = 0 := hc1
    refine v_load (v := (2, 39)) (hz_X2_shownCost hT _ _ rfl) rfl rfl ?_
    refine v_load (v := (0, (q : Int))) (hz_X2_shownCost hT _ _ rfl) rfl rfl ?_
    refine v_call (w := 2) [some (2, 39), some (0, (q : Int))] hO (hz_X2_shownCost hT _ _ rfl) rfl rfl (cb_gr_39 hT hO ((q : Int)) q rfl (by omega) hb a1 a2 ?_)
    show vP D T N 53 37 h [some (2, 39), some (0, (j : Int)), some (0, (q : Int))] [(0, (gGr P q))] _
    refine v_ret (hz_X2_shownCost hT _ _ rfl) (Or.inl rfl) ?_
    exact k0 hc1
  refine ⟨fun hc2 => ?_, fun hc2 => ?_⟩
  · have hc2 : (P 3 (48 * j + q)) = 2 := hc2
    refine v_push (5) (hz_X2_shownCost hT _ _ rfl) rfl ?_
    refine v_load (v := (2, 39)) (hz_X2_shownCost hT _ _ rfl) rfl rfl ?_
    refine v_getR (c := 41) (r := 39) (hz_X2_shownCost hT _ _ rfl) rfl rfl rfl ?_
    refine v_load (v := (0, (q : Int))) (hz_X2_shownCost hT _ _ rfl) rfl rfl ?_
    refine v_aldB (t := 0) (r := 41) (w := (P 2 q)) (hz_X2_shownCost hT _ _ rfl) rfl rfl rfl (fun _ _ => (congrArg Prod.snd (a2 q (by omega)))) (fun ha3 hb4 => ?_)
    refine v_bin (w := (5 + (P 2 q))) (hz_X2_shownCost hT _ _ rfl) (hq_add (by omega) (by omega)) ?_
    refine v_ret (hz_X2_shownCost hT _ _ rfl) (Or.inl rfl) ?_
    exact k1 hc1 hc2 ha3 hb4
  show vP _ _ _ _ _ _ _ _ _
  refine v_push (0) (hz_X2_shownCost hT _ _ rfl) rfl ?_
  refine v_ret (hz_X2_shownCost hT _ _ rfl) (Or.inl rfl) ?_
  exact k2 hc1 hc2
theorem cb_sh_39 {D : zD} {T : zT} (hT : hTab T) (hO : vOK T) {N : Nat} {h : zH} {Q : zR → Prop} {P : PT} (x y : Int) (j : Nat) (ex : x = (j : Int)) (hj : j < 3) (q : Nat) (ey : y = (q : Int)) (hq : q < 48) (hb : fB P) (a1 : ∀ i, i < 48 → h 40 i = (0, P 1 i)) (a2 : ∀ i, i < 48 → h 41 i = (0, P 2 i)) (a3 : ∀ i, i < 144 → h 42 i = (0, P 3 i)) (k : Q (h, some (0, gSh P j q))) : vP D T N 53 0 h [some (2, 39), some (0, x), some (0, y)] [] Q := by
  subst ex ey
  refine vP_hv (fun hv => qk_sh_39 hT hO hv hj hq hb a1 a2 a3 (hb.2.1 q hq).2 ?_ ?_ ?_)
  · intro c
    exact cb_eq k (if_pos c)
  · intro c1 c2 _ _
    exact cb_eq k ((if_neg c1).trans (if_pos c2))
  · intro c1 c2
    exact cb_eq k ((if_neg c1).trans (if_neg c2))
