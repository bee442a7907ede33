theorem qr_at2 {D : zD} {T : zT} (hT : hTab T) (hO : vOK T) {N : Nat} {h : zH} {Q : zR → Prop} {P : PT} (x y : Int) (hv0 : zHv h) (c0 : h 126 0 = (0, P 0 0)) (hm : 0 ≤ P 0 0 * y ∧ P 0 0 * y ≤ 64) (hx : 0 ≤ x ∧ x < 8)
    (k0 : Q (h, some (0, (((P 0 0) * y) + x)))) :
    vP D T N 197 0 h [some (2, 121), some (0, x), some (0, y)] [] Q := by
  refine v_load (v := (2, 121)) (hz_X12_at2 hT _ _ rfl) rfl rfl ?_
  refine v_getR (c := 126) (r := 121) (hz_X12_at2 hT _ _ rfl) rfl rfl rfl ?_
  refine v_push (0) (hz_X12_at2 hT _ _ rfl) rfl ?_
  refine v_aldV (v := (0, (P 0 0))) (r := 126) (hz_X12_at2 hT _ _ rfl) rfl rfl (fun _ _ _ => c0) (fun ha1 hb2 => ?_)
  refine v_load (v := (0, y)) (hz_X12_at2 hT _ _ rfl) rfl rfl ?_
  refine v_bin (w := ((P 0 0) * y)) (hz_X12_at2 hT _ _ rfl) (hq_mul (by omega) (by omega)) ?_
  refine v_load (v := (0, x)) (hz_X12_at2 hT _ _ rfl) rfl rfl ?_
  refine v_bin (w := (((P 0 0) * y) + x)) (hz_X12_at2 hT _ _ rfl) (hq_add (by omega) (by omega)) ?_
  refine v_ret (hz_X12_at2 hT _ _ rfl) (Or.inl rfl) ?_
  exact k0 
theorem rb_at2 {D : zD} {T : zT} (hT : hTab T) (hO : vOK T) {N : Nat} {h : zH} {Q : zR → Prop} {P : PT} (x y : Int) (hx : 0 ≤ x ∧ x < 8) (hy : 0 ≤ y ∧ y ≤ 8) (c0 : h 126 0 = (0, P 0 0)) (lb : lB P) (k : Q (h, some (0, P 0 0 * y + x))) : vP D T N 197 0 h [some (2, 121), some (0, x), some (0, y)] [] Q := vP_hv (fun hv => qr_at2 hT hO x y hv c0 (wy_b lb.1 hy) hx k)
theorem qr_cells {D : zD} {T : zT} (hT : hTab T) (hO : vOK T) {N : Nat} {h : zH} {Q : zR → Prop} {P : PT} (hv0 : zHv h) (c0 : h 126 0 = (0, P 0 0)) (c1 : h 126 1 = (0, P 0 1)) (hm : 0 ≤ P 0 0 * P 0 1 ∧ P 0 0 * P 0 1 ≤ 64)
    (k0 : Q (h, some (0, ((P 0 0) * (P 0 1))))) :
    vP D T N 206 0 h [some (2, 121)] [] Q := by
  refine v_load (v := (2, 121)) (hz_X12_cells hT _ _ rfl) rfl rfl ?_
  refine v_getR (c := 126) (r := 121) (hz_X12_cells hT _ _ rfl) rfl rfl rfl ?_
  refine v_push (0) (hz_X12_cells hT _ _ rfl) rfl ?_
  refine v_aldV (v := (0, (P 0 0))) (r := 126) (hz_X12_cells hT _ _ rfl) rfl rfl (fun _ _ _ => c0) (fun ha1 hb2 => ?_)
  refine v_load (v := (2, 121)) (hz_X12_cells hT _ _ rfl) rfl rfl ?_
  refine v_getR (c := 126) (r := 121) (hz_X12_cells hT _ _ rfl) rfl rfl rfl ?_
  refine v_push (1) (hz_X12_cells hT _ _ rfl) rfl ?_
  refine v_aldV (v := (0, (P 0 1))) (r := 126) (hz_X12_cells hT _ _ rfl) rfl rfl (fun _ _ _ => c1) (fun ha3 hb4 => ?_)
  refine v_bin (w := ((P 0 0) * (P 0 1))) (hz_X12_cells hT _ _ rfl) (hq_mul (by omega) (by omega)) ?_
  refine v_ret (hz_X12_cells hT _ _ rfl) (Or.inl rfl) ?_
  exact k0 
theorem rb_cells {D : zD} {T : zT} (hT : hTab T) (hO : vOK T) {N : Nat} {h : zH} {Q : zR → Prop} {P : PT} (c0 : h 126 0 = (0, P 0 0)) (c1 : h 126 1 = (0, P 0 1)) (lb : lB P) (k : Q (h, some (0, P 0 0 * P 0 1))) : vP D T N 206 0 h [some (2, 121)] [] Q := vP_hv (fun hv => qr_cells hT hO hv c0 c1 (wy_b lb.1 ⟨lb.2.1.1, by have := lb.2.1.2; omega⟩) k)
theorem qr_bes0 {D : zD} {T : zT} (hT : hTab T) (hO : vOK T) {N : Nat} {h : zH} {Q : zR → Prop} {P : PT} {n x y : Nat} (hv0 : zHv h) (c0 : h 126 0 = (0, P 0 0)) (c1 : h 126 1 = (0, P 0 1)) (lb : lB P) (hn : n < 48) (hw : 0 < P 0 0 ∧ P 0 0 ≤ 8) (hr : 0 ≤ P 0 1 ∧ P 0 1 ≤ 6) (hx : (n : Int) % P 0 0 = (x : Int)) (hy : (n : Int) / P 0 0 = (y : Int)) (bx : x < 8) (by_ : y < 6)
    (k0 : ((P 0 0) ≠ 0) → ((P 0 0) ≠ 0) → (((x : Int) + 1) < 0) → Q (h, some (0, -1)))
    (k1 : ((P 0 0) ≠ 0) → ((P 0 0) ≠ 0) → (0 ≤ ((x : Int) + 1)) → (((P 0 0) - 1) < ((x : Int) + 1)) → Q (h, some (0, -1)))
    (k2 : ((P 0 0) ≠ 0) → ((P 0 0) ≠ 0) → (0 ≤ ((x : Int) + 1)) → (((x : Int) + 1) ≤ ((P 0 0) - 1)) → (((y : Int) + 0) < 0) → Q (h, some (0, -1)))
    (k3 : ((P 0 0) ≠ 0) → ((P 0 0) ≠ 0) → (0 ≤ ((x : Int) + 1)) → (((x : Int) + 1) ≤ ((P 0 0) - 1)) → (0 ≤ ((y : Int) + 0)) → (((P 0 1) - 1) < ((y : Int) + 0)) → Q (h, some (0, -1)))
    (k4 : ((P 0 0) ≠ 0) → ((P 0 0) ≠ 0) → (0 ≤ ((x : Int) + 1)) → (((x : Int) + 1) ≤ ((P 0 0) - 1)) → (0 ≤ ((y : Int) + 0)) → (((y : Int) + 0) ≤ ((P 0 1) - 1)) → Q (h, some (0, ((P 0 0) * ((y : Int) + 0) + ((x : Int) + 1))))) :
    vP D T N 200 0 h [some (2, 121), some (0, (n : Int)), some (0, 0), none, none] [] Q := by
  refine v_load (v := (0, (n : Int))) (hz_X12_beside hT _ _ rfl) rfl rfl ?_
  refine v_load (v := (2, 121)) (hz_X12_beside hT _ _ rfl) rfl rfl ?_
  refine v_getR (c := 126) (r := 121) (hz_X12_beside hT _ _ rfl) rfl rfl rfl ?_
  refine v_push (0) (hz_X12_beside hT _ _ rfl) rfl ?_
  refine v_aldV (v := (0, (P 0 0))) (r := 126) (hz_X12_beside hT _ _ rfl) rfl rfl (fun _ _ _ => c0) (fun ha1 hb2 => ?_)
  refine v_div (w := (x : Int)) (hz_X12_beside hT _ _ rfl) (fun _ => (hq_rem (by omega) (by omega) (by omega) (by omega)).trans hx) (fun hc3 => ?_)
  refine v_load (v := (0, 0)) (hz_X12_beside hT _ _ rfl) rfl rfl ?_
  refine v_if (hz_X12_beside hT _ _ rfl) (fun _ => ?_) (fun hc4 => absurd (show (0 : Int) = 0 from (by omega)) hc4)
  refine v_push (1) (hz_X12_beside hT _ _ rfl) rfl ?_
  refine v_goto (hz_X12_beside hT _ _ rfl) ?_
  refine v_bin (w := ((x : Int) + 1)) (hz_X12_beside hT _ _ rfl) (hq_add (by omega) (by omega)) ?_
  refine v_store1 [some (2, 121), some (0, (n : Int)), some (0, 0), some (0, ((x : Int) + 1)), none] (hz_X12_beside hT _ _ rfl) ⟨rfl, Nat.ne_of_beq_eq_false rfl⟩ (Nat.le_of_ble_eq_true rfl) rfl ?_
  refine v_load (v := (0, (n : Int))) (hz_X12_beside hT _ _ rfl) rfl rfl ?_
  refine v_load (v := (2, 121)) (hz_X12_beside hT _ _ rfl) rfl rfl ?_
  refine v_getR (c := 126) (r := 121) (hz_X12_beside hT _ _ rfl) rfl rfl rfl ?_
  refine v_push (0) (hz_X12_beside hT _ _ rfl) rfl ?_
  refine v_aldV (v := (0, (P 0 0))) (r := 126) (hz_X12_beside hT _ _ rfl) rfl rfl (fun _ _ _ => c0) (fun ha5 hb6 => ?_)
  refine v_div (w := (y : Int)) (hz_X12_beside hT _ _ rfl) (fun _ => (hq_quo (by omega) (by omega) (by omega) (by omega)).trans hy) (fun hc7 => ?_)
  refine v_load (v := (0, 0)) (hz_X12_beside hT _ _ rfl) rfl rfl ?_
  refine v_push (1) (hz_X12_beside hT _ _ rfl) rfl ?_
  refine v_ic (hz_X12_beside hT _ _ rfl) (fun hc8 => absurd (show (0 : Int) = 1 from hc8) (by omega)) (fun _ => ?_)
  refine v_load (v := (0, 0)) (hz_X12_beside hT _ _ rfl) rfl rfl ?_
  refine v_push (3) (hz_X12_beside hT _ _ rfl) rfl ?_
  refine v_ic (hz_X12_beside hT _ _ rfl) (fun hc9 => absurd (show (0 : Int) = 3 from hc9) (by omega)) (fun _ => ?_)
  refine v_push (0) (hz_X12_beside hT _ _ rfl) rfl ?_
  refine v_bin (w := ((y : Int) + 0)) (hz_X12_beside hT _ _ rfl) (hq_add (by omega) (by omega)) ?_
  refine v_store1 [some (2, 121), some (0, (n : Int)), some (0, 0), some (0, ((x : Int) + 1)), some (0, ((y : Int) + 0))] (hz_X12_beside hT _ _ rfl) ⟨rfl, Nat.ne_of_beq_eq_false rfl⟩ (Nat.le_of_ble_eq_true rfl) rfl ?_
  refine v_load (v := (2, 121)) (hz_X12_beside hT _ _ rfl) rfl rfl ?_
  refine v_load (v := (0, ((x : Int) + 1))) (hz_X12_beside hT _ _ rfl) rfl rfl ?_
  refine v_load (v := (0, ((y : Int) + 0))) (hz_X12_beside hT _ _ rfl) rfl rfl ?_
  refine v_call (w := 3) [some (2, 121), some (0, ((x : Int) + 1)), some (0, ((y : Int) + 0))] hO (hz_X12_beside hT _ _ rfl) rfl rfl ?_
  refine v_load (v := (0, ((x : Int) + 1))) (hz_X12_isCell hT _ _ rfl) rfl rfl ?_
  refine v_i2l (hz_X12_isCell hT _ _ rfl) ?_
  refine v_push (0) (hz_X12_isCell hT _ _ rfl) rfl ?_
  refine v_load (v := (2, 121)) (hz_X12_isCell hT _ _ rfl) rfl rfl ?_
  refine v_getR (c := 126) (r := 121) (hz_X12_isCell hT _ _ rfl) rfl rfl rfl ?_
  refine v_push (0) (hz_X12_isCell hT _ _ rfl) rfl ?_
  refine v_aldV (v := (0, (P 0 0))) (r := 126) (hz_X12_isCell hT _ _ rfl) rfl rfl (fun _ _ _ => c0) (fun ha10 hb11 => ?_)
  refine v_push (1) (hz_X12_isCell hT _ _ rfl) rfl ?_
  refine v_bin (w := ((P 0 0) - 1)) (hz_X12_isCell hT _ _ rfl) (hq_sub (by omega) (by omega)) ?_
  refine v_i2l (hz_X12_isCell hT _ _ rfl) ?_
  refine v_call (w := 6) [some (1, ((x : Int) + 1)), none, some (1, 0), none, some (1, ((P 0 0) - 1)), none] hO (hz_X12_isCell hT _ _ rfl) rfl rfl ?_
  refine v_load (v := (1, ((x : Int) + 1))) (hz_X12_isIn hT _ _ rfl) rfl rfl ?_
  refine v_load (v := (1, 0)) (hz_X12_isIn hT _ _ rfl) rfl rfl ?_
  refine v_lif (hz_X12_isIn hT _ _ rfl) (hz_X12_isIn hT _ _ rfl) (fun hc12 => ?_) (fun hc12 => ?_)
  · have hc12 : ((x : Int) + 1) < 0 := hc12
    refine v_push (0) (hz_X12_isIn hT _ _ rfl) rfl ?_
    refine v_ret (hz_X12_isIn hT _ _ rfl) (Or.inl rfl) ?_
    show vP D T N 244 15 h [some (2, 121), some (0, ((x : Int) + 1)), some (0, ((y : Int) + 0))] [(0, 0)] _
    refine v_if (hz_X12_isCell hT _ _ rfl) (fun _ => ?_) (fun hc13 => absurd (show (0 : Int) = 0 from (by omega)) hc13)
    refine v_push (0) (hz_X12_isCell hT _ _ rfl) rfl ?_
    refine v_ret (hz_X12_isCell hT _ _ rfl) (Or.inl rfl) ?_
    show vP D T N 200 65 h [some (2, 121), some (0, (n : Int)), some (0, 0), some (0, ((x : Int) + 1)), some (0, ((y : Int) + 0))] [(0, 0)] _
    refine v_if (hz_X12_beside hT _ _ rfl) (fun _ => ?_) (fun hc14 => absurd (show (0 : Int) = 0 from (by omega)) hc14)
    refine v_push (-1) (hz_X12_beside hT _ _ rfl) rfl ?_
    refine v_ret (hz_X12_beside hT _ _ rfl) (Or.inl rfl) ?_
    exact k0 hc3 hc7 hc12
  · have hc12 : 0 ≤ ((x : Int) + 1) := Int.not_lt.mp hc12
    refine v_load (v := (1, ((x : Int) + 1))) (hz_X12_isIn hT _ _ rfl) rfl rfl ?_
    refine v_load (v := (1, ((P 0 0) - 1))) (hz_X12_isIn hT _ _ rfl) rfl rfl ?_
    refine v_lif (hz_X12_isIn hT _ _ rfl) (hz_X12_isIn hT _ _ rfl) (fun hc15 => ?_) (fun hc15 => ?_)
    · have hc15 : ((P 0 0) - 1) < ((x : Int) + 1) := hc15
      refine v_push (0) (hz_X12_isIn hT _ _ rfl) rfl ?_
      refine v_ret (hz_X12_isIn hT _ _ rfl) (Or.inl rfl) ?_
      show vP D T N 244 15 h [some (2, 121), some (0, ((x : Int) + 1)), some (0, ((y : Int) + 0))] [(0, 0)] _
      refine v_if (hz_X12_isCell hT _ _ rfl) (fun _ => ?_) (fun hc16 => absurd (show (0 : Int) = 0 from (by omega)) hc16)
      refine v_push (0) (hz_X12_isCell hT _ _ rfl) rfl ?_
      refine v_ret (hz_X12_isCell hT _ _ rfl) (Or.inl rfl) ?_
      show vP D T N 200 65 h [some (2, 121), some (0, (n : Int)), some (0, 0), some (0, ((x : Int) + 1)), some (0, ((y : Int) + 0))] [(0, 0)] _
      refine v_if (hz_X12_beside hT _ _ rfl) (fun _ => ?_) (fun hc17 => absurd (show (0 : Int) = 0 from (by omega)) hc17)
      refine v_push (-1) (hz_X12_beside hT _ _ rfl) rfl ?_
      refine v_ret (hz_X12_beside hT _ _ rfl) (Or.inl rfl) ?_
      exact k1 hc3 hc7 hc12 hc15
    · have hc15 : ((x : Int) + 1) ≤ ((P 0 0) - 1) := Int.not_lt.mp hc15
      refine v_push (1) (hz_X12_isIn hT _ _ rfl) rfl ?_
      refine v_goto (hz_X12_isIn hT _ _ rfl) ?_
      refine v_ret (hz_X12_isIn hT _ _ rfl) (Or.inl rfl) ?_
      show vP D T N 244 15 h [some (2, 121), some (0, ((x : Int) + 1)), some (0, ((y : Int) + 0))] [(0, 1)] _
      refine v_if (hz_X12_isCell hT _ _ rfl) (fun hc18 => absurd (show (1 : Int) = 0 from hc18) (by omega)) (fun _ => ?_)
      refine v_load (v := (0, ((y : Int) + 0))) (hz_X12_isCell hT _ _ rfl) rfl rfl ?_
      refine v_i2l (hz_X12_isCell hT _ _ rfl) ?_
      refine v_push (0) (hz_X12_isCell hT _ _ rfl) rfl ?_
      refine v_load (v := (2, 121)) (hz_X12_isCell hT _ _ rfl) rfl rfl ?_
      refine v_getR (c := 126) (r := 121) (hz_X12_isCell hT _ _ rfl) rfl rfl rfl ?_
      refine v_push (1) (hz_X12_isCell hT _ _ rfl) rfl ?_
      refine v_aldV (v := (0, (P 0 1))) (r := 126) (hz_X12_isCell hT _ _ rfl) rfl rfl (fun _ _ _ => c1) (fun ha19 hb20 => ?_)
      refine v_push (1) (hz_X12_isCell hT _ _ rfl) rfl ?_
      refine v_bin (w := ((P 0 1) - 1)) (hz_X12_isCell hT _ _ rfl) (hq_sub (by omega) (by omega)) ?_
      refine v_i2l (hz_X12_isCell hT _ _ rfl) ?_
      refine v_call (w := 6) [some (1, ((y : Int) + 0)), none, some (1, 0), none, some (1, ((P 0 1) - 1)), none] hO (hz_X12_isCell hT _ _ rfl) rfl rfl ?_
      refine v_load (v := (1, ((y : Int) + 0))) (hz_X12_isIn hT _ _ rfl) rfl rfl ?_
      refine v_load (v := (1, 0)) (hz_X12_isIn hT _ _ rfl) rfl rfl ?_
      refine v_lif (hz_X12_isIn hT _ _ rfl) (hz_X12_isIn hT _ _ rfl) (fun hc21 => ?_) (fun hc21 => ?_)
      · have hc21 : ((y : Int) + 0) < 0 := hc21
        refine v_push (0) (hz_X12_isIn hT _ _ rfl) rfl ?_
        refine v_ret (hz_X12_isIn hT _ _ rfl) (Or.inl rfl) ?_
        show vP D T N 244 33 h [some (2, 121), some (0, ((x : Int) + 1)), some (0, ((y : Int) + 0))] [(0, 0)] _
        refine v_if (hz_X12_isCell hT _ _ rfl) (fun _ => ?_) (fun hc22 => absurd (show (0 : Int) = 0 from (by omega)) hc22)
        refine v_push (0) (hz_X12_isCell hT _ _ rfl) rfl ?_
        refine v_ret (hz_X12_isCell hT _ _ rfl) (Or.inl rfl) ?_
        show vP D T N 200 65 h [some (2, 121), some (0, (n : Int)), some (0, 0), some (0, ((x : Int) + 1)), some (0, ((y : Int) + 0))] [(0, 0)] _
        refine v_if (hz_X12_beside hT _ _ rfl) (fun _ => ?_) (fun hc23 => absurd (show (0 : Int) = 0 from (by omega)) hc23)
        refine v_push (-1) (hz_X12_beside hT _ _ rfl) rfl ?_
        refine v_ret (hz_X12_beside hT _ _ rfl) (Or.inl rfl) ?_
        exact k2 hc3 hc7 hc12 hc15 hc21
      · have hc21 : 0 ≤ ((y : Int) + 0) := Int.not_lt.mp hc21
        refine v_load (v := (1, ((y : Int) + 0))) (hz_X12_isIn hT _ _ rfl) rfl rfl ?_
        refine v_load (v := (1, ((P 0 1) - 1))) (hz_X12_isIn hT _ _ rfl) rfl rfl ?_
        refine v_lif (hz_X12_isIn hT _ _ rfl) (hz_X12_isIn hT _ _ rfl) (fun hc24 => ?_) (fun hc24 => ?_)
        · have hc24 : ((P 0 1) - 1) < ((y : Int) + 0) := hc24
          refine v_push (0) (hz_X12_isIn hT _ _ rfl) rfl ?_
          refine v_ret (hz_X12_isIn hT _ _ rfl) (Or.inl rfl) ?_
          show vP D T N 244 33 h [some (2, 121), some (0, ((x : Int) + 1)), some (0, ((y : Int) + 0))] [(0, 0)] _
          refine v_if (hz_X12_isCell hT _ _ rfl) (fun _ => ?_) (fun hc25 => absurd (show (0 : Int) = 0 from (by omega)) hc25)
          refine v_push (0) (hz_X12_isCell hT _ _ rfl) rfl ?_
          refine v_ret (hz_X12_isCell hT _ _ rfl) (Or.inl rfl) ?_
          show vP D T N 200 65 h [some (2, 121), some (0, (n : Int)), some (0, 0), some (0, ((x : Int) + 1)), some (0, ((y : Int) + 0))] [(0, 0)] _
          refine v_if (hz_X12_beside hT _ _ rfl) (fun _ => ?_) (fun hc26 => absurd (show (0 : Int) = 0 from (by omega)) hc26)
          refine v_push (-1) (hz_X12_beside hT _ _ rfl) rfl ?_
          refine v_ret (hz_X12_beside hT _ _ rfl) (Or.inl rfl) ?_
          exact k3 hc3 hc7 hc12 hc15 hc21 hc24
        · have hc24 : ((y : Int) + 0) ≤ ((P 0 1) - 1) := Int.not_lt.mp hc24
          refine v_push (1) (hz_X12_isIn hT _ _ rfl) rfl ?_
          refine v_goto (hz_X12_isIn hT _ _ rfl) ?_
          refine v_ret (hz_X12_isIn hT _ _ rfl) (Or.inl rfl) ?_
          show vP D T N 244 33 h [some (2, 121), some (0, ((x : Int) + 1)), some (0, ((y : Int) + 0))] [(0, 1)] _
          refine v_if (hz_X12_isCell hT _ _ rfl) (fun hc27 => absurd (show (1 : Int) = 0 from hc27) (by omega)) (fun _ => ?_)
          refine v_push (1) (hz_X12_isCell hT _ _ rfl) rfl ?_
          refine v_goto (hz_X12_isCell hT _ _ rfl) ?_
          refine v_ret (hz_X12_isCell hT _ _ rfl) (Or.inl rfl) ?_
          show vP D T N 200 65 h [some (2, 121), some (0, (n : Int)), some (0, 0), some (0, ((x : Int) + 1)), some (0, ((y : Int) + 0))] [(0, 1)] _
          refine v_if (hz_X12_beside hT _ _ rfl) (fun hc28 => absurd (show (1 : Int) = 0 from hc28) (by omega)) (fun _ => ?_)
          refine v_load (v := (2, 121)) (hz_X12_beside hT _ _ rfl) rfl rfl ?_
          refine v_load (v := (0, ((x : Int) + 1))) (hz_X12_beside hT _ _ rfl) rfl rfl ?_
          refine v_load (v := (0, ((y : Int) + 0))) (hz_X12_beside hT _ _ rfl) rfl rfl ?_
          refine v_call (w := 3) [some (2, 121), some (0, ((x : Int) + 1)), some (0, ((y : Int) + 0))] hO (hz_X12_beside hT _ _ rfl) rfl rfl (rb_at2 hT hO (((x : Int) + 1)) (((y : Int) + 0)) (by omega) (by omega) c0 lb ?_)
          show vP D T N 200 75 h [some (2, 121), some (0, (n : Int)), some (0, 0), some (0, ((x : Int) + 1)), some (0, ((y : Int) + 0))] [(0, ((P 0 0) * ((y : Int) + 0) + ((x : Int) + 1)))] _
          refine v_goto (hz_X12_beside hT _ _ rfl) ?_
          refine v_ret (hz_X12_beside hT _ _ rfl) (Or.inl rfl) ?_
          exact k4 hc3 hc7 hc12 hc15 hc21 hc24
theorem qr_bes1 {D : zD} {T : zT} (hT : hTab T) (hO : vOK T) {N : Nat} {h : zH} {Q : zR → Prop} {P : PT} {n x y : Nat} (hv0 : zHv h) (c0 : h 126 0 = (0, P 0 0)) (c1 : h 126 1 = (0, P 0 1)) (lb : lB P) (hn : n < 48) (hw : 0 < P 0 0 ∧ P 0 0 ≤ 8) (hr : 0 ≤ P 0 1 ∧ P 0 1 ≤ 6) (hx : (n : Int) % P 0 0 = (x : Int)) (hy : (n : Int) / P 0 0 = (y : Int)) (bx : x < 8) (by_ : y < 6)
    (k0 : ((P 0 0) ≠ 0) → ((P 0 0) ≠ 0) → (((x : Int) + 0) < 0) → Q (h, some (0, -1)))
    (k1 : ((P 0 0) ≠ 0) → ((P 0 0) ≠ 0) → (0 ≤ ((x : Int) + 0)) → (((P 0 0) - 1) < ((x : Int) + 0)) → Q (h, some (0, -1)))
    (k2 : ((P 0 0) ≠ 0) → ((P 0 0) ≠ 0) → (0 ≤ ((x : Int) + 0)) → (((x : Int) + 0) ≤ ((P 0 0) - 1)) → (((y : Int) + 1) < 0) → Q (h, some (0, -1)))
    (k3 : ((P 0 0) ≠ 0) → ((P 0 0) ≠ 0) → (0 ≤ ((x : Int) + 0)) → (((x : Int) + 0) ≤ ((P 0 0) - 1)) → (0 ≤ ((y : Int) + 1)) → (((P 0 1) - 1) < ((y : Int) + 1)) → Q (h, some (0, -1)))
    (k4 : ((P 0 0) ≠ 0) → ((P 0 0) ≠ 0) → (0 ≤ ((x : Int) + 0)) → (((x : Int) + 0) ≤ ((P 0 0) - 1)) → (0 ≤ ((y : Int) + 1)) → (((y : Int) + 1) ≤ ((P 0 1) - 1)) → Q (h, some (0, ((P 0 0) * ((y : Int) + 1) + ((x : Int) + 0))))) :
    vP D T N 200 0 h [some (2, 121), some (0, (n : Int)), some (0, 1), none, none] [] Q := by
  refine v_load (v := (0, (n : Int))) (hz_X12_beside hT _ _ rfl) rfl rfl ?_
  refine v_load (v := (2, 121)) (hz_X12_beside hT _ _ rfl) rfl rfl ?_
  refine v_getR (c := 126) (r := 121) (hz_X12_beside hT _ _ rfl) rfl rfl rfl ?_
  refine v_push (0) (hz_X12_beside hT _ _ rfl) rfl ?_
  refine v_aldV (v := (0, (P 0 0))) (r := 126) (hz_X12_beside hT _ _ rfl) rfl rfl (fun _ _ _ => c0) (fun ha1 hb2 => ?_)
  refine v_div (w := (x : Int)) (hz_X12_beside hT _ _ rfl) (fun _ => (hq_rem (by omega) (by omega) (by omega) (by omega)).trans hx) (fun hc3 => ?_)
  refine v_load (v := (0, 1)) (hz_X12_beside hT _ _ rfl) rfl rfl ?_
  refine v_if (hz_X12_beside hT _ _ rfl) (fun hc4 => absurd (show (1 : Int) = 0 from hc4) (by omega)) (fun _ => ?_)
  refine v_load (v := (0, 1)) (hz_X12_beside hT _ _ rfl) rfl rfl ?_
  refine v_push (2) (hz_X12_beside hT _ _ rfl) rfl ?_
  refine v_ic (hz_X12_beside hT _ _ rfl) (fun hc5 => absurd (show (1 : Int) = 2 from hc5) (by omega)) (fun _ => ?_)
  refine v_push (0) (hz_X12_beside hT _ _ rfl) rfl ?_
  refine v_bin (w := ((x : Int) + 0)) (hz_X12_beside hT _ _ rfl) (hq_add (by omega) (by omega)) ?_
  refine v_store1 [some (2, 121), some (0, (n : Int)), some (0, 1), some (0, ((x : Int) + 0)), none] (hz_X12_beside hT _ _ rfl) ⟨rfl, Nat.ne_of_beq_eq_false rfl⟩ (Nat.le_of_ble_eq_true rfl) rfl ?_
  refine v_load (v := (0, (n : Int))) (hz_X12_beside hT _ _ rfl) rfl rfl ?_
  refine v_load (v := (2, 121)) (hz_X12_beside hT _ _ rfl) rfl rfl ?_
  refine v_getR (c := 126) (r := 121) (hz_X12_beside hT _ _ rfl) rfl rfl rfl ?_
  refine v_push (0) (hz_X12_beside hT _ _ rfl) rfl ?_
  refine v_aldV (v := (0, (P 0 0))) (r := 126) (hz_X12_beside hT _ _ rfl) rfl rfl (fun _ _ _ => c0) (fun ha6 hb7 => ?_)
  refine v_div (w := (y : Int)) (hz_X12_beside hT _ _ rfl) (fun _ => (hq_quo (by omega) (by omega) (by omega) (by omega)).trans hy) (fun hc8 => ?_)
  refine v_load (v := (0, 1)) (hz_X12_beside hT _ _ rfl) rfl rfl ?_
  refine v_push (1) (hz_X12_beside hT _ _ rfl) rfl ?_
  refine v_ic (hz_X12_beside hT _ _ rfl) (fun _ => ?_) (fun hc9 => absurd (show (1 : Int) = 1 from (by omega)) hc9)
  refine v_push (1) (hz_X12_beside hT _ _ rfl) rfl ?_
  refine v_goto (hz_X12_beside hT _ _ rfl) ?_
  refine v_bin (w := ((y : Int) + 1)) (hz_X12_beside hT _ _ rfl) (hq_add (by omega) (by omega)) ?_
  refine v_store1 [some (2, 121), some (0, (n : Int)), some (0, 1), some (0, ((x : Int) + 0)), some (0, ((y : Int) + 1))] (hz_X12_beside hT _ _ rfl) ⟨rfl, Nat.ne_of_beq_eq_false rfl⟩ (Nat.le_of_ble_eq_true rfl) rfl ?_
  refine v_load (v := (2, 121)) (hz_X12_beside hT _ _ rfl) rfl rfl ?_
  refine v_load (v := (0, ((x : Int) + 0))) (hz_X12_beside hT _ _ rfl) rfl rfl ?_
  refine v_load (v := (0, ((y : Int) + 1))) (hz_X12_beside hT _ _ rfl) rfl rfl ?_
  refine v_call (w := 3) [some (2, 121), some (0, ((x : Int) + 0)), some (0, ((y : Int) + 1))] hO (hz_X12_beside hT _ _ rfl) rfl rfl ?_
  refine v_load (v := (0, ((x : Int) + 0))) (hz_X12_isCell hT _ _ rfl) rfl rfl ?_
  refine v_i2l (hz_X12_isCell hT _ _ rfl) ?_
  refine v_push (0) (hz_X12_isCell hT _ _ rfl) rfl ?_
  refine v_load (v := (2, 121)) (hz_X12_isCell hT _ _ rfl) rfl rfl ?_
  refine v_getR (c := 126) (r := 121) (hz_X12_isCell hT _ _ rfl) rfl rfl rfl ?_
  refine v_push (0) (hz_X12_isCell hT _ _ rfl) rfl ?_
  refine v_aldV (v := (0, (P 0 0))) (r := 126) (hz_X12_isCell hT _ _ rfl) rfl rfl (fun _ _ _ => c0) (fun ha10 hb11 => ?_)
  refine v_push (1) (hz_X12_isCell hT _ _ rfl) rfl ?_
  refine v_bin (w := ((P 0 0) - 1)) (hz_X12_isCell hT _ _ rfl) (hq_sub (by omega) (by omega)) ?_
  refine v_i2l (hz_X12_isCell hT _ _ rfl) ?_
  refine v_call (w := 6) [some (1, ((x : Int) + 0)), none, some (1, 0), none, some (1, ((P 0 0) - 1)), none] hO (hz_X12_isCell hT _ _ rfl) rfl rfl ?_
  refine v_load (v := (1, ((x : Int) + 0))) (hz_X12_isIn hT _ _ rfl) rfl rfl ?_
  refine v_load (v := (1, 0)) (hz_X12_isIn hT _ _ rfl) rfl rfl ?_
  refine v_lif (hz_X12_isIn hT _ _ rfl) (hz_X12_isIn hT _ _ rfl) (fun hc12 => ?_) (fun hc12 => ?_)
  · have hc12 : ((x : Int) + 0) < 0 := hc12
    refine v_push (0) (hz_X12_isIn hT _ _ rfl) rfl ?_
    refine v_ret (hz_X12_isIn hT _ _ rfl) (Or.inl rfl) ?_
    show vP D T N 244 15 h [some (2, 121), some (0, ((x : Int) + 0)), some (0, ((y : Int) + 1))] [(0, 0)] _
    refine v_if (hz_X12_isCell hT _ _ rfl) (fun _ => ?_) (fun hc13 => absurd (show (0 : Int) = 0 from (by omega)) hc13)
    refine v_push (0) (hz_X12_isCell hT _ _ rfl) rfl ?_
    refine v_ret (hz_X12_isCell hT _ _ rfl) (Or.inl rfl) ?_
    show vP D T N 200 65 h [some (2, 121), some (0, (n : Int)), some (0, 1), some (0, ((x : Int) + 0)), some (0, ((y : Int) + 1))] [(0, 0)] _
    refine v_if (hz_X12_beside hT _ _ rfl) (fun _ => ?_) (fun hc14 => absurd (show (0 : Int) = 0 from (by omega)) hc14)
    refine v_push (-1) (hz_X12_beside hT _ _ rfl) rfl ?_
    refine v_ret (hz_X12_beside hT _ _ rfl) (Or.inl rfl) ?_
    exact k0 hc3 hc8 hc12
  · have hc12 : 0 ≤ ((x : Int) + 0) := Int.not_lt.mp hc12
    refine v_load (v := (1, ((x : Int) + 0))) (hz_X12_isIn hT _ _ rfl) rfl rfl ?_
    refine v_load (v := (1, ((P 0 0) - 1))) (hz_X12_isIn hT _ _ rfl) rfl rfl ?_
    refine v_lif (hz_X12_isIn hT _ _ rfl) (hz_X12_isIn hT _ _ rfl) (fun hc15 => ?_) (fun hc15 => ?_)
    · have hc15 : ((P 0 0) - 1) < ((x : Int) + 0) := hc15
      refine v_push (0) (hz_X12_isIn hT _ _ rfl) rfl ?_
      refine v_ret (hz_X12_isIn hT _ _ rfl) (Or.inl rfl) ?_
      show vP D T N 244 15 h [some (2, 121), some (0, ((x : Int) + 0)), some (0, ((y : Int) + 1))] [(0, 0)] _
      refine v_if (hz_X12_isCell hT _ _ rfl) (fun _ => ?_) (fun hc16 => absurd (show (0 : Int) = 0 from (by omega)) hc16)
      refine v_push (0) (hz_X12_isCell hT _ _ rfl) rfl ?_
      refine v_ret (hz_X12_isCell hT _ _ rfl) (Or.inl rfl) ?_
      show vP D T N 200 65 h [some (2, 121), some (0, (n : Int)), some (0, 1), some (0, ((x : Int) + 0)), some (0, ((y : Int) + 1))] [(0, 0)] _
      refine v_if (hz_X12_beside hT _ _ rfl) (fun _ => ?_) (fun hc17 => absurd (show (0 : Int) = 0 from (by omega)) hc17)
      refine v_push (-1) (hz_X12_beside hT _ _ rfl) rfl ?_
      refine v_ret (hz_X12_beside hT _ _ rfl) (Or.inl rfl) ?_
      exact k1 hc3 hc8 hc12 hc15
    · have hc15 : ((x : Int) + 0) ≤ ((P 0 0) - 1) := Int.not_lt.mp hc15
      refine v_push (1) (hz_X12_isIn hT _ _ rfl) rfl ?_
      refine v_goto (hz_X12_isIn hT _ _ rfl) ?_
      refine v_ret (hz_X12_isIn hT _ _ rfl) (Or.inl rfl) ?_
      show vP D T N 244 15 h [some (2, 121), some (0, ((x : Int) + 0)), some (0, ((y : Int) + 1))] [(0, 1)] _
      refine v_if (hz_X12_isCell hT _ _ rfl) (fun hc18 => absurd (show (1 : Int) = 0 from hc18) (by omega)) (fun _ => ?_)
      refine v_load (v := (0, ((y : Int) + 1))) (hz_X12_isCell hT _ _ rfl) rfl rfl ?_
      refine v_i2l (hz_X12_isCell hT _ _ rfl) ?_
      refine v_push (0) (hz_X12_isCell hT _ _ rfl) rfl ?_
      refine v_load (v := (2, 121)) (hz_X12_isCell hT _ _ rfl) rfl rfl ?_
      refine v_getR (c := 126) (r := 121) (hz_X12_isCell hT _ _ rfl) rfl rfl rfl ?_
      refine v_push (1) (hz_X12_isCell hT _ _ rfl) rfl ?_
      refine v_aldV (v := (0, (P 0 1))) (r := 126) (hz_X12_isCell hT _ _ rfl) rfl rfl (fun _ _ _ => c1) (fun ha19 hb20 => ?_)
      refine v_push (1) (hz_X12_isCell hT _ _ rfl) rfl ?_
      refine v_bin (w := ((P 0 1) - 1)) (hz_X12_isCell hT _ _ rfl) (hq_sub (by omega) (by omega)) ?_
      refine v_i2l (hz_X12_isCell hT _ _ rfl) ?_
      refine v_call (w := 6) [some (1, ((y : Int) + 1)), none, some (1, 0), none, some (1, ((P 0 1) - 1)), none] hO (hz_X12_isCell hT _ _ rfl) rfl rfl ?_
      refine v_load (v := (1, ((y : Int) + 1))) (hz_X12_isIn hT _ _ rfl) rfl rfl ?_
      refine v_load (v := (1, 0)) (hz_X12_isIn hT _ _ rfl) rfl rfl ?_
      refine v_lif (hz_X12_isIn hT _ _ rfl) (hz_X12_isIn hT _ _ rfl) (fun hc21 => ?_) (fun hc21 => ?_)
      · have hc21 : ((y : Int) + 1) < 0 := hc21
        refine v_push (0) (hz_X12_isIn hT _ _ rfl) rfl ?_
        refine v_ret (hz_X12_isIn hT _ _ rfl) (Or.inl rfl) ?_
        show vP D T N 244 33 h [some (2, 121), some (0, ((x : Int) + 0)), some (0, ((y : Int) + 1))] [(0, 0)] _
        refine v_if (hz_X12_isCell hT _ _ rfl) (fun _ => ?_) (fun hc22 => absurd (show (0 : Int) = 0 from (by omega)) hc22)
        refine v_push (0) (hz_X12_isCell hT _ _ rfl) rfl ?_
        refine v_ret (hz_X12_isCell hT _ _ rfl) (Or.inl rfl) ?_
        show vP D T N 200 65 h [some (2, 121), some (0, (n : Int)), some (0, 1), some (0, ((x : Int) + 0)), some (0, ((y : Int) + 1))] [(0, 0)] _
        refine v_if (hz_X12_beside hT _ _ rfl) (fun _ => ?_) (fun hc23 => absurd (show (0 : Int) = 0 from (by omega)) hc23)
        refine v_push (-1) (hz_X12_beside hT _ _ rfl) rfl ?_
        refine v_ret (hz_X12_beside hT _ _ rfl) (Or.inl rfl) ?_
        exact k2 hc3 hc8 hc12 hc15 hc21
      · have hc21 : 0 ≤ ((y : Int) + 1) := Int.not_lt.mp hc21
        refine v_load (v := (1, ((y : Int) + 1))) (hz_X12_isIn hT _ _ rfl) rfl rfl ?_
        refine v_load (v := (1, ((P 0 1) - 1))) (hz_X12_isIn hT _ _ rfl) rfl rfl ?_
        refine v_lif (hz_X12_isIn hT _ _ rfl) (hz_X12_isIn hT _ _ rfl) (fun hc24 => ?_) (fun hc24 => ?_)
        · have hc24 : ((P 0 1) - 1) < ((y : Int) + 1) := hc24
          refine v_push (0) (hz_X12_isIn hT _ _ rfl) rfl ?_
          refine v_ret (hz_X12_isIn hT _ _ rfl) (Or.inl rfl) ?_
          show vP D T N 244 33 h [some (2, 121), some (0, ((x : Int) + 0)), some (0, ((y : Int) + 1))] [(0, 0)] _
          refine v_if (hz_X12_isCell hT _ _ rfl) (fun _ => ?_) (fun hc25 => absurd (show (0 : Int) = 0 from (by omega)) hc25)
          refine v_push (0) (hz_X12_isCell hT _ _ rfl) rfl ?_
          refine v_ret (hz_X12_isCell hT _ _ rfl) (Or.inl rfl) ?_
          show vP D T N 200 65 h [some (2, 121), some (0, (n : Int)), some (0, 1), some (0, ((x : Int) + 0)), some (0, ((y : Int) + 1))] [(0, 0)] _
          refine v_if (hz_X12_beside hT _ _ rfl) (fun _ => ?_) (fun hc26 => absurd (show (0 : Int) = 0 from (by omega)) hc26)
          refine v_push (-1) (hz_X12_beside hT _ _ rfl) rfl ?_
          refine v_ret (hz_X12_beside hT _ _ rfl) (Or.inl rfl) ?_
          exact k3 hc3 hc8 hc12 hc15 hc21 hc24
        · have hc24 : ((y : Int) + 1) ≤ ((P 0 1) - 1) := Int.not_lt.mp hc24
          refine v_push (1) (hz_X12_isIn hT _ _ rfl) rfl ?_
          refine v_goto (hz_X12_isIn hT _ _ rfl) ?_
          refine v_ret (hz_X12_isIn hT _ _ rfl) (Or.inl rfl) ?_
          show vP D T N 244 33 h [some (2, 121), some (0, ((x : Int) + 0)), some (0, ((y : Int) + 1))] [(0, 1)] _
          refine v_if (hz_X12_isCell hT _ _ rfl) (fun hc27 => absurd (show (1 : Int) = 0 from hc27) (by omega)) (fun _ => ?_)
          refine v_push (1) (hz_X12_isCell hT _ _ rfl) rfl ?_
          refine v_goto (hz_X12_isCell hT _ _ rfl) ?_
          refine v_ret (hz_X12_isCell hT _ _ rfl) (Or.inl rfl) ?_
          show vP D T N 200 65 h [some (2, 121), some (0, (n : Int)), some (0, 1), some (0, ((x : Int) + 0)), some (0, ((y : Int) + 1))] [(0, 1)] _
          refine v_if (hz_X12_beside hT _ _ rfl) (fun hc28 => absurd (show (1 : Int) = 0 from hc28) (by omega)) (fun _ => ?_)
          refine v_load (v := (2, 121)) (hz_X12_beside hT _ _ rfl) rfl rfl ?_
          refine v_load (v := (0, ((x : Int) + 0))) (hz_X12_beside hT _ _ rfl) rfl rfl ?_
          refine v_load (v := (0, ((y : Int) + 1))) (hz_X12_beside hT _ _ rfl) rfl rfl ?_
          refine v_call (w := 3) [some (2, 121), some (0, ((x : Int) + 0)), some (0, ((y : Int) + 1))] hO (hz_X12_beside hT _ _ rfl) rfl rfl (rb_at2 hT hO (((x : Int) + 0)) (((y : Int) + 1)) (by omega) (by omega) c0 lb ?_)
          show vP D T N 200 75 h [some (2, 121), some (0, (n : Int)), some (0, 1), some (0, ((x : Int) + 0)), some (0, ((y : Int) + 1))] [(0, ((P 0 0) * ((y : Int) + 1) + ((x : Int) + 0)))] _
          refine v_goto (hz_X12_beside hT _ _ rfl) ?_
          refine v_ret (hz_X12_beside hT _ _ rfl) (Or.inl rfl) ?_
          exact k4 hc3 hc8 hc12 hc15 hc21 hc24
theorem qr_bes2 {D : zD} {T : zT} (hT : hTab T) (hO : vOK T) {N : Nat} {h : zH} {Q : zR → Prop} {P : PT} {n x y : Nat} (hv0 : zHv h) (c0 : h 126 0 = (0, P 0 0)) (c1 : h 126 1 = (0, P 0 1)) (lb : lB P) (hn : n < 48) (hw : 0 < P 0 0 ∧ P 0 0 ≤ 8) (hr : 0 ≤ P 0 1 ∧ P 0 1 ≤ 6) (hx : (n : Int) % P 0 0 = (x : Int)) (hy : (n : Int) / P 0 0 = (y : Int)) (bx : x < 8) (by_ : y < 6)
    (k0 : ((P 0 0) ≠ 0) → ((P 0 0) ≠ 0) → (((x : Int) + -1) < 0) → Q (h, some (0, -1)))
    (k1 : ((P 0 0) ≠ 0) → ((P 0 0) ≠ 0) → (0 ≤ ((x : Int) + -1)) → (((P 0 0) - 1) < ((x : Int) + -1)) → Q (h, some (0, -1)))
    (k2 : ((P 0 0) ≠ 0) → ((P 0 0) ≠ 0) → (0 ≤ ((x : Int) + -1)) → (((x : Int) + -1) ≤ ((P 0 0) - 1)) → (((y : Int) + 0) < 0) → Q (h, some (0, -1)))
    (k3 : ((P 0 0) ≠ 0) → ((P 0 0) ≠ 0) → (0 ≤ ((x : Int) + -1)) → (((x : Int) + -1) ≤ ((P 0 0) - 1)) → (0 ≤ ((y : Int) + 0)) → (((P 0 1) - 1) < ((y : Int) + 0)) → Q (h, some (0, -1)))
    (k4 : ((P 0 0) ≠ 0) → ((P 0 0) ≠ 0) → (0 ≤ ((x : Int) + -1)) → (((x : Int) + -1) ≤ ((P 0 0) - 1)) → (0 ≤ ((y : Int) + 0)) → (((y : Int) + 0) ≤ ((P 0 1) - 1)) → Q (h, some (0, ((P 0 0) * ((y : Int) + 0) + ((x : Int) + -1))))) :
    vP D T N 200 0 h [some (2, 121), some (0, (n : Int)), some (0, 2), none, none] [] Q := by
  refine v_load (v := (0, (n : Int))) (hz_X12_beside hT _ _ rfl) rfl rfl ?_
  refine v_load (v := (2, 121)) (hz_X12_beside hT _ _ rfl) rfl rfl ?_
  refine v_getR (c := 126) (r := 121) (hz_X12_beside hT _ _ rfl) rfl rfl rfl ?_
  refine v_push (0) (hz_X12_beside hT _ _ rfl) rfl ?_
  refine v_aldV (v := (0, (P 0 0))) (r := 126) (hz_X12_beside hT _ _ rfl) rfl rfl (fun _ _ _ => c0) (fun ha1 hb2 => ?_)
  refine v_div (w := (x : Int)) (hz_X12_beside hT _ _ rfl) (fun _ => (hq_rem (by omega) (by omega) (by omega) (by omega)).trans hx) (fun hc3 => ?_)
  refine v_load (v := (0, 2)) (hz_X12_beside hT _ _ rfl) rfl rfl ?_
  refine v_if (hz_X12_beside hT _ _ rfl) (fun hc4 => absurd (show (2 : Int) = 0 from hc4) (by omega)) (fun _ => ?_)
  refine v_load (v := (0, 2)) (hz_X12_beside hT _ _ rfl) rfl rfl ?_
  refine v_push (2) (hz_X12_beside hT _ _ rfl) rfl ?_
  refine v_ic (hz_X12_beside hT _ _ rfl) (fun _ => ?_) (fun hc5 => absurd (show (2 : Int) = 2 from (by omega)) hc5)
  refine v_push (-1) (hz_X12_beside hT _ _ rfl) rfl ?_
  refine v_goto (hz_X12_beside hT _ _ rfl) ?_
  refine v_bin (w := ((x : Int) + -1)) (hz_X12_beside hT _ _ rfl) (hq_add (by omega) (by omega)) ?_
  refine v_store1 [some (2, 121), some (0, (n : Int)), some (0, 2), some (0, ((x : Int) + -1)), none] (hz_X12_beside hT _ _ rfl) ⟨rfl, Nat.ne_of_beq_eq_false rfl⟩ (Nat.le_of_ble_eq_true rfl) rfl ?_
  refine v_load (v := (0, (n : Int))) (hz_X12_beside hT _ _ rfl) rfl rfl ?_
  refine v_load (v := (2, 121)) (hz_X12_beside hT _ _ rfl) rfl rfl ?_
  refine v_getR (c := 126) (r := 121) (hz_X12_beside hT _ _ rfl) rfl rfl rfl ?_
  refine v_push (0) (hz_X12_beside hT _ _ rfl) rfl ?_
  refine v_aldV (v := (0, (P 0 0))) (r := 126) (hz_X12_beside hT _ _ rfl) rfl rfl (fun _ _ _ => c0) (fun ha6 hb7 => ?_)
  refine v_div (w := (y : Int)) (hz_X12_beside hT _ _ rfl) (fun _ => (hq_quo (by omega) (by omega) (by omega) (by omega)).trans hy) (fun hc8 => ?_)
  refine v_load (v := (0, 2)) (hz_X12_beside hT _ _ rfl) rfl rfl ?_
  refine v_push (1) (hz_X12_beside hT _ _ rfl) rfl ?_
  refine v_ic (hz_X12_beside hT _ _ rfl) (fun hc9 => absurd (show (2 : Int) = 1 from hc9) (by omega)) (fun _ => ?_)
  refine v_load (v := (0, 2)) (hz_X12_beside hT _ _ rfl) rfl rfl ?_
  refine v_push (3) (hz_X12_beside hT _ _ rfl) rfl ?_
  refine v_ic (hz_X12_beside hT _ _ rfl) (fun hc10 => absurd (show (2 : Int) = 3 from hc10) (by omega)) (fun _ => ?_)
  refine v_push (0) (hz_X12_beside hT _ _ rfl) rfl ?_
  refine v_bin (w := ((y : Int) + 0)) (hz_X12_beside hT _ _ rfl) (hq_add (by omega) (by omega)) ?_
  refine v_store1 [some (2, 121), some (0, (n : Int)), some (0, 2), some (0, ((x : Int) + -1)), some (0, ((y : Int) + 0))] (hz_X12_beside hT _ _ rfl) ⟨rfl, Nat.ne_of_beq_eq_false rfl⟩ (Nat.le_of_ble_eq_true rfl) rfl ?_
  refine v_load (v := (2, 121)) (hz_X12_beside hT _ _ rfl) rfl rfl ?_
  refine v_load (v := (0, ((x : Int) + -1))) (hz_X12_beside hT _ _ rfl) rfl rfl ?_
  refine v_load (v := (0, ((y : Int) + 0))) (hz_X12_beside hT _ _ rfl) rfl rfl ?_
  refine v_call (w := 3) [some (2, 121), some (0, ((x : Int) + -1)), some (0, ((y : Int) + 0))] hO (hz_X12_beside hT _ _ rfl) rfl rfl ?_
  refine v_load (v := (0, ((x : Int) + -1))) (hz_X12_isCell hT _ _ rfl) rfl rfl ?_
  refine v_i2l (hz_X12_isCell hT _ _ rfl) ?_
  refine v_push (0) (hz_X12_isCell hT _ _ rfl) rfl ?_
  refine v_load (v := (2, 121)) (hz_X12_isCell hT _ _ rfl) rfl rfl ?_
  refine v_getR (c := 126) (r := 121) (hz_X12_isCell hT _ _ rfl) rfl rfl rfl ?_
  refine v_push (0) (hz_X12_isCell hT _ _ rfl) rfl ?_
  refine v_aldV (v := (0, (P 0 0))) (r := 126) (hz_X12_isCell hT _ _ rfl) rfl rfl (fun _ _ _ => c0) (fun ha11 hb12 => ?_)
  refine v_push (1) (hz_X12_isCell hT _ _ rfl) rfl ?_
  refine v_bin (w := ((P 0 0) - 1)) (hz_X12_isCell hT _ _ rfl) (hq_sub (by omega) (by omega)) ?_
  refine v_i2l (hz_X12_isCell hT _ _ rfl) ?_
  refine v_call (w := 6) [some (1, ((x : Int) + -1)), none, some (1, 0), none, some (1, ((P 0 0) - 1)), none] hO (hz_X12_isCell hT _ _ rfl) rfl rfl ?_
  refine v_load (v := (1, ((x : Int) + -1))) (hz_X12_isIn hT _ _ rfl) rfl rfl ?_
  refine v_load (v := (1, 0)) (hz_X12_isIn hT _ _ rfl) rfl rfl ?_
  refine v_lif (hz_X12_isIn hT _ _ rfl) (hz_X12_isIn hT _ _ rfl) (fun hc13 => ?_) (fun hc13 => ?_)
  · have hc13 : ((x : Int) + -1) < 0 := hc13
    refine v_push (0) (hz_X12_isIn hT _ _ rfl) rfl ?_
    refine v_ret (hz_X12_isIn hT _ _ rfl) (Or.inl rfl) ?_
    show vP D T N 244 15 h [some (2, 121), some (0, ((x : Int) + -1)), some (0, ((y : Int) + 0))] [(0, 0)] _
    refine v_if (hz_X12_isCell hT _ _ rfl) (fun _ => ?_) (fun hc14 => absurd (show (0 : Int) = 0 from (by omega)) hc14)
    refine v_push (0) (hz_X12_isCell hT _ _ rfl) rfl ?_
    refine v_ret (hz_X12_isCell hT _ _ rfl) (Or.inl rfl) ?_
    show vP D T N 200 65 h [some (2, 121), some (0, (n : Int)), some (0, 2), some (0, ((x : Int) + -1)), some (0, ((y : Int) + 0))] [(0, 0)] _
    refine v_if (hz_X12_beside hT _ _ rfl) (fun _ => ?_) (fun hc15 => absurd (show (0 : Int) = 0 from (by omega)) hc15)
    refine v_push (-1) (hz_X12_beside hT _ _ rfl) rfl ?_
    refine v_ret (hz_X12_beside hT _ _ rfl) (Or.inl rfl) ?_
    exact k0 hc3 hc8 hc13
  · have hc13 : 0 ≤ ((x : Int) + -1) := Int.not_lt.mp hc13
    refine v_load (v := (1, ((x : Int) + -1))) (hz_X12_isIn hT _ _ rfl) rfl rfl ?_
    refine v_load (v := (1, ((P 0 0) - 1))) (hz_X12_isIn hT _ _ rfl) rfl rfl ?_
    refine v_lif (hz_X12_isIn hT _ _ rfl) (hz_X12_isIn hT _ _ rfl) (fun hc16 => ?_) (fun hc16 => ?_)
    · have hc16 : ((P 0 0) - 1) < ((x : Int) + -1) := hc16
      refine v_push (0) (hz_X12_isIn hT _ _ rfl) rfl ?_
      refine v_ret (hz_X12_isIn hT _ _ rfl) (Or.inl rfl) ?_
      show vP D T N 244 15 h [some (2, 121), some (0, ((x : Int) + -1)), some (0, ((y : Int) + 0))] [(0, 0)] _
      refine v_if (hz_X12_isCell hT _ _ rfl) (fun _ => ?_) (fun hc17 => absurd (show (0 : Int) = 0 from (by omega)) hc17)
      refine v_push (0) (hz_X12_isCell hT _ _ rfl) rfl ?_
      refine v_ret (hz_X12_isCell hT _ _ rfl) (Or.inl rfl) ?_
      show vP D T N 200 65 h [some (2, 121), some (0, (n : Int)), some (0, 2), some (0, ((x : Int) + -1)), some (0, ((y : Int) + 0))] [(0, 0)] _
      refine v_if (hz_X12_beside hT _ _ rfl) (fun _ => ?_) (fun hc18 => absurd (show (0 : Int) = 0 from (by omega)) hc18)
      refine v_push (-1) (hz_X12_beside hT _ _ rfl) rfl ?_
      refine v_ret (hz_X12_beside hT _ _ rfl) (Or.inl rfl) ?_
      exact k1 hc3 hc8 hc13 hc16
    · have hc16 : ((x : Int) + -1) ≤ ((P 0 0) - 1) := Int.not_lt.mp hc16
      refine v_push (1) (hz_X12_isIn hT _ _ rfl) rfl ?_
      refine v_goto (hz_X12_isIn hT _ _ rfl) ?_
      refine v_ret (hz_X12_isIn hT _ _ rfl) (Or.inl rfl) ?_
      show vP D T N 244 15 h [some (2, 121), some (0, ((x : Int) + -1)), some (0, ((y : Int) + 0))] [(0, 1)] _
      refine v_if (hz_X12_isCell hT _ _ rfl) (fun hc19 => absurd (show (1 : Int) = 0 from hc19) (by omega)) (fun _ => ?_)
      refine v_load (v := (0, ((y : Int) + 0))) (hz_X12_isCell hT _ _ rfl) rfl rfl ?_
      refine v_i2l (hz_X12_isCell hT _ _ rfl) ?_
      refine v_push (0) (hz_X12_isCell hT _ _ rfl) rfl ?_
      refine v_load (v := (2, 121)) (hz_X12_isCell hT _ _ rfl) rfl rfl ?_
      refine v_getR (c := 126) (r := 121) (hz_X12_isCell hT _ _ rfl) rfl rfl rfl ?_
      refine v_push (1) (hz_X12_isCell hT _ _ rfl) rfl ?_
      refine v_aldV (v := (0, (P 0 1))) (r := 126) (hz_X12_isCell hT _ _ rfl) rfl rfl (fun _ _ _ => c1) (fun ha20 hb21 => ?_)
      refine v_push (1) (hz_X12_isCell hT _ _ rfl) rfl ?_
      refine v_bin (w := ((P 0 1) - 1)) (hz_X12_isCell hT _ _ rfl) (hq_sub (by omega) (by omega)) ?_
      refine v_i2l (hz_X12_isCell hT _ _ rfl) ?_
      refine v_call (w := 6) [some (1, ((y : Int) + 0)), none, some (1, 0), none, some (1, ((P 0 1) - 1)), none] hO (hz_X12_isCell hT _ _ rfl) rfl rfl ?_
      refine v_load (v := (1, ((y : Int) + 0))) (hz_X12_isIn hT _ _ rfl) rfl rfl ?_
      refine v_load (v := (1, 0)) (hz_X12_isIn hT _ _ rfl) rfl rfl ?_
      refine v_lif (hz_X12_isIn hT _ _ rfl) (hz_X12_isIn hT _ _ rfl) (fun hc22 => ?_) (fun hc22 => ?_)
      · have hc22 : ((y : Int) + 0) < 0 := hc22
        refine v_push (0) (hz_X12_isIn hT _ _ rfl) rfl ?_
        refine v_ret (hz_X12_isIn hT _ _ rfl) (Or.inl rfl) ?_
        show vP D T N 244 33 h [some (2, 121), some (0, ((x : Int) + -1)), some (0, ((y : Int) + 0))] [(0, 0)] _
        refine v_if (hz_X12_isCell hT _ _ rfl) (fun _ => ?_) (fun hc23 => absurd (show (0 : Int) = 0 from (by omega)) hc23)
        refine v_push (0) (hz_X12_isCell hT _ _ rfl) rfl ?_
        refine v_ret (hz_X12_isCell hT _ _ rfl) (Or.inl rfl) ?_
        show vP D T N 200 65 h [some (2, 121), some (0, (n : Int)), some (0, 2), some (0, ((x : Int) + -1)), some (0, ((y : Int) + 0))] [(0, 0)] _
        refine v_if (hz_X12_beside hT _ _ rfl) (fun _ => ?_) (fun hc24 => absurd (show (0 : Int) = 0 from (by omega)) hc24)
        refine v_push (-1) (hz_X12_beside hT _ _ rfl) rfl ?_
        refine v_ret (hz_X12_beside hT _ _ rfl) (Or.inl rfl) ?_
        exact k2 hc3 hc8 hc13 hc16 hc22
      · have hc22 : 0 ≤ ((y : Int) + 0) := Int.not_lt.mp hc22
        refine v_load (v := (1, ((y : Int) + 0))) (hz_X12_isIn hT _ _ rfl) rfl rfl ?_
        refine v_load (v := (1, ((P 0 1) - 1))) (hz_X12_isIn hT _ _ rfl) rfl rfl ?_
        refine v_lif (hz_X12_isIn hT _ _ rfl) (hz_X12_isIn hT _ _ rfl) (fun hc25 => ?_) (fun hc25 => ?_)
        · have hc25 : ((P 0 1) - 1) < ((y : Int) + 0) := hc25
          refine v_push (0) (hz_X12_isIn hT _ _ rfl) rfl ?_
          refine v_ret (hz_X12_isIn hT _ _ rfl) (Or.inl rfl) ?_
          show vP D T N 244 33 h [some (2, 121), some (0, ((x : Int) + -1)), some (0, ((y : Int) + 0))] [(0, 0)] _
          refine v_if (hz_X12_isCell hT _ _ rfl) (fun _ => ?_) (fun hc26 => absurd (show (0 : Int) = 0 from (by omega)) hc26)
          refine v_push (0) (hz_X12_isCell hT _ _ rfl) rfl ?_
          refine v_ret (hz_X12_isCell hT _ _ rfl) (Or.inl rfl) ?_
          show vP D T N 200 65 h [some (2, 121), some (0, (n : Int)), some (0, 2), some (0, ((x : Int) + -1)), some (0, ((y : Int) + 0))] [(0, 0)] _
          refine v_if (hz_X12_beside hT _ _ rfl) (fun _ => ?_) (fun hc27 => absurd (show (0 : Int) = 0 from (by omega)) hc27)
          refine v_push (-1) (hz_X12_beside hT _ _ rfl) rfl ?_
          refine v_ret (hz_X12_beside hT _ _ rfl) (Or.inl rfl) ?_
          exact k3 hc3 hc8 hc13 hc16 hc22 hc25
        · have hc25 : ((y : Int) + 0) ≤ ((P 0 1) - 1) := Int.not_lt.mp hc25
          refine v_push (1) (hz_X12_isIn hT _ _ rfl) rfl ?_
          refine v_goto (hz_X12_isIn hT _ _ rfl) ?_
          refine v_ret (hz_X12_isIn hT _ _ rfl) (Or.inl rfl) ?_
          show vP D T N 244 33 h [some (2, 121), some (0, ((x : Int) + -1)), some (0, ((y : Int) + 0))] [(0, 1)] _
          refine v_if (hz_X12_isCell hT _ _ rfl) (fun hc28 => absurd (show (1 : Int) = 0 from hc28) (by omega)) (fun _ => ?_)
          refine v_push (1) (hz_X12_isCell hT _ _ rfl) rfl ?_
          refine v_goto (hz_X12_isCell hT _ _ rfl) ?_
          refine v_ret (hz_X12_isCell hT _ _ rfl) (Or.inl rfl) ?_
          show vP D T N 200 65 h [some (2, 121), some (0, (n : Int)), some (0, 2), some (0, ((x : Int) + -1)), some (0, ((y : Int) + 0))] [(0, 1)] _
          refine v_if (hz_X12_beside hT _ _ rfl) (fun hc29 => absurd (show (1 : Int) = 0 from hc29) (by omega)) (fun _ => ?_)
          refine v_load (v := (2, 121)) (hz_X12_beside hT _ _ rfl) rfl rfl ?_
          refine v_load (v := (0, ((x : Int) + -1))) (hz_X12_beside hT _ _ rfl) rfl rfl ?_
          refine v_load (v := (0, ((y : Int) + 0))) (hz_X12_beside hT _ _ rfl) rfl rfl ?_
          refine v_call (w := 3) [some (2, 121), some (0, ((x : Int) + -1)), some (0, ((y : Int) + 0))] hO (hz_X12_beside hT _ _ rfl) rfl rfl (rb_at2 hT hO (((x : Int) + -1)) (((y : Int) + 0)) (by omega) (by omega) c0 lb ?_)
          show vP D T N 200 75 h [some (2, 121), some (0, (n : Int)), some (0, 2), some (0, ((x : Int) + -1)), some (0, ((y : Int) + 0))] [(0, ((P 0 0) * ((y : Int) + 0) + ((x : Int) + -1)))] _
          refine v_goto (hz_X12_beside hT _ _ rfl) ?_
          refine v_ret (hz_X12_beside hT _ _ rfl) (Or.inl rfl) ?_
          exact k4 hc3 hc8 hc13 hc16 hc22 hc25
theorem qr_bes3 {D : zD} {T : zT} (hT : hTab T) (hO : vOK T) {N : Nat} {h : zH} {Q : zR → Prop} {P : PT} {n x y : Nat} (hv0 : zHv h) (c0 : h 126 0 = (0, P 0 0)) (c1 : h 126 1 = (0, P 0 1)) (lb : lB P) (hn : n < 48) (hw : 0 < P 0 0 ∧ P 0 0 ≤ 8) (hr : 0 ≤ P 0 1 ∧ P 0 1 ≤ 6) (hx : (n : Int) % P 0 0 = (x : Int)) (hy : (n : Int) / P 0 0 = (y : Int)) (bx : x < 8) (by_ : y < 6)
    (k0 : ((P 0 0) ≠ 0) → ((P 0 0) ≠ 0) → (((x : Int) + 0) < 0) → Q (h, some (0, -1)))
    (k1 : ((P 0 0) ≠ 0) → ((P 0 0) ≠ 0) → (0 ≤ ((x : Int) + 0)) → (((P 0 0) - 1) < ((x : Int) + 0)) → Q (h, some (0, -1)))
    (k2 : ((P 0 0) ≠ 0) → ((P 0 0) ≠ 0) → (0 ≤ ((x : Int) + 0)) → (((x : Int) + 0) ≤ ((P 0 0) - 1)) → (((y : Int) + -1) < 0) → Q (h, some (0, -1)))
    (k3 : ((P 0 0) ≠ 0) → ((P 0 0) ≠ 0) → (0 ≤ ((x : Int) + 0)) → (((x : Int) + 0) ≤ ((P 0 0) - 1)) → (0 ≤ ((y : Int) + -1)) → (((P 0 1) - 1) < ((y : Int) + -1)) → Q (h, some (0, -1)))
    (k4 : ((P 0 0) ≠ 0) → ((P 0 0) ≠ 0) → (0 ≤ ((x : Int) + 0)) → (((x : Int) + 0) ≤ ((P 0 0) - 1)) → (0 ≤ ((y : Int) + -1)) → (((y : Int) + -1) ≤ ((P 0 1) - 1)) → Q (h, some (0, ((P 0 0) * ((y : Int) + -1) + ((x : Int) + 0))))) :
    vP D T N 200 0 h [some (2, 121), some (0, (n : Int)), some (0, 3), none, none] [] Q := by
  refine v_load (v := (0, (n : Int))) (hz_X12_beside hT _ _ rfl) rfl rfl ?_
  refine v_load (v := (2, 121)) (hz_X12_beside hT _ _ rfl) rfl rfl ?_
  refine v_getR (c := 126) (r := 121) (hz_X12_beside hT _ _ rfl) rfl rfl rfl ?_
  refine v_push (0) (hz_X12_beside hT _ _ rfl) rfl ?_
  refine v_aldV (v := (0, (P 0 0))) (r := 126) (hz_X12_beside hT _ _ rfl) rfl rfl (fun _ _ _ => c0) (fun ha1 hb2 => ?_)
  refine v_div (w := (x : Int)) (hz_X12_beside hT _ _ rfl) (fun _ => (hq_rem (by omega) (by omega) (by omega) (by omega)).trans hx) (fun hc3 => ?_)
  refine v_load (v := (0, 3)) (hz_X12_beside hT _ _ rfl) rfl rfl ?_
  refine v_if (hz_X12_beside hT _ _ rfl) (fun hc4 => absurd (show (3 : Int) = 0 from hc4) (by omega)) (fun _ => ?_)
  refine v_load (v := (0, 3)) (hz_X12_beside hT _ _ rfl) rfl rfl ?_
  refine v_push (2) (hz_X12_beside hT _ _ rfl) rfl ?_
  refine v_ic (hz_X12_beside hT _ _ rfl) (fun hc5 => absurd (show (3 : Int) = 2 from hc5) (by omega)) (fun _ => ?_)
  refine v_push (0) (hz_X12_beside hT _ _ rfl) rfl ?_
  refine v_bin (w := ((x : Int) + 0)) (hz_X12_beside hT _ _ rfl) (hq_add (by omega) (by omega)) ?_
  refine v_store1 [some (2, 121), some (0, (n : Int)), some (0, 3), some (0, ((x : Int) + 0)), none] (hz_X12_beside hT _ _ rfl) ⟨rfl, Nat.ne_of_beq_eq_false rfl⟩ (Nat.le_of_ble_eq_true rfl) rfl ?_
  refine v_load (v := (0, (n : Int))) (hz_X12_beside hT _ _ rfl) rfl rfl ?_
  refine v_load (v := (2, 121)) (hz_X12_beside hT _ _ rfl) rfl rfl ?_
  refine v_getR (c := 126) (r := 121) (hz_X12_beside hT _ _ rfl) rfl rfl rfl ?_
  refine v_push (0) (hz_X12_beside hT _ _ rfl) rfl ?_
  refine v_aldV (v := (0, (P 0 0))) (r := 126) (hz_X12_beside hT _ _ rfl) rfl rfl (fun _ _ _ => c0) (fun ha6 hb7 => ?_)
  refine v_div (w := (y : Int)) (hz_X12_beside hT _ _ rfl) (fun _ => (hq_quo (by omega) (by omega) (by omega) (by omega)).trans hy) (fun hc8 => ?_)
  refine v_load (v := (0, 3)) (hz_X12_beside hT _ _ rfl) rfl rfl ?_
  refine v_push (1) (hz_X12_beside hT _ _ rfl) rfl ?_
  refine v_ic (hz_X12_beside hT _ _ rfl) (fun hc9 => absurd (show (3 : Int) = 1 from hc9) (by omega)) (fun _ => ?_)
  refine v_load (v := (0, 3)) (hz_X12_beside hT _ _ rfl) rfl rfl ?_
  refine v_push (3) (hz_X12_beside hT _ _ rfl) rfl ?_
  refine v_ic (hz_X12_beside hT _ _ rfl) (fun _ => ?_) (fun hc10 => absurd (show (3 : Int) = 3 from (by omega)) hc10)
  refine v_push (-1) (hz_X12_beside hT _ _ rfl) rfl ?_
  refine v_goto (hz_X12_beside hT _ _ rfl) ?_
  refine v_bin (w := ((y : Int) + -1)) (hz_X12_beside hT _ _ rfl) (hq_add (by omega) (by omega)) ?_
  refine v_store1 [some (2, 121), some (0, (n : Int)), some (0, 3), some (0, ((x : Int) + 0)), some (0, ((y : Int) + -1))] (hz_X12_beside hT _ _ rfl) ⟨rfl, Nat.ne_of_beq_eq_false rfl⟩ (Nat.le_of_ble_eq_true rfl) rfl ?_
  refine v_load (v := (2, 121)) (hz_X12_beside hT _ _ rfl) rfl rfl ?_
  refine v_load (v := (0, ((x : Int) + 0))) (hz_X12_beside hT _ _ rfl) rfl rfl ?_
  refine v_load (v := (0, ((y : Int) + -1))) (hz_X12_beside hT _ _ rfl) rfl rfl ?_
  refine v_call (w := 3) [some (2, 121), some (0, ((x : Int) + 0)), some (0, ((y : Int) + -1))] hO (hz_X12_beside hT _ _ rfl) rfl rfl ?_
  refine v_load (v := (0, ((x : Int) + 0))) (hz_X12_isCell hT _ _ rfl) rfl rfl ?_
  refine v_i2l (hz_X12_isCell hT _ _ rfl) ?_
  refine v_push (0) (hz_X12_isCell hT _ _ rfl) rfl ?_
  refine v_load (v := (2, 121)) (hz_X12_isCell hT _ _ rfl) rfl rfl ?_
  refine v_getR (c := 126) (r := 121) (hz_X12_isCell hT _ _ rfl) rfl rfl rfl ?_
  refine v_push (0) (hz_X12_isCell hT _ _ rfl) rfl ?_
  refine v_aldV (v := (0, (P 0 0))) (r := 126) (hz_X12_isCell hT _ _ rfl) rfl rfl (fun _ _ _ => c0) (fun ha11 hb12 => ?_)
  refine v_push (1) (hz_X12_isCell hT _ _ rfl) rfl ?_
  refine v_bin (w := ((P 0 0) - 1)) (hz_X12_isCell hT _ _ rfl) (hq_sub (by omega) (by omega)) ?_
  refine v_i2l (hz_X12_isCell hT _ _ rfl) ?_
  refine v_call (w := 6) [some (1, ((x : Int) + 0)), none, some (1, 0), none, some (1, ((P 0 0) - 1)), none] hO (hz_X12_isCell hT _ _ rfl) rfl rfl ?_
  refine v_load (v := (1, ((x : Int) + 0))) (hz_X12_isIn hT _ _ rfl) rfl rfl ?_
  refine v_load (v := (1, 0)) (hz_X12_isIn hT _ _ rfl) rfl rfl ?_
  refine v_lif (hz_X12_isIn hT _ _ rfl) (hz_X12_isIn hT _ _ rfl) (fun hc13 => ?_) (fun hc13 => ?_)
  · have hc13 : ((x : Int) + 0) < 0 := hc13
    refine v_push (0) (hz_X12_isIn hT _ _ rfl) rfl ?_
    refine v_ret (hz_X12_isIn hT _ _ rfl) (Or.inl rfl) ?_
    show vP D T N 244 15 h [some (2, 121), some (0, ((x : Int) + 0)), some (0, ((y : Int) + -1))] [(0, 0)] _
    refine v_if (hz_X12_isCell hT _ _ rfl) (fun _ => ?_) (fun hc14 => absurd (show (0 : Int) = 0 from (by omega)) hc14)
    refine v_push (0) (hz_X12_isCell hT _ _ rfl) rfl ?_
    refine v_ret (hz_X12_isCell hT _ _ rfl) (Or.inl rfl) ?_
    show vP D T N 200 65 h [some (2, 121), some (0, (n : Int)), some (0, 3), some (0, ((x : Int) + 0)), some (0, ((y : Int) + -1))] [(0, 0)] _
    refine v_if (hz_X12_beside hT _ _ rfl) (fun _ => ?_) (fun hc15 => absurd (show (0 : Int) = 0 from (by omega)) hc15)
    refine v_push (-1) (hz_X12_beside hT _ _ rfl) rfl ?_
    refine v_ret (hz_X12_beside hT _ _ rfl) (Or.inl rfl) ?_
    exact k0 hc3 hc8 hc13
  · have hc13 : 0 ≤ ((x : Int) + 0) := Int.not_lt.mp hc13
    refine v_load (v := (1, ((x : Int) + 0))) (hz_X12_isIn hT _ _ rfl) rfl rfl ?_
    refine v_load (v := (1, ((P 0 0) - 1))) (hz_X12_isIn hT _ _ rfl) rfl rfl ?_
    refine v_lif (hz_X12_isIn hT _ _ rfl) (hz_X12_isIn hT _ _ rfl) (fun hc16 => ?_) (fun hc16 => ?_)
    · have hc16 : ((P 0 0) - 1) < ((x : Int) + 0) := hc16
      refine v_push (0) (hz_X12_isIn hT _ _ rfl) rfl ?_
      refine v_ret (hz_X12_isIn hT _ _ rfl) (Or.inl rfl) ?_
      show vP D T N 244 15 h [some (2, 121), some (0, ((x : Int) + 0)), some (0, ((y : Int) + -1))] [(0, 0)] _
      refine v_if (hz_X12_isCell hT _ _ rfl) (fun _ => ?_) (fun hc17 => absurd (show (0 : Int) = 0 from (by omega)) hc17)
      refine v_push (0) (hz_X12_isCell hT _ _ rfl) rfl ?_
      refine v_ret (hz_X12_isCell hT _ _ rfl) (Or.inl rfl) ?_
      show vP D T N 200 65 h [some (2, 121), some (0, (n : Int)), some (0, 3), some (0, ((x : Int) + 0)), some (0, ((y : Int) + -1))] [(0, 0)] _
      refine v_if (hz_X12_beside hT _ _ rfl) (fun _ => ?_) (fun hc18 => absurd (show (0 : Int) = 0 from (by omega)) hc18)
      refine v_push (-1) (hz_X12_beside hT _ _ rfl) rfl ?_
      refine v_ret (hz_X12_beside hT _ _ rfl) (Or.inl rfl) ?_
      exact k1 hc3 hc8 hc13 hc16
    · have hc16 : ((x : Int) + 0) ≤ ((P 0 0) - 1) := Int.not_lt.mp hc16
      refine v_push (1) (hz_X12_isIn hT _ _ rfl) rfl ?_
      refine v_goto (hz_X12_isIn hT _ _ rfl) ?_
      refine v_ret (hz_X12_isIn hT _ _ rfl) (Or.inl rfl) ?_
      show vP D T N 244 15 h [some (2, 121), some (0, ((x : Int) + 0)), some (0, ((y : Int) + -1))] [(0, 1)] _
      refine v_if (hz_X12_isCell hT _ _ rfl) (fun hc19 => absurd (show (1 : Int) = 0 from hc19) (by omega)) (fun _ => ?_)
      refine v_load (v := (0, ((y : Int) + -1))) (hz_X12_isCell hT _ _ rfl) rfl rfl ?_
      refine v_i2l (hz_X12_isCell hT _ _ rfl) ?_
      refine v_push (0) (hz_X12_isCell hT _ _ rfl) rfl ?_
      refine v_load (v := (2, 121)) (hz_X12_isCell hT _ _ rfl) rfl rfl ?_
      refine v_getR (c := 126) (r := 121) (hz_X12_isCell hT _ _ rfl) rfl rfl rfl ?_
      refine v_push (1) (hz_X12_isCell hT _ _ rfl) rfl ?_
      refine v_aldV (v := (0, (P 0 1))) (r := 126) (hz_X12_isCell hT _ _ rfl) rfl rfl (fun _ _ _ => c1) (fun ha20 hb21 => ?_)
      refine v_push (1) (hz_X12_isCell hT _ _ rfl) rfl ?_
      refine v_bin (w := ((P 0 1) - 1)) (hz_X12_isCell hT _ _ rfl) (hq_sub (by omega) (by omega)) ?_
      refine v_i2l (hz_X12_isCell hT _ _ rfl) ?_
      refine v_call (w := 6) [some (1, ((y : Int) + -1)), none, some (1, 0), none, some (1, ((P 0 1) - 1)), none] hO (hz_X12_isCell hT _ _ rfl) rfl rfl ?_
      refine v_load (v := (1, ((y : Int) + -1))) (hz_X12_isIn hT _ _ rfl) rfl rfl ?_
      refine v_load (v := (1, 0)) (hz_X12_isIn hT _ _ rfl) rfl rfl ?_
      refine v_lif (hz_X12_isIn hT _ _ rfl) (hz_X12_isIn hT _ _ rfl) (fun hc22 => ?_) (fun hc22 => ?_)
      · have hc22 : ((y : Int) + -1) < 0 := hc22
        refine v_push (0) (hz_X12_isIn hT _ _ rfl) rfl ?_
        refine v_ret (hz_X12_isIn hT _ _ rfl) (Or.inl rfl) ?_
        show vP D T N 244 33 h [some (2, 121), some (0, ((x : Int) + 0)), some (0, ((y : Int) + -1))] [(0, 0)] _
        refine v_if (hz_X12_isCell hT _ _ rfl) (fun _ => ?_) (fun hc23 => absurd (show (0 : Int) = 0 from (by omega)) hc23)
        refine v_push (0) (hz_X12_isCell hT _ _ rfl) rfl ?_
        refine v_ret (hz_X12_isCell hT _ _ rfl) (Or.inl rfl) ?_
        show vP D T N 200 65 h [some (2, 121), some (0, (n : Int)), some (0, 3), some (0, ((x : Int) + 0)), some (0, ((y : Int) + -1))] [(0, 0)] _
        refine v_if (hz_X12_beside hT _ _ rfl) (fun _ => ?_) (fun hc24 => absurd (show (0 : Int) = 0 from (by omega)) hc24)
        refine v_push (-1) (hz_X12_beside hT _ _ rfl) rfl ?_
        refine v_ret (hz_X12_beside hT _ _ rfl) (Or.inl rfl) ?_
        exact k2 hc3 hc8 hc13 hc16 hc22
      · have hc22 : 0 ≤ ((y : Int) + -1) := Int.not_lt.mp hc22
        refine v_load (v := (1, ((y : Int) + -1))) (hz_X12_isIn hT _ _ rfl) rfl rfl ?_
        refine v_load (v := (1, ((P 0 1) - 1))) (hz_X12_isIn hT _ _ rfl) rfl rfl ?_
        refine v_lif (hz_X12_isIn hT _ _ rfl) (hz_X12_isIn hT _ _ rfl) (fun hc25 => ?_) (fun hc25 => ?_)
        · have hc25 : ((P 0 1) - 1) < ((y : Int) + -1) := hc25
          refine v_push (0) (hz_X12_isIn hT _ _ rfl) rfl ?_
          refine v_ret (hz_X12_isIn hT _ _ rfl) (Or.inl rfl) ?_
          show vP D T N 244 33 h [some (2, 121), some (0, ((x : Int) + 0)), some (0, ((y : Int) + -1))] [(0, 0)] _
          refine v_if (hz_X12_isCell hT _ _ rfl) (fun _ => ?_) (fun hc26 => absurd (show (0 : Int) = 0 from (by omega)) hc26)
          refine v_push (0) (hz_X12_isCell hT _ _ rfl) rfl ?_
          refine v_ret (hz_X12_isCell hT _ _ rfl) (Or.inl rfl) ?_
          show vP D T N 200 65 h [some (2, 121), some (0, (n : Int)), some (0, 3), some (0, ((x : Int) + 0)), some (0, ((y : Int) + -1))] [(0, 0)] _
          refine v_if (hz_X12_beside hT _ _ rfl) (fun _ => ?_) (fun hc27 => absurd (show (0 : Int) = 0 from (by omega)) hc27)
          refine v_push (-1) (hz_X12_beside hT _ _ rfl) rfl ?_
          refine v_ret (hz_X12_beside hT _ _ rfl) (Or.inl rfl) ?_
          exact k3 hc3 hc8 hc13 hc16 hc22 hc25
        · have hc25 : ((y : Int) + -1) ≤ ((P 0 1) - 1) := Int.not_lt.mp hc25
          refine v_push (1) (hz_X12_isIn hT _ _ rfl) rfl ?_
          refine v_goto (hz_X12_isIn hT _ _ rfl) ?_
          refine v_ret (hz_X12_isIn hT _ _ rfl) (Or.inl rfl) ?_
          show vP D T N 244 33 h [some (2, 121), some (0, ((x : Int) + 0)), some (0, ((y : Int) + -1))] [(0, 1)] _
          refine v_if (hz_X12_isCell hT _ _ rfl) (fun hc28 => absurd (show (1 : Int) = 0 from hc28) (by omega)) (fun _ => ?_)
          refine v_push (1) (hz_X12_isCell hT _ _ rfl) rfl ?_
          refine v_goto (hz_X12_isCell hT _ _ rfl) ?_
          refine v_ret (hz_X12_isCell hT _ _ rfl) (Or.inl rfl) ?_
          show vP D T N 200 65 h [some (2, 121), some (0, (n : Int)), some (0, 3), some (0, ((x : Int) + 0)), some (0, ((y : Int) + -1))] [(0, 1)] _
          refine v_if (hz_X12_beside hT _ _ rfl) (fun hc29 => absurd (show (1 : Int) = 0 from hc29) (by omega)) (fun _ => ?_)
          refine v_load (v := (2, 121)) (hz_X12_beside hT _ _ rfl) rfl rfl ?_
          refine v_load (v := (0, ((x : Int) + 0))) (hz_X12_beside hT _ _ rfl) rfl rfl ?_
          refine v_load (v := (0, ((y : Int) + -1))) (hz_X12_beside hT _ _ rfl) rfl rfl ?_
          refine v_call (w := 3) [some (2, 121), some (0, ((x : Int) + 0)), some (0, ((y : Int) + -1))] hO (hz_X12_beside hT _ _ rfl) rfl rfl (rb_at2 hT hO (((x : Int) + 0)) (((y : Int) + -1)) (by omega) (by omega) c0 lb ?_)
          show vP D T N 200 75 h [some (2, 121), some (0, (n : Int)), some (0, 3), some (0, ((x : Int) + 0)), some (0, ((y : Int) + -1))] [(0, ((P 0 0) * ((y : Int) + -1) + ((x : Int) + 0)))] _
          refine v_goto (hz_X12_beside hT _ _ rfl) ?_
          refine v_ret (hz_X12_beside hT _ _ rfl) (Or.inl rfl) ?_
          exact k4 hc3 hc8 hc13 hc16 hc22 hc25
theorem rb_bes {D : zD} {T : zT} (hT : hTab T) (hO : vOK T) {N : Nat} {h : zH} {Q : zR → Prop} {P : PT} (z : Int) (q d : Nat) (ez : z = (d : Int)) (gq : gIn P q) (hd : d < 4) (c0 : h 126 0 = (0, P 0 0)) (c1 : h 126 1 = (0, P 0 1)) (lb : lB P) (k1 : gNb P q d = -1 → Q (h, some (0, -1))) (k2 : ∀ q2 : Nat, gNb P q d = (q2 : Int) → gIn P q2 → Q (h, some (0, ((gJ P q2 : Nat) : Int)))) : vP D T N 200 0 h [some (2, 121), some (0, ((gJ P q : Nat) : Int)), some (0, z), none, none] [] Q := by
  subst ez
  have e := gNb_xy lb gq hd
  obtain ⟨m1, m2⟩ := gJ_m lb gq
  have y1 : ((0 ≤ ((q % 8 : Nat) : Int) + dX d ∧ ((q % 8 : Nat) : Int) + dX d ≤ P 0 0 - 1) ∧ 0 ≤ ((q / 8 : Nat) : Int) + dY d ∧ ((q / 8 : Nat) : Int) + dY d ≤ P 0 1 - 1) → Q (h, some (0, P 0 0 * (((q / 8 : Nat) : Int) + dY d) + (((q % 8 : Nat) : Int) + dX d))) := fun c => by
    rw [if_pos c] at e
    have := lb.1.2
    rcases (gOk lb).2 q d gq hd with f | ⟨q2, g2, f, _⟩
    · omega
    · rw [gJ_xy lb.1.1 (q2 := q2) ⟨c.1.1, by omega⟩ c.2.1 (by omega)]
      exact k2 q2 f g2
  have y2 : ¬ ((0 ≤ ((q % 8 : Nat) : Int) + dX d ∧ ((q % 8 : Nat) : Int) + dX d ≤ P 0 0 - 1) ∧ 0 ≤ ((q / 8 : Nat) : Int) + dY d ∧ ((q / 8 : Nat) : Int) + dY d ≤ P 0 1 - 1) → Q (h, some (0, -1)) := fun c => by
    rw [if_neg c] at e
    exact k1 e
  clear k1 k2 e
  obtain ⟨g0, g1, g2⟩ := id gq
  have hw : 0 < P 0 0 ∧ P 0 0 ≤ 8 := ⟨by omega, lb.1.2⟩
  have l48 := gJ_lt lb gq
  have : d = 0 ∨ d = 1 ∨ d = 2 ∨ d = 3 := by omega
  rcases this with rfl | rfl | rfl | rfl
  · refine vP_hv (fun hv => qr_bes0 hT hO (x := q % 8) (y := q / 8) hv c0 c1 lb l48 hw lb.2.1 m1 m2 (by omega) (by omega) ?_ ?_ ?_ ?_ ?_) <;> intros
    all_goals first
      | exact y1 (by rw [show dX 0 = 1 from rfl, show dY 0 = 0 from rfl]; omega)
      | exact y2 (fun c => by rw [show dX 0 = 1 from rfl, show dY 0 = 0 from rfl] at c; omega)
  · refine vP_hv (fun hv => qr_bes1 hT hO (x := q % 8) (y := q / 8) hv c0 c1 lb l48 hw lb.2.1 m1 m2 (by omega) (by omega) ?_ ?_ ?_ ?_ ?_) <;> intros
    all_goals first
      | exact y1 (by rw [show dX 1 = 0 from rfl, show dY 1 = 1 from rfl]; omega)
      | exact y2 (fun c => by rw [show dX 1 = 0 from rfl, show dY 1 = 1 from rfl] at c; omega)
  · refine vP_hv (fun hv => qr_bes2 hT hO (x := q % 8) (y := q / 8) hv c0 c1 lb l48 hw lb.2.1 m1 m2 (by omega) (by omega) ?_ ?_ ?_ ?_ ?_) <;> intros
    all_goals first
      | exact y1 (by rw [show dX 2 = -1 from rfl, show dY 2 = 0 from rfl]; omega)
      | exact y2 (fun c => by rw [show dX 2 = -1 from rfl, show dY 2 = 0 from rfl] at c; omega)
  · refine vP_hv (fun hv => qr_bes3 hT hO (x := q % 8) (y := q / 8) hv c0 c1 lb l48 hw lb.2.1 m1 m2 (by omega) (by omega) ?_ ?_ ?_ ?_ ?_) <;> intros
    all_goals first
      | exact y1 (by rw [show dX 3 = 0 from rfl, show dY 3 = -1 from rfl]; omega)
      | exact y2 (fun c => by rw [show dX 3 = 0 from rfl, show dY 3 = -1 from rfl] at c; omega)
theorem qr_cr {D : zD} {T : zT} (hT : hTab T) (hO : vOK T) {N : Nat} {h : zH} {Q : zR → Prop} {P : PT} {q : Nat} (hv0 : zHv h) (hR : rBk 0 P h) (gq : gIn P q) (hn : gJ P q < 48) (b1 : 0 ≤ P 1 q ∧ P 1 q ≤ 4) (b2 : 0 ≤ P 2 q ∧ P 2 q ≤ 9)
    (k0 : (0 ≤ (5 + ((gJ P q : Nat) : Int))) → ((5 + ((gJ P q : Nat) : Int)) < 2750) → ((P 1 q) = 0) → (0 ≤ (53 + ((gJ P q : Nat) : Int))) → ((53 + ((gJ P q : Nat) : Int)) < 2750) → Q (h, some (0, (2 + (P 2 q)))))
    (k1 : (0 ≤ (5 + ((gJ P q : Nat) : Int))) → ((5 + ((gJ P q : Nat) : Int)) < 2750) → ((P 1 q) ≠ 0) → ((P 1 q) = 1) → (0 ≤ (53 + ((gJ P q : Nat) : Int))) → ((53 + ((gJ P q : Nat) : Int)) < 2750) → Q (h, some (0, (1 + (P 2 q)))))
    (k2 : (0 ≤ (5 + ((gJ P q : Nat) : Int))) → ((5 + ((gJ P q : Nat) : Int)) < 2750) → ((P 1 q) ≠ 0) → ((P 1 q) ≠ 1) → ((P 1 q) = 3) → (0 ≤ (53 + ((gJ P q : Nat) : Int))) → ((53 + ((gJ P q : Nat) : Int)) < 2750) → Q (h, some (0, (5 + (P 2 q)))))
    (k3 : (0 ≤ (5 + ((gJ P q : Nat) : Int))) → ((5 + ((gJ P q : Nat) : Int)) < 2750) → ((P 1 q) ≠ 0) → ((P 1 q) ≠ 1) → ((P 1 q) ≠ 3) → ((P 1 q) = 4) → (0 ≤ (53 + ((gJ P q : Nat) : Int))) → ((53 + ((gJ P q : Nat) : Int)) < 2750) → Q (h, some (0, (3 + (P 2 q)))))
    (k4 : (0 ≤ (5 + ((gJ P q : Nat) : Int))) → ((5 + ((gJ P q : Nat) : Int)) < 2750) → ((P 1 q) ≠ 0) → ((P 1 q) ≠ 1) → ((P 1 q) ≠ 3) → ((P 1 q) ≠ 4) → (0 ≤ (53 + ((gJ P q : Nat) : Int))) → ((53 + ((gJ P q : Nat) : Int)) < 2750) → Q (h, some (0, (4 + (P 2 q))))) :
    vP D T N 215 0 h [some (2, 121), some (0, ((gJ P q : Nat) : Int))] [] Q := by
  refine v_load (v := (2, 121)) (hz_X12_crumbsOf hT _ _ rfl) rfl rfl ?_
  refine v_getR (c := 126) (r := 121) (hz_X12_crumbsOf hT _ _ rfl) rfl rfl rfl ?_
  refine v_push (5) (hz_X12_crumbsOf hT _ _ rfl) rfl ?_
  refine v_load (v := (0, ((gJ P q : Nat) : Int))) (hz_X12_crumbsOf hT _ _ rfl) rfl rfl ?_
  refine v_bin (w := (5 + ((gJ P q : Nat) : Int))) (hz_X12_crumbsOf hT _ _ rfl) (hq_add (by omega) (by omega)) ?_
  refine v_aldB (t := 0) (r := 126) (w := (P 1 q)) (hz_X12_crumbsOf hT _ _ rfl) rfl rfl rfl (fun _ _ => (congrArg Prod.snd (hR.l gq))) (fun ha1 hb2 => ?_)
  refine v_call (w := 1) [some (0, (P 1 q))] hO (hz_X12_crumbsOf hT _ _ rfl) rfl rfl ?_
  refine v_load (v := (0, (P 1 q))) (hz_X12_letterCost hT _ _ rfl) rfl rfl ?_
  refine v_if (hz_X12_letterCost hT _ _ rfl) (fun hc3 => ?_) (fun hc3 => ?_)
  · have hc3 : (P 1 q) = 0 := hc3
    refine v_push (2) (hz_X12_letterCost hT _ _ rfl) rfl ?_
    refine v_goto (hz_X12_letterCost hT _ _ rfl) ?_
    refine v_ret (hz_X12_letterCost hT _ _ rfl) (Or.inl rfl) ?_
    show vP D T N 215 11 h [some (2, 121), some (0, ((gJ P q : Nat) : Int))] [(0, 2)] _
    refine v_load (v := (2, 121)) (hz_X12_crumbsOf hT _ _ rfl) rfl rfl ?_
    refine v_getR (c := 126) (r := 121) (hz_X12_crumbsOf hT _ _ rfl) rfl rfl rfl ?_
    refine v_push (53) (hz_X12_crumbsOf hT _ _ rfl) rfl ?_
    refine v_load (v := (0, ((gJ P q : Nat) : Int))) (hz_X12_crumbsOf hT _ _ rfl) rfl rfl ?_
    refine v_bin (w := (53 + ((gJ P q : Nat) : Int))) (hz_X12_crumbsOf hT _ _ rfl) (hq_add (by omega) (by omega)) ?_
    refine v_aldB (t := 0) (r := 126) (w := (P 2 q)) (hz_X12_crumbsOf hT _ _ rfl) rfl rfl rfl (fun _ _ => (congrArg Prod.snd (hR.s gq))) (fun ha4 hb5 => ?_)
    refine v_bin (w := (2 + (P 2 q))) (hz_X12_crumbsOf hT _ _ rfl) (hq_add (by omega) (by omega)) ?_
    refine v_ret (hz_X12_crumbsOf hT _ _ rfl) (Or.inl rfl) ?_
    exact k0 ha1 hb2 hc3 ha4 hb5
  · have hc3 : (P 1 q) ≠ 0 := hc3
    refine v_load (v := (0, (P 1 q))) (hz_X12_letterCost hT _ _ rfl) rfl rfl ?_
    refine v_push (1) (hz_X12_letterCost hT _ _ rfl) rfl ?_
    refine v_ic (hz_X12_letterCost hT _ _ rfl) (fun hc6 => ?_) (fun hc6 => ?_)
    · have hc6 : (P 1 q) = 1 := hc6
      refine v_push (1) (hz_X12_letterCost hT _ _ rfl) rfl ?_
      refine v_goto (hz_X12_letterCost hT _ _ rfl) ?_
      refine v_ret (hz_X12_letterCost hT _ _ rfl) (Or.inl rfl) ?_
      show vP D T N 215 11 h [some (2, 121), some (0, ((gJ P q : Nat) : Int))] [(0, 1)] _
      refine v_load (v := (2, 121)) (hz_X12_crumbsOf hT _ _ rfl) rfl rfl ?_
      refine v_getR (c := 126) (r := 121) (hz_X12_crumbsOf hT _ _ rfl) rfl rfl rfl ?_
      refine v_push (53) (hz_X12_crumbsOf hT _ _ rfl) rfl ?_
      refine v_load (v := (0, ((gJ P q : Nat) : Int))) (hz_X12_crumbsOf hT _ _ rfl) rfl rfl ?_
      refine v_bin (w := (53 + ((gJ P q : Nat) : Int))) (hz_X12_crumbsOf hT _ _ rfl) (hq_add (by omega) (by omega)) ?_
      refine v_aldB (t := 0) (r := 126) (w := (P 2 q)) (hz_X12_crumbsOf hT _ _ rfl) rfl rfl rfl (fun _ _ => (congrArg Prod.snd (hR.s gq))) (fun ha7 hb8 => ?_)
      refine v_bin (w := (1 + (P 2 q))) (hz_X12_crumbsOf hT _ _ rfl) (hq_add (by omega) (by omega)) ?_
      refine v_ret (hz_X12_crumbsOf hT _ _ rfl) (Or.inl rfl) ?_
      exact k1 ha1 hb2 hc3 hc6 ha7 hb8
    · have hc6 : (P 1 q) ≠ 1 := hc6
      refine v_load (v := (0, (P 1 q))) (hz_X12_letterCost hT _ _ rfl) rfl rfl ?_
      refine v_push (3) (hz_X12_letterCost hT _ _ rfl) rfl ?_
      refine v_ic (hz_X12_letterCost hT _ _ rfl) (fun hc9 => ?_) (fun hc9 => ?_)
      · have hc9 : (P 1 q) = 3 := hc9
        refine v_push (5) (hz_X12_letterCost hT _ _ rfl) rfl ?_
        refine v_goto (hz_X12_letterCost hT _ _ rfl) ?_
        refine v_ret (hz_X12_letterCost hT _ _ rfl) (Or.inl rfl) ?_
        show vP D T N 215 11 h [some (2, 121), some (0, ((gJ P q : Nat) : Int))] [(0, 5)] _
        refine v_load (v := (2, 121)) (hz_X12_crumbsOf hT _ _ rfl) rfl rfl ?_
        refine v_getR (c := 126) (r := 121) (hz_X12_crumbsOf hT _ _ rfl) rfl rfl rfl ?_
        refine v_push (53) (hz_X12_crumbsOf hT _ _ rfl) rfl ?_
        refine v_load (v := (0, ((gJ P q : Nat) : Int))) (hz_X12_crumbsOf hT _ _ rfl) rfl rfl ?_
        refine v_bin (w := (53 + ((gJ P q : Nat) : Int))) (hz_X12_crumbsOf hT _ _ rfl) (hq_add (by omega) (by omega)) ?_
        refine v_aldB (t := 0) (r := 126) (w := (P 2 q)) (hz_X12_crumbsOf hT _ _ rfl) rfl rfl rfl (fun _ _ => (congrArg Prod.snd (hR.s gq))) (fun ha10 hb11 => ?_)
        refine v_bin (w := (5 + (P 2 q))) (hz_X12_crumbsOf hT _ _ rfl) (hq_add (by omega) (by omega)) ?_
        refine v_ret (hz_X12_crumbsOf hT _ _ rfl) (Or.inl rfl) ?_
        exact k2 ha1 hb2 hc3 hc6 hc9 ha10 hb11
      · have hc9 : (P 1 q) ≠ 3 := hc9
        refine v_load (v := (0, (P 1 q))) (hz_X12_letterCost hT _ _ rfl) rfl rfl ?_
        refine v_push (4) (hz_X12_letterCost hT _ _ rfl) rfl ?_
        refine v_ic (hz_X12_letterCost hT _ _ rfl) (fun hc12 => ?_) (fun hc12 => ?_)
        · have hc12 : (P 1 q) = 4 := hc12
          refine v_push (3) (hz_X12_letterCost hT _ _ rfl) rfl ?_
          refine v_goto (hz_X12_letterCost hT _ _ rfl) ?_
          refine v_ret (hz_X12_letterCost hT _ _ rfl) (Or.inl rfl) ?_
          show vP D T N 215 11 h [some (2, 121), some (0, ((gJ P q : Nat) : Int))] [(0, 3)] _
          refine v_load (v := (2, 121)) (hz_X12_crumbsOf hT _ _ rfl) rfl rfl ?_
          refine v_getR (c := 126) (r := 121) (hz_X12_crumbsOf hT _ _ rfl) rfl rfl rfl ?_
          refine v_push (53) (hz_X12_crumbsOf hT _ _ rfl) rfl ?_
          refine v_load (v := (0, ((gJ P q : Nat) : Int))) (hz_X12_crumbsOf hT _ _ rfl) rfl rfl ?_
          refine v_bin (w := (53 + ((gJ P q : Nat) : Int))) (hz_X12_crumbsOf hT _ _ rfl) (hq_add (by omega) (by omega)) ?_
          refine v_aldB (t := 0) (r := 126) (w := (P 2 q)) (hz_X12_crumbsOf hT _ _ rfl) rfl rfl rfl (fun _ _ => (congrArg Prod.snd (hR.s gq))) (fun ha13 hb14 => ?_)
          refine v_bin (w := (3 + (P 2 q))) (hz_X12_crumbsOf hT _ _ rfl) (hq_add (by omega) (by omega)) ?_
          refine v_ret (hz_X12_crumbsOf hT _ _ rfl) (Or.inl rfl) ?_
          exact k3 ha1 hb2 hc3 hc6 hc9 hc12 ha13 hb14
        · have hc12 : (P 1 q) ≠ 4 := hc12
          refine v_push (4) (hz_X12_letterCost hT _ _ rfl) rfl ?_
          refine v_ret (hz_X12_letterCost hT _ _ rfl) (Or.inl rfl) ?_
          show vP D T N 215 11 h [some (2, 121), some (0, ((gJ P q : Nat) : Int))] [(0, 4)] _
          refine v_load (v := (2, 121)) (hz_X12_crumbsOf hT _ _ rfl) rfl rfl ?_
          refine v_getR (c := 126) (r := 121) (hz_X12_crumbsOf hT _ _ rfl) rfl rfl rfl ?_
          refine v_push (53) (hz_X12_crumbsOf hT _ _ rfl) rfl ?_
          refine v_load (v := (0, ((gJ P q : Nat) : Int))) (hz_X12_crumbsOf hT _ _ rfl) rfl rfl ?_
          refine v_bin (w := (53 + ((gJ P q : Nat) : Int))) (hz_X12_crumbsOf hT _ _ rfl) (hq_add (by omega) (by omega)) ?_
          refine v_aldB (t := 0) (r := 126) (w := (P 2 q)) (hz_X12_crumbsOf hT _ _ rfl) rfl rfl rfl (fun _ _ => (congrArg Prod.snd (hR.s gq))) (fun ha15 hb16 => ?_)
          refine v_bin (w := (4 + (P 2 q))) (hz_X12_crumbsOf hT _ _ rfl) (hq_add (by omega) (by omega)) ?_
          refine v_ret (hz_X12_crumbsOf hT _ _ rfl) (Or.inl rfl) ?_
          exact k4 ha1 hb2 hc3 hc6 hc9 hc12 ha15 hb16
theorem rb_cr {D : zD} {T : zT} (hT : hTab T) (hO : vOK T) {N : Nat} {h : zH} {Q : zR → Prop} {P : PT} (q : Nat) (gq : gIn P q) (hR : rBk 0 P h) (hb : fB P) (k : Q (h, some (0, gCr P q))) : vP D T N 215 0 h [some (2, 121), some (0, ((gJ P q : Nat) : Int))] [] Q := by
  obtain ⟨b1, b2⟩ := hb.2.1 q gq.1
  refine vP_hv (fun hv => qr_cr hT hO hv hR gq (gJ_lt hb.1 gq) b1 b2 ?_ ?_ ?_ ?_ ?_) <;> (intros; exact cb_eq k (by unfold gCr crw; omega))
theorem qr_st {D : zD} {T : zT} (hT : hTab T) (hO : vOK T) {N : Nat} {h : zH} {Q : zR → Prop} {P : PT} {j q : Nat} (hv0 : zHv h) (hR : rBk 0 P h) (gq : gIn P q) (hj : j < 3) (hn : gJ P q < 48)
    (k0 : (0 ≤ ((101 + (48 * (j : Int))) + ((gJ P q : Nat) : Int))) → (((101 + (48 * (j : Int))) + ((gJ P q : Nat) : Int)) < 2750) → Q (h, some (0, (P 3 (48 * j + q))))) :
    vP D T N 314 0 h [some (2, 121), some (0, (j : Int)), some (0, ((gJ P q : Nat) : Int))] [] Q := by
  refine v_load (v := (2, 121)) (hz_X12_stateOf hT _ _ rfl) rfl rfl ?_
  refine v_getR (c := 126) (r := 121) (hz_X12_stateOf hT _ _ rfl) rfl rfl rfl ?_
  refine v_load (v := (0, (j : Int))) (hz_X12_stateOf hT _ _ rfl) rfl rfl ?_
  refine v_load (v := (0, ((gJ P q : Nat) : Int))) (hz_X12_stateOf hT _ _ rfl) rfl rfl ?_
  refine v_call (w := 2) [some (0, (j : Int)), some (0, ((gJ P q : Nat) : Int))] hO (hz_X12_stateOf hT _ _ rfl) rfl rfl ?_
  refine v_push (101) (hz_X12_state hT _ _ rfl) rfl ?_
  refine v_push (48) (hz_X12_state hT _ _ rfl) rfl ?_
  refine v_load (v := (0, (j : Int))) (hz_X12_state hT _ _ rfl) rfl rfl ?_
  refine v_bin (w := (48 * (j : Int))) (hz_X12_state hT _ _ rfl) (hq_mul (by omega) (by omega)) ?_
  refine v_bin (w := (101 + (48 * (j : Int)))) (hz_X12_state hT _ _ rfl) (hq_add (by omega) (by omega)) ?_
  refine v_load (v := (0, ((gJ P q : Nat) : Int))) (hz_X12_state hT _ _ rfl) rfl rfl ?_
  refine v_bin (w := ((101 + (48 * (j : Int))) + ((gJ P q : Nat) : Int))) (hz_X12_state hT _ _ rfl) (hq_add (by omega) (by omega)) ?_
  refine v_ret (hz_X12_state hT _ _ rfl) (Or.inl rfl) ?_
  show vP D T N 314 9 h [some (2, 121), some (0, (j : Int)), some (0, ((gJ P q : Nat) : Int))] [(0, ((101 + (48 * (j : Int))) + ((gJ P q : Nat) : Int))), (2, 126)] _
  refine v_aldB (t := 0) (r := 126) (w := (P 3 (48 * j + q))) (hz_X12_stateOf hT _ _ rfl) rfl rfl rfl (fun _ _ => (congrArg Prod.snd (hR.st hj gq))) (fun ha1 hb2 => ?_)
  refine v_ret (hz_X12_stateOf hT _ _ rfl) (Or.inl rfl) ?_
  exact k0 ha1 hb2
theorem rb_st {D : zD} {T : zT} (hT : hTab T) (hO : vOK T) {N : Nat} {h : zH} {Q : zR → Prop} {P : PT} (x : Int) (j q : Nat) (ex : x = (j : Int)) (hj : j < 3) (gq : gIn P q) (hR : rBk 0 P h) (hb : fB P) (k : Q (h, some (0, P 3 (48 * j + q)))) : vP D T N 314 0 h [some (2, 121), some (0, x), some (0, ((gJ P q : Nat) : Int))] [] Q := by
  subst ex
  exact vP_hv (fun hv => qr_st hT hO hv hR gq hj (gJ_lt hb.1 gq) (fun _ _ => k))
theorem qr_co {D : zD} {T : zT} (hT : hTab T) (hO : vOK T) {N : Nat} {h : zH} {Q : zR → Prop} {P : PT} {j q : Nat} (hv0 : zHv h) (hR : rBk 0 P h) (gq : gIn P q) (hj : j < 3) (hn : gJ P q < 48) (hb : fB P) (b2 : 0 ≤ P 2 q ∧ P 2 q ≤ 9)
    (k0 : ((j : Int) < 0) → (0 ≤ (5 + ((gJ P q : Nat) : Int))) → ((5 + ((gJ P q : Nat) : Int)) < 2750) → ((P 1 q) = 3) → Q (h, some (0, 1000000)))
    (k1 : ((j : Int) < 0) → (0 ≤ (5 + ((gJ P q : Nat) : Int))) → ((5 + ((gJ P q : Nat) : Int)) < 2750) → ((P 1 q) ≠ 3) → Q (h, some (0, (gCr P q))))
    (k2 : (0 ≤ (j : Int)) → ((P 3 (48 * j + q)) = 2) → (0 ≤ (53 + ((gJ P q : Nat) : Int))) → ((53 + ((gJ P q : Nat) : Int)) < 2750) → Q (h, some (0, (5 + (P 2 q)))))
    (k3 : (0 ≤ (j : Int)) → ((P 3 (48 * j + q)) ≠ 2) → (0 < (P 3 (48 * j + q))) → Q (h, some (0, 1000000)))
    (k4 : (0 ≤ (j : Int)) → ((P 3 (48 * j + q)) ≠ 2) → ((P 3 (48 * j + q)) ≤ 0) → (0 ≤ (5 + ((gJ P q : Nat) : Int))) → ((5 + ((gJ P q : Nat) : Int)) < 2750) → ((P 1 q) = 3) → Q (h, some (0, 1000000)))
    (k5 : (0 ≤ (j : Int)) → ((P 3 (48 * j + q)) ≠ 2) → ((P 3 (48 * j + q)) ≤ 0) → (0 ≤ (5 + ((gJ P q : Nat) : Int))) → ((5 + ((gJ P q : Nat) : Int)) < 2750) → ((P 1 q) ≠ 3) → Q (h, some (0, (gCr P q)))) :
    vP D T N 212 0 h [some (2, 121), some (0, (j : Int)), some (0, ((gJ P q : Nat) : Int)), none] [] Q := by
  refine v_load (v := (0, (j : Int))) (hz_X12_costOf hT _ _ rfl) rfl rfl ?_
  refine v_if (hz_X12_costOf hT _ _ rfl) (fun hc1 => ?_) (fun hc1 => ?_)
  · have hc1 : (j : Int) < 0 := hc1
    refine v_push (0) (hz_X12_costOf hT _ _ rfl) rfl ?_
    refine v_goto (hz_X12_costOf hT _ _ rfl) ?_
    refine v_store1 [some (2, 121), some (0, (j : Int)), some (0, ((gJ P q : Nat) : Int)), some (0, 0)] (hz_X12_costOf hT _ _ rfl) ⟨rfl, Nat.ne_of_beq_eq_false rfl⟩ (Nat.le_of_ble_eq_true rfl) rfl ?_
    refine v_load (v := (0, 0)) (hz_X12_costOf hT _ _ rfl) rfl rfl ?_
    refine v_push (2) (hz_X12_costOf hT _ _ rfl) rfl ?_
    refine v_ic (hz_X12_costOf hT _ _ rfl) (fun hc2 => absurd (show (0 : Int) = 2 from hc2) (by omega)) (fun _ => ?_)
    refine v_load (v := (0, 0)) (hz_X12_costOf hT _ _ rfl) rfl rfl ?_
    refine v_if (hz_X12_costOf hT _ _ rfl) (fun hc3 => absurd (show 0 < (0 : Int) from hc3) (by omega)) (fun _ => ?_)
    refine v_load (v := (2, 121)) (hz_X12_costOf hT _ _ rfl) rfl rfl ?_
    refine v_getR (c := 126) (r := 121) (hz_X12_costOf hT _ _ rfl) rfl rfl rfl ?_
    refine v_push (5) (hz_X12_costOf hT _ _ rfl) rfl ?_
    refine v_load (v := (0, ((gJ P q : Nat) : Int))) (hz_X12_costOf hT _ _ rfl) rfl rfl ?_
    refine v_bin (w := (5 + ((gJ P q : Nat) : Int))) (hz_X12_costOf hT _ _ rfl) (hq_add (by omega) (by omega)) ?_
    refine v_aldB (t := 0) (r := 126) (w := (P 1 q)) (hz_X12_costOf hT _ _ rfl) rfl rfl rfl (fun _ _ => (congrArg Prod.snd (hR.l gq))) (fun ha4 hb5 => ?_)
    refine v_push (3) (hz_X12_costOf hT _ _ rfl) rfl ?_
    refine v_ic (hz_X12_costOf hT _ _ rfl) (fun hc6 => ?_) (fun hc6 => ?_)
    · have hc6 : (P 1 q) = 3 := hc6
      refine v_push (1000000) (hz_X12_costOf hT _ _ rfl) rfl ?_
      refine v_goto (hz_X12_costOf hT _ _ rfl) ?_
      refine v_ret (hz_X12_costOf hT _ _ rfl) (Or.inl rfl) ?_
      exact k0 hc1 ha4 hb5 hc6
    · have hc6 : (P 1 q) ≠ 3 := hc6
      refine v_load (v := (2, 121)) (hz_X12_costOf hT _ _ rfl) rfl rfl ?_
      refine v_load (v := (0, ((gJ P q : Nat) : Int))) (hz_X12_costOf hT _ _ rfl) rfl rfl ?_
      refine v_call (w := 2) [some (2, 121), some (0, ((gJ P q : Nat) : Int))] hO (hz_X12_costOf hT _ _ rfl) rfl rfl (rb_cr hT hO q gq hR hb ?_)
      show vP D T N 212 59 h [some (2, 121), some (0, (j : Int)), some (0, ((gJ P q : Nat) : Int)), some (0, 0)] [(0, (gCr P q))] _
      refine v_ret (hz_X12_costOf hT _ _ rfl) (Or.inl rfl) ?_
      exact k1 hc1 ha4 hb5 hc6
  · have hc1 : 0 ≤ (j : Int) := Int.not_lt.mp hc1
    refine v_load (v := (2, 121)) (hz_X12_costOf hT _ _ rfl) rfl rfl ?_
    refine v_load (v := (0, (j : Int))) (hz_X12_costOf hT _ _ rfl) rfl rfl ?_
    refine v_load (v := (0, ((gJ P q : Nat) : Int))) (hz_X12_costOf hT _ _ rfl) rfl rfl ?_
    refine v_call (w := 3) [some (2, 121), some (0, (j : Int)), some (0, ((gJ P q : Nat) : Int))] hO (hz_X12_costOf hT _ _ rfl) rfl rfl (rb_st hT hO ((j : Int)) j q rfl (by omega) gq hR hb ?_)
    show vP D T N 212 14 h [some (2, 121), some (0, (j : Int)), some (0, ((gJ P q : Nat) : Int)), none] [(0, (P 3 (48 * j + q)))] _
    refine v_store1 [some (2, 121), some (0, (j : Int)), some (0, ((gJ P q : Nat) : Int)), some (0, (P 3 (48 * j + q)))] (hz_X12_costOf hT _ _ rfl) ⟨rfl, Nat.ne_of_beq_eq_false rfl⟩ (Nat.le_of_ble_eq_true rfl) rfl ?_
    refine v_load (v := (0, (P 3 (48 * j + q)))) (hz_X12_costOf hT _ _ rfl) rfl rfl ?_
    refine v_push (2) (hz_X12_costOf hT _ _ rfl) rfl ?_
    refine v_ic (hz_X12_costOf hT _ _ rfl) (fun hc7 => ?_) (fun hc7 => ?_)
    · have hc7 : (P 3 (48 * j + q)) = 2 := hc7
      refine v_push (5) (hz_X12_costOf hT _ _ rfl) rfl ?_
      refine v_load (v := (2, 121)) (hz_X12_costOf hT _ _ rfl) rfl rfl ?_
      refine v_getR (c := 126) (r := 121) (hz_X12_costOf hT _ _ rfl) rfl rfl rfl ?_
      refine v_push (53) (hz_X12_costOf hT _ _ rfl) rfl ?_
      refine v_load (v := (0, ((gJ P q : Nat) : Int))) (hz_X12_costOf hT _ _ rfl) rfl rfl ?_
      refine v_bin (w := (53 + ((gJ P q : Nat) : Int))) (hz_X12_costOf hT _ _ rfl) (hq_add (by omega) (by omega)) ?_
      refine v_aldB (t := 0) (r := 126) (w := (P 2 q)) (hz_X12_costOf hT _ _ rfl) rfl rfl rfl (fun _ _ => (congrArg Prod.snd (hR.s gq))) (fun ha8 hb9 => ?_)
      refine v_bin (w := (5 + (P 2 q))) (hz_X12_costOf hT _ _ rfl) (hq_add (by omega) (by omega)) ?_
      refine v_ret (hz_X12_costOf hT _ _ rfl) (Or.inl rfl) ?_
      exact k2 hc1 hc7 ha8 hb9
    · have hc7 : (P 3 (48 * j + q)) ≠ 2 := hc7
      refine v_load (v := (0, (P 3 (48 * j + q)))) (hz_X12_costOf hT _ _ rfl) rfl rfl ?_
      refine v_if (hz_X12_costOf hT _ _ rfl) (fun hc10 => ?_) (fun hc10 => ?_)
      · have hc10 : 0 < (P 3 (48 * j + q)) := hc10
        refine v_push (1000000) (hz_X12_costOf hT _ _ rfl) rfl ?_
        refine v_goto (hz_X12_costOf hT _ _ rfl) ?_
        refine v_ret (hz_X12_costOf hT _ _ rfl) (Or.inl rfl) ?_
        exact k3 hc1 hc7 hc10
      · have hc10 : (P 3 (48 * j + q)) ≤ 0 := Int.not_lt.mp hc10
        refine v_load (v := (2, 121)) (hz_X12_costOf hT _ _ rfl) rfl rfl ?_
        refine v_getR (c := 126) (r := 121) (hz_X12_costOf hT _ _ rfl) rfl rfl rfl ?_
        refine v_push (5) (hz_X12_costOf hT _ _ rfl) rfl ?_
        refine v_load (v := (0, ((gJ P q : Nat) : Int))) (hz_X12_costOf hT _ _ rfl) rfl rfl ?_
        refine v_bin (w := (5 + ((gJ P q : Nat) : Int))) (hz_X12_costOf hT _ _ rfl) (hq_add (by omega) (by omega)) ?_
        refine v_aldB (t := 0) (r := 126) (w := (P 1 q)) (hz_X12_costOf hT _ _ rfl) rfl rfl rfl (fun _ _ => (congrArg Prod.snd (hR.l gq))) (fun ha11 hb12 => ?_)
        refine v_push (3) (hz_X12_costOf hT _ _ rfl) rfl ?_
        refine v_ic (hz_X12_costOf hT _ _ rfl) (fun hc13 => ?_) (fun hc13 => ?_)
        · have hc13 : (P 1 q) = 3 := hc13
          refine v_push (1000000) (hz_X12_costOf hT _ _ rfl) rfl ?_
          refine v_goto (hz_X12_costOf hT _ _ rfl) ?_
          refine v_ret (hz_X12_costOf hT _ _ rfl) (Or.inl rfl) ?_
          exact k4 hc1 hc7 hc10 ha11 hb12 hc13
        · have hc13 : (P 1 q) ≠ 3 := hc13
          refine v_load (v := (2, 121)) (hz_X12_costOf hT _ _ rfl) rfl rfl ?_
          refine v_load (v := (0, ((gJ P q : Nat) : Int))) (hz_X12_costOf hT _ _ rfl) rfl rfl ?_
          refine v_call (w := 2) [some (2, 121), some (0, ((gJ P q : Nat) : Int))] hO (hz_X12_costOf hT _ _ rfl) rfl rfl (rb_cr hT hO q gq hR hb ?_)
          show vP D T N 212 59 h [some (2, 121), some (0, (j : Int)), some (0, ((gJ P q : Nat) : Int)), some (0, (P 3 (48 * j + q)))] [(0, (gCr P q))] _
          refine v_ret (hz_X12_costOf hT _ _ rfl) (Or.inl rfl) ?_
          exact k5 hc1 hc7 hc10 ha11 hb12 hc13
theorem qr_cog {D : zD} {T : zT} (hT : hTab T) (hO : vOK T) {N : Nat} {h : zH} {Q : zR → Prop} {P : PT} {q : Nat} (hv0 : zHv h) (hR : rBk 0 P h) (gq : gIn P q) (hn : gJ P q < 48) (hb : fB P) (b2 : 0 ≤ P 2 q ∧ P 2 q ≤ 9)
    (k0 : (0 ≤ (5 + ((gJ P q : Nat) : Int))) → ((5 + ((gJ P q : Nat) : Int)) < 2750) → ((P 1 q) = 3) → Q (h, some (0, 1000000)))
    (k1 : (0 ≤ (5 + ((gJ P q : Nat) : Int))) → ((5 + ((gJ P q : Nat) : Int)) < 2750) → ((P 1 q) ≠ 3) → Q (h, some (0, (gCr P q)))) :
    vP D T N 212 0 h [some (2, 121), some (0, (-1)), some (0, ((gJ P q : Nat) : Int)), none] [] Q := by
  refine v_load (v := (0, (-1))) (hz_X12_costOf hT _ _ rfl) rfl rfl ?_
  refine v_if (hz_X12_costOf hT _ _ rfl) (fun _ => ?_) (fun hc1 => absurd (show ((-1) : Int) < 0 from (by omega)) hc1)
  refine v_push (0) (hz_X12_costOf hT _ _ rfl) rfl ?_
  refine v_goto (hz_X12_costOf hT _ _ rfl) ?_
  refine v_store1 [some (2, 121), some (0, (-1)), some (0, ((gJ P q : Nat) : Int)), some (0, 0)] (hz_X12_costOf hT _ _ rfl) ⟨rfl, Nat.ne_of_beq_eq_false rfl⟩ (Nat.le_of_ble_eq_true rfl) rfl ?_
  refine v_load (v := (0, 0)) (hz_X12_costOf hT _ _ rfl) rfl rfl ?_
  refine v_push (2) (hz_X12_costOf hT _ _ rfl) rfl ?_
  refine v_ic (hz_X12_costOf hT _ _ rfl) (fun hc2 => absurd (show (0 : Int) = 2 from hc2) (by omega)) (fun _ => ?_)
  refine v_load (v := (0, 0)) (hz_X12_costOf hT _ _ rfl) rfl rfl ?_
  refine v_if (hz_X12_costOf hT _ _ rfl) (fun hc3 => absurd (show 0 < (0 : Int) from hc3) (by omega)) (fun _ => ?_)
  refine v_load (v := (2, 121)) (hz_X12_costOf hT _ _ rfl) rfl rfl ?_
  refine v_getR (c := 126) (r := 121) (hz_X12_costOf hT _ _ rfl) rfl rfl rfl ?_
  refine v_push (5) (hz_X12_costOf hT _ _ rfl) rfl ?_
  refine v_load (v := (0, ((gJ P q : Nat) : Int))) (hz_X12_costOf hT _ _ rfl) rfl rfl ?_
  refine v_bin (w := (5 + ((gJ P q : Nat) : Int))) (hz_X12_costOf hT _ _ rfl) (hq_add (by omega) (by omega)) ?_
  refine v_aldB (t := 0) (r := 126) (w := (P 1 q)) (hz_X12_costOf hT _ _ rfl) rfl rfl rfl (fun _ _ => (congrArg Prod.snd (hR.l gq))) (fun ha4 hb5 => ?_)
  refine v_push (3) (hz_X12_costOf hT _ _ rfl) rfl ?_
  refine v_ic (hz_X12_costOf hT _ _ rfl) (fun hc6 => ?_) (fun hc6 => ?_)
  · have hc6 : (P 1 q) = 3 := hc6
    refine v_push (1000000) (hz_X12_costOf hT _ _ rfl) rfl ?_
    refine v_goto (hz_X12_costOf hT _ _ rfl) ?_
    refine v_ret (hz_X12_costOf hT _ _ rfl) (Or.inl rfl) ?_
    exact k0 ha4 hb5 hc6
  · have hc6 : (P 1 q) ≠ 3 := hc6
    refine v_load (v := (2, 121)) (hz_X12_costOf hT _ _ rfl) rfl rfl ?_
    refine v_load (v := (0, ((gJ P q : Nat) : Int))) (hz_X12_costOf hT _ _ rfl) rfl rfl ?_
    refine v_call (w := 2) [some (2, 121), some (0, ((gJ P q : Nat) : Int))] hO (hz_X12_costOf hT _ _ rfl) rfl rfl (rb_cr hT hO q gq hR hb ?_)
    show vP D T N 212 59 h [some (2, 121), some (0, (-1)), some (0, ((gJ P q : Nat) : Int)), some (0, 0)] [(0, (gCr P q))] _
    refine v_ret (hz_X12_costOf hT _ _ rfl) (Or.inl rfl) ?_
    exact k1 ha4 hb5 hc6
theorem rb_co {D : zD} {T : zT} (hT : hTab T) (hO : vOK T) {N : Nat} {h : zH} {Q : zR → Prop} {P : PT} (cp : Int) (q : Nat) (h1 : -1 ≤ cp) (h3 : cp < 3) (gq : gIn P q) (hR : rBk 0 P h) (hb : fB P) (k : Q (h, some (0, rCF P cp q))) : vP D T N 212 0 h [some (2, 121), some (0, cp), some (0, ((gJ P q : Nat) : Int)), none] [] Q := by
  obtain ⟨b1, b2⟩ := hb.2.1 q gq.1
  have cb := crw_b (L := P 1 q)
  by_cases c : cp < 0
  · have e : cp = -1 := by omega
    subst e
    refine vP_hv (fun hv => qr_cog hT hO hv hR gq (gJ_lt hb.1 gq) hb b2 ?_ ?_) <;> (intros; exact cb_eq k (by unfold rCF rC gGr gCr; omega))
  · obtain ⟨j, rfl⟩ : ∃ j : Nat, cp = (j : Int) := ⟨cp.toNat, by omega⟩
    have q48 := gq.1
    have bs := hb.2.2.1 (48 * j + q) (by omega)
    refine vP_hv (fun hv => qr_co hT hO hv hR gq (by omega) (gJ_lt hb.1 gq) hb b2 ?_ ?_ ?_ ?_ ?_ ?_) <;> (intros; exact cb_eq k (by unfold rCF rC gSh gGr gCr; rw [Int.toNat_natCast]; omega))
theorem qr_go {D : zD} {T : zT} (hT : hTab T) (hO : vOK T) {N : Nat} {h : zH} {Q : zR → Prop} {P : PT} {q e : Nat} {d : Nat → Int} (cp : Int) (hv0 : zHv h) (hR : rBk 0 P h) (gq : gIn P q) (he : e < 4) (h1 : -1 ≤ cp) (h3 : cp < 3) (hb : fB P) (bd : ∀ r, gIn P r → gJ P r < 48 ∧ h 130 (gJ P r) = (0, d r) ∧ (0 ≤ d r ∧ d r ≤ 1000000) ∧ (0 ≤ rCF P cp r ∧ (rCF P cp r = 1000000 ∨ rCF P cp r ≤ 14)))
    (k0 : (gNb P q e = -1) → Q (h, some (0, 1000000)))
    (k1 : ∀ (q1 : Nat), (gNb P q e = (q1 : Int)) → (gIn P q1) → (((gJ P q1 : Nat) : Int) < 0) → Q (h, some (0, 1000000)))
    (k2 : ∀ (q1 : Nat), (gNb P q e = (q1 : Int)) → (gIn P q1) → (0 ≤ ((gJ P q1 : Nat) : Int)) → ((rCF P cp q1) = 1000000) → Q (h, some (0, 1000000)))
    (k3 : ∀ (q1 : Nat), (gNb P q e = (q1 : Int)) → (gIn P q1) → (0 ≤ ((gJ P q1 : Nat) : Int)) → ((rCF P cp q1) ≠ 1000000) → (((gJ P q1 : Nat) : Int) < 48) → ((d q1) = 1000000) → Q (h, some (0, 1000000)))
    (k4 : ∀ (q1 : Nat), (gNb P q e = (q1 : Int)) → (gIn P q1) → (0 ≤ ((gJ P q1 : Nat) : Int)) → ((rCF P cp q1) ≠ 1000000) → (((gJ P q1 : Nat) : Int) < 48) → ((d q1) ≠ 1000000) → Q (h, some (0, (((100 * (rCF P cp q1)) + 1) + (d q1))))) :
    vP D T N 232 0 h [some (2, 121), some (0, cp), some (0, ((gJ P q : Nat) : Int)), some (0, (e : Int)), none] [] Q := by
  refine v_load (v := (2, 121)) (hz_X12_goesBy hT _ _ rfl) rfl rfl ?_
  refine v_load (v := (0, ((gJ P q : Nat) : Int))) (hz_X12_goesBy hT _ _ rfl) rfl rfl ?_
  refine v_load (v := (0, (e : Int))) (hz_X12_goesBy hT _ _ rfl) rfl rfl ?_
  refine v_call (w := 5) [some (2, 121), some (0, ((gJ P q : Nat) : Int)), some (0, (e : Int)), none, none] hO (hz_X12_goesBy hT _ _ rfl) rfl rfl (rb_bes hT hO ((e : Int)) q e rfl gq (by omega) hR.w hR.r hb.1 (fun en1 => ?_) (fun q1 en1 hg1 => ?_))
  · show vP D T N 232 6 h [some (2, 121), some (0, cp), some (0, ((gJ P q : Nat) : Int)), some (0, (e : Int)), none] [(0, -1)] _
    refine v_store1 [some (2, 121), some (0, cp), some (0, ((gJ P q : Nat) : Int)), some (0, (e : Int)), some (0, -1)] (hz_X12_goesBy hT _ _ rfl) ⟨rfl, Nat.ne_of_beq_eq_false rfl⟩ (Nat.le_of_ble_eq_true rfl) rfl ?_
    refine v_load (v := (0, -1)) (hz_X12_goesBy hT _ _ rfl) rfl rfl ?_
    refine v_if (hz_X12_goesBy hT _ _ rfl) (fun _ => ?_) (fun hc3 => absurd (show (-1 : Int) < 0 from (by omega)) hc3)
    refine v_push (1000000) (hz_X12_goesBy hT _ _ rfl) rfl ?_
    refine v_ret (hz_X12_goesBy hT _ _ rfl) (Or.inl rfl) ?_
    exact k0 en1
  · show vP D T N 232 6 h [some (2, 121), some (0, cp), some (0, ((gJ P q : Nat) : Int)), some (0, (e : Int)), none] [(0, ((gJ P q1 : Nat) : Int))] _
    obtain ⟨bq2a, bq2e, bq2b, bq2c⟩ := bd q1 hg1
    refine v_store1 [some (2, 121), some (0, cp), some (0, ((gJ P q : Nat) : Int)), some (0, (e : Int)), some (0, ((gJ P q1 : Nat) : Int))] (hz_X12_goesBy hT _ _ rfl) ⟨rfl, Nat.ne_of_beq_eq_false rfl⟩ (Nat.le_of_ble_eq_true rfl) rfl ?_
    refine v_load (v := (0, ((gJ P q1 : Nat) : Int))) (hz_X12_goesBy hT _ _ rfl) rfl rfl ?_
    refine v_if (hz_X12_goesBy hT _ _ rfl) (fun hc4 => ?_) (fun hc4 => ?_)
    · have hc4 : ((gJ P q1 : Nat) : Int) < 0 := hc4
      refine v_push (1000000) (hz_X12_goesBy hT _ _ rfl) rfl ?_
      refine v_ret (hz_X12_goesBy hT _ _ rfl) (Or.inl rfl) ?_
      exact k1 q1 en1 hg1 hc4
    · have hc4 : 0 ≤ ((gJ P q1 : Nat) : Int) := Int.not_lt.mp hc4
      refine v_load (v := (2, 121)) (hz_X12_goesBy hT _ _ rfl) rfl rfl ?_
      refine v_load (v := (0, cp)) (hz_X12_goesBy hT _ _ rfl) rfl rfl ?_
      refine v_load (v := (0, ((gJ P q1 : Nat) : Int))) (hz_X12_goesBy hT _ _ rfl) rfl rfl ?_
      refine v_call (w := 4) [some (2, 121), some (0, cp), some (0, ((gJ P q1 : Nat) : Int)), none] hO (hz_X12_goesBy hT _ _ rfl) rfl rfl (rb_co hT hO cp q1 (by omega) (by omega) hg1 hR hb ?_)
      show vP D T N 232 20 h [some (2, 121), some (0, cp), some (0, ((gJ P q : Nat) : Int)), some (0, (e : Int)), some (0, ((gJ P q1 : Nat) : Int))] [(0, (rCF P cp q1))] _
      refine v_push (1000000) (hz_X12_goesBy hT _ _ rfl) rfl ?_
      refine v_ic (hz_X12_goesBy hT _ _ rfl) (fun hc5 => ?_) (fun hc5 => ?_)
      · have hc5 : (rCF P cp q1) = 1000000 := hc5
        refine v_push (1000000) (hz_X12_goesBy hT _ _ rfl) rfl ?_
        refine v_ret (hz_X12_goesBy hT _ _ rfl) (Or.inl rfl) ?_
        exact k2 q1 en1 hg1 hc4 hc5
      · have hc5 : (rCF P cp q1) ≠ 1000000 := hc5
        refine v_load (v := (2, 121)) (hz_X12_goesBy hT _ _ rfl) rfl rfl ?_
        refine v_getR (c := 130) (r := 121) (hz_X12_goesBy hT _ _ rfl) rfl rfl rfl ?_
        refine v_load (v := (0, ((gJ P q1 : Nat) : Int))) (hz_X12_goesBy hT _ _ rfl) rfl rfl ?_
        refine v_aldB (t := 0) (r := 130) (w := (d q1)) (hz_X12_goesBy hT _ _ rfl) rfl rfl rfl (fun _ _ => (congrArg Prod.snd bq2e)) (fun ha6 hb7 => ?_)
        refine v_push (1000000) (hz_X12_goesBy hT _ _ rfl) rfl ?_
        refine v_ic (hz_X12_goesBy hT _ _ rfl) (fun hc8 => ?_) (fun hc8 => ?_)
        · have hc8 : (d q1) = 1000000 := hc8
          refine v_push (1000000) (hz_X12_goesBy hT _ _ rfl) rfl ?_
          refine v_ret (hz_X12_goesBy hT _ _ rfl) (Or.inl rfl) ?_
          exact k3 q1 en1 hg1 hc4 hc5 hb7 hc8
        · have hc8 : (d q1) ≠ 1000000 := hc8
          refine v_push (100) (hz_X12_goesBy hT _ _ rfl) rfl ?_
          refine v_load (v := (2, 121)) (hz_X12_goesBy hT _ _ rfl) rfl rfl ?_
          refine v_load (v := (0, cp)) (hz_X12_goesBy hT _ _ rfl) rfl rfl ?_
          refine v_load (v := (0, ((gJ P q1 : Nat) : Int))) (hz_X12_goesBy hT _ _ rfl) rfl rfl ?_
          refine v_call (w := 4) [some (2, 121), some (0, cp), some (0, ((gJ P q1 : Nat) : Int)), none] hO (hz_X12_goesBy hT _ _ rfl) rfl rfl (rb_co hT hO cp q1 (by omega) (by omega) hg1 hR hb ?_)
          show vP D T N 232 52 h [some (2, 121), some (0, cp), some (0, ((gJ P q : Nat) : Int)), some (0, (e : Int)), some (0, ((gJ P q1 : Nat) : Int))] [(0, (rCF P cp q1)), (0, 100)] _
          refine v_bin (w := (100 * (rCF P cp q1))) (hz_X12_goesBy hT _ _ rfl) (hq_mul (by omega) (by omega)) ?_
          refine v_push (1) (hz_X12_goesBy hT _ _ rfl) rfl ?_
          refine v_bin (w := ((100 * (rCF P cp q1)) + 1)) (hz_X12_goesBy hT _ _ rfl) (hq_add (by omega) (by omega)) ?_
          refine v_load (v := (2, 121)) (hz_X12_goesBy hT _ _ rfl) rfl rfl ?_
          refine v_getR (c := 130) (r := 121) (hz_X12_goesBy hT _ _ rfl) rfl rfl rfl ?_
          refine v_load (v := (0, ((gJ P q1 : Nat) : Int))) (hz_X12_goesBy hT _ _ rfl) rfl rfl ?_
          refine v_aldB (t := 0) (r := 130) (w := (d q1)) (hz_X12_goesBy hT _ _ rfl) rfl rfl rfl (fun _ _ => (congrArg Prod.snd bq2e)) (fun ha9 hb10 => ?_)
          refine v_bin (w := (((100 * (rCF P cp q1)) + 1) + (d q1))) (hz_X12_goesBy hT _ _ rfl) (hq_add (by omega) (by omega)) ?_
          refine v_ret (hz_X12_goesBy hT _ _ rfl) (Or.inl rfl) ?_
          exact k4 q1 en1 hg1 hc4 hc5 hb7 hc8
theorem rb_go {D : zD} {T : zT} (hT : hTab T) (hO : vOK T) {N : Nat} {h : zH} {Q : zR → Prop} {P : PT} {d : Nat → Int} (cp x : Int) (q e : Nat) (ex : x = (e : Int)) (he : e < 4) (gq : gIn P q) (hR : rBk 0 P h) (hb : fB P) (h1 : -1 ≤ cp) (h3 : cp < 3) (hd : ∀ r, gIn P r → h 130 (gJ P r) = (0, d r) ∧ 0 ≤ d r ∧ d r ≤ 1000000) (k : Q (h, some (0, gGo P cp d q e))) : vP D T N 232 0 h [some (2, 121), some (0, cp), some (0, ((gJ P q : Nat) : Int)), some (0, x), none] [] Q := by
  subst ex
  have F : ∀ r, rCF P cp r = 1000000 ∨ (rCF P cp r = rC P cp r ∧ rC P cp r ≠ 0) := fun r => by
    unfold rCF
    by_cases c : rC P cp r = 0
    · rw [if_pos c]; exact Or.inl rfl
    · rw [if_neg c]; exact Or.inr ⟨rfl, c⟩
  have bd : ∀ r, gIn P r → gJ P r < 48 ∧ h 130 (gJ P r) = (0, d r) ∧ (0 ≤ d r ∧ d r ≤ 1000000) ∧ (0 ≤ rCF P cp r ∧ (rCF P cp r = 1000000 ∨ rCF P cp r ≤ 14)) := fun r g => by
    have b := rC_b hb (cp := cp) g.1
    refine ⟨gJ_lt hb.1 g, (hd r g).1, (hd r g).2, ?_⟩
    rcases F r with f | f <;> omega
  have G : ∀ r, rCF P cp r = 1000000 → gIn P r → rC P cp r = 0 := fun r f g => by
    have b := rC_b hb (cp := cp) g.1
    rcases F r with f2 | f2
    · unfold rCF at f
      by_cases c : rC P cp r = 0
      · exact c
      · rw [if_neg c] at f; omega
    · omega
  refine vP_hv (fun hv => qr_go hT hO cp hv hR gq he h1 h3 hb bd ?_ ?_ ?_ ?_ ?_)
  · intro c
    exact cb_eq k (if_pos c)
  · intro q1 _ _ c
    omega
  · intro q1 en g _ f
    exact cb_eq k ((gGo_r en).trans (if_pos (G q1 f g)))
  · intro q1 en g _ f _ f2
    refine cb_eq k ((gGo_r en).trans ?_)
    rw [if_pos f2]
    exact ite_self _
  · intro q1 en g _ f _ f2
    rcases F q1 with f3 | f3
    · exact absurd f3 f
    · refine cb_eq k ((gGo_r en).trans ?_)
      rw [if_neg f3.2, if_neg f2, f3.1]
