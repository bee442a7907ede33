theorem qc_fault {D : zD} {T : zT} (hT : hTab T) (hO : vOK T) {N : Nat} {h : zH} {Q : zR → Prop} (w : Int) (hv0 : zHv h)
    (k0 : (w = 0) → Q (h, some (0, (h 10 9).2)))
    (k1 : (w ≠ 0) → (w = 1) → Q (h, some (0, (h 10 10).2)))
    (k2 : (w ≠ 0) → (w ≠ 1) → Q (h, some (0, -1))) :
    vP D T N 154 0 h [some (2, 0), some (0, w)] [] Q := by
  refine v_load (v := (0, w)) (hz_X11_fault hT _ _ rfl) rfl rfl ?_
  refine v_sw (hz_X11_fault hT _ _ rfl) ?_
  refine ⟨fun hc1 => ?_, fun hc1 => ?_⟩
  · have hc1 : w = 0 := hc1
    refine v_load (v := (2, 0)) (hz_X11_fault hT _ _ rfl) rfl rfl ?_
    refine v_getR (c := 10) (r := 0) (hz_X11_fault hT _ _ rfl) rfl rfl rfl ?_
    refine v_getI (t := 0) (r := 10) (hz_X11_fault hT _ _ rfl) rfl rfl rfl ?_
    refine v_ret (hz_X11_fault hT _ _ rfl) (Or.inl rfl) ?_
    exact k0 hc1
  refine ⟨fun hc2 => ?_, fun hc2 => ?_⟩
  · have hc2 : w = 1 := hc2
    refine v_load (v := (2, 0)) (hz_X11_fault hT _ _ rfl) rfl rfl ?_
    refine v_getR (c := 10) (r := 0) (hz_X11_fault hT _ _ rfl) rfl rfl rfl ?_
    refine v_getI (t := 0) (r := 10) (hz_X11_fault hT _ _ rfl) rfl rfl rfl ?_
    refine v_ret (hz_X11_fault hT _ _ rfl) (Or.inl rfl) ?_
    exact k1 hc1 hc2
  show vP _ _ _ _ _ _ _ _ _
  refine v_push (-1) (hz_X11_fault hT _ _ rfl) rfl ?_
  refine v_ret (hz_X11_fault hT _ _ rfl) (Or.inl rfl) ?_
  exact k2 hc1 hc2
theorem qr_fault {D : zD} {T : zT} (hT : hTab T) (hO : vOK T) {N : Nat} {h : zH} {Q : zR → Prop} (w : Int) (hv0 : zHv h)
    (k0 : (w = 0) → Q (zset h 121 1 (0, 0), some (0, (h 121 10).2)))
    (k1 : (w ≠ 0) → (w = 1) → Q (zset h 121 1 (0, 0), some (0, (h 121 11).2)))
    (k2 : (w ≠ 0) → (w ≠ 1) → Q (zset h 121 1 (0, 0), some (0, -1))) :
    vP D T N 226 0 h [some (2, 121), some (0, w)] [] Q := by
  refine v_load (v := (2, 121)) (hz_X12_fault hT _ _ rfl) rfl rfl ?_
  refine v_push (0) (hz_X12_fault hT _ _ rfl) rfl ?_
  refine v_putf (r := 121) hO (hz_X12_fault hT _ _ rfl) rfl (fun hf1 => ?_)
  refine v_load (v := (0, w)) (hz_X12_fault hT _ _ rfl) rfl rfl ?_
  refine v_if (hz_X12_fault hT _ _ rfl) (fun hc2 => ?_) (fun hc2 => ?_)
  · have hc2 : w = 0 := hc2
    refine v_load (v := (2, 121)) (hz_X12_fault hT _ _ rfl) rfl rfl ?_
    refine v_getf (v := (0, (h 121 10).2)) (r := 121) (hz_X12_fault hT _ _ rfl) rfl rfl (fun hv_ => Eq.trans (zset_ne (fun c => absurd c.2 (by decide))) (hv0.at rfl)) ?_
    refine v_goto (hz_X12_fault hT _ _ rfl) ?_
    refine v_ret (hz_X12_fault hT _ _ rfl) (Or.inl rfl) ?_
    exact k0 hc2
  · have hc2 : w ≠ 0 := hc2
    refine v_load (v := (0, w)) (hz_X12_fault hT _ _ rfl) rfl rfl ?_
    refine v_push (1) (hz_X12_fault hT _ _ rfl) rfl ?_
    refine v_ic (hz_X12_fault hT _ _ rfl) (fun hc3 => ?_) (fun hc3 => ?_)
    · have hc3 : w = 1 := hc3
      refine v_load (v := (2, 121)) (hz_X12_fault hT _ _ rfl) rfl rfl ?_
      refine v_getf (v := (0, (h 121 11).2)) (r := 121) (hz_X12_fault hT _ _ rfl) rfl rfl (fun hv_ => Eq.trans (zset_ne (fun c => absurd c.2 (by decide))) (hv0.at rfl)) ?_
      refine v_goto (hz_X12_fault hT _ _ rfl) ?_
      refine v_ret (hz_X12_fault hT _ _ rfl) (Or.inl rfl) ?_
      exact k1 hc2 hc3
    · have hc3 : w ≠ 1 := hc3
      refine v_push (-1) (hz_X12_fault hT _ _ rfl) rfl ?_
      refine v_ret (hz_X12_fault hT _ _ rfl) (Or.inl rfl) ?_
      exact k2 hc2 hc3
theorem qc_hand_24 {D : zD} {T : zT} (hT : hTab T) (hO : vOK T) {N : Nat} {h : zH} {Q : zR → Prop} {P : PT} (k y : Int) (hv0 : zHv h) (e7 : h 0 7 = (2, 24)) (g0 : h 24 0 = (0, P 0 0)) (g1 : h 24 1 = (0, P 0 1)) (g2 : h 24 2 = (0, P 0 2)) (g3 : h 24 3 = (0, P 0 3)) (lb : (0 ≤ P 0 0 ∧ P 0 0 ≤ 8) ∧ (0 ≤ P 0 1 ∧ P 0 1 ≤ 6) ∧ (0 ≤ P 0 2 ∧ P 0 2 ≤ 3) ∧ (0 ≤ P 0 3 ∧ P 0 3 ≤ 6))
    (k0 : (k < 0) → Q (zset h 0 0 (0, 2), some (0, 0)))
    (k1 : (0 ≤ k) → (k < (P 0 3)) → (y < 0) → Q (zset h 0 0 (0, 2), some (0, 0)))
    (k2 : (0 ≤ k) → (k < (P 0 3)) → (0 ≤ y) → (y < (P 0 2)) → (k < 6) → Q (zset (zset h 32 k.toNat (0, y)) 0 0 (0, 0), some (0, 1)))
    (k3 : (0 ≤ k) → (k < (P 0 3)) → (0 ≤ y) → ((P 0 2) ≤ y) → Q (zset h 0 0 (0, 2), some (0, 0)))
    (k4 : (0 ≤ k) → ((P 0 3) ≤ k) → Q (zset h 0 0 (0, 2), some (0, 0))) :
    vP D T N 158 0 h [some (2, 0), some (0, k), some (0, y)] [] Q := by
  refine v_load (v := (2, 0)) (hz_X11_hand hT _ _ rfl) rfl rfl ?_
  refine v_getf (v := (2, 24)) (r := 0) (hz_X11_hand hT _ _ rfl) rfl rfl (fun _ => e7) ?_
  refine v_load (v := (0, k)) (hz_X11_hand hT _ _ rfl) rfl rfl ?_
  refine v_call (w := 2) [some (2, 24), some (0, k)] hO (hz_X11_hand hT _ _ rfl) rfl rfl ?_
  refine v_load (v := (0, k)) (hz_X2_hasCompany hT _ _ rfl) rfl rfl ?_
  refine v_if (hz_X2_hasCompany hT _ _ rfl) (fun hc1 => ?_) (fun hc1 => ?_)
  · have hc1 : k < 0 := hc1
    refine v_push (0) (hz_X2_hasCompany hT _ _ rfl) rfl ?_
    refine v_ret (hz_X2_hasCompany hT _ _ rfl) (Or.inl rfl) ?_
    show vP D T N 158 8 h [some (2, 0), some (0, k), some (0, y)] [(0, 0)] _
    refine v_if (hz_X11_hand hT _ _ rfl) (fun _ => ?_) (fun hc2 => absurd (show (0 : Int) = 0 from (by omega)) hc2)
    refine v_load (v := (2, 0)) (hz_X11_hand hT _ _ rfl) rfl rfl ?_
    refine v_push (2) (hz_X11_hand hT _ _ rfl) rfl ?_
    refine v_call (w := 2) [some (2, 0), some (0, 2)] hO (hz_X11_hand hT _ _ rfl) rfl rfl ?_
    refine v_load (v := (2, 0)) (hz_X11_refuse hT _ _ rfl) rfl rfl ?_
    refine v_load (v := (0, 2)) (hz_X11_refuse hT _ _ rfl) rfl rfl ?_
    refine v_putf (r := 0) hO (hz_X11_refuse hT _ _ rfl) rfl (fun hf3 => ?_)
    refine v_push (0) (hz_X11_refuse hT _ _ rfl) rfl ?_
    refine v_ret (hz_X11_refuse hT _ _ rfl) (Or.inl rfl) ?_
    show vP D T N 158 27 (zset h 0 0 (0, 2)) [some (2, 0), some (0, k), some (0, y)] [(0, 0)] _
    refine v_ret (hz_X11_hand hT _ _ rfl) (Or.inl rfl) ?_
    exact k0 hc1
  · have hc1 : 0 ≤ k := Int.not_lt.mp hc1
    refine v_load (v := (0, k)) (hz_X2_hasCompany hT _ _ rfl) rfl rfl ?_
    refine v_load (v := (2, 24)) (hz_X2_hasCompany hT _ _ rfl) rfl rfl ?_
    refine v_getf (v := (0, (P 0 3))) (r := 24) (hz_X2_hasCompany hT _ _ rfl) rfl rfl (fun _ => g3) ?_
    refine v_ic (hz_X2_hasCompany hT _ _ rfl) (fun hc4 => ?_) (fun hc4 => ?_)
    · have hc4 : k < (P 0 3) := hc4
      refine v_push (1) (hz_X2_hasCompany hT _ _ rfl) rfl ?_
      refine v_goto (hz_X2_hasCompany hT _ _ rfl) ?_
      refine v_ret (hz_X2_hasCompany hT _ _ rfl) (Or.inl rfl) ?_
      show vP D T N 158 8 h [some (2, 0), some (0, k), some (0, y)] [(0, 1)] _
      refine v_if (hz_X11_hand hT _ _ rfl) (fun hc5 => absurd (show (1 : Int) = 0 from hc5) (by omega)) (fun _ => ?_)
      refine v_load (v := (2, 0)) (hz_X11_hand hT _ _ rfl) rfl rfl ?_
      refine v_getf (v := (2, 24)) (r := 0) (hz_X11_hand hT _ _ rfl) rfl rfl (fun _ => e7) ?_
      refine v_load (v := (0, y)) (hz_X11_hand hT _ _ rfl) rfl rfl ?_
      refine v_call (w := 2) [some (2, 24), some (0, y)] hO (hz_X11_hand hT _ _ rfl) rfl rfl ?_
      refine v_load (v := (0, y)) (hz_X2_hasCopy hT _ _ rfl) rfl rfl ?_
      refine v_if (hz_X2_hasCopy hT _ _ rfl) (fun hc6 => ?_) (fun hc6 => ?_)
      · have hc6 : y < 0 := hc6
        refine v_push (0) (hz_X2_hasCopy hT _ _ rfl) rfl ?_
        refine v_ret (hz_X2_hasCopy hT _ _ rfl) (Or.inl rfl) ?_
        show vP D T N 158 19 h [some (2, 0), some (0, k), some (0, y)] [(0, 0)] _
        refine v_if (hz_X11_hand hT _ _ rfl) (fun _ => ?_) (fun hc7 => absurd (show (0 : Int) = 0 from (by omega)) hc7)
        refine v_load (v := (2, 0)) (hz_X11_hand hT _ _ rfl) rfl rfl ?_
        refine v_push (2) (hz_X11_hand hT _ _ rfl) rfl ?_
        refine v_call (w := 2) [some (2, 0), some (0, 2)] hO (hz_X11_hand hT _ _ rfl) rfl rfl ?_
        refine v_load (v := (2, 0)) (hz_X11_refuse hT _ _ rfl) rfl rfl ?_
        refine v_load (v := (0, 2)) (hz_X11_refuse hT _ _ rfl) rfl rfl ?_
        refine v_putf (r := 0) hO (hz_X11_refuse hT _ _ rfl) rfl (fun hf8 => ?_)
        refine v_push (0) (hz_X11_refuse hT _ _ rfl) rfl ?_
        refine v_ret (hz_X11_refuse hT _ _ rfl) (Or.inl rfl) ?_
        show vP D T N 158 27 (zset h 0 0 (0, 2)) [some (2, 0), some (0, k), some (0, y)] [(0, 0)] _
        refine v_ret (hz_X11_hand hT _ _ rfl) (Or.inl rfl) ?_
        exact k1 hc1 hc4 hc6
      · have hc6 : 0 ≤ y := Int.not_lt.mp hc6
        refine v_load (v := (0, y)) (hz_X2_hasCopy hT _ _ rfl) rfl rfl ?_
        refine v_load (v := (2, 24)) (hz_X2_hasCopy hT _ _ rfl) rfl rfl ?_
        refine v_getf (v := (0, (P 0 2))) (r := 24) (hz_X2_hasCopy hT _ _ rfl) rfl rfl (fun _ => g2) ?_
        refine v_ic (hz_X2_hasCopy hT _ _ rfl) (fun hc9 => ?_) (fun hc9 => ?_)
        · have hc9 : y < (P 0 2) := hc9
          refine v_push (1) (hz_X2_hasCopy hT _ _ rfl) rfl ?_
          refine v_goto (hz_X2_hasCopy hT _ _ rfl) ?_
          refine v_ret (hz_X2_hasCopy hT _ _ rfl) (Or.inl rfl) ?_
          show vP D T N 158 19 h [some (2, 0), some (0, k), some (0, y)] [(0, 1)] _
          refine v_if (hz_X11_hand hT _ _ rfl) (fun hc10 => absurd (show (1 : Int) = 0 from hc10) (by omega)) (fun _ => ?_)
          refine v_load (v := (2, 0)) (hz_X11_hand hT _ _ rfl) rfl rfl ?_
          refine v_getf (v := (2, 24)) (r := 0) (hz_X11_hand hT _ _ rfl) rfl rfl (fun _ => e7) ?_
          refine v_getR (c := 32) (r := 24) (hz_X11_hand hT _ _ rfl) rfl rfl rfl ?_
          refine v_load (v := (0, k)) (hz_X11_hand hT _ _ rfl) rfl rfl ?_
          refine v_load (v := (0, y)) (hz_X11_hand hT _ _ rfl) rfl rfl ?_
          refine v_ast (r := 32) (hz_X11_hand hT _ _ rfl) rfl rfl (fun ha11 hb12 hf13 => ?_)
          refine v_load (v := (2, 0)) (hz_X11_hand hT _ _ rfl) rfl rfl ?_
          refine v_call (w := 1) [some (2, 0)] hO (hz_X11_hand hT _ _ rfl) rfl rfl ?_
          refine v_load (v := (2, 0)) (hz_X11_accept hT _ _ rfl) rfl rfl ?_
          refine v_push (0) (hz_X11_accept hT _ _ rfl) rfl ?_
          refine v_putf (r := 0) hO (hz_X11_accept hT _ _ rfl) rfl (fun hf14 => ?_)
          refine v_push (1) (hz_X11_accept hT _ _ rfl) rfl ?_
          refine v_ret (hz_X11_accept hT _ _ rfl) (Or.inl rfl) ?_
          show vP D T N 158 42 (zset (zset h 32 k.toNat (0, y)) 0 0 (0, 0)) [some (2, 0), some (0, k), some (0, y)] [(0, 1)] _
          refine v_ret (hz_X11_hand hT _ _ rfl) (Or.inl rfl) ?_
          exact k2 hc1 hc4 hc6 hc9 hb12
        · have hc9 : (P 0 2) ≤ y := Int.not_lt.mp hc9
          refine v_push (0) (hz_X2_hasCopy hT _ _ rfl) rfl ?_
          refine v_ret (hz_X2_hasCopy hT _ _ rfl) (Or.inl rfl) ?_
          show vP D T N 158 19 h [some (2, 0), some (0, k), some (0, y)] [(0, 0)] _
          refine v_if (hz_X11_hand hT _ _ rfl) (fun _ => ?_) (fun hc15 => absurd (show (0 : Int) = 0 from (by omega)) hc15)
          refine v_load (v := (2, 0)) (hz_X11_hand hT _ _ rfl) rfl rfl ?_
          refine v_push (2) (hz_X11_hand hT _ _ rfl) rfl ?_
          refine v_call (w := 2) [some (2, 0), some (0, 2)] hO (hz_X11_hand hT _ _ rfl) rfl rfl ?_
          refine v_load (v := (2, 0)) (hz_X11_refuse hT _ _ rfl) rfl rfl ?_
          refine v_load (v := (0, 2)) (hz_X11_refuse hT _ _ rfl) rfl rfl ?_
          refine v_putf (r := 0) hO (hz_X11_refuse hT _ _ rfl) rfl (fun hf16 => ?_)
          refine v_push (0) (hz_X11_refuse hT _ _ rfl) rfl ?_
          refine v_ret (hz_X11_refuse hT _ _ rfl) (Or.inl rfl) ?_
          show vP D T N 158 27 (zset h 0 0 (0, 2)) [some (2, 0), some (0, k), some (0, y)] [(0, 0)] _
          refine v_ret (hz_X11_hand hT _ _ rfl) (Or.inl rfl) ?_
          exact k3 hc1 hc4 hc6 hc9
    · have hc4 : (P 0 3) ≤ k := Int.not_lt.mp hc4
      refine v_push (0) (hz_X2_hasCompany hT _ _ rfl) rfl ?_
      refine v_ret (hz_X2_hasCompany hT _ _ rfl) (Or.inl rfl) ?_
      show vP D T N 158 8 h [some (2, 0), some (0, k), some (0, y)] [(0, 0)] _
      refine v_if (hz_X11_hand hT _ _ rfl) (fun _ => ?_) (fun hc17 => absurd (show (0 : Int) = 0 from (by omega)) hc17)
      refine v_load (v := (2, 0)) (hz_X11_hand hT _ _ rfl) rfl rfl ?_
      refine v_push (2) (hz_X11_hand hT _ _ rfl) rfl ?_
      refine v_call (w := 2) [some (2, 0), some (0, 2)] hO (hz_X11_hand hT _ _ rfl) rfl rfl ?_
      refine v_load (v := (2, 0)) (hz_X11_refuse hT _ _ rfl) rfl rfl ?_
      refine v_load (v := (0, 2)) (hz_X11_refuse hT _ _ rfl) rfl rfl ?_
      refine v_putf (r := 0) hO (hz_X11_refuse hT _ _ rfl) rfl (fun hf18 => ?_)
      refine v_push (0) (hz_X11_refuse hT _ _ rfl) rfl ?_
      refine v_ret (hz_X11_refuse hT _ _ rfl) (Or.inl rfl) ?_
      show vP D T N 158 27 (zset h 0 0 (0, 2)) [some (2, 0), some (0, k), some (0, y)] [(0, 0)] _
      refine v_ret (hz_X11_hand hT _ _ rfl) (Or.inl rfl) ?_
      exact k4 hc1 hc4
theorem qc_hand_39 {D : zD} {T : zT} (hT : hTab T) (hO : vOK T) {N : Nat} {h : zH} {Q : zR → Prop} {P : PT} (k y : Int) (hv0 : zHv h) (e7 : h 0 7 = (2, 39)) (g0 : h 39 0 = (0, P 0 0)) (g1 : h 39 1 = (0, P 0 1)) (g2 : h 39 2 = (0, P 0 2)) (g3 : h 39 3 = (0, P 0 3)) (lb : (0 ≤ P 0 0 ∧ P 0 0 ≤ 8) ∧ (0 ≤ P 0 1 ∧ P 0 1 ≤ 6) ∧ (0 ≤ P 0 2 ∧ P 0 2 ≤ 3) ∧ (0 ≤ P 0 3 ∧ P 0 3 ≤ 6))
    (k0 : (k < 0) → Q (zset h 0 0 (0, 2), some (0, 0)))
    (k1 : (0 ≤ k) → (k < (P 0 3)) → (y < 0) → Q (zset h 0 0 (0, 2), some (0, 0)))
    (k2 : (0 ≤ k) → (k < (P 0 3)) → (0 ≤ y) → (y < (P 0 2)) → (k < 6) → Q (zset (zset h 47 k.toNat (0, y)) 0 0 (0, 0), some (0, 1)))
    (k3 : (0 ≤ k) → (k < (P 0 3)) → (0 ≤ y) → ((P 0 2) ≤ y) → Q (zset h 0 0 (0, 2), some (0, 0)))
    (k4 : (0 ≤ k) → ((P 0 3) ≤ k) → Q (zset h 0 0 (0, 2), some (0, 0))) :
    vP D T N 158 0 h [some (2, 0), some (0, k), some (0, y)] [] Q := by
  refine v_load (v := (2, 0)) (hz_X11_hand hT _ _ rfl) rfl rfl ?_
  refine v_getf (v := (2, 39)) (r := 0) (hz_X11_hand hT _ _ rfl) rfl rfl (fun _ => e7) ?_
  refine v_load (v := (0, k)) (hz_X11_hand hT _ _ rfl) rfl rfl ?_
  refine v_call (w := 2) [some (2, 39), some (0, k)] hO (hz_X11_hand hT _ _ rfl) rfl rfl ?_
  refine v_load (v := (0, k)) (hz_X2_hasCompany hT _ _ rfl) rfl rfl ?_
  refine v_if (hz_X2_hasCompany hT _ _ rfl) (fun hc1 => ?_) (fun hc1 => ?_)
  · have hc1 : k < 0 := hc1
    refine v_push (0) (hz_X2_hasCompany hT _ _ rfl) rfl ?_
    refine v_ret (hz_X2_hasCompany hT _ _ rfl) (Or.inl rfl) ?_
    show vP D T N 158 8 h [some (2, 0), some (0, k), some (0, y)] [(0, 0)] _
    refine v_if (hz_X11_hand hT _ _ rfl) (fun _ => ?_) (fun hc2 => absurd (show (0 : Int) = 0 from (by omega)) hc2)
    refine v_load (v := (2, 0)) (hz_X11_hand hT _ _ rfl) rfl rfl ?_
    refine v_push (2) (hz_X11_hand hT _ _ rfl) rfl ?_
    refine v_call (w := 2) [some (2, 0), some (0, 2)] hO (hz_X11_hand hT _ _ rfl) rfl rfl ?_
    refine v_load (v := (2, 0)) (hz_X11_refuse hT _ _ rfl) rfl rfl ?_
    refine v_load (v := (0, 2)) (hz_X11_refuse hT _ _ rfl) rfl rfl ?_
    refine v_putf (r := 0) hO (hz_X11_refuse hT _ _ rfl) rfl (fun hf3 => ?_)
    refine v_push (0) (hz_X11_refuse hT _ _ rfl) rfl ?_
    refine v_ret (hz_X11_refuse hT _ _ rfl) (Or.inl rfl) ?_
    show vP D T N 158 27 (zset h 0 0 (0, 2)) [some (2, 0), some (0, k), some (0, y)] [(0, 0)] _
    refine v_ret (hz_X11_hand hT _ _ rfl) (Or.inl rfl) ?_
    exact k0 hc1
  · have hc1 : 0 ≤ k := Int.not_lt.mp hc1
    refine v_load (v := (0, k)) (hz_X2_hasCompany hT _ _ rfl) rfl rfl ?_
    refine v_load (v := (2, 39)) (hz_X2_hasCompany hT _ _ rfl) rfl rfl ?_
    refine v_getf (v := (0, (P 0 3))) (r := 39) (hz_X2_hasCompany hT _ _ rfl) rfl rfl (fun _ => g3) ?_
    refine v_ic (hz_X2_hasCompany hT _ _ rfl) (fun hc4 => ?_) (fun hc4 => ?_)
    · have hc4 : k < (P 0 3) := hc4
      refine v_push (1) (hz_X2_hasCompany hT _ _ rfl) rfl ?_
      refine v_goto (hz_X2_hasCompany hT _ _ rfl) ?_
      refine v_ret (hz_X2_hasCompany hT _ _ rfl) (Or.inl rfl) ?_
      show vP D T N 158 8 h [some (2, 0), some (0, k), some (0, y)] [(0, 1)] _
      refine v_if (hz_X11_hand hT _ _ rfl) (fun hc5 => absurd (show (1 : Int) = 0 from hc5) (by omega)) (fun _ => ?_)
      refine v_load (v := (2, 0)) (hz_X11_hand hT _ _ rfl) rfl rfl ?_
      refine v_getf (v := (2, 39)) (r := 0) (hz_X11_hand hT _ _ rfl) rfl rfl (fun _ => e7) ?_
      refine v_load (v := (0, y)) (hz_X11_hand hT _ _ rfl) rfl rfl ?_
      refine v_call (w := 2) [some (2, 39), some (0, y)] hO (hz_X11_hand hT _ _ rfl) rfl rfl ?_
      refine v_load (v := (0, y)) (hz_X2_hasCopy hT _ _ rfl) rfl rfl ?_
      refine v_if (hz_X2_hasCopy hT _ _ rfl) (fun hc6 => ?_) (fun hc6 => ?_)
      · have hc6 : y < 0 := hc6
        refine v_push (0) (hz_X2_hasCopy hT _ _ rfl) rfl ?_
        refine v_ret (hz_X2_hasCopy hT _ _ rfl) (Or.inl rfl) ?_
        show vP D T N 158 19 h [some (2, 0), some (0, k), some (0, y)] [(0, 0)] _
        refine v_if (hz_X11_hand hT _ _ rfl) (fun _ => ?_) (fun hc7 => absurd (show (0 : Int) = 0 from (by omega)) hc7)
        refine v_load (v := (2, 0)) (hz_X11_hand hT _ _ rfl) rfl rfl ?_
        refine v_push (2) (hz_X11_hand hT _ _ rfl) rfl ?_
        refine v_call (w := 2) [some (2, 0), some (0, 2)] hO (hz_X11_hand hT _ _ rfl) rfl rfl ?_
        refine v_load (v := (2, 0)) (hz_X11_refuse hT _ _ rfl) rfl rfl ?_
        refine v_load (v := (0, 2)) (hz_X11_refuse hT _ _ rfl) rfl rfl ?_
        refine v_putf (r := 0) hO (hz_X11_refuse hT _ _ rfl) rfl (fun hf8 => ?_)
        refine v_push (0) (hz_X11_refuse hT _ _ rfl) rfl ?_
        refine v_ret (hz_X11_refuse hT _ _ rfl) (Or.inl rfl) ?_
        show vP D T N 158 27 (zset h 0 0 (0, 2)) [some (2, 0), some (0, k), some (0, y)] [(0, 0)] _
        refine v_ret (hz_X11_hand hT _ _ rfl) (Or.inl rfl) ?_
        exact k1 hc1 hc4 hc6
      · have hc6 : 0 ≤ y := Int.not_lt.mp hc6
        refine v_load (v := (0, y)) (hz_X2_hasCopy hT _ _ rfl) rfl rfl ?_
        refine v_load (v := (2, 39)) (hz_X2_hasCopy hT _ _ rfl) rfl rfl ?_
        refine v_getf (v := (0, (P 0 2))) (r := 39) (hz_X2_hasCopy hT _ _ rfl) rfl rfl (fun _ => g2) ?_
        refine v_ic (hz_X2_hasCopy hT _ _ rfl) (fun hc9 => ?_) (fun hc9 => ?_)
        · have hc9 : y < (P 0 2) := hc9
          refine v_push (1) (hz_X2_hasCopy hT _ _ rfl) rfl ?_
          refine v_goto (hz_X2_hasCopy hT _ _ rfl) ?_
          refine v_ret (hz_X2_hasCopy hT _ _ rfl) (Or.inl rfl) ?_
          show vP D T N 158 19 h [some (2, 0), some (0, k), some (0, y)] [(0, 1)] _
          refine v_if (hz_X11_hand hT _ _ rfl) (fun hc10 => absurd (show (1 : Int) = 0 from hc10) (by omega)) (fun _ => ?_)
          refine v_load (v := (2, 0)) (hz_X11_hand hT _ _ rfl) rfl rfl ?_
          refine v_getf (v := (2, 39)) (r := 0) (hz_X11_hand hT _ _ rfl) rfl rfl (fun _ => e7) ?_
          refine v_getR (c := 47) (r := 39) (hz_X11_hand hT _ _ rfl) rfl rfl rfl ?_
          refine v_load (v := (0, k)) (hz_X11_hand hT _ _ rfl) rfl rfl ?_
          refine v_load (v := (0, y)) (hz_X11_hand hT _ _ rfl) rfl rfl ?_
          refine v_ast (r := 47) (hz_X11_hand hT _ _ rfl) rfl rfl (fun ha11 hb12 hf13 => ?_)
          refine v_load (v := (2, 0)) (hz_X11_hand hT _ _ rfl) rfl rfl ?_
          refine v_call (w := 1) [some (2, 0)] hO (hz_X11_hand hT _ _ rfl) rfl rfl ?_
          refine v_load (v := (2, 0)) (hz_X11_accept hT _ _ rfl) rfl rfl ?_
          refine v_push (0) (hz_X11_accept hT _ _ rfl) rfl ?_
          refine v_putf (r := 0) hO (hz_X11_accept hT _ _ rfl) rfl (fun hf14 => ?_)
          refine v_push (1) (hz_X11_accept hT _ _ rfl) rfl ?_
          refine v_ret (hz_X11_accept hT _ _ rfl) (Or.inl rfl) ?_
          show vP D T N 158 42 (zset (zset h 47 k.toNat (0, y)) 0 0 (0, 0)) [some (2, 0), some (0, k), some (0, y)] [(0, 1)] _
          refine v_ret (hz_X11_hand hT _ _ rfl) (Or.inl rfl) ?_
          exact k2 hc1 hc4 hc6 hc9 hb12
        · have hc9 : (P 0 2) ≤ y := Int.not_lt.mp hc9
          refine v_push (0) (hz_X2_hasCopy hT _ _ rfl) rfl ?_
          refine v_ret (hz_X2_hasCopy hT _ _ rfl) (Or.inl rfl) ?_
          show vP D T N 158 19 h [some (2, 0), some (0, k), some (0, y)] [(0, 0)] _
          refine v_if (hz_X11_hand hT _ _ rfl) (fun _ => ?_) (fun hc15 => absurd (show (0 : Int) = 0 from (by omega)) hc15)
          refine v_load (v := (2, 0)) (hz_X11_hand hT _ _ rfl) rfl rfl ?_
          refine v_push (2) (hz_X11_hand hT _ _ rfl) rfl ?_
          refine v_call (w := 2) [some (2, 0), some (0, 2)] hO (hz_X11_hand hT _ _ rfl) rfl rfl ?_
          refine v_load (v := (2, 0)) (hz_X11_refuse hT _ _ rfl) rfl rfl ?_
          refine v_load (v := (0, 2)) (hz_X11_refuse hT _ _ rfl) rfl rfl ?_
          refine v_putf (r := 0) hO (hz_X11_refuse hT _ _ rfl) rfl (fun hf16 => ?_)
          refine v_push (0) (hz_X11_refuse hT _ _ rfl) rfl ?_
          refine v_ret (hz_X11_refuse hT _ _ rfl) (Or.inl rfl) ?_
          show vP D T N 158 27 (zset h 0 0 (0, 2)) [some (2, 0), some (0, k), some (0, y)] [(0, 0)] _
          refine v_ret (hz_X11_hand hT _ _ rfl) (Or.inl rfl) ?_
          exact k3 hc1 hc4 hc6 hc9
    · have hc4 : (P 0 3) ≤ k := Int.not_lt.mp hc4
      refine v_push (0) (hz_X2_hasCompany hT _ _ rfl) rfl ?_
      refine v_ret (hz_X2_hasCompany hT _ _ rfl) (Or.inl rfl) ?_
      show vP D T N 158 8 h [some (2, 0), some (0, k), some (0, y)] [(0, 0)] _
      refine v_if (hz_X11_hand hT _ _ rfl) (fun _ => ?_) (fun hc17 => absurd (show (0 : Int) = 0 from (by omega)) hc17)
      refine v_load (v := (2, 0)) (hz_X11_hand hT _ _ rfl) rfl rfl ?_
      refine v_push (2) (hz_X11_hand hT _ _ rfl) rfl ?_
      refine v_call (w := 2) [some (2, 0), some (0, 2)] hO (hz_X11_hand hT _ _ rfl) rfl rfl ?_
      refine v_load (v := (2, 0)) (hz_X11_refuse hT _ _ rfl) rfl rfl ?_
      refine v_load (v := (0, 2)) (hz_X11_refuse hT _ _ rfl) rfl rfl ?_
      refine v_putf (r := 0) hO (hz_X11_refuse hT _ _ rfl) rfl (fun hf18 => ?_)
      refine v_push (0) (hz_X11_refuse hT _ _ rfl) rfl ?_
      refine v_ret (hz_X11_refuse hT _ _ rfl) (Or.inl rfl) ?_
      show vP D T N 158 27 (zset h 0 0 (0, 2)) [some (2, 0), some (0, k), some (0, y)] [(0, 0)] _
      refine v_ret (hz_X11_hand hT _ _ rfl) (Or.inl rfl) ?_
      exact k4 hc1 hc4
theorem qr_hand {D : zD} {T : zT} (hT : hTab T) (hO : vOK T) {N : Nat} {h : zH} {Q : zR → Prop} {P : PT} (k y : Int) (hv0 : zHv h) (g0 : h 126 0 = (0, P 0 0)) (g1 : h 126 1 = (0, P 0 1)) (g2 : h 126 2 = (0, P 0 2)) (g3 : h 126 3 = (0, P 0 3)) (lb : (0 ≤ P 0 0 ∧ P 0 0 ≤ 8) ∧ (0 ≤ P 0 1 ∧ P 0 1 ≤ 6) ∧ (0 ≤ P 0 2 ∧ P 0 2 ≤ 3) ∧ (0 ≤ P 0 3 ∧ P 0 3 ≤ 6))
    (k0 : (k < 0) → Q (zset (zset (zset h 121 1 (0, 0)) 121 0 (0, 0)) 121 0 (0, 2), some (0, 0)))
    (k1 : (0 ≤ k) → (((P 0 3) - 1) < k) → Q (zset (zset (zset h 121 1 (0, 0)) 121 0 (0, 0)) 121 0 (0, 2), some (0, 0)))
    (k2 : (0 ≤ k) → (k ≤ ((P 0 3) - 1)) → (y < 0) → Q (zset (zset (zset h 121 1 (0, 0)) 121 0 (0, 0)) 121 0 (0, 2), some (0, 0)))
    (k3 : (0 ≤ k) → (k ≤ ((P 0 3) - 1)) → (0 ≤ y) → (((P 0 2) - 1) < y) → Q (zset (zset (zset h 121 1 (0, 0)) 121 0 (0, 0)) 121 0 (0, 2), some (0, 0)))
    (k4 : (0 ≤ k) → (k ≤ ((P 0 3) - 1)) → (0 ≤ y) → (y ≤ ((P 0 2) - 1)) → (0 ≤ (263 + k)) → ((263 + k) < 2750) → Q (zset (zset (zset h 121 1 (0, 0)) 121 0 (0, 0)) 126 (((263 + k)).toNat) (0, y), some (0, 1))) :
    vP D T N 236 0 h [some (2, 121), some (0, k), some (0, y)] [] Q := by
  refine v_load (v := (2, 121)) (hz_X12_hand hT _ _ rfl) rfl rfl ?_
  refine v_push (0) (hz_X12_hand hT _ _ rfl) rfl ?_
  refine v_putf (r := 121) hO (hz_X12_hand hT _ _ rfl) rfl (fun hf1 => ?_)
  refine v_load (v := (2, 121)) (hz_X12_hand hT _ _ rfl) rfl rfl ?_
  refine v_push (0) (hz_X12_hand hT _ _ rfl) rfl ?_
  refine v_putf (r := 121) hO (hz_X12_hand hT _ _ rfl) rfl (fun hf2 => ?_)
  refine v_load (v := (2, 121)) (hz_X12_hand hT _ _ rfl) rfl rfl ?_
  refine v_load (v := (0, k)) (hz_X12_hand hT _ _ rfl) rfl rfl ?_
  refine v_call (w := 2) [some (2, 121), some (0, k)] hO (hz_X12_hand hT _ _ rfl) rfl rfl ?_
  refine v_load (v := (0, k)) (hz_X12_isCompanyAt hT _ _ rfl) rfl rfl ?_
  refine v_i2l (hz_X12_isCompanyAt hT _ _ rfl) ?_
  refine v_push (0) (hz_X12_isCompanyAt hT _ _ rfl) rfl ?_
  refine v_load (v := (2, 121)) (hz_X12_isCompanyAt hT _ _ rfl) rfl rfl ?_
  refine v_getR (c := 126) (r := 121) (hz_X12_isCompanyAt hT _ _ rfl) rfl rfl rfl ?_
  refine v_push (3) (hz_X12_isCompanyAt hT _ _ rfl) rfl ?_
  refine v_aldV (v := (0, (P 0 3))) (r := 126) (hz_X12_isCompanyAt hT _ _ rfl) rfl rfl (fun _ _ _ => (Eq.trans (Eq.trans (zset_ne (fun c => absurd c.1 (by decide))) (zset_ne (fun c => absurd c.1 (by decide)))) (g3))) (fun ha3 hb4 => ?_)
  refine v_push (1) (hz_X12_isCompanyAt hT _ _ rfl) rfl ?_
  refine v_bin (w := ((P 0 3) - 1)) (hz_X12_isCompanyAt hT _ _ rfl) (hq_sub (by omega) (by omega)) ?_
  refine v_i2l (hz_X12_isCompanyAt hT _ _ rfl) ?_
  refine v_call (w := 6) [some (1, k), none, some (1, 0), none, some (1, ((P 0 3) - 1)), none] hO (hz_X12_isCompanyAt hT _ _ rfl) rfl rfl ?_
  refine v_load (v := (1, k)) (hz_X12_isIn hT _ _ rfl) rfl rfl ?_
  refine v_load (v := (1, 0)) (hz_X12_isIn hT _ _ rfl) rfl rfl ?_
  refine v_lif (hz_X12_isIn hT _ _ rfl) (hz_X12_isIn hT _ _ rfl) (fun hc5 => ?_) (fun hc5 => ?_)
  · have hc5 : k < 0 := hc5
    refine v_push (0) (hz_X12_isIn hT _ _ rfl) rfl ?_
    refine v_ret (hz_X12_isIn hT _ _ rfl) (Or.inl rfl) ?_
    show vP D T N 246 15 (zset (zset h 121 1 (0, 0)) 121 0 (0, 0)) [some (2, 121), some (0, k)] [(0, 0)] _
    refine v_ret (hz_X12_isCompanyAt hT _ _ rfl) (Or.inl rfl) ?_
    show vP D T N 236 15 (zset (zset h 121 1 (0, 0)) 121 0 (0, 0)) [some (2, 121), some (0, k), some (0, y)] [(0, 0)] _
    refine v_if (hz_X12_hand hT _ _ rfl) (fun _ => ?_) (fun hc6 => absurd (show (0 : Int) = 0 from (by omega)) hc6)
    refine v_load (v := (2, 121)) (hz_X12_hand hT _ _ rfl) rfl rfl ?_
    refine v_push (2) (hz_X12_hand hT _ _ rfl) rfl ?_
    refine v_call (w := 2) [some (2, 121), some (0, 2)] hO (hz_X12_hand hT _ _ rfl) rfl rfl ?_
    refine v_load (v := (2, 121)) (hz_X12_no hT _ _ rfl) rfl rfl ?_
    refine v_load (v := (0, 2)) (hz_X12_no hT _ _ rfl) rfl rfl ?_
    refine v_putf (r := 121) hO (hz_X12_no hT _ _ rfl) rfl (fun hf7 => ?_)
    refine v_push (0) (hz_X12_no hT _ _ rfl) rfl ?_
    refine v_ret (hz_X12_no hT _ _ rfl) (Or.inl rfl) ?_
    show vP D T N 236 31 (zset (zset (zset h 121 1 (0, 0)) 121 0 (0, 0)) 121 0 (0, 2)) [some (2, 121), some (0, k), some (0, y)] [(0, 0)] _
    refine v_ret (hz_X12_hand hT _ _ rfl) (Or.inl rfl) ?_
    exact k0 hc5
  · have hc5 : 0 ≤ k := Int.not_lt.mp hc5
    refine v_load (v := (1, k)) (hz_X12_isIn hT _ _ rfl) rfl rfl ?_
    refine v_load (v := (1, ((P 0 3) - 1))) (hz_X12_isIn hT _ _ rfl) rfl rfl ?_
    refine v_lif (hz_X12_isIn hT _ _ rfl) (hz_X12_isIn hT _ _ rfl) (fun hc8 => ?_) (fun hc8 => ?_)
    · have hc8 : ((P 0 3) - 1) < k := hc8
      refine v_push (0) (hz_X12_isIn hT _ _ rfl) rfl ?_
      refine v_ret (hz_X12_isIn hT _ _ rfl) (Or.inl rfl) ?_
      show vP D T N 246 15 (zset (zset h 121 1 (0, 0)) 121 0 (0, 0)) [some (2, 121), some (0, k)] [(0, 0)] _
      refine v_ret (hz_X12_isCompanyAt hT _ _ rfl) (Or.inl rfl) ?_
      show vP D T N 236 15 (zset (zset h 121 1 (0, 0)) 121 0 (0, 0)) [some (2, 121), some (0, k), some (0, y)] [(0, 0)] _
      refine v_if (hz_X12_hand hT _ _ rfl) (fun _ => ?_) (fun hc9 => absurd (show (0 : Int) = 0 from (by omega)) hc9)
      refine v_load (v := (2, 121)) (hz_X12_hand hT _ _ rfl) rfl rfl ?_
      refine v_push (2) (hz_X12_hand hT _ _ rfl) rfl ?_
      refine v_call (w := 2) [some (2, 121), some (0, 2)] hO (hz_X12_hand hT _ _ rfl) rfl rfl ?_
      refine v_load (v := (2, 121)) (hz_X12_no hT _ _ rfl) rfl rfl ?_
      refine v_load (v := (0, 2)) (hz_X12_no hT _ _ rfl) rfl rfl ?_
      refine v_putf (r := 121) hO (hz_X12_no hT _ _ rfl) rfl (fun hf10 => ?_)
      refine v_push (0) (hz_X12_no hT _ _ rfl) rfl ?_
      refine v_ret (hz_X12_no hT _ _ rfl) (Or.inl rfl) ?_
      show vP D T N 236 31 (zset (zset (zset h 121 1 (0, 0)) 121 0 (0, 0)) 121 0 (0, 2)) [some (2, 121), some (0, k), some (0, y)] [(0, 0)] _
      refine v_ret (hz_X12_hand hT _ _ rfl) (Or.inl rfl) ?_
      exact k1 hc5 hc8
    · have hc8 : k ≤ ((P 0 3) - 1) := Int.not_lt.mp hc8
      refine v_push (1) (hz_X12_isIn hT _ _ rfl) rfl ?_
      refine v_goto (hz_X12_isIn hT _ _ rfl) ?_
      refine v_ret (hz_X12_isIn hT _ _ rfl) (Or.inl rfl) ?_
      show vP D T N 246 15 (zset (zset h 121 1 (0, 0)) 121 0 (0, 0)) [some (2, 121), some (0, k)] [(0, 1)] _
      refine v_ret (hz_X12_isCompanyAt hT _ _ rfl) (Or.inl rfl) ?_
      show vP D T N 236 15 (zset (zset h 121 1 (0, 0)) 121 0 (0, 0)) [some (2, 121), some (0, k), some (0, y)] [(0, 1)] _
      refine v_if (hz_X12_hand hT _ _ rfl) (fun hc11 => absurd (show (1 : Int) = 0 from hc11) (by omega)) (fun _ => ?_)
      refine v_load (v := (2, 121)) (hz_X12_hand hT _ _ rfl) rfl rfl ?_
      refine v_load (v := (0, y)) (hz_X12_hand hT _ _ rfl) rfl rfl ?_
      refine v_call (w := 2) [some (2, 121), some (0, y)] hO (hz_X12_hand hT _ _ rfl) rfl rfl ?_
      refine v_load (v := (0, y)) (hz_X12_isCopy hT _ _ rfl) rfl rfl ?_
      refine v_i2l (hz_X12_isCopy hT _ _ rfl) ?_
      refine v_push (0) (hz_X12_isCopy hT _ _ rfl) rfl ?_
      refine v_load (v := (2, 121)) (hz_X12_isCopy hT _ _ rfl) rfl rfl ?_
      refine v_getR (c := 126) (r := 121) (hz_X12_isCopy hT _ _ rfl) rfl rfl rfl ?_
      refine v_push (2) (hz_X12_isCopy hT _ _ rfl) rfl ?_
      refine v_aldV (v := (0, (P 0 2))) (r := 126) (hz_X12_isCopy hT _ _ rfl) rfl rfl (fun _ _ _ => (Eq.trans (Eq.trans (zset_ne (fun c => absurd c.1 (by decide))) (zset_ne (fun c => absurd c.1 (by decide)))) (g2))) (fun ha12 hb13 => ?_)
      refine v_push (1) (hz_X12_isCopy hT _ _ rfl) rfl ?_
      refine v_bin (w := ((P 0 2) - 1)) (hz_X12_isCopy hT _ _ rfl) (hq_sub (by omega) (by omega)) ?_
      refine v_i2l (hz_X12_isCopy hT _ _ rfl) ?_
      refine v_call (w := 6) [some (1, y), none, some (1, 0), none, some (1, ((P 0 2) - 1)), none] hO (hz_X12_isCopy hT _ _ rfl) rfl rfl ?_
      refine v_load (v := (1, y)) (hz_X12_isIn hT _ _ rfl) rfl rfl ?_
      refine v_load (v := (1, 0)) (hz_X12_isIn hT _ _ rfl) rfl rfl ?_
      refine v_lif (hz_X12_isIn hT _ _ rfl) (hz_X12_isIn hT _ _ rfl) (fun hc14 => ?_) (fun hc14 => ?_)
      · have hc14 : y < 0 := hc14
        refine v_push (0) (hz_X12_isIn hT _ _ rfl) rfl ?_
        refine v_ret (hz_X12_isIn hT _ _ rfl) (Or.inl rfl) ?_
        show vP D T N 248 15 (zset (zset h 121 1 (0, 0)) 121 0 (0, 0)) [some (2, 121), some (0, y)] [(0, 0)] _
        refine v_ret (hz_X12_isCopy hT _ _ rfl) (Or.inl rfl) ?_
        show vP D T N 236 23 (zset (zset h 121 1 (0, 0)) 121 0 (0, 0)) [some (2, 121), some (0, k), some (0, y)] [(0, 0)] _
        refine v_if (hz_X12_hand hT _ _ rfl) (fun _ => ?_) (fun hc15 => absurd (show (0 : Int) = 0 from (by omega)) hc15)
        refine v_load (v := (2, 121)) (hz_X12_hand hT _ _ rfl) rfl rfl ?_
        refine v_push (2) (hz_X12_hand hT _ _ rfl) rfl ?_
        refine v_call (w := 2) [some (2, 121), some (0, 2)] hO (hz_X12_hand hT _ _ rfl) rfl rfl ?_
        refine v_load (v := (2, 121)) (hz_X12_no hT _ _ rfl) rfl rfl ?_
        refine v_load (v := (0, 2)) (hz_X12_no hT _ _ rfl) rfl rfl ?_
        refine v_putf (r := 121) hO (hz_X12_no hT _ _ rfl) rfl (fun hf16 => ?_)
        refine v_push (0) (hz_X12_no hT _ _ rfl) rfl ?_
        refine v_ret (hz_X12_no hT _ _ rfl) (Or.inl rfl) ?_
        show vP D T N 236 31 (zset (zset (zset h 121 1 (0, 0)) 121 0 (0, 0)) 121 0 (0, 2)) [some (2, 121), some (0, k), some (0, y)] [(0, 0)] _
        refine v_ret (hz_X12_hand hT _ _ rfl) (Or.inl rfl) ?_
        exact k2 hc5 hc8 hc14
      · have hc14 : 0 ≤ y := Int.not_lt.mp hc14
        refine v_load (v := (1, y)) (hz_X12_isIn hT _ _ rfl) rfl rfl ?_
        refine v_load (v := (1, ((P 0 2) - 1))) (hz_X12_isIn hT _ _ rfl) rfl rfl ?_
        refine v_lif (hz_X12_isIn hT _ _ rfl) (hz_X12_isIn hT _ _ rfl) (fun hc17 => ?_) (fun hc17 => ?_)
        · have hc17 : ((P 0 2) - 1) < y := hc17
          refine v_push (0) (hz_X12_isIn hT _ _ rfl) rfl ?_
          refine v_ret (hz_X12_isIn hT _ _ rfl) (Or.inl rfl) ?_
          show vP D T N 248 15 (zset (zset h 121 1 (0, 0)) 121 0 (0, 0)) [some (2, 121), some (0, y)] [(0, 0)] _
          refine v_ret (hz_X12_isCopy hT _ _ rfl) (Or.inl rfl) ?_
          show vP D T N 236 23 (zset (zset h 121 1 (0, 0)) 121 0 (0, 0)) [some (2, 121), some (0, k), some (0, y)] [(0, 0)] _
          refine v_if (hz_X12_hand hT _ _ rfl) (fun _ => ?_) (fun hc18 => absurd (show (0 : Int) = 0 from (by omega)) hc18)
          refine v_load (v := (2, 121)) (hz_X12_hand hT _ _ rfl) rfl rfl ?_
          refine v_push (2) (hz_X12_hand hT _ _ rfl) rfl ?_
          refine v_call (w := 2) [some (2, 121), some (0, 2)] hO (hz_X12_hand hT _ _ rfl) rfl rfl ?_
          refine v_load (v := (2, 121)) (hz_X12_no hT _ _ rfl) rfl rfl ?_
          refine v_load (v := (0, 2)) (hz_X12_no hT _ _ rfl) rfl rfl ?_
          refine v_putf (r := 121) hO (hz_X12_no hT _ _ rfl) rfl (fun hf19 => ?_)
          refine v_push (0) (hz_X12_no hT _ _ rfl) rfl ?_
          refine v_ret (hz_X12_no hT _ _ rfl) (Or.inl rfl) ?_
          show vP D T N 236 31 (zset (zset (zset h 121 1 (0, 0)) 121 0 (0, 0)) 121 0 (0, 2)) [some (2, 121), some (0, k), some (0, y)] [(0, 0)] _
          refine v_ret (hz_X12_hand hT _ _ rfl) (Or.inl rfl) ?_
          exact k3 hc5 hc8 hc14 hc17
        · have hc17 : y ≤ ((P 0 2) - 1) := Int.not_lt.mp hc17
          refine v_push (1) (hz_X12_isIn hT _ _ rfl) rfl ?_
          refine v_goto (hz_X12_isIn hT _ _ rfl) ?_
          refine v_ret (hz_X12_isIn hT _ _ rfl) (Or.inl rfl) ?_
          show vP D T N 248 15 (zset (zset h 121 1 (0, 0)) 121 0 (0, 0)) [some (2, 121), some (0, y)] [(0, 1)] _
          refine v_ret (hz_X12_isCopy hT _ _ rfl) (Or.inl rfl) ?_
          show vP D T N 236 23 (zset (zset h 121 1 (0, 0)) 121 0 (0, 0)) [some (2, 121), some (0, k), some (0, y)] [(0, 1)] _
          refine v_if (hz_X12_hand hT _ _ rfl) (fun hc20 => absurd (show (1 : Int) = 0 from hc20) (by omega)) (fun _ => ?_)
          refine v_load (v := (2, 121)) (hz_X12_hand hT _ _ rfl) rfl rfl ?_
          refine v_getR (c := 126) (r := 121) (hz_X12_hand hT _ _ rfl) rfl rfl rfl ?_
          refine v_push (263) (hz_X12_hand hT _ _ rfl) rfl ?_
          refine v_load (v := (0, k)) (hz_X12_hand hT _ _ rfl) rfl rfl ?_
          refine v_bin (w := (263 + k)) (hz_X12_hand hT _ _ rfl) (hq_add (by omega) (by omega)) ?_
          refine v_load (v := (0, y)) (hz_X12_hand hT _ _ rfl) rfl rfl ?_
          refine v_ast (r := 126) (hz_X12_hand hT _ _ rfl) rfl rfl (fun ha21 hb22 hf23 => ?_)
          refine v_push (1) (hz_X12_hand hT _ _ rfl) rfl ?_
          refine v_ret (hz_X12_hand hT _ _ rfl) (Or.inl rfl) ?_
          exact k4 hc5 hc8 hc14 hc17 ha21 hb22
/-! what single calls answer -/
theorem sv {t : Nat} {a b : Int} {h : zH} (e : a = b) : ((h, some ((t, a) : zV)) : zR).2 = some (t, b) := by rw [e]
theorem sv_i {h : zH} {a b : Int} (e : ((h, some ((0, a) : zV)) : zR).2 = some (0, b)) : a = b := by cases (e : some ((0, a) : zV) = some (0, b)); rfl
theorem lR.at {M : aM} {h h1 : zH} (hR : lR h) (f1 : aFr M h h1) (hf : lFree bAll M = true) : ∃ (r c : Nat) (P : PT), (c = 24 ∧ r = 39 ∨ c = 39 ∧ r = 24) ∧ h 0 7 = (2, (c : Int)) ∧ h 0 8 = (2, (r : Int)) ∧ sCl c P h ∧ rP 0 P h1 ∧ lB P ∧ (((h (c + 10) 0).2 = -1 ∧ (h1 126 275).2 = 0) ∨ (0 ≤ (h (c + 10) 0).2 ∧ (h1 126 275).2 = 1)) := by
  obtain ⟨_, _, _, r, c, s1, s2, s3, P, g1, g2, g3, g4⟩ := hR
  have k := bK_fr f1 hf (b := 0) (by decide)
  have e : h1 126 275 = h 126 275 := k.1 275 (Or.inr (Or.inr (Or.inr rfl)))
  refine ⟨r, c, P, ?_, s2, s3, g1, g2.tr g3 k, g3, ?_⟩
  · rcases s1 with ⟨rfl, rfl⟩ | ⟨rfl, rfl⟩
    · exact Or.inr ⟨rfl, rfl⟩
    · exact Or.inl ⟨rfl, rfl⟩
  · rw [e]
    exact g4
theorem lRk_fault {D : zD} (hD : ∀ i, -2147483648 ≤ D.2 i ∧ D.2 i ≤ 2147483647) {h h1 h2 : zH} {w v1 v2 : Int} (hZ : lZ D h) (hZ1 : lZ D h1) (hR : lR h) (z1 : zRun D TLw 614 154 0 (h, zargs 0 [(2, 0), (0, w)], []) (h1, some (0, v1))) (f1 : aFr lM_154 h h1) (z2 : zRun D TLw 614 226 0 (h1, zargs 0 [(2, 121), (0, w)], []) (h2, some (0, v2))) (f2 : aFr lM_226 h1 h2) : lR h2 ∧ v1 = v2 := by
  refine ⟨lR_S.fr (M := lM_226) (by decide +kernel) f2 (lR_S.fr (M := lM_154) (by decide +kernel) f1 hR), ?_⟩
  have a1 := hZ.run 2 z1 (Q := fun x => x.2 = some (0, if w = 0 then (h 10 9).2 else if w = 1 then (h 10 10).2 else -1)) (fun N => vP_hv (fun hv => by
    refine qc_fault TLw_T vOK_T w hv ?_ ?_ ?_ <;> (intros; exact sv (by omega))))
  have a2 := hZ1.run 2 z2 (Q := fun x => x.2 = some (0, if w = 0 then (h1 121 10).2 else if w = 1 then (h1 121 11).2 else -1)) (fun N => vP_hv (fun hv => by
    refine qr_fault TLw_T vOK_T w hv ?_ ?_ ?_ <;> (intros; exact sv (by omega))))
  have e1 := sv_i a1
  have e2 := sv_i a2
  have q : ∀ a k, aIn [(121, 10, 11)] a k → h1 a k = h a k := fun a k hi => f1.keep (S := [(121, 10, 11)]) (by decide +kernel) hi
  have q1 := congrArg Prod.snd (q 121 10 ⟨(121, 10, 11), by decide, rfl, by decide, by decide⟩)
  have q2 := congrArg Prod.snd (q 121 11 ⟨(121, 10, 11), by decide, rfl, by decide, by decide⟩)
  obtain ⟨_, ⟨x1, x2⟩, _⟩ := hR
  rw [e1, e2, q1, q2, x1, x2]
theorem lRk_hand {D : zD} (hD : ∀ i, -2147483648 ≤ D.2 i ∧ D.2 i ≤ 2147483647) {h h1 h2 : zH} {k y v1 v2 : Int} (hZ : lZ D h) (hZ1 : lZ D h1) (hR : lR h) (z1 : zRun D TLw 614 158 0 (h, zargs 0 [(2, 0), (0, k), (0, y)], []) (h1, some (0, v1))) (f1 : aFr lM_158 h h1) (z2 : zRun D TLw 614 236 0 (h1, zargs 0 [(2, 121), (0, k), (0, y)], []) (h2, some (0, v2))) (f2 : aFr lM_236 h1 h2) : lR h2 ∧ v1 = v2 := by
  refine ⟨lR_S.fr (M := lM_236) (by decide +kernel) f2 (lR_S.fr (M := lM_158) (by decide +kernel) f1 hR), ?_⟩
  obtain ⟨r, c, P, hc, e7, e8, gc, gr, lb, go⟩ := hR.at f1 (by decide +kernel)
  have a1 : v1 = (if 0 ≤ k ∧ k < P 0 3 ∧ 0 ≤ y ∧ y < P 0 2 then 1 else 0) := by
    refine sv_i (hZ.run 3 z1 (Q := fun x => x.2 = some (0, (if 0 ≤ k ∧ k < P 0 3 ∧ 0 ≤ y ∧ y < P 0 2 then 1 else 0))) (fun N => vP_hv (fun hv => ?_)))
    rcases hc with ⟨rfl, rfl⟩ | ⟨rfl, rfl⟩
    · refine qc_hand_24 TLw_T vOK_T k y hv e7 gc.1.1 gc.1.2.1 gc.1.2.2.1 gc.1.2.2.2 lb ?_ ?_ ?_ ?_ ?_ <;> (intros; exact sv (by omega))
    · refine qc_hand_39 TLw_T vOK_T k y hv e7 gc.1.1 gc.1.2.1 gc.1.2.2.1 gc.1.2.2.2 lb ?_ ?_ ?_ ?_ ?_ <;> (intros; exact sv (by omega))
  have a2 : v2 = (if 0 ≤ k ∧ k < P 0 3 ∧ 0 ≤ y ∧ y < P 0 2 then 1 else 0) := by
    refine sv_i (hZ1.run 3 z2 (Q := fun x => x.2 = some (0, (if 0 ≤ k ∧ k < P 0 3 ∧ 0 ≤ y ∧ y < P 0 2 then 1 else 0))) (fun N => vP_hv (fun hv => ?_)))
    refine qr_hand TLw_T vOK_T k y hv gr.1.1 gr.1.2.1 gr.1.2.2.1 gr.1.2.2.2 lb ?_ ?_ ?_ ?_ ?_ <;> (intros; exact sv (by omega))
  rw [a1, a2]
theorem vK0_k {D : zD} {T : zT} {N mi pc : Nat} {h : zH} {l : List (Option zV)} {S : List zV} {Q : zR → Prop} (H : vP D T N mi pc h l S (fun r => rtK 0 r.2)) (k : ∀ g, Q (g, none)) : vP D T N mi pc h l S Q := vP_Q (fun r hr => by
  obtain ⟨g, v⟩ := r
  have hr : v = none := hr
  subst hr
  exact k g) H
theorem vK1_k {D : zD} {T : zT} {N mi pc : Nat} {h : zH} {l : List (Option zV)} {S : List zV} {Q : zR → Prop} (H : vP D T N mi pc h l S (fun r => rtK 1 r.2)) (k : ∀ g z, Q (g, some (0, z))) : vP D T N mi pc h l S Q := vP_Q (fun r hr => by
  obtain ⟨g, v⟩ := r
  obtain ⟨z, hr⟩ := hr
  have hr : v = some (0, z) := hr
  subst hr
  exact k g z) H
theorem vK2_k {D : zD} {T : zT} {N mi pc : Nat} {h : zH} {l : List (Option zV)} {S : List zV} {Q : zR → Prop} (H : vP D T N mi pc h l S (fun r => rtK 2 r.2)) (k : ∀ g z, Q (g, some (1, z))) : vP D T N mi pc h l S Q := vP_Q (fun r hr => by
  obtain ⟨g, v⟩ := r
  obtain ⟨z, hr⟩ := hr
  have hr : v = some (1, z) := hr
  subst hr
  exact k g z) H
theorem hxy {w y : Int} (h0 : 0 ≤ w) (h8 : w ≤ 8) : y < 0 ∨ 5 < y ∨ (0 ≤ w * y ∧ w * y ≤ 40) := by
  by_cases a : y < 0
  · exact Or.inl a
  · by_cases b : 5 < y
    · exact Or.inr (Or.inl b)
    · have : y = 0 ∨ y = 1 ∨ y = 2 ∨ y = 3 ∨ y = 4 ∨ y = 5 := by omega
      refine Or.inr (Or.inr ?_)
      rcases this with rfl | rfl | rfl | rfl | rfl | rfl <;> omega
theorem vKU_k {D : zD} {T : zT} {N mi pc : Nat} {h h0 : zH} {l : List (Option zV)} {S : List zV} {Q : zR → Prop} (H : vP D T N mi pc h l S (fun r => rtK 2 r.2 ∧ ∀ j, r.1 126 j = h0 126 j)) (k : ∀ g z, (∀ j, g 126 j = h0 126 j) → Q (g, some (1, z))) : vP D T N mi pc h l S Q := vP_Q (fun r hr => by
  obtain ⟨g, v⟩ := r
  obtain ⟨⟨z, hr⟩, u⟩ := hr
  have hr : v = some (1, z) := hr
  subst hr
  exact k g z u) H
