theorem qs_bite0 {D : zD} {T : zT} (hT : hTab T) (hO : vOK T) {N : Nat} {h : zH} {Q : zR → Prop} {P : PT} (x y z : Int) (hv0 : zHv h) (p0 : h 126 0 = (0, P 0 0)) (p1 : h 126 1 = (0, P 0 1)) (p2 : h 126 2 = (0, P 0 2)) (p3 : h 126 3 = (0, P 0 3)) (lb : (0 ≤ P 0 0 ∧ P 0 0 ≤ 8) ∧ (0 ≤ P 0 1 ∧ P 0 1 ≤ 6) ∧ (0 ≤ P 0 2 ∧ P 0 2 ≤ 3) ∧ (0 ≤ P 0 3 ∧ P 0 3 ≤ 6))
    (k0 : (x < 0) → Q (zset (zset (zset h 121 1 (0, 0)) 121 0 (0, 0)) 121 0 (0, 2), some (0, -1)))
    (k1 : (0 ≤ x) → (((P 0 2) - 1) < x) → Q (zset (zset (zset h 121 1 (0, 0)) 121 0 (0, 0)) 121 0 (0, 2), some (0, -1)))
    (k2 : (0 ≤ x) → (x ≤ ((P 0 2) - 1)) → (y < 0) → Q (zset (zset (zset h 121 1 (0, 0)) 121 0 (0, 0)) 121 0 (0, 2), some (0, -1)))
    (k3 : (0 ≤ x) → (x ≤ ((P 0 2) - 1)) → (0 ≤ y) → (((P 0 0) - 1) < y) → Q (zset (zset (zset h 121 1 (0, 0)) 121 0 (0, 0)) 121 0 (0, 2), some (0, -1)))
    (k4 : (0 ≤ x) → (x ≤ ((P 0 2) - 1)) → (0 ≤ y) → (y ≤ ((P 0 0) - 1)) → (z < 0) → Q (zset (zset (zset h 121 1 (0, 0)) 121 0 (0, 0)) 121 0 (0, 2), some (0, -1)))
    (k5 : (0 ≤ x) → (x ≤ ((P 0 2) - 1)) → (0 ≤ y) → (y ≤ ((P 0 0) - 1)) → (0 ≤ z) → (((P 0 1) - 1) < z) → Q (zset (zset (zset h 121 1 (0, 0)) 121 0 (0, 0)) 121 0 (0, 2), some (0, -1)))
    (k6 : (0 ≤ x) → (x ≤ ((P 0 2) - 1)) → (0 ≤ y) → (y ≤ ((P 0 0) - 1)) → (0 ≤ z) → (z ≤ ((P 0 1) - 1)) → vP D T N 202 33 (zset (zset h 121 1 (0, 0)) 121 0 (0, 0)) [some (2, 121), some (0, x), some (0, y), some (0, z), none] [] Q) :
    vP D T N 202 0 h [some (2, 121), some (0, x), some (0, y), some (0, z), none] [] Q := by
  refine v_load (v := (2, 121)) (hz_X12_bite hT _ _ rfl) rfl rfl ?_
  refine v_push (0) (hz_X12_bite hT _ _ rfl) rfl ?_
  refine v_putf (r := 121) hO (hz_X12_bite hT _ _ rfl) rfl (fun hf1 => ?_)
  refine v_load (v := (2, 121)) (hz_X12_bite hT _ _ rfl) rfl rfl ?_
  refine v_push (0) (hz_X12_bite hT _ _ rfl) rfl ?_
  refine v_putf (r := 121) hO (hz_X12_bite hT _ _ rfl) rfl (fun hf2 => ?_)
  refine v_load (v := (2, 121)) (hz_X12_bite hT _ _ rfl) rfl rfl ?_
  refine v_load (v := (0, x)) (hz_X12_bite hT _ _ rfl) rfl rfl ?_
  refine v_call (w := 2) [some (2, 121), some (0, x)] hO (hz_X12_bite hT _ _ rfl) rfl rfl ?_
  refine v_load (v := (0, x)) (hz_X12_isCopy hT _ _ rfl) rfl rfl ?_
  refine v_i2l (hz_X12_isCopy hT _ _ rfl) ?_
  refine v_push (0) (hz_X12_isCopy hT _ _ rfl) rfl ?_
  refine v_load (v := (2, 121)) (hz_X12_isCopy hT _ _ rfl) rfl rfl ?_
  refine v_getR (c := 126) (r := 121) (hz_X12_isCopy hT _ _ rfl) rfl rfl rfl ?_
  refine v_push (2) (hz_X12_isCopy hT _ _ rfl) rfl ?_
  refine v_aldV (v := (0, (P 0 2))) (r := 126) (hz_X12_isCopy hT _ _ rfl) rfl rfl (fun _ _ _ => (Eq.trans (Eq.trans (zset_ne (fun c => absurd c.1 (by decide))) (zset_ne (fun c => absurd c.1 (by decide)))) (p2))) (fun ha3 hb4 => ?_)
  refine v_push (1) (hz_X12_isCopy hT _ _ rfl) rfl ?_
  refine v_bin (w := ((P 0 2) - 1)) (hz_X12_isCopy hT _ _ rfl) (hq_sub (by omega) (by omega)) ?_
  refine v_i2l (hz_X12_isCopy hT _ _ rfl) ?_
  refine v_call (w := 6) [some (1, x), none, some (1, 0), none, some (1, ((P 0 2) - 1)), none] hO (hz_X12_isCopy hT _ _ rfl) rfl rfl ?_
  refine v_load (v := (1, x)) (hz_X12_isIn hT _ _ rfl) rfl rfl ?_
  refine v_load (v := (1, 0)) (hz_X12_isIn hT _ _ rfl) rfl rfl ?_
  refine v_lif (hz_X12_isIn hT _ _ rfl) (hz_X12_isIn hT _ _ rfl) (fun hc5 => ?_) (fun hc5 => ?_)
  · have hc5 : x < 0 := hc5
    refine v_push (0) (hz_X12_isIn hT _ _ rfl) rfl ?_
    refine v_ret (hz_X12_isIn hT _ _ rfl) (Or.inl rfl) ?_
    show vP D T N 248 15 (zset (zset h 121 1 (0, 0)) 121 0 (0, 0)) [some (2, 121), some (0, x)] [(0, 0)] _
    refine v_ret (hz_X12_isCopy hT _ _ rfl) (Or.inl rfl) ?_
    show vP D T N 202 15 (zset (zset h 121 1 (0, 0)) 121 0 (0, 0)) [some (2, 121), some (0, x), some (0, y), some (0, z), none] [(0, 0)] _
    refine v_if (hz_X12_bite hT _ _ rfl) (fun _ => ?_) (fun hc6 => absurd (show (0 : Int) = 0 from (by omega)) hc6)
    refine v_load (v := (2, 121)) (hz_X12_bite hT _ _ rfl) rfl rfl ?_
    refine v_push (2) (hz_X12_bite hT _ _ rfl) rfl ?_
    refine v_call (w := 2) [some (2, 121), some (0, 2)] hO (hz_X12_bite hT _ _ rfl) rfl rfl ?_
    refine v_load (v := (2, 121)) (hz_X12_refuse hT _ _ rfl) rfl rfl ?_
    refine v_load (v := (0, 2)) (hz_X12_refuse hT _ _ rfl) rfl rfl ?_
    refine v_putf (r := 121) hO (hz_X12_refuse hT _ _ rfl) rfl (fun hf7 => ?_)
    refine v_push (-1) (hz_X12_refuse hT _ _ rfl) rfl ?_
    refine v_ret (hz_X12_refuse hT _ _ rfl) (Or.inl rfl) ?_
    show vP D T N 202 32 (zset (zset (zset h 121 1 (0, 0)) 121 0 (0, 0)) 121 0 (0, 2)) [some (2, 121), some (0, x), some (0, y), some (0, z), none] [(0, -1)] _
    refine v_ret (hz_X12_bite hT _ _ rfl) (Or.inl rfl) ?_
    exact k0 hc5
  · have hc5 : 0 ≤ x := Int.not_lt.mp hc5
    refine v_load (v := (1, x)) (hz_X12_isIn hT _ _ rfl) rfl rfl ?_
    refine v_load (v := (1, ((P 0 2) - 1))) (hz_X12_isIn hT _ _ rfl) rfl rfl ?_
    refine v_lif (hz_X12_isIn hT _ _ rfl) (hz_X12_isIn hT _ _ rfl) (fun hc8 => ?_) (fun hc8 => ?_)
    · have hc8 : ((P 0 2) - 1) < x := hc8
      refine v_push (0) (hz_X12_isIn hT _ _ rfl) rfl ?_
      refine v_ret (hz_X12_isIn hT _ _ rfl) (Or.inl rfl) ?_
      show vP D T N 248 15 (zset (zset h 121 1 (0, 0)) 121 0 (0, 0)) [some (2, 121), some (0, x)] [(0, 0)] _
      refine v_ret (hz_X12_isCopy hT _ _ rfl) (Or.inl rfl) ?_
      show vP D T N 202 15 (zset (zset h 121 1 (0, 0)) 121 0 (0, 0)) [some (2, 121), some (0, x), some (0, y), some (0, z), none] [(0, 0)] _
      refine v_if (hz_X12_bite hT _ _ rfl) (fun _ => ?_) (fun hc9 => absurd (show (0 : Int) = 0 from (by omega)) hc9)
      refine v_load (v := (2, 121)) (hz_X12_bite hT _ _ rfl) rfl rfl ?_
      refine v_push (2) (hz_X12_bite hT _ _ rfl) rfl ?_
      refine v_call (w := 2) [some (2, 121), some (0, 2)] hO (hz_X12_bite hT _ _ rfl) rfl rfl ?_
      refine v_load (v := (2, 121)) (hz_X12_refuse hT _ _ rfl) rfl rfl ?_
      refine v_load (v := (0, 2)) (hz_X12_refuse hT _ _ rfl) rfl rfl ?_
      refine v_putf (r := 121) hO (hz_X12_refuse hT _ _ rfl) rfl (fun hf10 => ?_)
      refine v_push (-1) (hz_X12_refuse hT _ _ rfl) rfl ?_
      refine v_ret (hz_X12_refuse hT _ _ rfl) (Or.inl rfl) ?_
      show vP D T N 202 32 (zset (zset (zset h 121 1 (0, 0)) 121 0 (0, 0)) 121 0 (0, 2)) [some (2, 121), some (0, x), some (0, y), some (0, z), none] [(0, -1)] _
      refine v_ret (hz_X12_bite hT _ _ rfl) (Or.inl rfl) ?_
      exact k1 hc5 hc8
    · have hc8 : x ≤ ((P 0 2) - 1) := Int.not_lt.mp hc8
      refine v_push (1) (hz_X12_isIn hT _ _ rfl) rfl ?_
      refine v_goto (hz_X12_isIn hT _ _ rfl) ?_
      refine v_ret (hz_X12_isIn hT _ _ rfl) (Or.inl rfl) ?_
      show vP D T N 248 15 (zset (zset h 121 1 (0, 0)) 121 0 (0, 0)) [some (2, 121), some (0, x)] [(0, 1)] _
      refine v_ret (hz_X12_isCopy hT _ _ rfl) (Or.inl rfl) ?_
      show vP D T N 202 15 (zset (zset h 121 1 (0, 0)) 121 0 (0, 0)) [some (2, 121), some (0, x), some (0, y), some (0, z), none] [(0, 1)] _
      refine v_if (hz_X12_bite hT _ _ rfl) (fun hc11 => absurd (show (1 : Int) = 0 from hc11) (by omega)) (fun _ => ?_)
      refine v_load (v := (2, 121)) (hz_X12_bite hT _ _ rfl) rfl rfl ?_
      refine v_load (v := (0, y)) (hz_X12_bite hT _ _ rfl) rfl rfl ?_
      refine v_load (v := (0, z)) (hz_X12_bite hT _ _ rfl) rfl rfl ?_
      refine v_call (w := 3) [some (2, 121), some (0, y), some (0, z)] hO (hz_X12_bite hT _ _ rfl) rfl rfl ?_
      refine v_load (v := (0, y)) (hz_X12_isCell hT _ _ rfl) rfl rfl ?_
      refine v_i2l (hz_X12_isCell hT _ _ rfl) ?_
      refine v_push (0) (hz_X12_isCell hT _ _ rfl) rfl ?_
      refine v_load (v := (2, 121)) (hz_X12_isCell hT _ _ rfl) rfl rfl ?_
      refine v_getR (c := 126) (r := 121) (hz_X12_isCell hT _ _ rfl) rfl rfl rfl ?_
      refine v_push (0) (hz_X12_isCell hT _ _ rfl) rfl ?_
      refine v_aldV (v := (0, (P 0 0))) (r := 126) (hz_X12_isCell hT _ _ rfl) rfl rfl (fun _ _ _ => (Eq.trans (Eq.trans (zset_ne (fun c => absurd c.1 (by decide))) (zset_ne (fun c => absurd c.1 (by decide)))) (p0))) (fun ha12 hb13 => ?_)
      refine v_push (1) (hz_X12_isCell hT _ _ rfl) rfl ?_
      refine v_bin (w := ((P 0 0) - 1)) (hz_X12_isCell hT _ _ rfl) (hq_sub (by omega) (by omega)) ?_
      refine v_i2l (hz_X12_isCell hT _ _ rfl) ?_
      refine v_call (w := 6) [some (1, y), none, some (1, 0), none, some (1, ((P 0 0) - 1)), none] hO (hz_X12_isCell hT _ _ rfl) rfl rfl ?_
      refine v_load (v := (1, y)) (hz_X12_isIn hT _ _ rfl) rfl rfl ?_
      refine v_load (v := (1, 0)) (hz_X12_isIn hT _ _ rfl) rfl rfl ?_
      refine v_lif (hz_X12_isIn hT _ _ rfl) (hz_X12_isIn hT _ _ rfl) (fun hc14 => ?_) (fun hc14 => ?_)
      · have hc14 : y < 0 := hc14
        refine v_push (0) (hz_X12_isIn hT _ _ rfl) rfl ?_
        refine v_ret (hz_X12_isIn hT _ _ rfl) (Or.inl rfl) ?_
        show vP D T N 244 15 (zset (zset h 121 1 (0, 0)) 121 0 (0, 0)) [some (2, 121), some (0, y), some (0, z)] [(0, 0)] _
        refine v_if (hz_X12_isCell hT _ _ rfl) (fun _ => ?_) (fun hc15 => absurd (show (0 : Int) = 0 from (by omega)) hc15)
        refine v_push (0) (hz_X12_isCell hT _ _ rfl) rfl ?_
        refine v_ret (hz_X12_isCell hT _ _ rfl) (Or.inl rfl) ?_
        show vP D T N 202 24 (zset (zset h 121 1 (0, 0)) 121 0 (0, 0)) [some (2, 121), some (0, x), some (0, y), some (0, z), none] [(0, 0)] _
        refine v_if (hz_X12_bite hT _ _ rfl) (fun _ => ?_) (fun hc16 => absurd (show (0 : Int) = 0 from (by omega)) hc16)
        refine v_load (v := (2, 121)) (hz_X12_bite hT _ _ rfl) rfl rfl ?_
        refine v_push (2) (hz_X12_bite hT _ _ rfl) rfl ?_
        refine v_call (w := 2) [some (2, 121), some (0, 2)] hO (hz_X12_bite hT _ _ rfl) rfl rfl ?_
        refine v_load (v := (2, 121)) (hz_X12_refuse hT _ _ rfl) rfl rfl ?_
        refine v_load (v := (0, 2)) (hz_X12_refuse hT _ _ rfl) rfl rfl ?_
        refine v_putf (r := 121) hO (hz_X12_refuse hT _ _ rfl) rfl (fun hf17 => ?_)
        refine v_push (-1) (hz_X12_refuse hT _ _ rfl) rfl ?_
        refine v_ret (hz_X12_refuse hT _ _ rfl) (Or.inl rfl) ?_
        show vP D T N 202 32 (zset (zset (zset h 121 1 (0, 0)) 121 0 (0, 0)) 121 0 (0, 2)) [some (2, 121), some (0, x), some (0, y), some (0, z), none] [(0, -1)] _
        refine v_ret (hz_X12_bite hT _ _ rfl) (Or.inl rfl) ?_
        exact k2 hc5 hc8 hc14
      · have hc14 : 0 ≤ y := Int.not_lt.mp hc14
        refine v_load (v := (1, y)) (hz_X12_isIn hT _ _ rfl) rfl rfl ?_
        refine v_load (v := (1, ((P 0 0) - 1))) (hz_X12_isIn hT _ _ rfl) rfl rfl ?_
        refine v_lif (hz_X12_isIn hT _ _ rfl) (hz_X12_isIn hT _ _ rfl) (fun hc18 => ?_) (fun hc18 => ?_)
        · have hc18 : ((P 0 0) - 1) < y := hc18
          refine v_push (0) (hz_X12_isIn hT _ _ rfl) rfl ?_
          refine v_ret (hz_X12_isIn hT _ _ rfl) (Or.inl rfl) ?_
          show vP D T N 244 15 (zset (zset h 121 1 (0, 0)) 121 0 (0, 0)) [some (2, 121), some (0, y), some (0, z)] [(0, 0)] _
          refine v_if (hz_X12_isCell hT _ _ rfl) (fun _ => ?_) (fun hc19 => absurd (show (0 : Int) = 0 from (by omega)) hc19)
          refine v_push (0) (hz_X12_isCell hT _ _ rfl) rfl ?_
          refine v_ret (hz_X12_isCell hT _ _ rfl) (Or.inl rfl) ?_
          show vP D T N 202 24 (zset (zset h 121 1 (0, 0)) 121 0 (0, 0)) [some (2, 121), some (0, x), some (0, y), some (0, z), none] [(0, 0)] _
          refine v_if (hz_X12_bite hT _ _ rfl) (fun _ => ?_) (fun hc20 => absurd (show (0 : Int) = 0 from (by omega)) hc20)
          refine v_load (v := (2, 121)) (hz_X12_bite hT _ _ rfl) rfl rfl ?_
          refine v_push (2) (hz_X12_bite hT _ _ rfl) rfl ?_
          refine v_call (w := 2) [some (2, 121), some (0, 2)] hO (hz_X12_bite hT _ _ rfl) rfl rfl ?_
          refine v_load (v := (2, 121)) (hz_X12_refuse hT _ _ rfl) rfl rfl ?_
          refine v_load (v := (0, 2)) (hz_X12_refuse hT _ _ rfl) rfl rfl ?_
          refine v_putf (r := 121) hO (hz_X12_refuse hT _ _ rfl) rfl (fun hf21 => ?_)
          refine v_push (-1) (hz_X12_refuse hT _ _ rfl) rfl ?_
          refine v_ret (hz_X12_refuse hT _ _ rfl) (Or.inl rfl) ?_
          show vP D T N 202 32 (zset (zset (zset h 121 1 (0, 0)) 121 0 (0, 0)) 121 0 (0, 2)) [some (2, 121), some (0, x), some (0, y), some (0, z), none] [(0, -1)] _
          refine v_ret (hz_X12_bite hT _ _ rfl) (Or.inl rfl) ?_
          exact k3 hc5 hc8 hc14 hc18
        · have hc18 : y ≤ ((P 0 0) - 1) := Int.not_lt.mp hc18
          refine v_push (1) (hz_X12_isIn hT _ _ rfl) rfl ?_
          refine v_goto (hz_X12_isIn hT _ _ rfl) ?_
          refine v_ret (hz_X12_isIn hT _ _ rfl) (Or.inl rfl) ?_
          show vP D T N 244 15 (zset (zset h 121 1 (0, 0)) 121 0 (0, 0)) [some (2, 121), some (0, y), some (0, z)] [(0, 1)] _
          refine v_if (hz_X12_isCell hT _ _ rfl) (fun hc22 => absurd (show (1 : Int) = 0 from hc22) (by omega)) (fun _ => ?_)
          refine v_load (v := (0, z)) (hz_X12_isCell hT _ _ rfl) rfl rfl ?_
          refine v_i2l (hz_X12_isCell hT _ _ rfl) ?_
          refine v_push (0) (hz_X12_isCell hT _ _ rfl) rfl ?_
          refine v_load (v := (2, 121)) (hz_X12_isCell hT _ _ rfl) rfl rfl ?_
          refine v_getR (c := 126) (r := 121) (hz_X12_isCell hT _ _ rfl) rfl rfl rfl ?_
          refine v_push (1) (hz_X12_isCell hT _ _ rfl) rfl ?_
          refine v_aldV (v := (0, (P 0 1))) (r := 126) (hz_X12_isCell hT _ _ rfl) rfl rfl (fun _ _ _ => (Eq.trans (Eq.trans (zset_ne (fun c => absurd c.1 (by decide))) (zset_ne (fun c => absurd c.1 (by decide)))) (p1))) (fun ha23 hb24 => ?_)
          refine v_push (1) (hz_X12_isCell hT _ _ rfl) rfl ?_
          refine v_bin (w := ((P 0 1) - 1)) (hz_X12_isCell hT _ _ rfl) (hq_sub (by omega) (by omega)) ?_
          refine v_i2l (hz_X12_isCell hT _ _ rfl) ?_
          refine v_call (w := 6) [some (1, z), none, some (1, 0), none, some (1, ((P 0 1) - 1)), none] hO (hz_X12_isCell hT _ _ rfl) rfl rfl ?_
          refine v_load (v := (1, z)) (hz_X12_isIn hT _ _ rfl) rfl rfl ?_
          refine v_load (v := (1, 0)) (hz_X12_isIn hT _ _ rfl) rfl rfl ?_
          refine v_lif (hz_X12_isIn hT _ _ rfl) (hz_X12_isIn hT _ _ rfl) (fun hc25 => ?_) (fun hc25 => ?_)
          · have hc25 : z < 0 := hc25
            refine v_push (0) (hz_X12_isIn hT _ _ rfl) rfl ?_
            refine v_ret (hz_X12_isIn hT _ _ rfl) (Or.inl rfl) ?_
            show vP D T N 244 33 (zset (zset h 121 1 (0, 0)) 121 0 (0, 0)) [some (2, 121), some (0, y), some (0, z)] [(0, 0)] _
            refine v_if (hz_X12_isCell hT _ _ rfl) (fun _ => ?_) (fun hc26 => absurd (show (0 : Int) = 0 from (by omega)) hc26)
            refine v_push (0) (hz_X12_isCell hT _ _ rfl) rfl ?_
            refine v_ret (hz_X12_isCell hT _ _ rfl) (Or.inl rfl) ?_
            show vP D T N 202 24 (zset (zset h 121 1 (0, 0)) 121 0 (0, 0)) [some (2, 121), some (0, x), some (0, y), some (0, z), none] [(0, 0)] _
            refine v_if (hz_X12_bite hT _ _ rfl) (fun _ => ?_) (fun hc27 => absurd (show (0 : Int) = 0 from (by omega)) hc27)
            refine v_load (v := (2, 121)) (hz_X12_bite hT _ _ rfl) rfl rfl ?_
            refine v_push (2) (hz_X12_bite hT _ _ rfl) rfl ?_
            refine v_call (w := 2) [some (2, 121), some (0, 2)] hO (hz_X12_bite hT _ _ rfl) rfl rfl ?_
            refine v_load (v := (2, 121)) (hz_X12_refuse hT _ _ rfl) rfl rfl ?_
            refine v_load (v := (0, 2)) (hz_X12_refuse hT _ _ rfl) rfl rfl ?_
            refine v_putf (r := 121) hO (hz_X12_refuse hT _ _ rfl) rfl (fun hf28 => ?_)
            refine v_push (-1) (hz_X12_refuse hT _ _ rfl) rfl ?_
            refine v_ret (hz_X12_refuse hT _ _ rfl) (Or.inl rfl) ?_
            show vP D T N 202 32 (zset (zset (zset h 121 1 (0, 0)) 121 0 (0, 0)) 121 0 (0, 2)) [some (2, 121), some (0, x), some (0, y), some (0, z), none] [(0, -1)] _
            refine v_ret (hz_X12_bite hT _ _ rfl) (Or.inl rfl) ?_
            exact k4 hc5 hc8 hc14 hc18 hc25
          · have hc25 : 0 ≤ z := Int.not_lt.mp hc25
            refine v_load (v := (1, z)) (hz_X12_isIn hT _ _ rfl) rfl rfl ?_
            refine v_load (v := (1, ((P 0 1) - 1))) (hz_X12_isIn hT _ _ rfl) rfl rfl ?_
            refine v_lif (hz_X12_isIn hT _ _ rfl) (hz_X12_isIn hT _ _ rfl) (fun hc29 => ?_) (fun hc29 => ?_)
            · have hc29 : ((P 0 1) - 1) < z := hc29
              refine v_push (0) (hz_X12_isIn hT _ _ rfl) rfl ?_
              refine v_ret (hz_X12_isIn hT _ _ rfl) (Or.inl rfl) ?_
              show vP D T N 244 33 (zset (zset h 121 1 (0, 0)) 121 0 (0, 0)) [some (2, 121), some (0, y), some (0, z)] [(0, 0)] _
              refine v_if (hz_X12_isCell hT _ _ rfl) (fun _ => ?_) (fun hc30 => absurd (show (0 : Int) = 0 from (by omega)) hc30)
              refine v_push (0) (hz_X12_isCell hT _ _ rfl) rfl ?_
              refine v_ret (hz_X12_isCell hT _ _ rfl) (Or.inl rfl) ?_
              show vP D T N 202 24 (zset (zset h 121 1 (0, 0)) 121 0 (0, 0)) [some (2, 121), some (0, x), some (0, y), some (0, z), none] [(0, 0)] _
              refine v_if (hz_X12_bite hT _ _ rfl) (fun _ => ?_) (fun hc31 => absurd (show (0 : Int) = 0 from (by omega)) hc31)
              refine v_load (v := (2, 121)) (hz_X12_bite hT _ _ rfl) rfl rfl ?_
              refine v_push (2) (hz_X12_bite hT _ _ rfl) rfl ?_
              refine v_call (w := 2) [some (2, 121), some (0, 2)] hO (hz_X12_bite hT _ _ rfl) rfl rfl ?_
              refine v_load (v := (2, 121)) (hz_X12_refuse hT _ _ rfl) rfl rfl ?_
              refine v_load (v := (0, 2)) (hz_X12_refuse hT _ _ rfl) rfl rfl ?_
              refine v_putf (r := 121) hO (hz_X12_refuse hT _ _ rfl) rfl (fun hf32 => ?_)
              refine v_push (-1) (hz_X12_refuse hT _ _ rfl) rfl ?_
              refine v_ret (hz_X12_refuse hT _ _ rfl) (Or.inl rfl) ?_
              show vP D T N 202 32 (zset (zset (zset h 121 1 (0, 0)) 121 0 (0, 0)) 121 0 (0, 2)) [some (2, 121), some (0, x), some (0, y), some (0, z), none] [(0, -1)] _
              refine v_ret (hz_X12_bite hT _ _ rfl) (Or.inl rfl) ?_
              exact k5 hc5 hc8 hc14 hc18 hc25 hc29
            · have hc29 : z ≤ ((P 0 1) - 1) := Int.not_lt.mp hc29
              refine v_push (1) (hz_X12_isIn hT _ _ rfl) rfl ?_
              refine v_goto (hz_X12_isIn hT _ _ rfl) ?_
              refine v_ret (hz_X12_isIn hT _ _ rfl) (Or.inl rfl) ?_
              show vP D T N 244 33 (zset (zset h 121 1 (0, 0)) 121 0 (0, 0)) [some (2, 121), some (0, y), some (0, z)] [(0, 1)] _
              refine v_if (hz_X12_isCell hT _ _ rfl) (fun hc33 => absurd (show (1 : Int) = 0 from hc33) (by omega)) (fun _ => ?_)
              refine v_push (1) (hz_X12_isCell hT _ _ rfl) rfl ?_
              refine v_goto (hz_X12_isCell hT _ _ rfl) ?_
              refine v_ret (hz_X12_isCell hT _ _ rfl) (Or.inl rfl) ?_
              show vP D T N 202 24 (zset (zset h 121 1 (0, 0)) 121 0 (0, 0)) [some (2, 121), some (0, x), some (0, y), some (0, z), none] [(0, 1)] _
              refine v_if (hz_X12_bite hT _ _ rfl) (fun hc34 => absurd (show (1 : Int) = 0 from hc34) (by omega)) (fun _ => ?_)
              exact k6 hc5 hc8 hc14 hc18 hc25 hc29
theorem qs_bite33 {D : zD} {T : zT} (hT : hTab T) (hO : vOK T) {N : Nat} {h : zH} {Q : zR → Prop} {P : PT} {j u v : Nat} (hv0 : zHv h) (p0 : h 126 0 = (0, P 0 0)) (lb : lB P) (bu : u < 8) (bv : v < 6)
    (k0 : vP D T N 203 0 h [some (2, 121), some (0, (j : Int)), some (0, ((P 0 0) * (v : Int) + (u : Int)))] [] (fun r1 => vP D T N 202 44 r1.1 [some (2, 121), some (0, (j : Int)), some (0, (u : Int)), some (0, (v : Int)), none] (zpush r1.2 []) Q)) :
    vP D T N 202 33 h [some (2, 121), some (0, (j : Int)), some (0, (u : Int)), some (0, (v : Int)), none] [] Q := by
  refine v_load (v := (2, 121)) (hz_X12_bite hT _ _ rfl) rfl rfl ?_
  refine v_load (v := (0, (j : Int))) (hz_X12_bite hT _ _ rfl) rfl rfl ?_
  refine v_load (v := (2, 121)) (hz_X12_bite hT _ _ rfl) rfl rfl ?_
  refine v_load (v := (0, (u : Int))) (hz_X12_bite hT _ _ rfl) rfl rfl ?_
  refine v_load (v := (0, (v : Int))) (hz_X12_bite hT _ _ rfl) rfl rfl ?_
  refine v_call (w := 3) [some (2, 121), some (0, (u : Int)), some (0, (v : Int))] hO (hz_X12_bite hT _ _ rfl) rfl rfl (rb_at2 hT hO ((u : Int)) ((v : Int)) (by omega) (by omega) p0 lb ?_)
  show vP D T N 202 41 h [some (2, 121), some (0, (j : Int)), some (0, (u : Int)), some (0, (v : Int)), none] [(0, ((P 0 0) * (v : Int) + (u : Int))), (0, (j : Int)), (2, 121)] _
  refine v_call (w := 3) [some (2, 121), some (0, (j : Int)), some (0, ((P 0 0) * (v : Int) + (u : Int)))] hO (hz_X12_bite hT _ _ rfl) rfl rfl ?_
  exact k0 
theorem qs_mould0 {D : zD} {T : zT} (hT : hTab T) (hO : vOK T) {N : Nat} {h : zH} {Q : zR → Prop} {P : PT} (x y z : Int) (hv0 : zHv h) (p0 : h 126 0 = (0, P 0 0)) (p1 : h 126 1 = (0, P 0 1)) (p2 : h 126 2 = (0, P 0 2)) (p3 : h 126 3 = (0, P 0 3)) (lb : (0 ≤ P 0 0 ∧ P 0 0 ≤ 8) ∧ (0 ≤ P 0 1 ∧ P 0 1 ≤ 6) ∧ (0 ≤ P 0 2 ∧ P 0 2 ≤ 3) ∧ (0 ≤ P 0 3 ∧ P 0 3 ≤ 6))
    (k0 : (x < 0) → Q (zset (zset (zset h 121 1 (0, 0)) 121 0 (0, 0)) 121 0 (0, 2), some (0, 0)))
    (k1 : (0 ≤ x) → (((P 0 2) - 1) < x) → Q (zset (zset (zset h 121 1 (0, 0)) 121 0 (0, 0)) 121 0 (0, 2), some (0, 0)))
    (k2 : (0 ≤ x) → (x ≤ ((P 0 2) - 1)) → (y < 0) → Q (zset (zset (zset h 121 1 (0, 0)) 121 0 (0, 0)) 121 0 (0, 2), some (0, 0)))
    (k3 : (0 ≤ x) → (x ≤ ((P 0 2) - 1)) → (0 ≤ y) → (((P 0 0) - 1) < y) → Q (zset (zset (zset h 121 1 (0, 0)) 121 0 (0, 0)) 121 0 (0, 2), some (0, 0)))
    (k4 : (0 ≤ x) → (x ≤ ((P 0 2) - 1)) → (0 ≤ y) → (y ≤ ((P 0 0) - 1)) → (z < 0) → Q (zset (zset (zset h 121 1 (0, 0)) 121 0 (0, 0)) 121 0 (0, 2), some (0, 0)))
    (k5 : (0 ≤ x) → (x ≤ ((P 0 2) - 1)) → (0 ≤ y) → (y ≤ ((P 0 0) - 1)) → (0 ≤ z) → (((P 0 1) - 1) < z) → Q (zset (zset (zset h 121 1 (0, 0)) 121 0 (0, 0)) 121 0 (0, 2), some (0, 0)))
    (k6 : (0 ≤ x) → (x ≤ ((P 0 2) - 1)) → (0 ≤ y) → (y ≤ ((P 0 0) - 1)) → (0 ≤ z) → (z ≤ ((P 0 1) - 1)) → vP D T N 279 33 (zset (zset h 121 1 (0, 0)) 121 0 (0, 0)) [some (2, 121), some (0, x), some (0, y), some (0, z)] [] Q) :
    vP D T N 279 0 h [some (2, 121), some (0, x), some (0, y), some (0, z)] [] Q := by
  refine v_load (v := (2, 121)) (hz_X12_mould hT _ _ rfl) rfl rfl ?_
  refine v_push (0) (hz_X12_mould hT _ _ rfl) rfl ?_
  refine v_putf (r := 121) hO (hz_X12_mould hT _ _ rfl) rfl (fun hf1 => ?_)
  refine v_load (v := (2, 121)) (hz_X12_mould hT _ _ rfl) rfl rfl ?_
  refine v_push (0) (hz_X12_mould hT _ _ rfl) rfl ?_
  refine v_putf (r := 121) hO (hz_X12_mould hT _ _ rfl) rfl (fun hf2 => ?_)
  refine v_load (v := (2, 121)) (hz_X12_mould hT _ _ rfl) rfl rfl ?_
  refine v_load (v := (0, x)) (hz_X12_mould hT _ _ rfl) rfl rfl ?_
  refine v_call (w := 2) [some (2, 121), some (0, x)] hO (hz_X12_mould hT _ _ rfl) rfl rfl ?_
  refine v_load (v := (0, x)) (hz_X12_isCopy hT _ _ rfl) rfl rfl ?_
  refine v_i2l (hz_X12_isCopy hT _ _ rfl) ?_
  refine v_push (0) (hz_X12_isCopy hT _ _ rfl) rfl ?_
  refine v_load (v := (2, 121)) (hz_X12_isCopy hT _ _ rfl) rfl rfl ?_
  refine v_getR (c := 126) (r := 121) (hz_X12_isCopy hT _ _ rfl) rfl rfl rfl ?_
  refine v_push (2) (hz_X12_isCopy hT _ _ rfl) rfl ?_
  refine v_aldV (v := (0, (P 0 2))) (r := 126) (hz_X12_isCopy hT _ _ rfl) rfl rfl (fun _ _ _ => (Eq.trans (Eq.trans (zset_ne (fun c => absurd c.1 (by decide))) (zset_ne (fun c => absurd c.1 (by decide)))) (p2))) (fun ha3 hb4 => ?_)
  refine v_push (1) (hz_X12_isCopy hT _ _ rfl) rfl ?_
  refine v_bin (w := ((P 0 2) - 1)) (hz_X12_isCopy hT _ _ rfl) (hq_sub (by omega) (by omega)) ?_
  refine v_i2l (hz_X12_isCopy hT _ _ rfl) ?_
  refine v_call (w := 6) [some (1, x), none, some (1, 0), none, some (1, ((P 0 2) - 1)), none] hO (hz_X12_isCopy hT _ _ rfl) rfl rfl ?_
  refine v_load (v := (1, x)) (hz_X12_isIn hT _ _ rfl) rfl rfl ?_
  refine v_load (v := (1, 0)) (hz_X12_isIn hT _ _ rfl) rfl rfl ?_
  refine v_lif (hz_X12_isIn hT _ _ rfl) (hz_X12_isIn hT _ _ rfl) (fun hc5 => ?_) (fun hc5 => ?_)
  · have hc5 : x < 0 := hc5
    refine v_push (0) (hz_X12_isIn hT _ _ rfl) rfl ?_
    refine v_ret (hz_X12_isIn hT _ _ rfl) (Or.inl rfl) ?_
    show vP D T N 248 15 (zset (zset h 121 1 (0, 0)) 121 0 (0, 0)) [some (2, 121), some (0, x)] [(0, 0)] _
    refine v_ret (hz_X12_isCopy hT _ _ rfl) (Or.inl rfl) ?_
    show vP D T N 279 15 (zset (zset h 121 1 (0, 0)) 121 0 (0, 0)) [some (2, 121), some (0, x), some (0, y), some (0, z)] [(0, 0)] _
    refine v_if (hz_X12_mould hT _ _ rfl) (fun _ => ?_) (fun hc6 => absurd (show (0 : Int) = 0 from (by omega)) hc6)
    refine v_load (v := (2, 121)) (hz_X12_mould hT _ _ rfl) rfl rfl ?_
    refine v_push (2) (hz_X12_mould hT _ _ rfl) rfl ?_
    refine v_call (w := 2) [some (2, 121), some (0, 2)] hO (hz_X12_mould hT _ _ rfl) rfl rfl ?_
    refine v_load (v := (2, 121)) (hz_X12_no hT _ _ rfl) rfl rfl ?_
    refine v_load (v := (0, 2)) (hz_X12_no hT _ _ rfl) rfl rfl ?_
    refine v_putf (r := 121) hO (hz_X12_no hT _ _ rfl) rfl (fun hf7 => ?_)
    refine v_push (0) (hz_X12_no hT _ _ rfl) rfl ?_
    refine v_ret (hz_X12_no hT _ _ rfl) (Or.inl rfl) ?_
    show vP D T N 279 32 (zset (zset (zset h 121 1 (0, 0)) 121 0 (0, 0)) 121 0 (0, 2)) [some (2, 121), some (0, x), some (0, y), some (0, z)] [(0, 0)] _
    refine v_ret (hz_X12_mould hT _ _ rfl) (Or.inl rfl) ?_
    exact k0 hc5
  · have hc5 : 0 ≤ x := Int.not_lt.mp hc5
    refine v_load (v := (1, x)) (hz_X12_isIn hT _ _ rfl) rfl rfl ?_
    refine v_load (v := (1, ((P 0 2) - 1))) (hz_X12_isIn hT _ _ rfl) rfl rfl ?_
    refine v_lif (hz_X12_isIn hT _ _ rfl) (hz_X12_isIn hT _ _ rfl) (fun hc8 => ?_) (fun hc8 => ?_)
    · have hc8 : ((P 0 2) - 1) < x := hc8
      refine v_push (0) (hz_X12_isIn hT _ _ rfl) rfl ?_
      refine v_ret (hz_X12_isIn hT _ _ rfl) (Or.inl rfl) ?_
      show vP D T N 248 15 (zset (zset h 121 1 (0, 0)) 121 0 (0, 0)) [some (2, 121), some (0, x)] [(0, 0)] _
      refine v_ret (hz_X12_isCopy hT _ _ rfl) (Or.inl rfl) ?_
      show vP D T N 279 15 (zset (zset h 121 1 (0, 0)) 121 0 (0, 0)) [some (2, 121), some (0, x), some (0, y), some (0, z)] [(0, 0)] _
      refine v_if (hz_X12_mould hT _ _ rfl) (fun _ => ?_) (fun hc9 => absurd (show (0 : Int) = 0 from (by omega)) hc9)
      refine v_load (v := (2, 121)) (hz_X12_mould hT _ _ rfl) rfl rfl ?_
      refine v_push (2) (hz_X12_mould hT _ _ rfl) rfl ?_
      refine v_call (w := 2) [some (2, 121), some (0, 2)] hO (hz_X12_mould hT _ _ rfl) rfl rfl ?_
      refine v_load (v := (2, 121)) (hz_X12_no hT _ _ rfl) rfl rfl ?_
      refine v_load (v := (0, 2)) (hz_X12_no hT _ _ rfl) rfl rfl ?_
      refine v_putf (r := 121) hO (hz_X12_no hT _ _ rfl) rfl (fun hf10 => ?_)
      refine v_push (0) (hz_X12_no hT _ _ rfl) rfl ?_
      refine v_ret (hz_X12_no hT _ _ rfl) (Or.inl rfl) ?_
      show vP D T N 279 32 (zset (zset (zset h 121 1 (0, 0)) 121 0 (0, 0)) 121 0 (0, 2)) [some (2, 121), some (0, x), some (0, y), some (0, z)] [(0, 0)] _
      refine v_ret (hz_X12_mould hT _ _ rfl) (Or.inl rfl) ?_
      exact k1 hc5 hc8
    · have hc8 : x ≤ ((P 0 2) - 1) := Int.not_lt.mp hc8
      refine v_push (1) (hz_X12_isIn hT _ _ rfl) rfl ?_
      refine v_goto (hz_X12_isIn hT _ _ rfl) ?_
      refine v_ret (hz_X12_isIn hT _ _ rfl) (Or.inl rfl) ?_
      show vP D T N 248 15 (zset (zset h 121 1 (0, 0)) 121 0 (0, 0)) [some (2, 121), some (0, x)] [(0, 1)] _
      refine v_ret (hz_X12_isCopy hT _ _ rfl) (Or.inl rfl) ?_
      show vP D T N 279 15 (zset (zset h 121 1 (0, 0)) 121 0 (0, 0)) [some (2, 121), some (0, x), some (0, y), some (0, z)] [(0, 1)] _
      refine v_if (hz_X12_mould hT _ _ rfl) (fun hc11 => absurd (show (1 : Int) = 0 from hc11) (by omega)) (fun _ => ?_)
      refine v_load (v := (2, 121)) (hz_X12_mould hT _ _ rfl) rfl rfl ?_
      refine v_load (v := (0, y)) (hz_X12_mould hT _ _ rfl) rfl rfl ?_
      refine v_load (v := (0, z)) (hz_X12_mould hT _ _ rfl) rfl rfl ?_
      refine v_call (w := 3) [some (2, 121), some (0, y), some (0, z)] hO (hz_X12_mould hT _ _ rfl) rfl rfl ?_
      refine v_load (v := (0, y)) (hz_X12_isCell hT _ _ rfl) rfl rfl ?_
      refine v_i2l (hz_X12_isCell hT _ _ rfl) ?_
      refine v_push (0) (hz_X12_isCell hT _ _ rfl) rfl ?_
      refine v_load (v := (2, 121)) (hz_X12_isCell hT _ _ rfl) rfl rfl ?_
      refine v_getR (c := 126) (r := 121) (hz_X12_isCell hT _ _ rfl) rfl rfl rfl ?_
      refine v_push (0) (hz_X12_isCell hT _ _ rfl) rfl ?_
      refine v_aldV (v := (0, (P 0 0))) (r := 126) (hz_X12_isCell hT _ _ rfl) rfl rfl (fun _ _ _ => (Eq.trans (Eq.trans (zset_ne (fun c => absurd c.1 (by decide))) (zset_ne (fun c => absurd c.1 (by decide)))) (p0))) (fun ha12 hb13 => ?_)
      refine v_push (1) (hz_X12_isCell hT _ _ rfl) rfl ?_
      refine v_bin (w := ((P 0 0) - 1)) (hz_X12_isCell hT _ _ rfl) (hq_sub (by omega) (by omega)) ?_
      refine v_i2l (hz_X12_isCell hT _ _ rfl) ?_
      refine v_call (w := 6) [some (1, y), none, some (1, 0), none, some (1, ((P 0 0) - 1)), none] hO (hz_X12_isCell hT _ _ rfl) rfl rfl ?_
      refine v_load (v := (1, y)) (hz_X12_isIn hT _ _ rfl) rfl rfl ?_
      refine v_load (v := (1, 0)) (hz_X12_isIn hT _ _ rfl) rfl rfl ?_
      refine v_lif (hz_X12_isIn hT _ _ rfl) (hz_X12_isIn hT _ _ rfl) (fun hc14 => ?_) (fun hc14 => ?_)
      · have hc14 : y < 0 := hc14
        refine v_push (0) (hz_X12_isIn hT _ _ rfl) rfl ?_
        refine v_ret (hz_X12_isIn hT _ _ rfl) (Or.inl rfl) ?_
        show vP D T N 244 15 (zset (zset h 121 1 (0, 0)) 121 0 (0, 0)) [some (2, 121), some (0, y), some (0, z)] [(0, 0)] _
        refine v_if (hz_X12_isCell hT _ _ rfl) (fun _ => ?_) (fun hc15 => absurd (show (0 : Int) = 0 from (by omega)) hc15)
        refine v_push (0) (hz_X12_isCell hT _ _ rfl) rfl ?_
        refine v_ret (hz_X12_isCell hT _ _ rfl) (Or.inl rfl) ?_
        show vP D T N 279 24 (zset (zset h 121 1 (0, 0)) 121 0 (0, 0)) [some (2, 121), some (0, x), some (0, y), some (0, z)] [(0, 0)] _
        refine v_if (hz_X12_mould hT _ _ rfl) (fun _ => ?_) (fun hc16 => absurd (show (0 : Int) = 0 from (by omega)) hc16)
        refine v_load (v := (2, 121)) (hz_X12_mould hT _ _ rfl) rfl rfl ?_
        refine v_push (2) (hz_X12_mould hT _ _ rfl) rfl ?_
        refine v_call (w := 2) [some (2, 121), some (0, 2)] hO (hz_X12_mould hT _ _ rfl) rfl rfl ?_
        refine v_load (v := (2, 121)) (hz_X12_no hT _ _ rfl) rfl rfl ?_
        refine v_load (v := (0, 2)) (hz_X12_no hT _ _ rfl) rfl rfl ?_
        refine v_putf (r := 121) hO (hz_X12_no hT _ _ rfl) rfl (fun hf17 => ?_)
        refine v_push (0) (hz_X12_no hT _ _ rfl) rfl ?_
        refine v_ret (hz_X12_no hT _ _ rfl) (Or.inl rfl) ?_
        show vP D T N 279 32 (zset (zset (zset h 121 1 (0, 0)) 121 0 (0, 0)) 121 0 (0, 2)) [some (2, 121), some (0, x), some (0, y), some (0, z)] [(0, 0)] _
        refine v_ret (hz_X12_mould hT _ _ rfl) (Or.inl rfl) ?_
        exact k2 hc5 hc8 hc14
      · have hc14 : 0 ≤ y := Int.not_lt.mp hc14
        refine v_load (v := (1, y)) (hz_X12_isIn hT _ _ rfl) rfl rfl ?_
        refine v_load (v := (1, ((P 0 0) - 1))) (hz_X12_isIn hT _ _ rfl) rfl rfl ?_
        refine v_lif (hz_X12_isIn hT _ _ rfl) (hz_X12_isIn hT _ _ rfl) (fun hc18 => ?_) (fun hc18 => ?_)
        · have hc18 : ((P 0 0) - 1) < y := hc18
          refine v_push (0) (hz_X12_isIn hT _ _ rfl) rfl ?_
          refine v_ret (hz_X12_isIn hT _ _ rfl) (Or.inl rfl) ?_
          show vP D T N 244 15 (zset (zset h 121 1 (0, 0)) 121 0 (0, 0)) [some (2, 121), some (0, y), some (0, z)] [(0, 0)] _
          refine v_if (hz_X12_isCell hT _ _ rfl) (fun _ => ?_) (fun hc19 => absurd (show (0 : Int) = 0 from (by omega)) hc19)
          refine v_push (0) (hz_X12_isCell hT _ _ rfl) rfl ?_
          refine v_ret (hz_X12_isCell hT _ _ rfl) (Or.inl rfl) ?_
          show vP D T N 279 24 (zset (zset h 121 1 (0, 0)) 121 0 (0, 0)) [some (2, 121), some (0, x), some (0, y), some (0, z)] [(0, 0)] _
          refine v_if (hz_X12_mould hT _ _ rfl) (fun _ => ?_) (fun hc20 => absurd (show (0 : Int) = 0 from (by omega)) hc20)
          refine v_load (v := (2, 121)) (hz_X12_mould hT _ _ rfl) rfl rfl ?_
          refine v_push (2) (hz_X12_mould hT _ _ rfl) rfl ?_
          refine v_call (w := 2) [some (2, 121), some (0, 2)] hO (hz_X12_mould hT _ _ rfl) rfl rfl ?_
          refine v_load (v := (2, 121)) (hz_X12_no hT _ _ rfl) rfl rfl ?_
          refine v_load (v := (0, 2)) (hz_X12_no hT _ _ rfl) rfl rfl ?_
          refine v_putf (r := 121) hO (hz_X12_no hT _ _ rfl) rfl (fun hf21 => ?_)
          refine v_push (0) (hz_X12_no hT _ _ rfl) rfl ?_
          refine v_ret (hz_X12_no hT _ _ rfl) (Or.inl rfl) ?_
          show vP D T N 279 32 (zset (zset (zset h 121 1 (0, 0)) 121 0 (0, 0)) 121 0 (0, 2)) [some (2, 121), some (0, x), some (0, y), some (0, z)] [(0, 0)] _
          refine v_ret (hz_X12_mould hT _ _ rfl) (Or.inl rfl) ?_
          exact k3 hc5 hc8 hc14 hc18
        · have hc18 : y ≤ ((P 0 0) - 1) := Int.not_lt.mp hc18
          refine v_push (1) (hz_X12_isIn hT _ _ rfl) rfl ?_
          refine v_goto (hz_X12_isIn hT _ _ rfl) ?_
          refine v_ret (hz_X12_isIn hT _ _ rfl) (Or.inl rfl) ?_
          show vP D T N 244 15 (zset (zset h 121 1 (0, 0)) 121 0 (0, 0)) [some (2, 121), some (0, y), some (0, z)] [(0, 1)] _
          refine v_if (hz_X12_isCell hT _ _ rfl) (fun hc22 => absurd (show (1 : Int) = 0 from hc22) (by omega)) (fun _ => ?_)
          refine v_load (v := (0, z)) (hz_X12_isCell hT _ _ rfl) rfl rfl ?_
          refine v_i2l (hz_X12_isCell hT _ _ rfl) ?_
          refine v_push (0) (hz_X12_isCell hT _ _ rfl) rfl ?_
          refine v_load (v := (2, 121)) (hz_X12_isCell hT _ _ rfl) rfl rfl ?_
          refine v_getR (c := 126) (r := 121) (hz_X12_isCell hT _ _ rfl) rfl rfl rfl ?_
          refine v_push (1) (hz_X12_isCell hT _ _ rfl) rfl ?_
          refine v_aldV (v := (0, (P 0 1))) (r := 126) (hz_X12_isCell hT _ _ rfl) rfl rfl (fun _ _ _ => (Eq.trans (Eq.trans (zset_ne (fun c => absurd c.1 (by decide))) (zset_ne (fun c => absurd c.1 (by decide)))) (p1))) (fun ha23 hb24 => ?_)
          refine v_push (1) (hz_X12_isCell hT _ _ rfl) rfl ?_
          refine v_bin (w := ((P 0 1) - 1)) (hz_X12_isCell hT _ _ rfl) (hq_sub (by omega) (by omega)) ?_
          refine v_i2l (hz_X12_isCell hT _ _ rfl) ?_
          refine v_call (w := 6) [some (1, z), none, some (1, 0), none, some (1, ((P 0 1) - 1)), none] hO (hz_X12_isCell hT _ _ rfl) rfl rfl ?_
          refine v_load (v := (1, z)) (hz_X12_isIn hT _ _ rfl) rfl rfl ?_
          refine v_load (v := (1, 0)) (hz_X12_isIn hT _ _ rfl) rfl rfl ?_
          refine v_lif (hz_X12_isIn hT _ _ rfl) (hz_X12_isIn hT _ _ rfl) (fun hc25 => ?_) (fun hc25 => ?_)
          · have hc25 : z < 0 := hc25
            refine v_push (0) (hz_X12_isIn hT _ _ rfl) rfl ?_
            refine v_ret (hz_X12_isIn hT _ _ rfl) (Or.inl rfl) ?_
            show vP D T N 244 33 (zset (zset h 121 1 (0, 0)) 121 0 (0, 0)) [some (2, 121), some (0, y), some (0, z)] [(0, 0)] _
            refine v_if (hz_X12_isCell hT _ _ rfl) (fun _ => ?_) (fun hc26 => absurd (show (0 : Int) = 0 from (by omega)) hc26)
            refine v_push (0) (hz_X12_isCell hT _ _ rfl) rfl ?_
            refine v_ret (hz_X12_isCell hT _ _ rfl) (Or.inl rfl) ?_
            show vP D T N 279 24 (zset (zset h 121 1 (0, 0)) 121 0 (0, 0)) [some (2, 121), some (0, x), some (0, y), some (0, z)] [(0, 0)] _
            refine v_if (hz_X12_mould hT _ _ rfl) (fun _ => ?_) (fun hc27 => absurd (show (0 : Int) = 0 from (by omega)) hc27)
            refine v_load (v := (2, 121)) (hz_X12_mould hT _ _ rfl) rfl rfl ?_
            refine v_push (2) (hz_X12_mould hT _ _ rfl) rfl ?_
            refine v_call (w := 2) [some (2, 121), some (0, 2)] hO (hz_X12_mould hT _ _ rfl) rfl rfl ?_
            refine v_load (v := (2, 121)) (hz_X12_no hT _ _ rfl) rfl rfl ?_
            refine v_load (v := (0, 2)) (hz_X12_no hT _ _ rfl) rfl rfl ?_
            refine v_putf (r := 121) hO (hz_X12_no hT _ _ rfl) rfl (fun hf28 => ?_)
            refine v_push (0) (hz_X12_no hT _ _ rfl) rfl ?_
            refine v_ret (hz_X12_no hT _ _ rfl) (Or.inl rfl) ?_
            show vP D T N 279 32 (zset (zset (zset h 121 1 (0, 0)) 121 0 (0, 0)) 121 0 (0, 2)) [some (2, 121), some (0, x), some (0, y), some (0, z)] [(0, 0)] _
            refine v_ret (hz_X12_mould hT _ _ rfl) (Or.inl rfl) ?_
            exact k4 hc5 hc8 hc14 hc18 hc25
          · have hc25 : 0 ≤ z := Int.not_lt.mp hc25
            refine v_load (v := (1, z)) (hz_X12_isIn hT _ _ rfl) rfl rfl ?_
            refine v_load (v := (1, ((P 0 1) - 1))) (hz_X12_isIn hT _ _ rfl) rfl rfl ?_
            refine v_lif (hz_X12_isIn hT _ _ rfl) (hz_X12_isIn hT _ _ rfl) (fun hc29 => ?_) (fun hc29 => ?_)
            · have hc29 : ((P 0 1) - 1) < z := hc29
              refine v_push (0) (hz_X12_isIn hT _ _ rfl) rfl ?_
              refine v_ret (hz_X12_isIn hT _ _ rfl) (Or.inl rfl) ?_
              show vP D T N 244 33 (zset (zset h 121 1 (0, 0)) 121 0 (0, 0)) [some (2, 121), some (0, y), some (0, z)] [(0, 0)] _
              refine v_if (hz_X12_isCell hT _ _ rfl) (fun _ => ?_) (fun hc30 => absurd (show (0 : Int) = 0 from (by omega)) hc30)
              refine v_push (0) (hz_X12_isCell hT _ _ rfl) rfl ?_
              refine v_ret (hz_X12_isCell hT _ _ rfl) (Or.inl rfl) ?_
              show vP D T N 279 24 (zset (zset h 121 1 (0, 0)) 121 0 (0, 0)) [some (2, 121), some (0, x), some (0, y), some (0, z)] [(0, 0)] _
              refine v_if (hz_X12_mould hT _ _ rfl) (fun _ => ?_) (fun hc31 => absurd (show (0 : Int) = 0 from (by omega)) hc31)
              refine v_load (v := (2, 121)) (hz_X12_mould hT _ _ rfl) rfl rfl ?_
              refine v_push (2) (hz_X12_mould hT _ _ rfl) rfl ?_
              refine v_call (w := 2) [some (2, 121), some (0, 2)] hO (hz_X12_mould hT _ _ rfl) rfl rfl ?_
              refine v_load (v := (2, 121)) (hz_X12_no hT _ _ rfl) rfl rfl ?_
              refine v_load (v := (0, 2)) (hz_X12_no hT _ _ rfl) rfl rfl ?_
              refine v_putf (r := 121) hO (hz_X12_no hT _ _ rfl) rfl (fun hf32 => ?_)
              refine v_push (0) (hz_X12_no hT _ _ rfl) rfl ?_
              refine v_ret (hz_X12_no hT _ _ rfl) (Or.inl rfl) ?_
              show vP D T N 279 32 (zset (zset (zset h 121 1 (0, 0)) 121 0 (0, 0)) 121 0 (0, 2)) [some (2, 121), some (0, x), some (0, y), some (0, z)] [(0, 0)] _
              refine v_ret (hz_X12_mould hT _ _ rfl) (Or.inl rfl) ?_
              exact k5 hc5 hc8 hc14 hc18 hc25 hc29
            · have hc29 : z ≤ ((P 0 1) - 1) := Int.not_lt.mp hc29
              refine v_push (1) (hz_X12_isIn hT _ _ rfl) rfl ?_
              refine v_goto (hz_X12_isIn hT _ _ rfl) ?_
              refine v_ret (hz_X12_isIn hT _ _ rfl) (Or.inl rfl) ?_
              show vP D T N 244 33 (zset (zset h 121 1 (0, 0)) 121 0 (0, 0)) [some (2, 121), some (0, y), some (0, z)] [(0, 1)] _
              refine v_if (hz_X12_isCell hT _ _ rfl) (fun hc33 => absurd (show (1 : Int) = 0 from hc33) (by omega)) (fun _ => ?_)
              refine v_push (1) (hz_X12_isCell hT _ _ rfl) rfl ?_
              refine v_goto (hz_X12_isCell hT _ _ rfl) ?_
              refine v_ret (hz_X12_isCell hT _ _ rfl) (Or.inl rfl) ?_
              show vP D T N 279 24 (zset (zset h 121 1 (0, 0)) 121 0 (0, 0)) [some (2, 121), some (0, x), some (0, y), some (0, z)] [(0, 1)] _
              refine v_if (hz_X12_mould hT _ _ rfl) (fun hc34 => absurd (show (1 : Int) = 0 from hc34) (by omega)) (fun _ => ?_)
              exact k6 hc5 hc8 hc14 hc18 hc25 hc29
theorem qs_mould33 {D : zD} {T : zT} (hT : hTab T) (hO : vOK T) {N : Nat} {h : zH} {Q : zR → Prop} {P : PT} {j u v : Nat} (hv0 : zHv h) (p0 : h 126 0 = (0, P 0 0)) (lb : lB P) (bu : u < 8) (bv : v < 6)
    (k0 : vP D T N 280 0 h [some (2, 121), some (0, (j : Int)), some (0, ((P 0 0) * (v : Int) + (u : Int)))] [] (fun r1 => vP D T N 279 44 r1.1 [some (2, 121), some (0, (j : Int)), some (0, (u : Int)), some (0, (v : Int))] (zpush r1.2 []) Q)) :
    vP D T N 279 33 h [some (2, 121), some (0, (j : Int)), some (0, (u : Int)), some (0, (v : Int))] [] Q := by
  refine v_load (v := (2, 121)) (hz_X12_mould hT _ _ rfl) rfl rfl ?_
  refine v_load (v := (0, (j : Int))) (hz_X12_mould hT _ _ rfl) rfl rfl ?_
  refine v_load (v := (2, 121)) (hz_X12_mould hT _ _ rfl) rfl rfl ?_
  refine v_load (v := (0, (u : Int))) (hz_X12_mould hT _ _ rfl) rfl rfl ?_
  refine v_load (v := (0, (v : Int))) (hz_X12_mould hT _ _ rfl) rfl rfl ?_
  refine v_call (w := 3) [some (2, 121), some (0, (u : Int)), some (0, (v : Int))] hO (hz_X12_mould hT _ _ rfl) rfl rfl (rb_at2 hT hO ((u : Int)) ((v : Int)) (by omega) (by omega) p0 lb ?_)
  show vP D T N 279 41 h [some (2, 121), some (0, (j : Int)), some (0, (u : Int)), some (0, (v : Int))] [(0, ((P 0 0) * (v : Int) + (u : Int))), (0, (j : Int)), (2, 121)] _
  refine v_call (w := 3) [some (2, 121), some (0, (j : Int)), some (0, ((P 0 0) * (v : Int) + (u : Int)))] hO (hz_X12_mould hT _ _ rfl) rfl rfl ?_
  exact k0 
theorem qs_honey0 {D : zD} {T : zT} (hT : hTab T) (hO : vOK T) {N : Nat} {h : zH} {Q : zR → Prop} {P : PT} (x y z : Int) (hv0 : zHv h) (p0 : h 126 0 = (0, P 0 0)) (p1 : h 126 1 = (0, P 0 1)) (p2 : h 126 2 = (0, P 0 2)) (p3 : h 126 3 = (0, P 0 3)) (lb : (0 ≤ P 0 0 ∧ P 0 0 ≤ 8) ∧ (0 ≤ P 0 1 ∧ P 0 1 ≤ 6) ∧ (0 ≤ P 0 2 ∧ P 0 2 ≤ 3) ∧ (0 ≤ P 0 3 ∧ P 0 3 ≤ 6))
    (k0 : (x < 0) → Q (zset (zset (zset h 121 1 (0, 0)) 121 0 (0, 0)) 121 0 (0, 2), some (0, 0)))
    (k1 : (0 ≤ x) → (((P 0 2) - 1) < x) → Q (zset (zset (zset h 121 1 (0, 0)) 121 0 (0, 0)) 121 0 (0, 2), some (0, 0)))
    (k2 : (0 ≤ x) → (x ≤ ((P 0 2) - 1)) → (y < 0) → Q (zset (zset (zset h 121 1 (0, 0)) 121 0 (0, 0)) 121 0 (0, 2), some (0, 0)))
    (k3 : (0 ≤ x) → (x ≤ ((P 0 2) - 1)) → (0 ≤ y) → (((P 0 0) - 1) < y) → Q (zset (zset (zset h 121 1 (0, 0)) 121 0 (0, 0)) 121 0 (0, 2), some (0, 0)))
    (k4 : (0 ≤ x) → (x ≤ ((P 0 2) - 1)) → (0 ≤ y) → (y ≤ ((P 0 0) - 1)) → (z < 0) → Q (zset (zset (zset h 121 1 (0, 0)) 121 0 (0, 0)) 121 0 (0, 2), some (0, 0)))
    (k5 : (0 ≤ x) → (x ≤ ((P 0 2) - 1)) → (0 ≤ y) → (y ≤ ((P 0 0) - 1)) → (0 ≤ z) → (((P 0 1) - 1) < z) → Q (zset (zset (zset h 121 1 (0, 0)) 121 0 (0, 0)) 121 0 (0, 2), some (0, 0)))
    (k6 : (0 ≤ x) → (x ≤ ((P 0 2) - 1)) → (0 ≤ y) → (y ≤ ((P 0 0) - 1)) → (0 ≤ z) → (z ≤ ((P 0 1) - 1)) → vP D T N 239 33 (zset (zset h 121 1 (0, 0)) 121 0 (0, 0)) [some (2, 121), some (0, x), some (0, y), some (0, z)] [] Q) :
    vP D T N 239 0 h [some (2, 121), some (0, x), some (0, y), some (0, z)] [] Q := by
  refine v_load (v := (2, 121)) (hz_X12_honey hT _ _ rfl) rfl rfl ?_
  refine v_push (0) (hz_X12_honey hT _ _ rfl) rfl ?_
  refine v_putf (r := 121) hO (hz_X12_honey hT _ _ rfl) rfl (fun hf1 => ?_)
  refine v_load (v := (2, 121)) (hz_X12_honey hT _ _ rfl) rfl rfl ?_
  refine v_push (0) (hz_X12_honey hT _ _ rfl) rfl ?_
  refine v_putf (r := 121) hO (hz_X12_honey hT _ _ rfl) rfl (fun hf2 => ?_)
  refine v_load (v := (2, 121)) (hz_X12_honey hT _ _ rfl) rfl rfl ?_
  refine v_load (v := (0, x)) (hz_X12_honey hT _ _ rfl) rfl rfl ?_
  refine v_call (w := 2) [some (2, 121), some (0, x)] hO (hz_X12_honey hT _ _ rfl) rfl rfl ?_
  refine v_load (v := (0, x)) (hz_X12_isCopy hT _ _ rfl) rfl rfl ?_
  refine v_i2l (hz_X12_isCopy hT _ _ rfl) ?_
  refine v_push (0) (hz_X12_isCopy hT _ _ rfl) rfl ?_
  refine v_load (v := (2, 121)) (hz_X12_isCopy hT _ _ rfl) rfl rfl ?_
  refine v_getR (c := 126) (r := 121) (hz_X12_isCopy hT _ _ rfl) rfl rfl rfl ?_
  refine v_push (2) (hz_X12_isCopy hT _ _ rfl) rfl ?_
  refine v_aldV (v := (0, (P 0 2))) (r := 126) (hz_X12_isCopy hT _ _ rfl) rfl rfl (fun _ _ _ => (Eq.trans (Eq.trans (zset_ne (fun c => absurd c.1 (by decide))) (zset_ne (fun c => absurd c.1 (by decide)))) (p2))) (fun ha3 hb4 => ?_)
  refine v_push (1) (hz_X12_isCopy hT _ _ rfl) rfl ?_
  refine v_bin (w := ((P 0 2) - 1)) (hz_X12_isCopy hT _ _ rfl) (hq_sub (by omega) (by omega)) ?_
  refine v_i2l (hz_X12_isCopy hT _ _ rfl) ?_
  refine v_call (w := 6) [some (1, x), none, some (1, 0), none, some (1, ((P 0 2) - 1)), none] hO (hz_X12_isCopy hT _ _ rfl) rfl rfl ?_
  refine v_load (v := (1, x)) (hz_X12_isIn hT _ _ rfl) rfl rfl ?_
  refine v_load (v := (1, 0)) (hz_X12_isIn hT _ _ rfl) rfl rfl ?_
  refine v_lif (hz_X12_isIn hT _ _ rfl) (hz_X12_isIn hT _ _ rfl) (fun hc5 => ?_) (fun hc5 => ?_)
  · have hc5 : x < 0 := hc5
    refine v_push (0) (hz_X12_isIn hT _ _ rfl) rfl ?_
    refine v_ret (hz_X12_isIn hT _ _ rfl) (Or.inl rfl) ?_
    show vP D T N 248 15 (zset (zset h 121 1 (0, 0)) 121 0 (0, 0)) [some (2, 121), some (0, x)] [(0, 0)] _
    refine v_ret (hz_X12_isCopy hT _ _ rfl) (Or.inl rfl) ?_
    show vP D T N 239 15 (zset (zset h 121 1 (0, 0)) 121 0 (0, 0)) [some (2, 121), some (0, x), some (0, y), some (0, z)] [(0, 0)] _
    refine v_if (hz_X12_honey hT _ _ rfl) (fun _ => ?_) (fun hc6 => absurd (show (0 : Int) = 0 from (by omega)) hc6)
    refine v_load (v := (2, 121)) (hz_X12_honey hT _ _ rfl) rfl rfl ?_
    refine v_push (2) (hz_X12_honey hT _ _ rfl) rfl ?_
    refine v_call (w := 2) [some (2, 121), some (0, 2)] hO (hz_X12_honey hT _ _ rfl) rfl rfl ?_
    refine v_load (v := (2, 121)) (hz_X12_no hT _ _ rfl) rfl rfl ?_
    refine v_load (v := (0, 2)) (hz_X12_no hT _ _ rfl) rfl rfl ?_
    refine v_putf (r := 121) hO (hz_X12_no hT _ _ rfl) rfl (fun hf7 => ?_)
    refine v_push (0) (hz_X12_no hT _ _ rfl) rfl ?_
    refine v_ret (hz_X12_no hT _ _ rfl) (Or.inl rfl) ?_
    show vP D T N 239 32 (zset (zset (zset h 121 1 (0, 0)) 121 0 (0, 0)) 121 0 (0, 2)) [some (2, 121), some (0, x), some (0, y), some (0, z)] [(0, 0)] _
    refine v_ret (hz_X12_honey hT _ _ rfl) (Or.inl rfl) ?_
    exact k0 hc5
  · have hc5 : 0 ≤ x := Int.not_lt.mp hc5
    refine v_load (v := (1, x)) (hz_X12_isIn hT _ _ rfl) rfl rfl ?_
    refine v_load (v := (1, ((P 0 2) - 1))) (hz_X12_isIn hT _ _ rfl) rfl rfl ?_
    refine v_lif (hz_X12_isIn hT _ _ rfl) (hz_X12_isIn hT _ _ rfl) (fun hc8 => ?_) (fun hc8 => ?_)
    · have hc8 : ((P 0 2) - 1) < x := hc8
      refine v_push (0) (hz_X12_isIn hT _ _ rfl) rfl ?_
      refine v_ret (hz_X12_isIn hT _ _ rfl) (Or.inl rfl) ?_
      show vP D T N 248 15 (zset (zset h 121 1 (0, 0)) 121 0 (0, 0)) [some (2, 121), some (0, x)] [(0, 0)] _
      refine v_ret (hz_X12_isCopy hT _ _ rfl) (Or.inl rfl) ?_
      show vP D T N 239 15 (zset (zset h 121 1 (0, 0)) 121 0 (0, 0)) [some (2, 121), some (0, x), some (0, y), some (0, z)] [(0, 0)] _
      refine v_if (hz_X12_honey hT _ _ rfl) (fun _ => ?_) (fun hc9 => absurd (show (0 : Int) = 0 from (by omega)) hc9)
      refine v_load (v := (2, 121)) (hz_X12_honey hT _ _ rfl) rfl rfl ?_
      refine v_push (2) (hz_X12_honey hT _ _ rfl) rfl ?_
      refine v_call (w := 2) [some (2, 121), some (0, 2)] hO (hz_X12_honey hT _ _ rfl) rfl rfl ?_
      refine v_load (v := (2, 121)) (hz_X12_no hT _ _ rfl) rfl rfl ?_
      refine v_load (v := (0, 2)) (hz_X12_no hT _ _ rfl) rfl rfl ?_
      refine v_putf (r := 121) hO (hz_X12_no hT _ _ rfl) rfl (fun hf10 => ?_)
      refine v_push (0) (hz_X12_no hT _ _ rfl) rfl ?_
      refine v_ret (hz_X12_no hT _ _ rfl) (Or.inl rfl) ?_
      show vP D T N 239 32 (zset (zset (zset h 121 1 (0, 0)) 121 0 (0, 0)) 121 0 (0, 2)) [some (2, 121), some (0, x), some (0, y), some (0, z)] [(0, 0)] _
      refine v_ret (hz_X12_honey hT _ _ rfl) (Or.inl rfl) ?_
      exact k1 hc5 hc8
    · have hc8 : x ≤ ((P 0 2) - 1) := Int.not_lt.mp hc8
      refine v_push (1) (hz_X12_isIn hT _ _ rfl) rfl ?_
      refine v_goto (hz_X12_isIn hT _ _ rfl) ?_
      refine v_ret (hz_X12_isIn hT _ _ rfl) (Or.inl rfl) ?_
      show vP D T N 248 15 (zset (zset h 121 1 (0, 0)) 121 0 (0, 0)) [some (2, 121), some (0, x)] [(0, 1)] _
      refine v_ret (hz_X12_isCopy hT _ _ rfl) (Or.inl rfl) ?_
      show vP D T N 239 15 (zset (zset h 121 1 (0, 0)) 121 0 (0, 0)) [some (2, 121), some (0, x), some (0, y), some (0, z)] [(0, 1)] _
      refine v_if (hz_X12_honey hT _ _ rfl) (fun hc11 => absurd (show (1 : Int) = 0 from hc11) (by omega)) (fun _ => ?_)
      refine v_load (v := (2, 121)) (hz_X12_honey hT _ _ rfl) rfl rfl ?_
      refine v_load (v := (0, y)) (hz_X12_honey hT _ _ rfl) rfl rfl ?_
      refine v_load (v := (0, z)) (hz_X12_honey hT _ _ rfl) rfl rfl ?_
      refine v_call (w := 3) [some (2, 121), some (0, y), some (0, z)] hO (hz_X12_honey hT _ _ rfl) rfl rfl ?_
      refine v_load (v := (0, y)) (hz_X12_isCell hT _ _ rfl) rfl rfl ?_
      refine v_i2l (hz_X12_isCell hT _ _ rfl) ?_
      refine v_push (0) (hz_X12_isCell hT _ _ rfl) rfl ?_
      refine v_load (v := (2, 121)) (hz_X12_isCell hT _ _ rfl) rfl rfl ?_
      refine v_getR (c := 126) (r := 121) (hz_X12_isCell hT _ _ rfl) rfl rfl rfl ?_
      refine v_push (0) (hz_X12_isCell hT _ _ rfl) rfl ?_
      refine v_aldV (v := (0, (P 0 0))) (r := 126) (hz_X12_isCell hT _ _ rfl) rfl rfl (fun _ _ _ => (Eq.trans (Eq.trans (zset_ne (fun c => absurd c.1 (by decide))) (zset_ne (fun c => absurd c.1 (by decide)))) (p0))) (fun ha12 hb13 => ?_)
      refine v_push (1) (hz_X12_isCell hT _ _ rfl) rfl ?_
      refine v_bin (w := ((P 0 0) - 1)) (hz_X12_isCell hT _ _ rfl) (hq_sub (by omega) (by omega)) ?_
      refine v_i2l (hz_X12_isCell hT _ _ rfl) ?_
      refine v_call (w := 6) [some (1, y), none, some (1, 0), none, some (1, ((P 0 0) - 1)), none] hO (hz_X12_isCell hT _ _ rfl) rfl rfl ?_
      refine v_load (v := (1, y)) (hz_X12_isIn hT _ _ rfl) rfl rfl ?_
      refine v_load (v := (1, 0)) (hz_X12_isIn hT _ _ rfl) rfl rfl ?_
      refine v_lif (hz_X12_isIn hT _ _ rfl) (hz_X12_isIn hT _ _ rfl) (fun hc14 => ?_) (fun hc14 => ?_)
      · have hc14 : y < 0 := hc14
        refine v_push (0) (hz_X12_isIn hT _ _ rfl) rfl ?_
        refine v_ret (hz_X12_isIn hT _ _ rfl) (Or.inl rfl) ?_
        show vP D T N 244 15 (zset (zset h 121 1 (0, 0)) 121 0 (0, 0)) [some (2, 121), some (0, y), some (0, z)] [(0, 0)] _
        refine v_if (hz_X12_isCell hT _ _ rfl) (fun _ => ?_) (fun hc15 => absurd (show (0 : Int) = 0 from (by omega)) hc15)
        refine v_push (0) (hz_X12_isCell hT _ _ rfl) rfl ?_
        refine v_ret (hz_X12_isCell hT _ _ rfl) (Or.inl rfl) ?_
        show vP D T N 239 24 (zset (zset h 121 1 (0, 0)) 121 0 (0, 0)) [some (2, 121), some (0, x), some (0, y), some (0, z)] [(0, 0)] _
        refine v_if (hz_X12_honey hT _ _ rfl) (fun _ => ?_) (fun hc16 => absurd (show (0 : Int) = 0 from (by omega)) hc16)
        refine v_load (v := (2, 121)) (hz_X12_honey hT _ _ rfl) rfl rfl ?_
        refine v_push (2) (hz_X12_honey hT _ _ rfl) rfl ?_
        refine v_call (w := 2) [some (2, 121), some (0, 2)] hO (hz_X12_honey hT _ _ rfl) rfl rfl ?_
        refine v_load (v := (2, 121)) (hz_X12_no hT _ _ rfl) rfl rfl ?_
        refine v_load (v := (0, 2)) (hz_X12_no hT _ _ rfl) rfl rfl ?_
        refine v_putf (r := 121) hO (hz_X12_no hT _ _ rfl) rfl (fun hf17 => ?_)
        refine v_push (0) (hz_X12_no hT _ _ rfl) rfl ?_
        refine v_ret (hz_X12_no hT _ _ rfl) (Or.inl rfl) ?_
        show vP D T N 239 32 (zset (zset (zset h 121 1 (0, 0)) 121 0 (0, 0)) 121 0 (0, 2)) [some (2, 121), some (0, x), some (0, y), some (0, z)] [(0, 0)] _
        refine v_ret (hz_X12_honey hT _ _ rfl) (Or.inl rfl) ?_
        exact k2 hc5 hc8 hc14
      · have hc14 : 0 ≤ y := Int.not_lt.mp hc14
        refine v_load (v := (1, y)) (hz_X12_isIn hT _ _ rfl) rfl rfl ?_
        refine v_load (v := (1, ((P 0 0) - 1))) (hz_X12_isIn hT _ _ rfl) rfl rfl ?_
        refine v_lif (hz_X12_isIn hT _ _ rfl) (hz_X12_isIn hT _ _ rfl) (fun hc18 => ?_) (fun hc18 => ?_)
        · have hc18 : ((P 0 0) - 1) < y := hc18
          refine v_push (0) (hz_X12_isIn hT _ _ rfl) rfl ?_
          refine v_ret (hz_X12_isIn hT _ _ rfl) (Or.inl rfl) ?_
          show vP D T N 244 15 (zset (zset h 121 1 (0, 0)) 121 0 (0, 0)) [some (2, 121), some (0, y), some (0, z)] [(0, 0)] _
          refine v_if (hz_X12_isCell hT _ _ rfl) (fun _ => ?_) (fun hc19 => absurd (show (0 : Int) = 0 from (by omega)) hc19)
          refine v_push (0) (hz_X12_isCell hT _ _ rfl) rfl ?_
          refine v_ret (hz_X12_isCell hT _ _ rfl) (Or.inl rfl) ?_
          show vP D T N 239 24 (zset (zset h 121 1 (0, 0)) 121 0 (0, 0)) [some (2, 121), some (0, x), some (0, y), some (0, z)] [(0, 0)] _
          refine v_if (hz_X12_honey hT _ _ rfl) (fun _ => ?_) (fun hc20 => absurd (show (0 : Int) = 0 from (by omega)) hc20)
          refine v_load (v := (2, 121)) (hz_X12_honey hT _ _ rfl) rfl rfl ?_
          refine v_push (2) (hz_X12_honey hT _ _ rfl) rfl ?_
          refine v_call (w := 2) [some (2, 121), some (0, 2)] hO (hz_X12_honey hT _ _ rfl) rfl rfl ?_
          refine v_load (v := (2, 121)) (hz_X12_no hT _ _ rfl) rfl rfl ?_
          refine v_load (v := (0, 2)) (hz_X12_no hT _ _ rfl) rfl rfl ?_
          refine v_putf (r := 121) hO (hz_X12_no hT _ _ rfl) rfl (fun hf21 => ?_)
          refine v_push (0) (hz_X12_no hT _ _ rfl) rfl ?_
          refine v_ret (hz_X12_no hT _ _ rfl) (Or.inl rfl) ?_
          show vP D T N 239 32 (zset (zset (zset h 121 1 (0, 0)) 121 0 (0, 0)) 121 0 (0, 2)) [some (2, 121), some (0, x), some (0, y), some (0, z)] [(0, 0)] _
          refine v_ret (hz_X12_honey hT _ _ rfl) (Or.inl rfl) ?_
          exact k3 hc5 hc8 hc14 hc18
        · have hc18 : y ≤ ((P 0 0) - 1) := Int.not_lt.mp hc18
          refine v_push (1) (hz_X12_isIn hT _ _ rfl) rfl ?_
          refine v_goto (hz_X12_isIn hT _ _ rfl) ?_
          refine v_ret (hz_X12_isIn hT _ _ rfl) (Or.inl rfl) ?_
          show vP D T N 244 15 (zset (zset h 121 1 (0, 0)) 121 0 (0, 0)) [some (2, 121), some (0, y), some (0, z)] [(0, 1)] _
          refine v_if (hz_X12_isCell hT _ _ rfl) (fun hc22 => absurd (show (1 : Int) = 0 from hc22) (by omega)) (fun _ => ?_)
          refine v_load (v := (0, z)) (hz_X12_isCell hT _ _ rfl) rfl rfl ?_
          refine v_i2l (hz_X12_isCell hT _ _ rfl) ?_
          refine v_push (0) (hz_X12_isCell hT _ _ rfl) rfl ?_
          refine v_load (v := (2, 121)) (hz_X12_isCell hT _ _ rfl) rfl rfl ?_
          refine v_getR (c := 126) (r := 121) (hz_X12_isCell hT _ _ rfl) rfl rfl rfl ?_
          refine v_push (1) (hz_X12_isCell hT _ _ rfl) rfl ?_
          refine v_aldV (v := (0, (P 0 1))) (r := 126) (hz_X12_isCell hT _ _ rfl) rfl rfl (fun _ _ _ => (Eq.trans (Eq.trans (zset_ne (fun c => absurd c.1 (by decide))) (zset_ne (fun c => absurd c.1 (by decide)))) (p1))) (fun ha23 hb24 => ?_)
          refine v_push (1) (hz_X12_isCell hT _ _ rfl) rfl ?_
          refine v_bin (w := ((P 0 1) - 1)) (hz_X12_isCell hT _ _ rfl) (hq_sub (by omega) (by omega)) ?_
          refine v_i2l (hz_X12_isCell hT _ _ rfl) ?_
          refine v_call (w := 6) [some (1, z), none, some (1, 0), none, some (1, ((P 0 1) - 1)), none] hO (hz_X12_isCell hT _ _ rfl) rfl rfl ?_
          refine v_load (v := (1, z)) (hz_X12_isIn hT _ _ rfl) rfl rfl ?_
          refine v_load (v := (1, 0)) (hz_X12_isIn hT _ _ rfl) rfl rfl ?_
          refine v_lif (hz_X12_isIn hT _ _ rfl) (hz_X12_isIn hT _ _ rfl) (fun hc25 => ?_) (fun hc25 => ?_)
          · have hc25 : z < 0 := hc25
            refine v_push (0) (hz_X12_isIn hT _ _ rfl) rfl ?_
            refine v_ret (hz_X12_isIn hT _ _ rfl) (Or.inl rfl) ?_
            show vP D T N 244 33 (zset (zset h 121 1 (0, 0)) 121 0 (0, 0)) [some (2, 121), some (0, y), some (0, z)] [(0, 0)] _
            refine v_if (hz_X12_isCell hT _ _ rfl) (fun _ => ?_) (fun hc26 => absurd (show (0 : Int) = 0 from (by omega)) hc26)
            refine v_push (0) (hz_X12_isCell hT _ _ rfl) rfl ?_
            refine v_ret (hz_X12_isCell hT _ _ rfl) (Or.inl rfl) ?_
            show vP D T N 239 24 (zset (zset h 121 1 (0, 0)) 121 0 (0, 0)) [some (2, 121), some (0, x), some (0, y), some (0, z)] [(0, 0)] _
            refine v_if (hz_X12_honey hT _ _ rfl) (fun _ => ?_) (fun hc27 => absurd (show (0 : Int) = 0 from (by omega)) hc27)
            refine v_load (v := (2, 121)) (hz_X12_honey hT _ _ rfl) rfl rfl ?_
            refine v_push (2) (hz_X12_honey hT _ _ rfl) rfl ?_
            refine v_call (w := 2) [some (2, 121), some (0, 2)] hO (hz_X12_honey hT _ _ rfl) rfl rfl ?_
            refine v_load (v := (2, 121)) (hz_X12_no hT _ _ rfl) rfl rfl ?_
            refine v_load (v := (0, 2)) (hz_X12_no hT _ _ rfl) rfl rfl ?_
            refine v_putf (r := 121) hO (hz_X12_no hT _ _ rfl) rfl (fun hf28 => ?_)
            refine v_push (0) (hz_X12_no hT _ _ rfl) rfl ?_
            refine v_ret (hz_X12_no hT _ _ rfl) (Or.inl rfl) ?_
            show vP D T N 239 32 (zset (zset (zset h 121 1 (0, 0)) 121 0 (0, 0)) 121 0 (0, 2)) [some (2, 121), some (0, x), some (0, y), some (0, z)] [(0, 0)] _
            refine v_ret (hz_X12_honey hT _ _ rfl) (Or.inl rfl) ?_
            exact k4 hc5 hc8 hc14 hc18 hc25
          · have hc25 : 0 ≤ z := Int.not_lt.mp hc25
            refine v_load (v := (1, z)) (hz_X12_isIn hT _ _ rfl) rfl rfl ?_
            refine v_load (v := (1, ((P 0 1) - 1))) (hz_X12_isIn hT _ _ rfl) rfl rfl ?_
            refine v_lif (hz_X12_isIn hT _ _ rfl) (hz_X12_isIn hT _ _ rfl) (fun hc29 => ?_) (fun hc29 => ?_)
            · have hc29 : ((P 0 1) - 1) < z := hc29
              refine v_push (0) (hz_X12_isIn hT _ _ rfl) rfl ?_
              refine v_ret (hz_X12_isIn hT _ _ rfl) (Or.inl rfl) ?_
              show vP D T N 244 33 (zset (zset h 121 1 (0, 0)) 121 0 (0, 0)) [some (2, 121), some (0, y), some (0, z)] [(0, 0)] _
              refine v_if (hz_X12_isCell hT _ _ rfl) (fun _ => ?_) (fun hc30 => absurd (show (0 : Int) = 0 from (by omega)) hc30)
              refine v_push (0) (hz_X12_isCell hT _ _ rfl) rfl ?_
              refine v_ret (hz_X12_isCell hT _ _ rfl) (Or.inl rfl) ?_
              show vP D T N 239 24 (zset (zset h 121 1 (0, 0)) 121 0 (0, 0)) [some (2, 121), some (0, x), some (0, y), some (0, z)] [(0, 0)] _
              refine v_if (hz_X12_honey hT _ _ rfl) (fun _ => ?_) (fun hc31 => absurd (show (0 : Int) = 0 from (by omega)) hc31)
              refine v_load (v := (2, 121)) (hz_X12_honey hT _ _ rfl) rfl rfl ?_
              refine v_push (2) (hz_X12_honey hT _ _ rfl) rfl ?_
              refine v_call (w := 2) [some (2, 121), some (0, 2)] hO (hz_X12_honey hT _ _ rfl) rfl rfl ?_
              refine v_load (v := (2, 121)) (hz_X12_no hT _ _ rfl) rfl rfl ?_
              refine v_load (v := (0, 2)) (hz_X12_no hT _ _ rfl) rfl rfl ?_
              refine v_putf (r := 121) hO (hz_X12_no hT _ _ rfl) rfl (fun hf32 => ?_)
              refine v_push (0) (hz_X12_no hT _ _ rfl) rfl ?_
              refine v_ret (hz_X12_no hT _ _ rfl) (Or.inl rfl) ?_
              show vP D T N 239 32 (zset (zset (zset h 121 1 (0, 0)) 121 0 (0, 0)) 121 0 (0, 2)) [some (2, 121), some (0, x), some (0, y), some (0, z)] [(0, 0)] _
              refine v_ret (hz_X12_honey hT _ _ rfl) (Or.inl rfl) ?_
              exact k5 hc5 hc8 hc14 hc18 hc25 hc29
            · have hc29 : z ≤ ((P 0 1) - 1) := Int.not_lt.mp hc29
              refine v_push (1) (hz_X12_isIn hT _ _ rfl) rfl ?_
              refine v_goto (hz_X12_isIn hT _ _ rfl) ?_
              refine v_ret (hz_X12_isIn hT _ _ rfl) (Or.inl rfl) ?_
              show vP D T N 244 33 (zset (zset h 121 1 (0, 0)) 121 0 (0, 0)) [some (2, 121), some (0, y), some (0, z)] [(0, 1)] _
              refine v_if (hz_X12_isCell hT _ _ rfl) (fun hc33 => absurd (show (1 : Int) = 0 from hc33) (by omega)) (fun _ => ?_)
              refine v_push (1) (hz_X12_isCell hT _ _ rfl) rfl ?_
              refine v_goto (hz_X12_isCell hT _ _ rfl) ?_
              refine v_ret (hz_X12_isCell hT _ _ rfl) (Or.inl rfl) ?_
              show vP D T N 239 24 (zset (zset h 121 1 (0, 0)) 121 0 (0, 0)) [some (2, 121), some (0, x), some (0, y), some (0, z)] [(0, 1)] _
              refine v_if (hz_X12_honey hT _ _ rfl) (fun hc34 => absurd (show (1 : Int) = 0 from hc34) (by omega)) (fun _ => ?_)
              exact k6 hc5 hc8 hc14 hc18 hc25 hc29
theorem qs_honey33 {D : zD} {T : zT} (hT : hTab T) (hO : vOK T) {N : Nat} {h : zH} {Q : zR → Prop} {P : PT} {j u v : Nat} (hv0 : zHv h) (p0 : h 126 0 = (0, P 0 0)) (lb : lB P) (bu : u < 8) (bv : v < 6)
    (k0 : vP D T N 240 0 h [some (2, 121), some (0, (j : Int)), some (0, ((P 0 0) * (v : Int) + (u : Int)))] [] (fun r1 => vP D T N 239 44 r1.1 [some (2, 121), some (0, (j : Int)), some (0, (u : Int)), some (0, (v : Int))] (zpush r1.2 []) Q)) :
    vP D T N 239 33 h [some (2, 121), some (0, (j : Int)), some (0, (u : Int)), some (0, (v : Int))] [] Q := by
  refine v_load (v := (2, 121)) (hz_X12_honey hT _ _ rfl) rfl rfl ?_
  refine v_load (v := (0, (j : Int))) (hz_X12_honey hT _ _ rfl) rfl rfl ?_
  refine v_load (v := (2, 121)) (hz_X12_honey hT _ _ rfl) rfl rfl ?_
  refine v_load (v := (0, (u : Int))) (hz_X12_honey hT _ _ rfl) rfl rfl ?_
  refine v_load (v := (0, (v : Int))) (hz_X12_honey hT _ _ rfl) rfl rfl ?_
  refine v_call (w := 3) [some (2, 121), some (0, (u : Int)), some (0, (v : Int))] hO (hz_X12_honey hT _ _ rfl) rfl rfl (rb_at2 hT hO ((u : Int)) ((v : Int)) (by omega) (by omega) p0 lb ?_)
  show vP D T N 239 41 h [some (2, 121), some (0, (j : Int)), some (0, (u : Int)), some (0, (v : Int))] [(0, ((P 0 0) * (v : Int) + (u : Int))), (0, (j : Int)), (2, 121)] _
  refine v_call (w := 3) [some (2, 121), some (0, (j : Int)), some (0, ((P 0 0) * (v : Int) + (u : Int)))] hO (hz_X12_honey hT _ _ rfl) rfl rfl ?_
  exact k0 
theorem qs_clean0 {D : zD} {T : zT} (hT : hTab T) (hO : vOK T) {N : Nat} {h : zH} {Q : zR → Prop} {P : PT} (x y z : Int) (hv0 : zHv h) (p0 : h 126 0 = (0, P 0 0)) (p1 : h 126 1 = (0, P 0 1)) (p2 : h 126 2 = (0, P 0 2)) (p3 : h 126 3 = (0, P 0 3)) (lb : (0 ≤ P 0 0 ∧ P 0 0 ≤ 8) ∧ (0 ≤ P 0 1 ∧ P 0 1 ≤ 6) ∧ (0 ≤ P 0 2 ∧ P 0 2 ≤ 3) ∧ (0 ≤ P 0 3 ∧ P 0 3 ≤ 6))
    (k0 : (x < 0) → Q (zset (zset (zset h 121 1 (0, 0)) 121 0 (0, 0)) 121 0 (0, 2), some (0, 0)))
    (k1 : (0 ≤ x) → (((P 0 2) - 1) < x) → Q (zset (zset (zset h 121 1 (0, 0)) 121 0 (0, 0)) 121 0 (0, 2), some (0, 0)))
    (k2 : (0 ≤ x) → (x ≤ ((P 0 2) - 1)) → (y < 0) → Q (zset (zset (zset h 121 1 (0, 0)) 121 0 (0, 0)) 121 0 (0, 2), some (0, 0)))
    (k3 : (0 ≤ x) → (x ≤ ((P 0 2) - 1)) → (0 ≤ y) → (((P 0 0) - 1) < y) → Q (zset (zset (zset h 121 1 (0, 0)) 121 0 (0, 0)) 121 0 (0, 2), some (0, 0)))
    (k4 : (0 ≤ x) → (x ≤ ((P 0 2) - 1)) → (0 ≤ y) → (y ≤ ((P 0 0) - 1)) → (z < 0) → Q (zset (zset (zset h 121 1 (0, 0)) 121 0 (0, 0)) 121 0 (0, 2), some (0, 0)))
    (k5 : (0 ≤ x) → (x ≤ ((P 0 2) - 1)) → (0 ≤ y) → (y ≤ ((P 0 0) - 1)) → (0 ≤ z) → (((P 0 1) - 1) < z) → Q (zset (zset (zset h 121 1 (0, 0)) 121 0 (0, 0)) 121 0 (0, 2), some (0, 0)))
    (k6 : (0 ≤ x) → (x ≤ ((P 0 2) - 1)) → (0 ≤ y) → (y ≤ ((P 0 0) - 1)) → (0 ≤ z) → (z ≤ ((P 0 1) - 1)) → vP D T N 208 33 (zset (zset h 121 1 (0, 0)) 121 0 (0, 0)) [some (2, 121), some (0, x), some (0, y), some (0, z)] [] Q) :
    vP D T N 208 0 h [some (2, 121), some (0, x), some (0, y), some (0, z)] [] Q := by
  refine v_load (v := (2, 121)) (hz_X12_clean hT _ _ rfl) rfl rfl ?_
  refine v_push (0) (hz_X12_clean hT _ _ rfl) rfl ?_
  refine v_putf (r := 121) hO (hz_X12_clean hT _ _ rfl) rfl (fun hf1 => ?_)
  refine v_load (v := (2, 121)) (hz_X12_clean hT _ _ rfl) rfl rfl ?_
  refine v_push (0) (hz_X12_clean hT _ _ rfl) rfl ?_
  refine v_putf (r := 121) hO (hz_X12_clean hT _ _ rfl) rfl (fun hf2 => ?_)
  refine v_load (v := (2, 121)) (hz_X12_clean hT _ _ rfl) rfl rfl ?_
  refine v_load (v := (0, x)) (hz_X12_clean hT _ _ rfl) rfl rfl ?_
  refine v_call (w := 2) [some (2, 121), some (0, x)] hO (hz_X12_clean hT _ _ rfl) rfl rfl ?_
  refine v_load (v := (0, x)) (hz_X12_isCopy hT _ _ rfl) rfl rfl ?_
  refine v_i2l (hz_X12_isCopy hT _ _ rfl) ?_
  refine v_push (0) (hz_X12_isCopy hT _ _ rfl) rfl ?_
  refine v_load (v := (2, 121)) (hz_X12_isCopy hT _ _ rfl) rfl rfl ?_
  refine v_getR (c := 126) (r := 121) (hz_X12_isCopy hT _ _ rfl) rfl rfl rfl ?_
  refine v_push (2) (hz_X12_isCopy hT _ _ rfl) rfl ?_
  refine v_aldV (v := (0, (P 0 2))) (r := 126) (hz_X12_isCopy hT _ _ rfl) rfl rfl (fun _ _ _ => (Eq.trans (Eq.trans (zset_ne (fun c => absurd c.1 (by decide))) (zset_ne (fun c => absurd c.1 (by decide)))) (p2))) (fun ha3 hb4 => ?_)
  refine v_push (1) (hz_X12_isCopy hT _ _ rfl) rfl ?_
  refine v_bin (w := ((P 0 2) - 1)) (hz_X12_isCopy hT _ _ rfl) (hq_sub (by omega) (by omega)) ?_
  refine v_i2l (hz_X12_isCopy hT _ _ rfl) ?_
  refine v_call (w := 6) [some (1, x), none, some (1, 0), none, some (1, ((P 0 2) - 1)), none] hO (hz_X12_isCopy hT _ _ rfl) rfl rfl ?_
  refine v_load (v := (1, x)) (hz_X12_isIn hT _ _ rfl) rfl rfl ?_
  refine v_load (v := (1, 0)) (hz_X12_isIn hT _ _ rfl) rfl rfl ?_
  refine v_lif (hz_X12_isIn hT _ _ rfl) (hz_X12_isIn hT _ _ rfl) (fun hc5 => ?_) (fun hc5 => ?_)
  · have hc5 : x < 0 := hc5
    refine v_push (0) (hz_X12_isIn hT _ _ rfl) rfl ?_
    refine v_ret (hz_X12_isIn hT _ _ rfl) (Or.inl rfl) ?_
    show vP D T N 248 15 (zset (zset h 121 1 (0, 0)) 121 0 (0, 0)) [some (2, 121), some (0, x)] [(0, 0)] _
    refine v_ret (hz_X12_isCopy hT _ _ rfl) (Or.inl rfl) ?_
    show vP D T N 208 15 (zset (zset h 121 1 (0, 0)) 121 0 (0, 0)) [some (2, 121), some (0, x), some (0, y), some (0, z)] [(0, 0)] _
    refine v_if (hz_X12_clean hT _ _ rfl) (fun _ => ?_) (fun hc6 => absurd (show (0 : Int) = 0 from (by omega)) hc6)
    refine v_load (v := (2, 121)) (hz_X12_clean hT _ _ rfl) rfl rfl ?_
    refine v_push (2) (hz_X12_clean hT _ _ rfl) rfl ?_
    refine v_call (w := 2) [some (2, 121), some (0, 2)] hO (hz_X12_clean hT _ _ rfl) rfl rfl ?_
    refine v_load (v := (2, 121)) (hz_X12_no hT _ _ rfl) rfl rfl ?_
    refine v_load (v := (0, 2)) (hz_X12_no hT _ _ rfl) rfl rfl ?_
    refine v_putf (r := 121) hO (hz_X12_no hT _ _ rfl) rfl (fun hf7 => ?_)
    refine v_push (0) (hz_X12_no hT _ _ rfl) rfl ?_
    refine v_ret (hz_X12_no hT _ _ rfl) (Or.inl rfl) ?_
    show vP D T N 208 32 (zset (zset (zset h 121 1 (0, 0)) 121 0 (0, 0)) 121 0 (0, 2)) [some (2, 121), some (0, x), some (0, y), some (0, z)] [(0, 0)] _
    refine v_ret (hz_X12_clean hT _ _ rfl) (Or.inl rfl) ?_
    exact k0 hc5
  · have hc5 : 0 ≤ x := Int.not_lt.mp hc5
    refine v_load (v := (1, x)) (hz_X12_isIn hT _ _ rfl) rfl rfl ?_
    refine v_load (v := (1, ((P 0 2) - 1))) (hz_X12_isIn hT _ _ rfl) rfl rfl ?_
    refine v_lif (hz_X12_isIn hT _ _ rfl) (hz_X12_isIn hT _ _ rfl) (fun hc8 => ?_) (fun hc8 => ?_)
    · have hc8 : ((P 0 2) - 1) < x := hc8
      refine v_push (0) (hz_X12_isIn hT _ _ rfl) rfl ?_
      refine v_ret (hz_X12_isIn hT _ _ rfl) (Or.inl rfl) ?_
      show vP D T N 248 15 (zset (zset h 121 1 (0, 0)) 121 0 (0, 0)) [some (2, 121), some (0, x)] [(0, 0)] _
      refine v_ret (hz_X12_isCopy hT _ _ rfl) (Or.inl rfl) ?_
      show vP D T N 208 15 (zset (zset h 121 1 (0, 0)) 121 0 (0, 0)) [some (2, 121), some (0, x), some (0, y), some (0, z)] [(0, 0)] _
      refine v_if (hz_X12_clean hT _ _ rfl) (fun _ => ?_) (fun hc9 => absurd (show (0 : Int) = 0 from (by omega)) hc9)
      refine v_load (v := (2, 121)) (hz_X12_clean hT _ _ rfl) rfl rfl ?_
      refine v_push (2) (hz_X12_clean hT _ _ rfl) rfl ?_
      refine v_call (w := 2) [some (2, 121), some (0, 2)] hO (hz_X12_clean hT _ _ rfl) rfl rfl ?_
      refine v_load (v := (2, 121)) (hz_X12_no hT _ _ rfl) rfl rfl ?_
      refine v_load (v := (0, 2)) (hz_X12_no hT _ _ rfl) rfl rfl ?_
      refine v_putf (r := 121) hO (hz_X12_no hT _ _ rfl) rfl (fun hf10 => ?_)
      refine v_push (0) (hz_X12_no hT _ _ rfl) rfl ?_
      refine v_ret (hz_X12_no hT _ _ rfl) (Or.inl rfl) ?_
      show vP D T N 208 32 (zset (zset (zset h 121 1 (0, 0)) 121 0 (0, 0)) 121 0 (0, 2)) [some (2, 121), some (0, x), some (0, y), some (0, z)] [(0, 0)] _
      refine v_ret (hz_X12_clean hT _ _ rfl) (Or.inl rfl) ?_
      exact k1 hc5 hc8
    · have hc8 : x ≤ ((P 0 2) - 1) := Int.not_lt.mp hc8
      refine v_push (1) (hz_X12_isIn hT _ _ rfl) rfl ?_
      refine v_goto (hz_X12_isIn hT _ _ rfl) ?_
      refine v_ret (hz_X12_isIn hT _ _ rfl) (Or.inl rfl) ?_
      show vP D T N 248 15 (zset (zset h 121 1 (0, 0)) 121 0 (0, 0)) [some (2, 121), some (0, x)] [(0, 1)] _
      refine v_ret (hz_X12_isCopy hT _ _ rfl) (Or.inl rfl) ?_
      show vP D T N 208 15 (zset (zset h 121 1 (0, 0)) 121 0 (0, 0)) [some (2, 121), some (0, x), some (0, y), some (0, z)] [(0, 1)] _
      refine v_if (hz_X12_clean hT _ _ rfl) (fun hc11 => absurd (show (1 : Int) = 0 from hc11) (by omega)) (fun _ => ?_)
      refine v_load (v := (2, 121)) (hz_X12_clean hT _ _ rfl) rfl rfl ?_
      refine v_load (v := (0, y)) (hz_X12_clean hT _ _ rfl) rfl rfl ?_
      refine v_load (v := (0, z)) (hz_X12_clean hT _ _ rfl) rfl rfl ?_
      refine v_call (w := 3) [some (2, 121), some (0, y), some (0, z)] hO (hz_X12_clean hT _ _ rfl) rfl rfl ?_
      refine v_load (v := (0, y)) (hz_X12_isCell hT _ _ rfl) rfl rfl ?_
      refine v_i2l (hz_X12_isCell hT _ _ rfl) ?_
      refine v_push (0) (hz_X12_isCell hT _ _ rfl) rfl ?_
      refine v_load (v := (2, 121)) (hz_X12_isCell hT _ _ rfl) rfl rfl ?_
      refine v_getR (c := 126) (r := 121) (hz_X12_isCell hT _ _ rfl) rfl rfl rfl ?_
      refine v_push (0) (hz_X12_isCell hT _ _ rfl) rfl ?_
      refine v_aldV (v := (0, (P 0 0))) (r := 126) (hz_X12_isCell hT _ _ rfl) rfl rfl (fun _ _ _ => (Eq.trans (Eq.trans (zset_ne (fun c => absurd c.1 (by decide))) (zset_ne (fun c => absurd c.1 (by decide)))) (p0))) (fun ha12 hb13 => ?_)
      refine v_push (1) (hz_X12_isCell hT _ _ rfl) rfl ?_
      refine v_bin (w := ((P 0 0) - 1)) (hz_X12_isCell hT _ _ rfl) (hq_sub (by omega) (by omega)) ?_
      refine v_i2l (hz_X12_isCell hT _ _ rfl) ?_
      refine v_call (w := 6) [some (1, y), none, some (1, 0), none, some (1, ((P 0 0) - 1)), none] hO (hz_X12_isCell hT _ _ rfl) rfl rfl ?_
      refine v_load (v := (1, y)) (hz_X12_isIn hT _ _ rfl) rfl rfl ?_
      refine v_load (v := (1, 0)) (hz_X12_isIn hT _ _ rfl) rfl rfl ?_
      refine v_lif (hz_X12_isIn hT _ _ rfl) (hz_X12_isIn hT _ _ rfl) (fun hc14 => ?_) (fun hc14 => ?_)
      · have hc14 : y < 0 := hc14
        refine v_push (0) (hz_X12_isIn hT _ _ rfl) rfl ?_
        refine v_ret (hz_X12_isIn hT _ _ rfl) (Or.inl rfl) ?_
        show vP D T N 244 15 (zset (zset h 121 1 (0, 0)) 121 0 (0, 0)) [some (2, 121), some (0, y), some (0, z)] [(0, 0)] _
        refine v_if (hz_X12_isCell hT _ _ rfl) (fun _ => ?_) (fun hc15 => absurd (show (0 : Int) = 0 from (by omega)) hc15)
        refine v_push (0) (hz_X12_isCell hT _ _ rfl) rfl ?_
        refine v_ret (hz_X12_isCell hT _ _ rfl) (Or.inl rfl) ?_
        show vP D T N 208 24 (zset (zset h 121 1 (0, 0)) 121 0 (0, 0)) [some (2, 121), some (0, x), some (0, y), some (0, z)] [(0, 0)] _
        refine v_if (hz_X12_clean hT _ _ rfl) (fun _ => ?_) (fun hc16 => absurd (show (0 : Int) = 0 from (by omega)) hc16)
        refine v_load (v := (2, 121)) (hz_X12_clean hT _ _ rfl) rfl rfl ?_
        refine v_push (2) (hz_X12_clean hT _ _ rfl) rfl ?_
        refine v_call (w := 2) [some (2, 121), some (0, 2)] hO (hz_X12_clean hT _ _ rfl) rfl rfl ?_
        refine v_load (v := (2, 121)) (hz_X12_no hT _ _ rfl) rfl rfl ?_
        refine v_load (v := (0, 2)) (hz_X12_no hT _ _ rfl) rfl rfl ?_
        refine v_putf (r := 121) hO (hz_X12_no hT _ _ rfl) rfl (fun hf17 => ?_)
        refine v_push (0) (hz_X12_no hT _ _ rfl) rfl ?_
        refine v_ret (hz_X12_no hT _ _ rfl) (Or.inl rfl) ?_
        show vP D T N 208 32 (zset (zset (zset h 121 1 (0, 0)) 121 0 (0, 0)) 121 0 (0, 2)) [some (2, 121), some (0, x), some (0, y), some (0, z)] [(0, 0)] _
        refine v_ret (hz_X12_clean hT _ _ rfl) (Or.inl rfl) ?_
        exact k2 hc5 hc8 hc14
      · have hc14 : 0 ≤ y := Int.not_lt.mp hc14
        refine v_load (v := (1, y)) (hz_X12_isIn hT _ _ rfl) rfl rfl ?_
        refine v_load (v := (1, ((P 0 0) - 1))) (hz_X12_isIn hT _ _ rfl) rfl rfl ?_
        refine v_lif (hz_X12_isIn hT _ _ rfl) (hz_X12_isIn hT _ _ rfl) (fun hc18 => ?_) (fun hc18 => ?_)
        · have hc18 : ((P 0 0) - 1) < y := hc18
          refine v_push (0) (hz_X12_isIn hT _ _ rfl) rfl ?_
          refine v_ret (hz_X12_isIn hT _ _ rfl) (Or.inl rfl) ?_
          show vP D T N 244 15 (zset (zset h 121 1 (0, 0)) 121 0 (0, 0)) [some (2, 121), some (0, y), some (0, z)] [(0, 0)] _
          refine v_if (hz_X12_isCell hT _ _ rfl) (fun _ => ?_) (fun hc19 => absurd (show (0 : Int) = 0 from (by omega)) hc19)
          refine v_push (0) (hz_X12_isCell hT _ _ rfl) rfl ?_
          refine v_ret (hz_X12_isCell hT _ _ rfl) (Or.inl rfl) ?_
          show vP D T N 208 24 (zset (zset h 121 1 (0, 0)) 121 0 (0, 0)) [some (2, 121), some (0, x), some (0, y), some (0, z)] [(0, 0)] _
          refine v_if (hz_X12_clean hT _ _ rfl) (fun _ => ?_) (fun hc20 => absurd (show (0 : Int) = 0 from (by omega)) hc20)
          refine v_load (v := (2, 121)) (hz_X12_clean hT _ _ rfl) rfl rfl ?_
          refine v_push (2) (hz_X12_clean hT _ _ rfl) rfl ?_
          refine v_call (w := 2) [some (2, 121), some (0, 2)] hO (hz_X12_clean hT _ _ rfl) rfl rfl ?_
          refine v_load (v := (2, 121)) (hz_X12_no hT _ _ rfl) rfl rfl ?_
          refine v_load (v := (0, 2)) (hz_X12_no hT _ _ rfl) rfl rfl ?_
          refine v_putf (r := 121) hO (hz_X12_no hT _ _ rfl) rfl (fun hf21 => ?_)
          refine v_push (0) (hz_X12_no hT _ _ rfl) rfl ?_
          refine v_ret (hz_X12_no hT _ _ rfl) (Or.inl rfl) ?_
          show vP D T N 208 32 (zset (zset (zset h 121 1 (0, 0)) 121 0 (0, 0)) 121 0 (0, 2)) [some (2, 121), some (0, x), some (0, y), some (0, z)] [(0, 0)] _
          refine v_ret (hz_X12_clean hT _ _ rfl) (Or.inl rfl) ?_
          exact k3 hc5 hc8 hc14 hc18
        · have hc18 : y ≤ ((P 0 0) - 1) := Int.not_lt.mp hc18
          refine v_push (1) (hz_X12_isIn hT _ _ rfl) rfl ?_
          refine v_goto (hz_X12_isIn hT _ _ rfl) ?_
          refine v_ret (hz_X12_isIn hT _ _ rfl) (Or.inl rfl) ?_
          show vP D T N 244 15 (zset (zset h 121 1 (0, 0)) 121 0 (0, 0)) [some (2, 121), some (0, y), some (0, z)] [(0, 1)] _
          refine v_if (hz_X12_isCell hT _ _ rfl) (fun hc22 => absurd (show (1 : Int) = 0 from hc22) (by omega)) (fun _ => ?_)
          refine v_load (v := (0, z)) (hz_X12_isCell hT _ _ rfl) rfl rfl ?_
          refine v_i2l (hz_X12_isCell hT _ _ rfl) ?_
          refine v_push (0) (hz_X12_isCell hT _ _ rfl) rfl ?_
          refine v_load (v := (2, 121)) (hz_X12_isCell hT _ _ rfl) rfl rfl ?_
          refine v_getR (c := 126) (r := 121) (hz_X12_isCell hT _ _ rfl) rfl rfl rfl ?_
          refine v_push (1) (hz_X12_isCell hT _ _ rfl) rfl ?_
          refine v_aldV (v := (0, (P 0 1))) (r := 126) (hz_X12_isCell hT _ _ rfl) rfl rfl (fun _ _ _ => (Eq.trans (Eq.trans (zset_ne (fun c => absurd c.1 (by decide))) (zset_ne (fun c => absurd c.1 (by decide)))) (p1))) (fun ha23 hb24 => ?_)
          refine v_push (1) (hz_X12_isCell hT _ _ rfl) rfl ?_
          refine v_bin (w := ((P 0 1) - 1)) (hz_X12_isCell hT _ _ rfl) (hq_sub (by omega) (by omega)) ?_
          refine v_i2l (hz_X12_isCell hT _ _ rfl) ?_
          refine v_call (w := 6) [some (1, z), none, some (1, 0), none, some (1, ((P 0 1) - 1)), none] hO (hz_X12_isCell hT _ _ rfl) rfl rfl ?_
          refine v_load (v := (1, z)) (hz_X12_isIn hT _ _ rfl) rfl rfl ?_
          refine v_load (v := (1, 0)) (hz_X12_isIn hT _ _ rfl) rfl rfl ?_
          refine v_lif (hz_X12_isIn hT _ _ rfl) (hz_X12_isIn hT _ _ rfl) (fun hc25 => ?_) (fun hc25 => ?_)
          · have hc25 : z < 0 := hc25
            refine v_push (0) (hz_X12_isIn hT _ _ rfl) rfl ?_
            refine v_ret (hz_X12_isIn hT _ _ rfl) (Or.inl rfl) ?_
            show vP D T N 244 33 (zset (zset h 121 1 (0, 0)) 121 0 (0, 0)) [some (2, 121), some (0, y), some (0, z)] [(0, 0)] _
            refine v_if (hz_X12_isCell hT _ _ rfl) (fun _ => ?_) (fun hc26 => absurd (show (0 : Int) = 0 from (by omega)) hc26)
            refine v_push (0) (hz_X12_isCell hT _ _ rfl) rfl ?_
            refine v_ret (hz_X12_isCell hT _ _ rfl) (Or.inl rfl) ?_
            show vP D T N 208 24 (zset (zset h 121 1 (0, 0)) 121 0 (0, 0)) [some (2, 121), some (0, x), some (0, y), some (0, z)] [(0, 0)] _
            refine v_if (hz_X12_clean hT _ _ rfl) (fun _ => ?_) (fun hc27 => absurd (show (0 : Int) = 0 from (by omega)) hc27)
            refine v_load (v := (2, 121)) (hz_X12_clean hT _ _ rfl) rfl rfl ?_
            refine v_push (2) (hz_X12_clean hT _ _ rfl) rfl ?_
            refine v_call (w := 2) [some (2, 121), some (0, 2)] hO (hz_X12_clean hT _ _ rfl) rfl rfl ?_
            refine v_load (v := (2, 121)) (hz_X12_no hT _ _ rfl) rfl rfl ?_
            refine v_load (v := (0, 2)) (hz_X12_no hT _ _ rfl) rfl rfl ?_
            refine v_putf (r := 121) hO (hz_X12_no hT _ _ rfl) rfl (fun hf28 => ?_)
            refine v_push (0) (hz_X12_no hT _ _ rfl) rfl ?_
            refine v_ret (hz_X12_no hT _ _ rfl) (Or.inl rfl) ?_
            show vP D T N 208 32 (zset (zset (zset h 121 1 (0, 0)) 121 0 (0, 0)) 121 0 (0, 2)) [some (2, 121), some (0, x), some (0, y), some (0, z)] [(0, 0)] _
            refine v_ret (hz_X12_clean hT _ _ rfl) (Or.inl rfl) ?_
            exact k4 hc5 hc8 hc14 hc18 hc25
          · have hc25 : 0 ≤ z := Int.not_lt.mp hc25
            refine v_load (v := (1, z)) (hz_X12_isIn hT _ _ rfl) rfl rfl ?_
            refine v_load (v := (1, ((P 0 1) - 1))) (hz_X12_isIn hT _ _ rfl) rfl rfl ?_
            refine v_lif (hz_X12_isIn hT _ _ rfl) (hz_X12_isIn hT _ _ rfl) (fun hc29 => ?_) (fun hc29 => ?_)
            · have hc29 : ((P 0 1) - 1) < z := hc29
              refine v_push (0) (hz_X12_isIn hT _ _ rfl) rfl ?_
              refine v_ret (hz_X12_isIn hT _ _ rfl) (Or.inl rfl) ?_
              show vP D T N 244 33 (zset (zset h 121 1 (0, 0)) 121 0 (0, 0)) [some (2, 121), some (0, y), some (0, z)] [(0, 0)] _
              refine v_if (hz_X12_isCell hT _ _ rfl) (fun _ => ?_) (fun hc30 => absurd (show (0 : Int) = 0 from (by omega)) hc30)
              refine v_push (0) (hz_X12_isCell hT _ _ rfl) rfl ?_
              refine v_ret (hz_X12_isCell hT _ _ rfl) (Or.inl rfl) ?_
              show vP D T N 208 24 (zset (zset h 121 1 (0, 0)) 121 0 (0, 0)) [some (2, 121), some (0, x), some (0, y), some (0, z)] [(0, 0)] _
              refine v_if (hz_X12_clean hT _ _ rfl) (fun _ => ?_) (fun hc31 => absurd (show (0 : Int) = 0 from (by omega)) hc31)
              refine v_load (v := (2, 121)) (hz_X12_clean hT _ _ rfl) rfl rfl ?_
              refine v_push (2) (hz_X12_clean hT _ _ rfl) rfl ?_
              refine v_call (w := 2) [some (2, 121), some (0, 2)] hO (hz_X12_clean hT _ _ rfl) rfl rfl ?_
              refine v_load (v := (2, 121)) (hz_X12_no hT _ _ rfl) rfl rfl ?_
              refine v_load (v := (0, 2)) (hz_X12_no hT _ _ rfl) rfl rfl ?_
              refine v_putf (r := 121) hO (hz_X12_no hT _ _ rfl) rfl (fun hf32 => ?_)
              refine v_push (0) (hz_X12_no hT _ _ rfl) rfl ?_
              refine v_ret (hz_X12_no hT _ _ rfl) (Or.inl rfl) ?_
              show vP D T N 208 32 (zset (zset (zset h 121 1 (0, 0)) 121 0 (0, 0)) 121 0 (0, 2)) [some (2, 121), some (0, x), some (0, y), some (0, z)] [(0, 0)] _
              refine v_ret (hz_X12_clean hT _ _ rfl) (Or.inl rfl) ?_
              exact k5 hc5 hc8 hc14 hc18 hc25 hc29
            · have hc29 : z ≤ ((P 0 1) - 1) := Int.not_lt.mp hc29
              refine v_push (1) (hz_X12_isIn hT _ _ rfl) rfl ?_
              refine v_goto (hz_X12_isIn hT _ _ rfl) ?_
              refine v_ret (hz_X12_isIn hT _ _ rfl) (Or.inl rfl) ?_
              show vP D T N 244 33 (zset (zset h 121 1 (0, 0)) 121 0 (0, 0)) [some (2, 121), some (0, y), some (0, z)] [(0, 1)] _
              refine v_if (hz_X12_isCell hT _ _ rfl) (fun hc33 => absurd (show (1 : Int) = 0 from hc33) (by omega)) (fun _ => ?_)
              refine v_push (1) (hz_X12_isCell hT _ _ rfl) rfl ?_
              refine v_goto (hz_X12_isCell hT _ _ rfl) ?_
              refine v_ret (hz_X12_isCell hT _ _ rfl) (Or.inl rfl) ?_
              show vP D T N 208 24 (zset (zset h 121 1 (0, 0)) 121 0 (0, 0)) [some (2, 121), some (0, x), some (0, y), some (0, z)] [(0, 1)] _
              refine v_if (hz_X12_clean hT _ _ rfl) (fun hc34 => absurd (show (1 : Int) = 0 from hc34) (by omega)) (fun _ => ?_)
              exact k6 hc5 hc8 hc14 hc18 hc25 hc29
theorem qs_bite44n {D : zD} {T : zT} (hT : hTab T) (hO : vOK T) {N : Nat} {h : zH} {Q : zR → Prop} {j u v : Nat} (hv0 : zHv h)
    (k0 : Q (zset h 121 0 (0, 9), some (0, -1))) :
    vP D T N 202 44 h [some (2, 121), some (0, (j : Int)), some (0, (u : Int)), some (0, (v : Int)), none] [(0, -1)] Q := by
  refine v_store1 [some (2, 121), some (0, (j : Int)), some (0, (u : Int)), some (0, (v : Int)), some (0, -1)] (hz_X12_bite hT _ _ rfl) ⟨rfl, Nat.ne_of_beq_eq_false rfl⟩ (Nat.le_of_ble_eq_true rfl) rfl ?_
  refine v_load (v := (0, -1)) (hz_X12_bite hT _ _ rfl) rfl rfl ?_
  refine v_if (hz_X12_bite hT _ _ rfl) (fun _ => ?_) (fun hc1 => absurd (show (-1 : Int) < 0 from (by omega)) hc1)
  refine v_load (v := (2, 121)) (hz_X12_bite hT _ _ rfl) rfl rfl ?_
  refine v_push (9) (hz_X12_bite hT _ _ rfl) rfl ?_
  refine v_call (w := 2) [some (2, 121), some (0, 9)] hO (hz_X12_bite hT _ _ rfl) rfl rfl ?_
  refine v_load (v := (2, 121)) (hz_X12_refuse hT _ _ rfl) rfl rfl ?_
  refine v_load (v := (0, 9)) (hz_X12_refuse hT _ _ rfl) rfl rfl ?_
  refine v_putf (r := 121) hO (hz_X12_refuse hT _ _ rfl) rfl (fun hf2 => ?_)
  refine v_push (-1) (hz_X12_refuse hT _ _ rfl) rfl ?_
  refine v_ret (hz_X12_refuse hT _ _ rfl) (Or.inl rfl) ?_
  show vP D T N 202 57 (zset h 121 0 (0, 9)) [some (2, 121), some (0, (j : Int)), some (0, (u : Int)), some (0, (v : Int)), some (0, -1)] [(0, -1)] _
  refine v_goto (hz_X12_bite hT _ _ rfl) ?_
  refine v_ret (hz_X12_bite hT _ _ rfl) (Or.inl rfl) ?_
  exact k0 
theorem qs_bite44y {D : zD} {T : zT} (hT : hTab T) (hO : vOK T) {N : Nat} {h : zH} {Q : zR → Prop} {j u v : Nat} (w : Int) (hv0 : zHv h) (hw : 0 ≤ w)
    (k0 : Q (h, some (0, w))) :
    vP D T N 202 44 h [some (2, 121), some (0, (j : Int)), some (0, (u : Int)), some (0, (v : Int)), none] [(0, w)] Q := by
  refine v_store1 [some (2, 121), some (0, (j : Int)), some (0, (u : Int)), some (0, (v : Int)), some (0, w)] (hz_X12_bite hT _ _ rfl) ⟨rfl, Nat.ne_of_beq_eq_false rfl⟩ (Nat.le_of_ble_eq_true rfl) rfl ?_
  refine v_load (v := (0, w)) (hz_X12_bite hT _ _ rfl) rfl rfl ?_
  refine v_if (hz_X12_bite hT _ _ rfl) (fun hc1 => absurd (show w < 0 from hc1) (by omega)) (fun _ => ?_)
  refine v_load (v := (0, w)) (hz_X12_bite hT _ _ rfl) rfl rfl ?_
  refine v_ret (hz_X12_bite hT _ _ rfl) (Or.inl rfl) ?_
  exact k0 
theorem qs_mould44_0 {D : zD} {T : zT} (hT : hTab T) (hO : vOK T) {N : Nat} {h : zH} {Q : zR → Prop} {j u v : Nat} (hv0 : zHv h)
    (k0 : Q (zset h 121 0 (0, 9), some (0, 0))) :
    vP D T N 279 44 h [some (2, 121), some (0, (j : Int)), some (0, (u : Int)), some (0, (v : Int))] [(0, 0)] Q := by
  refine v_if (hz_X12_mould hT _ _ rfl) (fun _ => ?_) (fun hc1 => absurd (show (0 : Int) = 0 from (by omega)) hc1)
  refine v_load (v := (2, 121)) (hz_X12_mould hT _ _ rfl) rfl rfl ?_
  refine v_push (9) (hz_X12_mould hT _ _ rfl) rfl ?_
  refine v_call (w := 2) [some (2, 121), some (0, 9)] hO (hz_X12_mould hT _ _ rfl) rfl rfl ?_
  refine v_load (v := (2, 121)) (hz_X12_no hT _ _ rfl) rfl rfl ?_
  refine v_load (v := (0, 9)) (hz_X12_no hT _ _ rfl) rfl rfl ?_
  refine v_putf (r := 121) hO (hz_X12_no hT _ _ rfl) rfl (fun hf2 => ?_)
  refine v_push (0) (hz_X12_no hT _ _ rfl) rfl ?_
  refine v_ret (hz_X12_no hT _ _ rfl) (Or.inl rfl) ?_
  show vP D T N 279 53 (zset h 121 0 (0, 9)) [some (2, 121), some (0, (j : Int)), some (0, (u : Int)), some (0, (v : Int))] [(0, 0)] _
  refine v_if (hz_X12_mould hT _ _ rfl) (fun _ => ?_) (fun hc3 => absurd (show (0 : Int) = 0 from (by omega)) hc3)
  refine v_push (0) (hz_X12_mould hT _ _ rfl) rfl ?_
  refine v_ret (hz_X12_mould hT _ _ rfl) (Or.inl rfl) ?_
  exact k0 
theorem qs_mould44_1 {D : zD} {T : zT} (hT : hTab T) (hO : vOK T) {N : Nat} {h : zH} {Q : zR → Prop} {j u v : Nat} (hv0 : zHv h)
    (k0 : Q (h, some (0, 1))) :
    vP D T N 279 44 h [some (2, 121), some (0, (j : Int)), some (0, (u : Int)), some (0, (v : Int))] [(0, 1)] Q := by
  refine v_if (hz_X12_mould hT _ _ rfl) (fun hc1 => absurd (show (1 : Int) = 0 from hc1) (by omega)) (fun _ => ?_)
  refine v_push (1) (hz_X12_mould hT _ _ rfl) rfl ?_
  refine v_goto (hz_X12_mould hT _ _ rfl) ?_
  refine v_ret (hz_X12_mould hT _ _ rfl) (Or.inl rfl) ?_
  exact k0 
theorem qs_honey44_0 {D : zD} {T : zT} (hT : hTab T) (hO : vOK T) {N : Nat} {h : zH} {Q : zR → Prop} {j u v : Nat} (hv0 : zHv h)
    (k0 : Q (zset h 121 0 (0, 9), some (0, 0))) :
    vP D T N 239 44 h [some (2, 121), some (0, (j : Int)), some (0, (u : Int)), some (0, (v : Int))] [(0, 0)] Q := by
  refine v_if (hz_X12_honey hT _ _ rfl) (fun _ => ?_) (fun hc1 => absurd (show (0 : Int) = 0 from (by omega)) hc1)
  refine v_load (v := (2, 121)) (hz_X12_honey hT _ _ rfl) rfl rfl ?_
  refine v_push (9) (hz_X12_honey hT _ _ rfl) rfl ?_
  refine v_call (w := 2) [some (2, 121), some (0, 9)] hO (hz_X12_honey hT _ _ rfl) rfl rfl ?_
  refine v_load (v := (2, 121)) (hz_X12_no hT _ _ rfl) rfl rfl ?_
  refine v_load (v := (0, 9)) (hz_X12_no hT _ _ rfl) rfl rfl ?_
  refine v_putf (r := 121) hO (hz_X12_no hT _ _ rfl) rfl (fun hf2 => ?_)
  refine v_push (0) (hz_X12_no hT _ _ rfl) rfl ?_
  refine v_ret (hz_X12_no hT _ _ rfl) (Or.inl rfl) ?_
  show vP D T N 239 53 (zset h 121 0 (0, 9)) [some (2, 121), some (0, (j : Int)), some (0, (u : Int)), some (0, (v : Int))] [(0, 0)] _
  refine v_if (hz_X12_honey hT _ _ rfl) (fun _ => ?_) (fun hc3 => absurd (show (0 : Int) = 0 from (by omega)) hc3)
  refine v_push (0) (hz_X12_honey hT _ _ rfl) rfl ?_
  refine v_ret (hz_X12_honey hT _ _ rfl) (Or.inl rfl) ?_
  exact k0 
theorem qs_honey44_1 {D : zD} {T : zT} (hT : hTab T) (hO : vOK T) {N : Nat} {h : zH} {Q : zR → Prop} {j u v : Nat} (hv0 : zHv h)
    (k0 : Q (h, some (0, 1))) :
    vP D T N 239 44 h [some (2, 121), some (0, (j : Int)), some (0, (u : Int)), some (0, (v : Int))] [(0, 1)] Q := by
  refine v_if (hz_X12_honey hT _ _ rfl) (fun hc1 => absurd (show (1 : Int) = 0 from hc1) (by omega)) (fun _ => ?_)
  refine v_push (1) (hz_X12_honey hT _ _ rfl) rfl ?_
  refine v_goto (hz_X12_honey hT _ _ rfl) ?_
  refine v_ret (hz_X12_honey hT _ _ rfl) (Or.inl rfl) ?_
  exact k0 
theorem qs_clean41 {D : zD} {T : zT} (hT : hTab T) (hO : vOK T) {N : Nat} {h : zH} {Q : zR → Prop} {P : PT} {j u v q : Nat} (hv0 : zHv h) (hR : rBk 0 P h) (hb : fB P) (hj : j < 3) (gq : gIn P q) (hn : gJ P q < 48) (eq : P 0 0 * (v : Int) + (u : Int) = ((gJ P q : Nat) : Int)) (bu : u < 8) (bv : v < 6) (lb : lB P)
    (k0 : ((P 3 (48 * j + q)) < 2) → Q (zset h 121 0 (0, 9), some (0, 0)))
    (k1 : (2 ≤ (P 3 (48 * j + q))) → (0 ≤ ((101 + (48 * (j : Int))) + ((gJ P q : Nat) : Int))) → (((101 + (48 * (j : Int))) + ((gJ P q : Nat) : Int)) < 2750) → Q (zset h 126 ((((101 + (48 * (j : Int))) + ((gJ P q : Nat) : Int))).toNat) (0, 0), some (0, 1))) :
    vP D T N 208 41 h [some (2, 121), some (0, (j : Int)), some (0, (u : Int)), some (0, (v : Int))] [(0, ((gJ P q : Nat) : Int)), (0, (j : Int)), (2, 121)] Q := by
  refine v_call (w := 3) [some (2, 121), some (0, (j : Int)), some (0, ((gJ P q : Nat) : Int))] hO (hz_X12_clean hT _ _ rfl) rfl rfl (rb_st hT hO ((j : Int)) j q rfl (by omega) gq hR hb ?_)
  show vP D T N 208 44 h [some (2, 121), some (0, (j : Int)), some (0, (u : Int)), some (0, (v : Int))] [(0, (P 3 (48 * j + q)))] _
  refine v_push (2) (hz_X12_clean hT _ _ rfl) rfl ?_
  refine v_ic (hz_X12_clean hT _ _ rfl) (fun hc1 => ?_) (fun hc1 => ?_)
  · have hc1 : (P 3 (48 * j + q)) < 2 := hc1
    refine v_load (v := (2, 121)) (hz_X12_clean hT _ _ rfl) rfl rfl ?_
    refine v_push (9) (hz_X12_clean hT _ _ rfl) rfl ?_
    refine v_call (w := 2) [some (2, 121), some (0, 9)] hO (hz_X12_clean hT _ _ rfl) rfl rfl ?_
    refine v_load (v := (2, 121)) (hz_X12_no hT _ _ rfl) rfl rfl ?_
    refine v_load (v := (0, 9)) (hz_X12_no hT _ _ rfl) rfl rfl ?_
    refine v_putf (r := 121) hO (hz_X12_no hT _ _ rfl) rfl (fun hf2 => ?_)
    refine v_push (0) (hz_X12_no hT _ _ rfl) rfl ?_
    refine v_ret (hz_X12_no hT _ _ rfl) (Or.inl rfl) ?_
    show vP D T N 208 54 (zset h 121 0 (0, 9)) [some (2, 121), some (0, (j : Int)), some (0, (u : Int)), some (0, (v : Int))] [(0, 0)] _
    refine v_ret (hz_X12_clean hT _ _ rfl) (Or.inl rfl) ?_
    exact k0 hc1
  · have hc1 : 2 ≤ (P 3 (48 * j + q)) := Int.not_lt.mp hc1
    refine v_load (v := (2, 121)) (hz_X12_clean hT _ _ rfl) rfl rfl ?_
    refine v_getR (c := 126) (r := 121) (hz_X12_clean hT _ _ rfl) rfl rfl rfl ?_
    refine v_load (v := (0, (j : Int))) (hz_X12_clean hT _ _ rfl) rfl rfl ?_
    refine v_load (v := (2, 121)) (hz_X12_clean hT _ _ rfl) rfl rfl ?_
    refine v_load (v := (0, (u : Int))) (hz_X12_clean hT _ _ rfl) rfl rfl ?_
    refine v_load (v := (0, (v : Int))) (hz_X12_clean hT _ _ rfl) rfl rfl ?_
    refine v_call (w := 3) [some (2, 121), some (0, (u : Int)), some (0, (v : Int))] hO (hz_X12_clean hT _ _ rfl) rfl rfl (cb_eq2 eq (rb_at2 hT hO ((u : Int)) ((v : Int)) (by omega) (by omega) hR.w lb) ?_)
    show vP D T N 208 66 h [some (2, 121), some (0, (j : Int)), some (0, (u : Int)), some (0, (v : Int))] [(0, ((gJ P q : Nat) : Int)), (0, (j : Int)), (2, 126)] _
    refine v_call (w := 2) [some (0, (j : Int)), some (0, ((gJ P q : Nat) : Int))] hO (hz_X12_clean hT _ _ rfl) rfl rfl ?_
    refine v_push (101) (hz_X12_state hT _ _ rfl) rfl ?_
    refine v_push (48) (hz_X12_state hT _ _ rfl) rfl ?_
    refine v_load (v := (0, (j : Int))) (hz_X12_state hT _ _ rfl) rfl rfl ?_
    refine v_bin (w := (48 * (j : Int))) (hz_X12_state hT _ _ rfl) (hq_mul (by omega) (by omega)) ?_
    refine v_bin (w := (101 + (48 * (j : Int)))) (hz_X12_state hT _ _ rfl) (hq_add (by omega) (by omega)) ?_
    refine v_load (v := (0, ((gJ P q : Nat) : Int))) (hz_X12_state hT _ _ rfl) rfl rfl ?_
    refine v_bin (w := ((101 + (48 * (j : Int))) + ((gJ P q : Nat) : Int))) (hz_X12_state hT _ _ rfl) (hq_add (by omega) (by omega)) ?_
    refine v_ret (hz_X12_state hT _ _ rfl) (Or.inl rfl) ?_
    show vP D T N 208 69 h [some (2, 121), some (0, (j : Int)), some (0, (u : Int)), some (0, (v : Int))] [(0, ((101 + (48 * (j : Int))) + ((gJ P q : Nat) : Int))), (2, 126)] _
    refine v_push (0) (hz_X12_clean hT _ _ rfl) rfl ?_
    refine v_ast (r := 126) (hz_X12_clean hT _ _ rfl) rfl rfl (fun ha3 hb4 hf5 => ?_)
    refine v_push (1) (hz_X12_clean hT _ _ rfl) rfl ?_
    refine v_ret (hz_X12_clean hT _ _ rfl) (Or.inl rfl) ?_
    exact k1 hc1 ha3 hb4
theorem qs_clean33 {D : zD} {T : zT} (hT : hTab T) (hO : vOK T) {N : Nat} {h : zH} {Q : zR → Prop} {j u v : Nat} (hv0 : zHv h)
    (k0 : vP D T N 197 0 h [some (2, 121), some (0, (u : Int)), some (0, (v : Int))] [] (fun r1 => vP D T N 208 41 r1.1 [some (2, 121), some (0, (j : Int)), some (0, (u : Int)), some (0, (v : Int))] (zpush r1.2 [(0, (j : Int)), (2, 121)]) Q)) :
    vP D T N 208 33 h [some (2, 121), some (0, (j : Int)), some (0, (u : Int)), some (0, (v : Int))] [] Q := by
  refine v_load (v := (2, 121)) (hz_X12_clean hT _ _ rfl) rfl rfl ?_
  refine v_load (v := (0, (j : Int))) (hz_X12_clean hT _ _ rfl) rfl rfl ?_
  refine v_load (v := (2, 121)) (hz_X12_clean hT _ _ rfl) rfl rfl ?_
  refine v_load (v := (0, (u : Int))) (hz_X12_clean hT _ _ rfl) rfl rfl ?_
  refine v_load (v := (0, (v : Int))) (hz_X12_clean hT _ _ rfl) rfl rfl ?_
  refine v_call (w := 3) [some (2, 121), some (0, (u : Int)), some (0, (v : Int))] hO (hz_X12_clean hT _ _ rfl) rfl rfl ?_
  exact k0 
theorem qs_steam0 {D : zD} {T : zT} (hT : hTab T) (hO : vOK T) {N : Nat} {h : zH} {Q : zR → Prop} {P : PT} (x y : Int) (hv0 : zHv h) (p0 : h 126 0 = (0, P 0 0)) (p1 : h 126 1 = (0, P 0 1)) (p2 : h 126 2 = (0, P 0 2)) (p3 : h 126 3 = (0, P 0 3)) (lb : (0 ≤ P 0 0 ∧ P 0 0 ≤ 8) ∧ (0 ≤ P 0 1 ∧ P 0 1 ≤ 6) ∧ (0 ≤ P 0 2 ∧ P 0 2 ≤ 3) ∧ (0 ≤ P 0 3 ∧ P 0 3 ≤ 6))
    (k0 : (x < 0) → Q (zset (zset (zset h 121 1 (0, 0)) 121 0 (0, 0)) 121 0 (0, 2), some (0, -1)))
    (k1 : (0 ≤ x) → (((P 0 2) - 1) < x) → Q (zset (zset (zset h 121 1 (0, 0)) 121 0 (0, 0)) 121 0 (0, 2), some (0, -1)))
    (k2 : (0 ≤ x) → (x ≤ ((P 0 2) - 1)) → (y < 0) → Q (zset (zset (zset h 121 1 (0, 0)) 121 0 (0, 0)) 121 0 (0, 2), some (0, -1)))
    (k3 : (0 ≤ x) → (x ≤ ((P 0 2) - 1)) → (0 ≤ y) → (((P 0 2) - 1) < y) → Q (zset (zset (zset h 121 1 (0, 0)) 121 0 (0, 0)) 121 0 (0, 2), some (0, -1)))
    (k4 : (0 ≤ x) → (x ≤ ((P 0 2) - 1)) → (0 ≤ y) → (y ≤ ((P 0 2) - 1)) → (x = y) → Q (zset (zset (zset h 121 1 (0, 0)) 121 0 (0, 0)) 121 0 (0, 5), some (0, -1)))
    (k5 : (0 ≤ x) → (x ≤ ((P 0 2) - 1)) → (0 ≤ y) → (y ≤ ((P 0 2) - 1)) → (x ≠ y) → vP D T N 316 45 (zset (zset h 121 1 (0, 0)) 121 0 (0, 0)) [some (2, 121), some (0, x), some (0, y)] [] Q) :
    vP D T N 316 0 h [some (2, 121), some (0, x), some (0, y)] [] Q := by
  refine v_load (v := (2, 121)) (hz_X12_steam hT _ _ rfl) rfl rfl ?_
  refine v_push (0) (hz_X12_steam hT _ _ rfl) rfl ?_
  refine v_putf (r := 121) hO (hz_X12_steam hT _ _ rfl) rfl (fun hf1 => ?_)
  refine v_load (v := (2, 121)) (hz_X12_steam hT _ _ rfl) rfl rfl ?_
  refine v_push (0) (hz_X12_steam hT _ _ rfl) rfl ?_
  refine v_putf (r := 121) hO (hz_X12_steam hT _ _ rfl) rfl (fun hf2 => ?_)
  refine v_load (v := (2, 121)) (hz_X12_steam hT _ _ rfl) rfl rfl ?_
  refine v_load (v := (0, x)) (hz_X12_steam hT _ _ rfl) rfl rfl ?_
  refine v_call (w := 2) [some (2, 121), some (0, x)] hO (hz_X12_steam hT _ _ rfl) rfl rfl ?_
  refine v_load (v := (0, x)) (hz_X12_isCopy hT _ _ rfl) rfl rfl ?_
  refine v_i2l (hz_X12_isCopy hT _ _ rfl) ?_
  refine v_push (0) (hz_X12_isCopy hT _ _ rfl) rfl ?_
  refine v_load (v := (2, 121)) (hz_X12_isCopy hT _ _ rfl) rfl rfl ?_
  refine v_getR (c := 126) (r := 121) (hz_X12_isCopy hT _ _ rfl) rfl rfl rfl ?_
  refine v_push (2) (hz_X12_isCopy hT _ _ rfl) rfl ?_
  refine v_aldV (v := (0, (P 0 2))) (r := 126) (hz_X12_isCopy hT _ _ rfl) rfl rfl (fun _ _ _ => (Eq.trans (Eq.trans (zset_ne (fun c => absurd c.1 (by decide))) (zset_ne (fun c => absurd c.1 (by decide)))) (p2))) (fun ha3 hb4 => ?_)
  refine v_push (1) (hz_X12_isCopy hT _ _ rfl) rfl ?_
  refine v_bin (w := ((P 0 2) - 1)) (hz_X12_isCopy hT _ _ rfl) (hq_sub (by omega) (by omega)) ?_
  refine v_i2l (hz_X12_isCopy hT _ _ rfl) ?_
  refine v_call (w := 6) [some (1, x), none, some (1, 0), none, some (1, ((P 0 2) - 1)), none] hO (hz_X12_isCopy hT _ _ rfl) rfl rfl ?_
  refine v_load (v := (1, x)) (hz_X12_isIn hT _ _ rfl) rfl rfl ?_
  refine v_load (v := (1, 0)) (hz_X12_isIn hT _ _ rfl) rfl rfl ?_
  refine v_lif (hz_X12_isIn hT _ _ rfl) (hz_X12_isIn hT _ _ rfl) (fun hc5 => ?_) (fun hc5 => ?_)
  · have hc5 : x < 0 := hc5
    refine v_push (0) (hz_X12_isIn hT _ _ rfl) rfl ?_
    refine v_ret (hz_X12_isIn hT _ _ rfl) (Or.inl rfl) ?_
    show vP D T N 248 15 (zset (zset h 121 1 (0, 0)) 121 0 (0, 0)) [some (2, 121), some (0, x)] [(0, 0)] _
    refine v_ret (hz_X12_isCopy hT _ _ rfl) (Or.inl rfl) ?_
    show vP D T N 316 15 (zset (zset h 121 1 (0, 0)) 121 0 (0, 0)) [some (2, 121), some (0, x), some (0, y)] [(0, 0)] _
    refine v_if (hz_X12_steam hT _ _ rfl) (fun _ => ?_) (fun hc6 => absurd (show (0 : Int) = 0 from (by omega)) hc6)
    refine v_load (v := (2, 121)) (hz_X12_steam hT _ _ rfl) rfl rfl ?_
    refine v_push (2) (hz_X12_steam hT _ _ rfl) rfl ?_
    refine v_call (w := 2) [some (2, 121), some (0, 2)] hO (hz_X12_steam hT _ _ rfl) rfl rfl ?_
    refine v_load (v := (2, 121)) (hz_X12_refuse hT _ _ rfl) rfl rfl ?_
    refine v_load (v := (0, 2)) (hz_X12_refuse hT _ _ rfl) rfl rfl ?_
    refine v_putf (r := 121) hO (hz_X12_refuse hT _ _ rfl) rfl (fun hf7 => ?_)
    refine v_push (-1) (hz_X12_refuse hT _ _ rfl) rfl ?_
    refine v_ret (hz_X12_refuse hT _ _ rfl) (Or.inl rfl) ?_
    show vP D T N 316 31 (zset (zset (zset h 121 1 (0, 0)) 121 0 (0, 0)) 121 0 (0, 2)) [some (2, 121), some (0, x), some (0, y)] [(0, -1)] _
    refine v_ret (hz_X12_steam hT _ _ rfl) (Or.inl rfl) ?_
    exact k0 hc5
  · have hc5 : 0 ≤ x := Int.not_lt.mp hc5
    refine v_load (v := (1, x)) (hz_X12_isIn hT _ _ rfl) rfl rfl ?_
    refine v_load (v := (1, ((P 0 2) - 1))) (hz_X12_isIn hT _ _ rfl) rfl rfl ?_
    refine v_lif (hz_X12_isIn hT _ _ rfl) (hz_X12_isIn hT _ _ rfl) (fun hc8 => ?_) (fun hc8 => ?_)
    · have hc8 : ((P 0 2) - 1) < x := hc8
      refine v_push (0) (hz_X12_isIn hT _ _ rfl) rfl ?_
      refine v_ret (hz_X12_isIn hT _ _ rfl) (Or.inl rfl) ?_
      show vP D T N 248 15 (zset (zset h 121 1 (0, 0)) 121 0 (0, 0)) [some (2, 121), some (0, x)] [(0, 0)] _
      refine v_ret (hz_X12_isCopy hT _ _ rfl) (Or.inl rfl) ?_
      show vP D T N 316 15 (zset (zset h 121 1 (0, 0)) 121 0 (0, 0)) [some (2, 121), some (0, x), some (0, y)] [(0, 0)] _
      refine v_if (hz_X12_steam hT _ _ rfl) (fun _ => ?_) (fun hc9 => absurd (show (0 : Int) = 0 from (by omega)) hc9)
      refine v_load (v := (2, 121)) (hz_X12_steam hT _ _ rfl) rfl rfl ?_
      refine v_push (2) (hz_X12_steam hT _ _ rfl) rfl ?_
      refine v_call (w := 2) [some (2, 121), some (0, 2)] hO (hz_X12_steam hT _ _ rfl) rfl rfl ?_
      refine v_load (v := (2, 121)) (hz_X12_refuse hT _ _ rfl) rfl rfl ?_
      refine v_load (v := (0, 2)) (hz_X12_refuse hT _ _ rfl) rfl rfl ?_
      refine v_putf (r := 121) hO (hz_X12_refuse hT _ _ rfl) rfl (fun hf10 => ?_)
      refine v_push (-1) (hz_X12_refuse hT _ _ rfl) rfl ?_
      refine v_ret (hz_X12_refuse hT _ _ rfl) (Or.inl rfl) ?_
      show vP D T N 316 31 (zset (zset (zset h 121 1 (0, 0)) 121 0 (0, 0)) 121 0 (0, 2)) [some (2, 121), some (0, x), some (0, y)] [(0, -1)] _
      refine v_ret (hz_X12_steam hT _ _ rfl) (Or.inl rfl) ?_
      exact k1 hc5 hc8
    · have hc8 : x ≤ ((P 0 2) - 1) := Int.not_lt.mp hc8
      refine v_push (1) (hz_X12_isIn hT _ _ rfl) rfl ?_
      refine v_goto (hz_X12_isIn hT _ _ rfl) ?_
      refine v_ret (hz_X12_isIn hT _ _ rfl) (Or.inl rfl) ?_
      show vP D T N 248 15 (zset (zset h 121 1 (0, 0)) 121 0 (0, 0)) [some (2, 121), some (0, x)] [(0, 1)] _
      refine v_ret (hz_X12_isCopy hT _ _ rfl) (Or.inl rfl) ?_
      show vP D T N 316 15 (zset (zset h 121 1 (0, 0)) 121 0 (0, 0)) [some (2, 121), some (0, x), some (0, y)] [(0, 1)] _
      refine v_if (hz_X12_steam hT _ _ rfl) (fun hc11 => absurd (show (1 : Int) = 0 from hc11) (by omega)) (fun _ => ?_)
      refine v_load (v := (2, 121)) (hz_X12_steam hT _ _ rfl) rfl rfl ?_
      refine v_load (v := (0, y)) (hz_X12_steam hT _ _ rfl) rfl rfl ?_
      refine v_call (w := 2) [some (2, 121), some (0, y)] hO (hz_X12_steam hT _ _ rfl) rfl rfl ?_
      refine v_load (v := (0, y)) (hz_X12_isCopy hT _ _ rfl) rfl rfl ?_
      refine v_i2l (hz_X12_isCopy hT _ _ rfl) ?_
      refine v_push (0) (hz_X12_isCopy hT _ _ rfl) rfl ?_
      refine v_load (v := (2, 121)) (hz_X12_isCopy hT _ _ rfl) rfl rfl ?_
      refine v_getR (c := 126) (r := 121) (hz_X12_isCopy hT _ _ rfl) rfl rfl rfl ?_
      refine v_push (2) (hz_X12_isCopy hT _ _ rfl) rfl ?_
      refine v_aldV (v := (0, (P 0 2))) (r := 126) (hz_X12_isCopy hT _ _ rfl) rfl rfl (fun _ _ _ => (Eq.trans (Eq.trans (zset_ne (fun c => absurd c.1 (by decide))) (zset_ne (fun c => absurd c.1 (by decide)))) (p2))) (fun ha12 hb13 => ?_)
      refine v_push (1) (hz_X12_isCopy hT _ _ rfl) rfl ?_
      refine v_bin (w := ((P 0 2) - 1)) (hz_X12_isCopy hT _ _ rfl) (hq_sub (by omega) (by omega)) ?_
      refine v_i2l (hz_X12_isCopy hT _ _ rfl) ?_
      refine v_call (w := 6) [some (1, y), none, some (1, 0), none, some (1, ((P 0 2) - 1)), none] hO (hz_X12_isCopy hT _ _ rfl) rfl rfl ?_
      refine v_load (v := (1, y)) (hz_X12_isIn hT _ _ rfl) rfl rfl ?_
      refine v_load (v := (1, 0)) (hz_X12_isIn hT _ _ rfl) rfl rfl ?_
      refine v_lif (hz_X12_isIn hT _ _ rfl) (hz_X12_isIn hT _ _ rfl) (fun hc14 => ?_) (fun hc14 => ?_)
      · have hc14 : y < 0 := hc14
        refine v_push (0) (hz_X12_isIn hT _ _ rfl) rfl ?_
        refine v_ret (hz_X12_isIn hT _ _ rfl) (Or.inl rfl) ?_
        show vP D T N 248 15 (zset (zset h 121 1 (0, 0)) 121 0 (0, 0)) [some (2, 121), some (0, y)] [(0, 0)] _
        refine v_ret (hz_X12_isCopy hT _ _ rfl) (Or.inl rfl) ?_
        show vP D T N 316 23 (zset (zset h 121 1 (0, 0)) 121 0 (0, 0)) [some (2, 121), some (0, x), some (0, y)] [(0, 0)] _
        refine v_if (hz_X12_steam hT _ _ rfl) (fun _ => ?_) (fun hc15 => absurd (show (0 : Int) = 0 from (by omega)) hc15)
        refine v_load (v := (2, 121)) (hz_X12_steam hT _ _ rfl) rfl rfl ?_
        refine v_push (2) (hz_X12_steam hT _ _ rfl) rfl ?_
        refine v_call (w := 2) [some (2, 121), some (0, 2)] hO (hz_X12_steam hT _ _ rfl) rfl rfl ?_
        refine v_load (v := (2, 121)) (hz_X12_refuse hT _ _ rfl) rfl rfl ?_
        refine v_load (v := (0, 2)) (hz_X12_refuse hT _ _ rfl) rfl rfl ?_
        refine v_putf (r := 121) hO (hz_X12_refuse hT _ _ rfl) rfl (fun hf16 => ?_)
        refine v_push (-1) (hz_X12_refuse hT _ _ rfl) rfl ?_
        refine v_ret (hz_X12_refuse hT _ _ rfl) (Or.inl rfl) ?_
        show vP D T N 316 31 (zset (zset (zset h 121 1 (0, 0)) 121 0 (0, 0)) 121 0 (0, 2)) [some (2, 121), some (0, x), some (0, y)] [(0, -1)] _
        refine v_ret (hz_X12_steam hT _ _ rfl) (Or.inl rfl) ?_
        exact k2 hc5 hc8 hc14
      · have hc14 : 0 ≤ y := Int.not_lt.mp hc14
        refine v_load (v := (1, y)) (hz_X12_isIn hT _ _ rfl) rfl rfl ?_
        refine v_load (v := (1, ((P 0 2) - 1))) (hz_X12_isIn hT _ _ rfl) rfl rfl ?_
        refine v_lif (hz_X12_isIn hT _ _ rfl) (hz_X12_isIn hT _ _ rfl) (fun hc17 => ?_) (fun hc17 => ?_)
        · have hc17 : ((P 0 2) - 1) < y := hc17
          refine v_push (0) (hz_X12_isIn hT _ _ rfl) rfl ?_
          refine v_ret (hz_X12_isIn hT _ _ rfl) (Or.inl rfl) ?_
          show vP D T N 248 15 (zset (zset h 121 1 (0, 0)) 121 0 (0, 0)) [some (2, 121), some (0, y)] [(0, 0)] _
          refine v_ret (hz_X12_isCopy hT _ _ rfl) (Or.inl rfl) ?_
          show vP D T N 316 23 (zset (zset h 121 1 (0, 0)) 121 0 (0, 0)) [some (2, 121), some (0, x), some (0, y)] [(0, 0)] _
          refine v_if (hz_X12_steam hT _ _ rfl) (fun _ => ?_) (fun hc18 => absurd (show (0 : Int) = 0 from (by omega)) hc18)
          refine v_load (v := (2, 121)) (hz_X12_steam hT _ _ rfl) rfl rfl ?_
          refine v_push (2) (hz_X12_steam hT _ _ rfl) rfl ?_
          refine v_call (w := 2) [some (2, 121), some (0, 2)] hO (hz_X12_steam hT _ _ rfl) rfl rfl ?_
          refine v_load (v := (2, 121)) (hz_X12_refuse hT _ _ rfl) rfl rfl ?_
          refine v_load (v := (0, 2)) (hz_X12_refuse hT _ _ rfl) rfl rfl ?_
          refine v_putf (r := 121) hO (hz_X12_refuse hT _ _ rfl) rfl (fun hf19 => ?_)
          refine v_push (-1) (hz_X12_refuse hT _ _ rfl) rfl ?_
          refine v_ret (hz_X12_refuse hT _ _ rfl) (Or.inl rfl) ?_
          show vP D T N 316 31 (zset (zset (zset h 121 1 (0, 0)) 121 0 (0, 0)) 121 0 (0, 2)) [some (2, 121), some (0, x), some (0, y)] [(0, -1)] _
          refine v_ret (hz_X12_steam hT _ _ rfl) (Or.inl rfl) ?_
          exact k3 hc5 hc8 hc14 hc17
        · have hc17 : y ≤ ((P 0 2) - 1) := Int.not_lt.mp hc17
          refine v_push (1) (hz_X12_isIn hT _ _ rfl) rfl ?_
          refine v_goto (hz_X12_isIn hT _ _ rfl) ?_
          refine v_ret (hz_X12_isIn hT _ _ rfl) (Or.inl rfl) ?_
          show vP D T N 248 15 (zset (zset h 121 1 (0, 0)) 121 0 (0, 0)) [some (2, 121), some (0, y)] [(0, 1)] _
          refine v_ret (hz_X12_isCopy hT _ _ rfl) (Or.inl rfl) ?_
          show vP D T N 316 23 (zset (zset h 121 1 (0, 0)) 121 0 (0, 0)) [some (2, 121), some (0, x), some (0, y)] [(0, 1)] _
          refine v_if (hz_X12_steam hT _ _ rfl) (fun hc20 => absurd (show (1 : Int) = 0 from hc20) (by omega)) (fun _ => ?_)
          refine v_load (v := (0, x)) (hz_X12_steam hT _ _ rfl) rfl rfl ?_
          refine v_load (v := (0, y)) (hz_X12_steam hT _ _ rfl) rfl rfl ?_
          refine v_ic (hz_X12_steam hT _ _ rfl) (fun hc21 => ?_) (fun hc21 => ?_)
          · have hc21 : x = y := hc21
            refine v_load (v := (2, 121)) (hz_X12_steam hT _ _ rfl) rfl rfl ?_
            refine v_push (5) (hz_X12_steam hT _ _ rfl) rfl ?_
            refine v_call (w := 2) [some (2, 121), some (0, 5)] hO (hz_X12_steam hT _ _ rfl) rfl rfl ?_
            refine v_load (v := (2, 121)) (hz_X12_refuse hT _ _ rfl) rfl rfl ?_
            refine v_load (v := (0, 5)) (hz_X12_refuse hT _ _ rfl) rfl rfl ?_
            refine v_putf (r := 121) hO (hz_X12_refuse hT _ _ rfl) rfl (fun hf22 => ?_)
            refine v_push (-1) (hz_X12_refuse hT _ _ rfl) rfl ?_
            refine v_ret (hz_X12_refuse hT _ _ rfl) (Or.inl rfl) ?_
            show vP D T N 316 42 (zset (zset (zset h 121 1 (0, 0)) 121 0 (0, 0)) 121 0 (0, 5)) [some (2, 121), some (0, x), some (0, y)] [(0, -1)] _
            refine v_goto (hz_X12_steam hT _ _ rfl) ?_
            refine v_ret (hz_X12_steam hT _ _ rfl) (Or.inl rfl) ?_
            exact k4 hc5 hc8 hc14 hc17 hc21
          · have hc21 : x ≠ y := hc21
            exact k5 hc5 hc8 hc14 hc17 hc21
theorem qs_steam45 {D : zD} {T : zT} (hT : hTab T) (hO : vOK T) {N : Nat} {h : zH} {Q : zR → Prop} {j t : Nat} (hv0 : zHv h)
    (k0 : vP D T N 317 0 h [some (2, 121), some (0, (j : Int)), some (0, (t : Int)), none, none] [] (fun r1 => vP D T N 316 51 r1.1 [some (2, 121), some (0, (j : Int)), some (0, (t : Int))] (zpush r1.2 []) Q)) :
    vP D T N 316 45 h [some (2, 121), some (0, (j : Int)), some (0, (t : Int))] [] Q := by
  refine v_load (v := (2, 121)) (hz_X12_steam hT _ _ rfl) rfl rfl ?_
  refine v_load (v := (0, (j : Int))) (hz_X12_steam hT _ _ rfl) rfl rfl ?_
  refine v_load (v := (0, (t : Int))) (hz_X12_steam hT _ _ rfl) rfl rfl ?_
  refine v_call (w := 5) [some (2, 121), some (0, (j : Int)), some (0, (t : Int)), none, none] hO (hz_X12_steam hT _ _ rfl) rfl rfl ?_
  exact k0 
theorem qs_steam51 {D : zD} {T : zT} (hT : hTab T) (hO : vOK T) {N : Nat} {h : zH} {Q : zR → Prop} {j t : Nat} (w : Int) (hv0 : zHv h)
    (k0 : Q (h, some (0, w))) :
    vP D T N 316 51 h [some (2, 121), some (0, (j : Int)), some (0, (t : Int))] [(0, w)] Q := by
  refine v_ret (hz_X12_steam hT _ _ rfl) (Or.inl rfl) ?_
  exact k0 
theorem qs_march0 {D : zD} {T : zT} (hT : hTab T) (hO : vOK T) {N : Nat} {h : zH} {Q : zR → Prop} {P : PT} (x : Int) (hv0 : zHv h) (p0 : h 126 0 = (0, P 0 0)) (p1 : h 126 1 = (0, P 0 1)) (p2 : h 126 2 = (0, P 0 2)) (p3 : h 126 3 = (0, P 0 3)) (lb : (0 ≤ P 0 0 ∧ P 0 0 ≤ 8) ∧ (0 ≤ P 0 1 ∧ P 0 1 ≤ 6) ∧ (0 ≤ P 0 2 ∧ P 0 2 ≤ 3) ∧ (0 ≤ P 0 3 ∧ P 0 3 ≤ 6))
    (k0 : (x < 0) → Q (zset (zset (zset h 121 1 (0, 0)) 121 0 (0, 0)) 121 0 (0, 2), some (0, -1)))
    (k1 : (0 ≤ x) → (((P 0 3) - 1) < x) → Q (zset (zset (zset h 121 1 (0, 0)) 121 0 (0, 0)) 121 0 (0, 2), some (0, -1)))
    (k2 : (0 ≤ x) → (x ≤ ((P 0 3) - 1)) → vP D T N 274 24 (zset (zset h 121 1 (0, 0)) 121 0 (0, 0)) [some (2, 121), some (0, x), none] [] Q) :
    vP D T N 274 0 h [some (2, 121), some (0, x), none] [] Q := by
  refine v_load (v := (2, 121)) (hz_X12_march hT _ _ rfl) rfl rfl ?_
  refine v_push (0) (hz_X12_march hT _ _ rfl) rfl ?_
  refine v_putf (r := 121) hO (hz_X12_march hT _ _ rfl) rfl (fun hf1 => ?_)
  refine v_load (v := (2, 121)) (hz_X12_march hT _ _ rfl) rfl rfl ?_
  refine v_push (0) (hz_X12_march hT _ _ rfl) rfl ?_
  refine v_putf (r := 121) hO (hz_X12_march hT _ _ rfl) rfl (fun hf2 => ?_)
  refine v_load (v := (2, 121)) (hz_X12_march hT _ _ rfl) rfl rfl ?_
  refine v_load (v := (0, x)) (hz_X12_march hT _ _ rfl) rfl rfl ?_
  refine v_call (w := 2) [some (2, 121), some (0, x)] hO (hz_X12_march hT _ _ rfl) rfl rfl ?_
  refine v_load (v := (0, x)) (hz_X12_isCompanyAt hT _ _ rfl) rfl rfl ?_
  refine v_i2l (hz_X12_isCompanyAt hT _ _ rfl) ?_
  refine v_push (0) (hz_X12_isCompanyAt hT _ _ rfl) rfl ?_
  refine v_load (v := (2, 121)) (hz_X12_isCompanyAt hT _ _ rfl) rfl rfl ?_
  refine v_getR (c := 126) (r := 121) (hz_X12_isCompanyAt hT _ _ rfl) rfl rfl rfl ?_
  refine v_push (3) (hz_X12_isCompanyAt hT _ _ rfl) rfl ?_
  refine v_aldV (v := (0, (P 0 3))) (r := 126) (hz_X12_isCompanyAt hT _ _ rfl) rfl rfl (fun _ _ _ => (Eq.trans (Eq.trans (zset_ne (fun c => absurd c.1 (by decide))) (zset_ne (fun c => absurd c.1 (by decide)))) (p3))) (fun ha3 hb4 => ?_)
  refine v_push (1) (hz_X12_isCompanyAt hT _ _ rfl) rfl ?_
  refine v_bin (w := ((P 0 3) - 1)) (hz_X12_isCompanyAt hT _ _ rfl) (hq_sub (by omega) (by omega)) ?_
  refine v_i2l (hz_X12_isCompanyAt hT _ _ rfl) ?_
  refine v_call (w := 6) [some (1, x), none, some (1, 0), none, some (1, ((P 0 3) - 1)), none] hO (hz_X12_isCompanyAt hT _ _ rfl) rfl rfl ?_
  refine v_load (v := (1, x)) (hz_X12_isIn hT _ _ rfl) rfl rfl ?_
  refine v_load (v := (1, 0)) (hz_X12_isIn hT _ _ rfl) rfl rfl ?_
  refine v_lif (hz_X12_isIn hT _ _ rfl) (hz_X12_isIn hT _ _ rfl) (fun hc5 => ?_) (fun hc5 => ?_)
  · have hc5 : x < 0 := hc5
    refine v_push (0) (hz_X12_isIn hT _ _ rfl) rfl ?_
    refine v_ret (hz_X12_isIn hT _ _ rfl) (Or.inl rfl) ?_
    show vP D T N 246 15 (zset (zset h 121 1 (0, 0)) 121 0 (0, 0)) [some (2, 121), some (0, x)] [(0, 0)] _
    refine v_ret (hz_X12_isCompanyAt hT _ _ rfl) (Or.inl rfl) ?_
    show vP D T N 274 15 (zset (zset h 121 1 (0, 0)) 121 0 (0, 0)) [some (2, 121), some (0, x), none] [(0, 0)] _
    refine v_if (hz_X12_march hT _ _ rfl) (fun _ => ?_) (fun hc6 => absurd (show (0 : Int) = 0 from (by omega)) hc6)
    refine v_load (v := (2, 121)) (hz_X12_march hT _ _ rfl) rfl rfl ?_
    refine v_push (2) (hz_X12_march hT _ _ rfl) rfl ?_
    refine v_call (w := 2) [some (2, 121), some (0, 2)] hO (hz_X12_march hT _ _ rfl) rfl rfl ?_
    refine v_load (v := (2, 121)) (hz_X12_refuse hT _ _ rfl) rfl rfl ?_
    refine v_load (v := (0, 2)) (hz_X12_refuse hT _ _ rfl) rfl rfl ?_
    refine v_putf (r := 121) hO (hz_X12_refuse hT _ _ rfl) rfl (fun hf7 => ?_)
    refine v_push (-1) (hz_X12_refuse hT _ _ rfl) rfl ?_
    refine v_ret (hz_X12_refuse hT _ _ rfl) (Or.inl rfl) ?_
    show vP D T N 274 23 (zset (zset (zset h 121 1 (0, 0)) 121 0 (0, 0)) 121 0 (0, 2)) [some (2, 121), some (0, x), none] [(0, -1)] _
    refine v_ret (hz_X12_march hT _ _ rfl) (Or.inl rfl) ?_
    exact k0 hc5
  · have hc5 : 0 ≤ x := Int.not_lt.mp hc5
    refine v_load (v := (1, x)) (hz_X12_isIn hT _ _ rfl) rfl rfl ?_
    refine v_load (v := (1, ((P 0 3) - 1))) (hz_X12_isIn hT _ _ rfl) rfl rfl ?_
    refine v_lif (hz_X12_isIn hT _ _ rfl) (hz_X12_isIn hT _ _ rfl) (fun hc8 => ?_) (fun hc8 => ?_)
    · have hc8 : ((P 0 3) - 1) < x := hc8
      refine v_push (0) (hz_X12_isIn hT _ _ rfl) rfl ?_
      refine v_ret (hz_X12_isIn hT _ _ rfl) (Or.inl rfl) ?_
      show vP D T N 246 15 (zset (zset h 121 1 (0, 0)) 121 0 (0, 0)) [some (2, 121), some (0, x)] [(0, 0)] _
      refine v_ret (hz_X12_isCompanyAt hT _ _ rfl) (Or.inl rfl) ?_
      show vP D T N 274 15 (zset (zset h 121 1 (0, 0)) 121 0 (0, 0)) [some (2, 121), some (0, x), none] [(0, 0)] _
      refine v_if (hz_X12_march hT _ _ rfl) (fun _ => ?_) (fun hc9 => absurd (show (0 : Int) = 0 from (by omega)) hc9)
      refine v_load (v := (2, 121)) (hz_X12_march hT _ _ rfl) rfl rfl ?_
      refine v_push (2) (hz_X12_march hT _ _ rfl) rfl ?_
      refine v_call (w := 2) [some (2, 121), some (0, 2)] hO (hz_X12_march hT _ _ rfl) rfl rfl ?_
      refine v_load (v := (2, 121)) (hz_X12_refuse hT _ _ rfl) rfl rfl ?_
      refine v_load (v := (0, 2)) (hz_X12_refuse hT _ _ rfl) rfl rfl ?_
      refine v_putf (r := 121) hO (hz_X12_refuse hT _ _ rfl) rfl (fun hf10 => ?_)
      refine v_push (-1) (hz_X12_refuse hT _ _ rfl) rfl ?_
      refine v_ret (hz_X12_refuse hT _ _ rfl) (Or.inl rfl) ?_
      show vP D T N 274 23 (zset (zset (zset h 121 1 (0, 0)) 121 0 (0, 0)) 121 0 (0, 2)) [some (2, 121), some (0, x), none] [(0, -1)] _
      refine v_ret (hz_X12_march hT _ _ rfl) (Or.inl rfl) ?_
      exact k1 hc5 hc8
    · have hc8 : x ≤ ((P 0 3) - 1) := Int.not_lt.mp hc8
      refine v_push (1) (hz_X12_isIn hT _ _ rfl) rfl ?_
      refine v_goto (hz_X12_isIn hT _ _ rfl) ?_
      refine v_ret (hz_X12_isIn hT _ _ rfl) (Or.inl rfl) ?_
      show vP D T N 246 15 (zset (zset h 121 1 (0, 0)) 121 0 (0, 0)) [some (2, 121), some (0, x)] [(0, 1)] _
      refine v_ret (hz_X12_isCompanyAt hT _ _ rfl) (Or.inl rfl) ?_
      show vP D T N 274 15 (zset (zset h 121 1 (0, 0)) 121 0 (0, 0)) [some (2, 121), some (0, x), none] [(0, 1)] _
      refine v_if (hz_X12_march hT _ _ rfl) (fun hc11 => absurd (show (1 : Int) = 0 from hc11) (by omega)) (fun _ => ?_)
      exact k2 hc5 hc8
theorem qs_march24 {D : zD} {T : zT} (hT : hTab T) (hO : vOK T) {N : Nat} {h : zH} {Q : zR → Prop} {a : Nat} (hv0 : zHv h)
    (k0 : vP D T N 275 0 h [some (2, 121), some (0, (a : Int)), none, none] [] (fun r1 => vP D T N 274 29 r1.1 [some (2, 121), some (0, (a : Int)), none] (zpush r1.2 []) Q)) :
    vP D T N 274 24 h [some (2, 121), some (0, (a : Int)), none] [] Q := by
  refine v_load (v := (2, 121)) (hz_X12_march hT _ _ rfl) rfl rfl ?_
  refine v_load (v := (0, (a : Int))) (hz_X12_march hT _ _ rfl) rfl rfl ?_
  refine v_call (w := 4) [some (2, 121), some (0, (a : Int)), none, none] hO (hz_X12_march hT _ _ rfl) rfl rfl ?_
  exact k0 
theorem qs_march29n {D : zD} {T : zT} (hT : hTab T) (hO : vOK T) {N : Nat} {h : zH} {Q : zR → Prop} {a : Nat} (hv0 : zHv h)
    (k0 : Q (zset h 121 0 (0, 9), some (0, -1))) :
    vP D T N 274 29 h [some (2, 121), some (0, (a : Int)), none] [(0, -1)] Q := by
  refine v_store1 [some (2, 121), some (0, (a : Int)), some (0, -1)] (hz_X12_march hT _ _ rfl) ⟨rfl, Nat.ne_of_beq_eq_false rfl⟩ (Nat.le_of_ble_eq_true rfl) rfl ?_
  refine v_load (v := (0, -1)) (hz_X12_march hT _ _ rfl) rfl rfl ?_
  refine v_if (hz_X12_march hT _ _ rfl) (fun _ => ?_) (fun hc1 => absurd (show (-1 : Int) < 0 from (by omega)) hc1)
  refine v_load (v := (2, 121)) (hz_X12_march hT _ _ rfl) rfl rfl ?_
  refine v_push (9) (hz_X12_march hT _ _ rfl) rfl ?_
  refine v_call (w := 2) [some (2, 121), some (0, 9)] hO (hz_X12_march hT _ _ rfl) rfl rfl ?_
  refine v_load (v := (2, 121)) (hz_X12_refuse hT _ _ rfl) rfl rfl ?_
  refine v_load (v := (0, 9)) (hz_X12_refuse hT _ _ rfl) rfl rfl ?_
  refine v_putf (r := 121) hO (hz_X12_refuse hT _ _ rfl) rfl (fun hf2 => ?_)
  refine v_push (-1) (hz_X12_refuse hT _ _ rfl) rfl ?_
  refine v_ret (hz_X12_refuse hT _ _ rfl) (Or.inl rfl) ?_
  show vP D T N 274 40 (zset h 121 0 (0, 9)) [some (2, 121), some (0, (a : Int)), some (0, -1)] [(0, -1)] _
  refine v_ret (hz_X12_march hT _ _ rfl) (Or.inl rfl) ?_
  exact k0 
theorem qs_march29 {D : zD} {T : zT} (hT : hTab T) (hO : vOK T) {N : Nat} {h : zH} {Q : zR → Prop} {a n : Nat} (w : Int) (hv0 : zHv h) (hw : 0 ≤ w) (e33 : h 121 33 = (0, (n : Int)))
    (k0 : Q (zset h 121 32 (0, (n : Int)), some (0, w))) :
    vP D T N 274 29 h [some (2, 121), some (0, (a : Int)), none] [(0, w)] Q := by
  refine v_store1 [some (2, 121), some (0, (a : Int)), some (0, w)] (hz_X12_march hT _ _ rfl) ⟨rfl, Nat.ne_of_beq_eq_false rfl⟩ (Nat.le_of_ble_eq_true rfl) rfl ?_
  refine v_load (v := (0, w)) (hz_X12_march hT _ _ rfl) rfl rfl ?_
  refine v_if (hz_X12_march hT _ _ rfl) (fun hc1 => absurd (show w < 0 from hc1) (by omega)) (fun _ => ?_)
  refine v_load (v := (2, 121)) (hz_X12_march hT _ _ rfl) rfl rfl ?_
  refine v_load (v := (2, 121)) (hz_X12_march hT _ _ rfl) rfl rfl ?_
  refine v_getf (v := (0, (n : Int))) (r := 121) (hz_X12_march hT _ _ rfl) rfl rfl (fun _ => e33) ?_
  refine v_putf (r := 121) hO (hz_X12_march hT _ _ rfl) rfl (fun hf2 => ?_)
  refine v_load (v := (0, w)) (hz_X12_march hT _ _ rfl) rfl rfl ?_
  refine v_ret (hz_X12_march hT _ _ rfl) (Or.inl rfl) ?_
  exact k0 
theorem qs_hand0 {D : zD} {T : zT} (hT : hTab T) (hO : vOK T) {N : Nat} {h : zH} {Q : zR → Prop} {P : PT} (x y : Int) (hv0 : zHv h) (p0 : h 126 0 = (0, P 0 0)) (p1 : h 126 1 = (0, P 0 1)) (p2 : h 126 2 = (0, P 0 2)) (p3 : h 126 3 = (0, P 0 3)) (lb : (0 ≤ P 0 0 ∧ P 0 0 ≤ 8) ∧ (0 ≤ P 0 1 ∧ P 0 1 ≤ 6) ∧ (0 ≤ P 0 2 ∧ P 0 2 ≤ 3) ∧ (0 ≤ P 0 3 ∧ P 0 3 ≤ 6))
    (k0 : (x < 0) → Q (zset (zset (zset h 121 1 (0, 0)) 121 0 (0, 0)) 121 0 (0, 2), some (0, 0)))
    (k1 : (0 ≤ x) → (((P 0 3) - 1) < x) → Q (zset (zset (zset h 121 1 (0, 0)) 121 0 (0, 0)) 121 0 (0, 2), some (0, 0)))
    (k2 : (0 ≤ x) → (x ≤ ((P 0 3) - 1)) → (y < 0) → Q (zset (zset (zset h 121 1 (0, 0)) 121 0 (0, 0)) 121 0 (0, 2), some (0, 0)))
    (k3 : (0 ≤ x) → (x ≤ ((P 0 3) - 1)) → (0 ≤ y) → (((P 0 2) - 1) < y) → Q (zset (zset (zset h 121 1 (0, 0)) 121 0 (0, 0)) 121 0 (0, 2), some (0, 0)))
    (k4 : (0 ≤ x) → (x ≤ ((P 0 3) - 1)) → (0 ≤ y) → (y ≤ ((P 0 2) - 1)) → vP D T N 236 32 (zset (zset h 121 1 (0, 0)) 121 0 (0, 0)) [some (2, 121), some (0, x), some (0, y)] [] Q) :
    vP D T N 236 0 h [some (2, 121), some (0, x), some (0, y)] [] Q := by
  refine v_load (v := (2, 121)) (hz_X12_hand hT _ _ rfl) rfl rfl ?_
  refine v_push (0) (hz_X12_hand hT _ _ rfl) rfl ?_
  refine v_putf (r := 121) hO (hz_X12_hand hT _ _ rfl) rfl (fun hf1 => ?_)
  refine v_load (v := (2, 121)) (hz_X12_hand hT _ _ rfl) rfl rfl ?_
  refine v_push (0) (hz_X12_hand hT _ _ rfl) rfl ?_
  refine v_putf (r := 121) hO (hz_X12_hand hT _ _ rfl) rfl (fun hf2 => ?_)
  refine v_load (v := (2, 121)) (hz_X12_hand hT _ _ rfl) rfl rfl ?_
  refine v_load (v := (0, x)) (hz_X12_hand hT _ _ rfl) rfl rfl ?_
  refine v_call (w := 2) [some (2, 121), some (0, x)] hO (hz_X12_hand hT _ _ rfl) rfl rfl ?_
  refine v_load (v := (0, x)) (hz_X12_isCompanyAt hT _ _ rfl) rfl rfl ?_
  refine v_i2l (hz_X12_isCompanyAt hT _ _ rfl) ?_
  refine v_push (0) (hz_X12_isCompanyAt hT _ _ rfl) rfl ?_
  refine v_load (v := (2, 121)) (hz_X12_isCompanyAt hT _ _ rfl) rfl rfl ?_
  refine v_getR (c := 126) (r := 121) (hz_X12_isCompanyAt hT _ _ rfl) rfl rfl rfl ?_
  refine v_push (3) (hz_X12_isCompanyAt hT _ _ rfl) rfl ?_
  refine v_aldV (v := (0, (P 0 3))) (r := 126) (hz_X12_isCompanyAt hT _ _ rfl) rfl rfl (fun _ _ _ => (Eq.trans (Eq.trans (zset_ne (fun c => absurd c.1 (by decide))) (zset_ne (fun c => absurd c.1 (by decide)))) (p3))) (fun ha3 hb4 => ?_)
  refine v_push (1) (hz_X12_isCompanyAt hT _ _ rfl) rfl ?_
  refine v_bin (w := ((P 0 3) - 1)) (hz_X12_isCompanyAt hT _ _ rfl) (hq_sub (by omega) (by omega)) ?_
  refine v_i2l (hz_X12_isCompanyAt hT _ _ rfl) ?_
  refine v_call (w := 6) [some (1, x), none, some (1, 0), none, some (1, ((P 0 3) - 1)), none] hO (hz_X12_isCompanyAt hT _ _ rfl) rfl rfl ?_
  refine v_load (v := (1, x)) (hz_X12_isIn hT _ _ rfl) rfl rfl ?_
  refine v_load (v := (1, 0)) (hz_X12_isIn hT _ _ rfl) rfl rfl ?_
  refine v_lif (hz_X12_isIn hT _ _ rfl) (hz_X12_isIn hT _ _ rfl) (fun hc5 => ?_) (fun hc5 => ?_)
  · have hc5 : x < 0 := hc5
    refine v_push (0) (hz_X12_isIn hT _ _ rfl) rfl ?_
    refine v_ret (hz_X12_isIn hT _ _ rfl) (Or.inl rfl) ?_
    show vP D T N 246 15 (zset (zset h 121 1 (0, 0)) 121 0 (0, 0)) [some (2, 121), some (0, x)] [(0, 0)] _
    refine v_ret (hz_X12_isCompanyAt hT _ _ rfl) (Or.inl rfl) ?_
    show vP D T N 236 15 (zset (zset h 121 1 (0, 0)) 121 0 (0, 0)) [some (2, 121), some (0, x), some (0, y)] [(0, 0)] _
    refine v_if (hz_X12_hand hT _ _ rfl) (fun _ => ?_) (fun hc6 => absurd (show (0 : Int) = 0 from (by omega)) hc6)
    refine v_load (v := (2, 121)) (hz_X12_hand hT _ _ rfl) rfl rfl ?_
    refine v_push (2) (hz_X12_hand hT _ _ rfl) rfl ?_
    refine v_call (w := 2) [some (2, 121), some (0, 2)] hO (hz_X12_hand hT _ _ rfl) rfl rfl ?_
    refine v_load (v := (2, 121)) (hz_X12_no hT _ _ rfl) rfl rfl ?_
    refine v_load (v := (0, 2)) (hz_X12_no hT _ _ rfl) rfl rfl ?_
    refine v_putf (r := 121) hO (hz_X12_no hT _ _ rfl) rfl (fun hf7 => ?_)
    refine v_push (0) (hz_X12_no hT _ _ rfl) rfl ?_
    refine v_ret (hz_X12_no hT _ _ rfl) (Or.inl rfl) ?_
    show vP D T N 236 31 (zset (zset (zset h 121 1 (0, 0)) 121 0 (0, 0)) 121 0 (0, 2)) [some (2, 121), some (0, x), some (0, y)] [(0, 0)] _
    refine v_ret (hz_X12_hand hT _ _ rfl) (Or.inl rfl) ?_
    exact k0 hc5
  · have hc5 : 0 ≤ x := Int.not_lt.mp hc5
    refine v_load (v := (1, x)) (hz_X12_isIn hT _ _ rfl) rfl rfl ?_
    refine v_load (v := (1, ((P 0 3) - 1))) (hz_X12_isIn hT _ _ rfl) rfl rfl ?_
    refine v_lif (hz_X12_isIn hT _ _ rfl) (hz_X12_isIn hT _ _ rfl) (fun hc8 => ?_) (fun hc8 => ?_)
    · have hc8 : ((P 0 3) - 1) < x := hc8
      refine v_push (0) (hz_X12_isIn hT _ _ rfl) rfl ?_
      refine v_ret (hz_X12_isIn hT _ _ rfl) (Or.inl rfl) ?_
      show vP D T N 246 15 (zset (zset h 121 1 (0, 0)) 121 0 (0, 0)) [some (2, 121), some (0, x)] [(0, 0)] _
      refine v_ret (hz_X12_isCompanyAt hT _ _ rfl) (Or.inl rfl) ?_
      show vP D T N 236 15 (zset (zset h 121 1 (0, 0)) 121 0 (0, 0)) [some (2, 121), some (0, x), some (0, y)] [(0, 0)] _
      refine v_if (hz_X12_hand hT _ _ rfl) (fun _ => ?_) (fun hc9 => absurd (show (0 : Int) = 0 from (by omega)) hc9)
      refine v_load (v := (2, 121)) (hz_X12_hand hT _ _ rfl) rfl rfl ?_
      refine v_push (2) (hz_X12_hand hT _ _ rfl) rfl ?_
      refine v_call (w := 2) [some (2, 121), some (0, 2)] hO (hz_X12_hand hT _ _ rfl) rfl rfl ?_
      refine v_load (v := (2, 121)) (hz_X12_no hT _ _ rfl) rfl rfl ?_
      refine v_load (v := (0, 2)) (hz_X12_no hT _ _ rfl) rfl rfl ?_
      refine v_putf (r := 121) hO (hz_X12_no hT _ _ rfl) rfl (fun hf10 => ?_)
      refine v_push (0) (hz_X12_no hT _ _ rfl) rfl ?_
      refine v_ret (hz_X12_no hT _ _ rfl) (Or.inl rfl) ?_
      show vP D T N 236 31 (zset (zset (zset h 121 1 (0, 0)) 121 0 (0, 0)) 121 0 (0, 2)) [some (2, 121), some (0, x), some (0, y)] [(0, 0)] _
      refine v_ret (hz_X12_hand hT _ _ rfl) (Or.inl rfl) ?_
      exact k1 hc5 hc8
    · have hc8 : x ≤ ((P 0 3) - 1) := Int.not_lt.mp hc8
      refine v_push (1) (hz_X12_isIn hT _ _ rfl) rfl ?_
      refine v_goto (hz_X12_isIn hT _ _ rfl) ?_
      refine v_ret (hz_X12_isIn hT _ _ rfl) (Or.inl rfl) ?_
      show vP D T N 246 15 (zset (zset h 121 1 (0, 0)) 121 0 (0, 0)) [some (2, 121), some (0, x)] [(0, 1)] _
      refine v_ret (hz_X12_isCompanyAt hT _ _ rfl) (Or.inl rfl) ?_
      show vP D T N 236 15 (zset (zset h 121 1 (0, 0)) 121 0 (0, 0)) [some (2, 121), some (0, x), some (0, y)] [(0, 1)] _
      refine v_if (hz_X12_hand hT _ _ rfl) (fun hc11 => absurd (show (1 : Int) = 0 from hc11) (by omega)) (fun _ => ?_)
      refine v_load (v := (2, 121)) (hz_X12_hand hT _ _ rfl) rfl rfl ?_
      refine v_load (v := (0, y)) (hz_X12_hand hT _ _ rfl) rfl rfl ?_
      refine v_call (w := 2) [some (2, 121), some (0, y)] hO (hz_X12_hand hT _ _ rfl) rfl rfl ?_
      refine v_load (v := (0, y)) (hz_X12_isCopy hT _ _ rfl) rfl rfl ?_
      refine v_i2l (hz_X12_isCopy hT _ _ rfl) ?_
      refine v_push (0) (hz_X12_isCopy hT _ _ rfl) rfl ?_
      refine v_load (v := (2, 121)) (hz_X12_isCopy hT _ _ rfl) rfl rfl ?_
      refine v_getR (c := 126) (r := 121) (hz_X12_isCopy hT _ _ rfl) rfl rfl rfl ?_
      refine v_push (2) (hz_X12_isCopy hT _ _ rfl) rfl ?_
      refine v_aldV (v := (0, (P 0 2))) (r := 126) (hz_X12_isCopy hT _ _ rfl) rfl rfl (fun _ _ _ => (Eq.trans (Eq.trans (zset_ne (fun c => absurd c.1 (by decide))) (zset_ne (fun c => absurd c.1 (by decide)))) (p2))) (fun ha12 hb13 => ?_)
      refine v_push (1) (hz_X12_isCopy hT _ _ rfl) rfl ?_
      refine v_bin (w := ((P 0 2) - 1)) (hz_X12_isCopy hT _ _ rfl) (hq_sub (by omega) (by omega)) ?_
      refine v_i2l (hz_X12_isCopy hT _ _ rfl) ?_
      refine v_call (w := 6) [some (1, y), none, some (1, 0), none, some (1, ((P 0 2) - 1)), none] hO (hz_X12_isCopy hT _ _ rfl) rfl rfl ?_
      refine v_load (v := (1, y)) (hz_X12_isIn hT _ _ rfl) rfl rfl ?_
      refine v_load (v := (1, 0)) (hz_X12_isIn hT _ _ rfl) rfl rfl ?_
      refine v_lif (hz_X12_isIn hT _ _ rfl) (hz_X12_isIn hT _ _ rfl) (fun hc14 => ?_) (fun hc14 => ?_)
      · have hc14 : y < 0 := hc14
        refine v_push (0) (hz_X12_isIn hT _ _ rfl) rfl ?_
        refine v_ret (hz_X12_isIn hT _ _ rfl) (Or.inl rfl) ?_
        show vP D T N 248 15 (zset (zset h 121 1 (0, 0)) 121 0 (0, 0)) [some (2, 121), some (0, y)] [(0, 0)] _
        refine v_ret (hz_X12_isCopy hT _ _ rfl) (Or.inl rfl) ?_
        show vP D T N 236 23 (zset (zset h 121 1 (0, 0)) 121 0 (0, 0)) [some (2, 121), some (0, x), some (0, y)] [(0, 0)] _
        refine v_if (hz_X12_hand hT _ _ rfl) (fun _ => ?_) (fun hc15 => absurd (show (0 : Int) = 0 from (by omega)) hc15)
        refine v_load (v := (2, 121)) (hz_X12_hand hT _ _ rfl) rfl rfl ?_
        refine v_push (2) (hz_X12_hand hT _ _ rfl) rfl ?_
        refine v_call (w := 2) [some (2, 121), some (0, 2)] hO (hz_X12_hand hT _ _ rfl) rfl rfl ?_
        refine v_load (v := (2, 121)) (hz_X12_no hT _ _ rfl) rfl rfl ?_
        refine v_load (v := (0, 2)) (hz_X12_no hT _ _ rfl) rfl rfl ?_
        refine v_putf (r := 121) hO (hz_X12_no hT _ _ rfl) rfl (fun hf16 => ?_)
        refine v_push (0) (hz_X12_no hT _ _ rfl) rfl ?_
        refine v_ret (hz_X12_no hT _ _ rfl) (Or.inl rfl) ?_
        show vP D T N 236 31 (zset (zset (zset h 121 1 (0, 0)) 121 0 (0, 0)) 121 0 (0, 2)) [some (2, 121), some (0, x), some (0, y)] [(0, 0)] _
        refine v_ret (hz_X12_hand hT _ _ rfl) (Or.inl rfl) ?_
        exact k2 hc5 hc8 hc14
      · have hc14 : 0 ≤ y := Int.not_lt.mp hc14
        refine v_load (v := (1, y)) (hz_X12_isIn hT _ _ rfl) rfl rfl ?_
        refine v_load (v := (1, ((P 0 2) - 1))) (hz_X12_isIn hT _ _ rfl) rfl rfl ?_
        refine v_lif (hz_X12_isIn hT _ _ rfl) (hz_X12_isIn hT _ _ rfl) (fun hc17 => ?_) (fun hc17 => ?_)
        · have hc17 : ((P 0 2) - 1) < y := hc17
          refine v_push (0) (hz_X12_isIn hT _ _ rfl) rfl ?_
          refine v_ret (hz_X12_isIn hT _ _ rfl) (Or.inl rfl) ?_
          show vP D T N 248 15 (zset (zset h 121 1 (0, 0)) 121 0 (0, 0)) [some (2, 121), some (0, y)] [(0, 0)] _
          refine v_ret (hz_X12_isCopy hT _ _ rfl) (Or.inl rfl) ?_
          show vP D T N 236 23 (zset (zset h 121 1 (0, 0)) 121 0 (0, 0)) [some (2, 121), some (0, x), some (0, y)] [(0, 0)] _
          refine v_if (hz_X12_hand hT _ _ rfl) (fun _ => ?_) (fun hc18 => absurd (show (0 : Int) = 0 from (by omega)) hc18)
          refine v_load (v := (2, 121)) (hz_X12_hand hT _ _ rfl) rfl rfl ?_
          refine v_push (2) (hz_X12_hand hT _ _ rfl) rfl ?_
          refine v_call (w := 2) [some (2, 121), some (0, 2)] hO (hz_X12_hand hT _ _ rfl) rfl rfl ?_
          refine v_load (v := (2, 121)) (hz_X12_no hT _ _ rfl) rfl rfl ?_
          refine v_load (v := (0, 2)) (hz_X12_no hT _ _ rfl) rfl rfl ?_
          refine v_putf (r := 121) hO (hz_X12_no hT _ _ rfl) rfl (fun hf19 => ?_)
          refine v_push (0) (hz_X12_no hT _ _ rfl) rfl ?_
          refine v_ret (hz_X12_no hT _ _ rfl) (Or.inl rfl) ?_
          show vP D T N 236 31 (zset (zset (zset h 121 1 (0, 0)) 121 0 (0, 0)) 121 0 (0, 2)) [some (2, 121), some (0, x), some (0, y)] [(0, 0)] _
          refine v_ret (hz_X12_hand hT _ _ rfl) (Or.inl rfl) ?_
          exact k3 hc5 hc8 hc14 hc17
        · have hc17 : y ≤ ((P 0 2) - 1) := Int.not_lt.mp hc17
          refine v_push (1) (hz_X12_isIn hT _ _ rfl) rfl ?_
          refine v_goto (hz_X12_isIn hT _ _ rfl) ?_
          refine v_ret (hz_X12_isIn hT _ _ rfl) (Or.inl rfl) ?_
          show vP D T N 248 15 (zset (zset h 121 1 (0, 0)) 121 0 (0, 0)) [some (2, 121), some (0, y)] [(0, 1)] _
          refine v_ret (hz_X12_isCopy hT _ _ rfl) (Or.inl rfl) ?_
          show vP D T N 236 23 (zset (zset h 121 1 (0, 0)) 121 0 (0, 0)) [some (2, 121), some (0, x), some (0, y)] [(0, 1)] _
          refine v_if (hz_X12_hand hT _ _ rfl) (fun hc20 => absurd (show (1 : Int) = 0 from hc20) (by omega)) (fun _ => ?_)
          exact k4 hc5 hc8 hc14 hc17
theorem qs_hand32 {D : zD} {T : zT} (hT : hTab T) (hO : vOK T) {N : Nat} {h : zH} {Q : zR → Prop} {a j : Nat} (hv0 : zHv h) (ha : a < 6)
    (k0 : (0 ≤ (263 + (a : Int))) → ((263 + (a : Int)) < 2750) → Q (zset h 126 (((263 + (a : Int))).toNat) (0, (j : Int)), some (0, 1))) :
    vP D T N 236 32 h [some (2, 121), some (0, (a : Int)), some (0, (j : Int))] [] Q := by
  refine v_load (v := (2, 121)) (hz_X12_hand hT _ _ rfl) rfl rfl ?_
  refine v_getR (c := 126) (r := 121) (hz_X12_hand hT _ _ rfl) rfl rfl rfl ?_
  refine v_push (263) (hz_X12_hand hT _ _ rfl) rfl ?_
  refine v_load (v := (0, (a : Int))) (hz_X12_hand hT _ _ rfl) rfl rfl ?_
  refine v_bin (w := (263 + (a : Int))) (hz_X12_hand hT _ _ rfl) (hq_add (by omega) (by omega)) ?_
  refine v_load (v := (0, (j : Int))) (hz_X12_hand hT _ _ rfl) rfl rfl ?_
  refine v_ast (r := 126) (hz_X12_hand hT _ _ rfl) rfl rfl (fun ha1 hb2 hf3 => ?_)
  refine v_push (1) (hz_X12_hand hT _ _ rfl) rfl ?_
  refine v_ret (hz_X12_hand hT _ _ rfl) (Or.inl rfl) ?_
  exact k0 ha1 hb2
theorem qs_run0 {D : zD} {T : zT} (hT : hTab T) (hO : vOK T) {N : Nat} {h : zH} {Q : zR → Prop} (x w : Int) (hv0 : zHv h) (e275 : h 126 275 = (0, w))
    (k0 : (x < 0) → Q (zset (zset (zset h 121 1 (0, 0)) 121 0 (0, 0)) 121 0 (0, 5), some (0, -1)))
    (k1 : (0 ≤ x) → (9999 < x) → Q (zset (zset (zset h 121 1 (0, 0)) 121 0 (0, 0)) 121 0 (0, 5), some (0, -1)))
    (k2 : (0 ≤ x) → (x ≤ 9999) → (w = 0) → Q (zset (zset (zset h 121 1 (0, 0)) 121 0 (0, 0)) 121 0 (0, 8), some (0, -1)))
    (k3 : (0 ≤ x) → (x ≤ 9999) → (w ≠ 0) → vP D T N 308 0 (zset (zset h 121 1 (0, 0)) 121 0 (0, 0)) [some (2, 121), some (0, x)] [] (fun r1 => vP D T N 307 51 r1.1 [some (2, 121), some (0, x)] (zpush r1.2 []) Q)) :
    vP D T N 307 0 h [some (2, 121), some (0, x)] [] Q := by
  refine v_load (v := (2, 121)) (hz_X12_run hT _ _ rfl) rfl rfl ?_
  refine v_push (0) (hz_X12_run hT _ _ rfl) rfl ?_
  refine v_putf (r := 121) hO (hz_X12_run hT _ _ rfl) rfl (fun hf1 => ?_)
  refine v_load (v := (2, 121)) (hz_X12_run hT _ _ rfl) rfl rfl ?_
  refine v_push (0) (hz_X12_run hT _ _ rfl) rfl ?_
  refine v_putf (r := 121) hO (hz_X12_run hT _ _ rfl) rfl (fun hf2 => ?_)
  refine v_load (v := (0, x)) (hz_X12_run hT _ _ rfl) rfl rfl ?_
  refine v_i2l (hz_X12_run hT _ _ rfl) ?_
  refine v_push (0) (hz_X12_run hT _ _ rfl) rfl ?_
  refine v_push (9999) (hz_X12_run hT _ _ rfl) rfl ?_
  refine v_call (w := 6) [some (1, x), none, some (1, 0), none, some (1, 9999), none] hO (hz_X12_run hT _ _ rfl) rfl rfl ?_
  refine v_load (v := (1, x)) (hz_X12_isIn hT _ _ rfl) rfl rfl ?_
  refine v_load (v := (1, 0)) (hz_X12_isIn hT _ _ rfl) rfl rfl ?_
  refine v_lif (hz_X12_isIn hT _ _ rfl) (hz_X12_isIn hT _ _ rfl) (fun hc3 => ?_) (fun hc3 => ?_)
  · have hc3 : x < 0 := hc3
    refine v_push (0) (hz_X12_isIn hT _ _ rfl) rfl ?_
    refine v_ret (hz_X12_isIn hT _ _ rfl) (Or.inl rfl) ?_
    show vP D T N 307 19 (zset (zset h 121 1 (0, 0)) 121 0 (0, 0)) [some (2, 121), some (0, x)] [(0, 0)] _
    refine v_if (hz_X12_run hT _ _ rfl) (fun _ => ?_) (fun hc4 => absurd (show (0 : Int) = 0 from (by omega)) hc4)
    refine v_load (v := (2, 121)) (hz_X12_run hT _ _ rfl) rfl rfl ?_
    refine v_push (5) (hz_X12_run hT _ _ rfl) rfl ?_
    refine v_call (w := 2) [some (2, 121), some (0, 5)] hO (hz_X12_run hT _ _ rfl) rfl rfl ?_
    refine v_load (v := (2, 121)) (hz_X12_refuse hT _ _ rfl) rfl rfl ?_
    refine v_load (v := (0, 5)) (hz_X12_refuse hT _ _ rfl) rfl rfl ?_
    refine v_putf (r := 121) hO (hz_X12_refuse hT _ _ rfl) rfl (fun hf5 => ?_)
    refine v_push (-1) (hz_X12_refuse hT _ _ rfl) rfl ?_
    refine v_ret (hz_X12_refuse hT _ _ rfl) (Or.inl rfl) ?_
    show vP D T N 307 27 (zset (zset (zset h 121 1 (0, 0)) 121 0 (0, 0)) 121 0 (0, 5)) [some (2, 121), some (0, x)] [(0, -1)] _
    refine v_ret (hz_X12_run hT _ _ rfl) (Or.inl rfl) ?_
    exact k0 hc3
  · have hc3 : 0 ≤ x := Int.not_lt.mp hc3
    refine v_load (v := (1, x)) (hz_X12_isIn hT _ _ rfl) rfl rfl ?_
    refine v_load (v := (1, 9999)) (hz_X12_isIn hT _ _ rfl) rfl rfl ?_
    refine v_lif (hz_X12_isIn hT _ _ rfl) (hz_X12_isIn hT _ _ rfl) (fun hc6 => ?_) (fun hc6 => ?_)
    · have hc6 : 9999 < x := hc6
      refine v_push (0) (hz_X12_isIn hT _ _ rfl) rfl ?_
      refine v_ret (hz_X12_isIn hT _ _ rfl) (Or.inl rfl) ?_
      show vP D T N 307 19 (zset (zset h 121 1 (0, 0)) 121 0 (0, 0)) [some (2, 121), some (0, x)] [(0, 0)] _
      refine v_if (hz_X12_run hT _ _ rfl) (fun _ => ?_) (fun hc7 => absurd (show (0 : Int) = 0 from (by omega)) hc7)
      refine v_load (v := (2, 121)) (hz_X12_run hT _ _ rfl) rfl rfl ?_
      refine v_push (5) (hz_X12_run hT _ _ rfl) rfl ?_
      refine v_call (w := 2) [some (2, 121), some (0, 5)] hO (hz_X12_run hT _ _ rfl) rfl rfl ?_
      refine v_load (v := (2, 121)) (hz_X12_refuse hT _ _ rfl) rfl rfl ?_
      refine v_load (v := (0, 5)) (hz_X12_refuse hT _ _ rfl) rfl rfl ?_
      refine v_putf (r := 121) hO (hz_X12_refuse hT _ _ rfl) rfl (fun hf8 => ?_)
      refine v_push (-1) (hz_X12_refuse hT _ _ rfl) rfl ?_
      refine v_ret (hz_X12_refuse hT _ _ rfl) (Or.inl rfl) ?_
      show vP D T N 307 27 (zset (zset (zset h 121 1 (0, 0)) 121 0 (0, 0)) 121 0 (0, 5)) [some (2, 121), some (0, x)] [(0, -1)] _
      refine v_ret (hz_X12_run hT _ _ rfl) (Or.inl rfl) ?_
      exact k1 hc3 hc6
    · have hc6 : x ≤ 9999 := Int.not_lt.mp hc6
      refine v_push (1) (hz_X12_isIn hT _ _ rfl) rfl ?_
      refine v_goto (hz_X12_isIn hT _ _ rfl) ?_
      refine v_ret (hz_X12_isIn hT _ _ rfl) (Or.inl rfl) ?_
      show vP D T N 307 19 (zset (zset h 121 1 (0, 0)) 121 0 (0, 0)) [some (2, 121), some (0, x)] [(0, 1)] _
      refine v_if (hz_X12_run hT _ _ rfl) (fun hc9 => absurd (show (1 : Int) = 0 from hc9) (by omega)) (fun _ => ?_)
      refine v_load (v := (2, 121)) (hz_X12_run hT _ _ rfl) rfl rfl ?_
      refine v_getR (c := 126) (r := 121) (hz_X12_run hT _ _ rfl) rfl rfl rfl ?_
      refine v_push (275) (hz_X12_run hT _ _ rfl) rfl ?_
      refine v_aldV (v := (0, w)) (r := 126) (hz_X12_run hT _ _ rfl) rfl rfl (fun _ _ _ => (Eq.trans (Eq.trans (zset_ne (fun c => absurd c.1 (by decide))) (zset_ne (fun c => absurd c.1 (by decide)))) (e275))) (fun ha10 hb11 => ?_)
      refine v_if (hz_X12_run hT _ _ rfl) (fun hc12 => ?_) (fun hc12 => ?_)
      · have hc12 : w = 0 := hc12
        refine v_load (v := (2, 121)) (hz_X12_run hT _ _ rfl) rfl rfl ?_
        refine v_push (8) (hz_X12_run hT _ _ rfl) rfl ?_
        refine v_call (w := 2) [some (2, 121), some (0, 8)] hO (hz_X12_run hT _ _ rfl) rfl rfl ?_
        refine v_load (v := (2, 121)) (hz_X12_refuse hT _ _ rfl) rfl rfl ?_
        refine v_load (v := (0, 8)) (hz_X12_refuse hT _ _ rfl) rfl rfl ?_
        refine v_putf (r := 121) hO (hz_X12_refuse hT _ _ rfl) rfl (fun hf13 => ?_)
        refine v_push (-1) (hz_X12_refuse hT _ _ rfl) rfl ?_
        refine v_ret (hz_X12_refuse hT _ _ rfl) (Or.inl rfl) ?_
        show vP D T N 307 45 (zset (zset (zset h 121 1 (0, 0)) 121 0 (0, 0)) 121 0 (0, 8)) [some (2, 121), some (0, x)] [(0, -1)] _
        refine v_ret (hz_X12_run hT _ _ rfl) (Or.inl rfl) ?_
        exact k2 hc3 hc6 hc12
      · have hc12 : w ≠ 0 := hc12
        refine v_load (v := (2, 121)) (hz_X12_run hT _ _ rfl) rfl rfl ?_
        refine v_load (v := (0, x)) (hz_X12_run hT _ _ rfl) rfl rfl ?_
        refine v_call (w := 2) [some (2, 121), some (0, x)] hO (hz_X12_run hT _ _ rfl) rfl rfl ?_
        exact k3 hc3 hc6 hc12
theorem qs_run51 {D : zD} {T : zT} (hT : hTab T) (hO : vOK T) {N : Nat} {h : zH} {Q : zR → Prop} {m b k d : Nat} (x f : Int) (hv0 : zHv h) (e43 : h 121 43 = (0, (d : Int))) (e44 : h 121 44 = (0, (m : Int))) (e45 : h 121 45 = (0, (b : Int))) (e46 : h 121 46 = (0, (k : Int))) (e47 : h 121 47 = (0, f))
    (k0 : Q (zset (zset (zset (zset (zset h 136 0 (0, (m : Int))) 136 1 (0, (b : Int))) 136 2 (0, (k : Int))) 136 3 (0, f)) 121 40 (0, 1), some (0, (d : Int)))) :
    vP D T N 307 51 h [some (2, 121), some (0, x)] [] Q := by
  refine v_load (v := (2, 121)) (hz_X12_run hT _ _ rfl) rfl rfl ?_
  refine v_getR (c := 136) (r := 121) (hz_X12_run hT _ _ rfl) rfl rfl rfl ?_
  refine v_push (0) (hz_X12_run hT _ _ rfl) rfl ?_
  refine v_load (v := (2, 121)) (hz_X12_run hT _ _ rfl) rfl rfl ?_
  refine v_getf (v := (0, (m : Int))) (r := 121) (hz_X12_run hT _ _ rfl) rfl rfl (fun _ => e44) ?_
  refine v_ast (r := 136) (hz_X12_run hT _ _ rfl) rfl rfl (fun ha1 hb2 hf3 => ?_)
  refine v_load (v := (2, 121)) (hz_X12_run hT _ _ rfl) rfl rfl ?_
  refine v_getR (c := 136) (r := 121) (hz_X12_run hT _ _ rfl) rfl rfl rfl ?_
  refine v_push (1) (hz_X12_run hT _ _ rfl) rfl ?_
  refine v_load (v := (2, 121)) (hz_X12_run hT _ _ rfl) rfl rfl ?_
  refine v_getf (v := (0, (b : Int))) (r := 121) (hz_X12_run hT _ _ rfl) rfl rfl (fun _ => Eq.trans (zset_ne (fun c => absurd c.1 (by decide))) (e45)) ?_
  refine v_ast (r := 136) (hz_X12_run hT _ _ rfl) rfl rfl (fun ha4 hb5 hf6 => ?_)
  refine v_load (v := (2, 121)) (hz_X12_run hT _ _ rfl) rfl rfl ?_
  refine v_getR (c := 136) (r := 121) (hz_X12_run hT _ _ rfl) rfl rfl rfl ?_
  refine v_push (2) (hz_X12_run hT _ _ rfl) rfl ?_
  refine v_load (v := (2, 121)) (hz_X12_run hT _ _ rfl) rfl rfl ?_
  refine v_getf (v := (0, (k : Int))) (r := 121) (hz_X12_run hT _ _ rfl) rfl rfl (fun _ => Eq.trans (Eq.trans (zset_ne (fun c => absurd c.1 (by decide))) (zset_ne (fun c => absurd c.1 (by decide)))) (e46)) ?_
  refine v_ast (r := 136) (hz_X12_run hT _ _ rfl) rfl rfl (fun ha7 hb8 hf9 => ?_)
  refine v_load (v := (2, 121)) (hz_X12_run hT _ _ rfl) rfl rfl ?_
  refine v_getR (c := 136) (r := 121) (hz_X12_run hT _ _ rfl) rfl rfl rfl ?_
  refine v_push (3) (hz_X12_run hT _ _ rfl) rfl ?_
  refine v_load (v := (2, 121)) (hz_X12_run hT _ _ rfl) rfl rfl ?_
  refine v_getf (v := (0, f)) (r := 121) (hz_X12_run hT _ _ rfl) rfl rfl (fun _ => Eq.trans (Eq.trans (zset_ne (fun c => absurd c.1 (by decide))) (Eq.trans (zset_ne (fun c => absurd c.1 (by decide))) (zset_ne (fun c => absurd c.1 (by decide))))) (e47)) ?_
  refine v_ast (r := 136) (hz_X12_run hT _ _ rfl) rfl rfl (fun ha10 hb11 hf12 => ?_)
  refine v_load (v := (2, 121)) (hz_X12_run hT _ _ rfl) rfl rfl ?_
  refine v_push (1) (hz_X12_run hT _ _ rfl) rfl ?_
  refine v_putf (r := 121) hO (hz_X12_run hT _ _ rfl) rfl (fun hf13 => ?_)
  refine v_load (v := (2, 121)) (hz_X12_run hT _ _ rfl) rfl rfl ?_
  refine v_getf (v := (0, (d : Int))) (r := 121) (hz_X12_run hT _ _ rfl) rfl rfl (fun _ => Eq.trans (Eq.trans (zset_ne (fun c => absurd c.2 (by decide))) (Eq.trans (zset_ne (fun c => absurd c.1 (by decide))) (Eq.trans (zset_ne (fun c => absurd c.1 (by decide))) (Eq.trans (zset_ne (fun c => absurd c.1 (by decide))) (zset_ne (fun c => absurd c.1 (by decide))))))) (e43)) ?_
  refine v_ret (hz_X12_run hT _ _ rfl) (Or.inl rfl) ?_
  exact k0 
section RT
variable {D : zD} {T : zT} {N : Nat} {h : zH} {P : PT}
theorem at2_J {P : PT} (lb : lB P) {u v : Nat} (hu : (u : Int) < P 0 0) : P 0 0 * (v : Int) + (u : Int) = ((gJ P (8 * v + u) : Nat) : Int) := by
  have w8 := lb.1.2
  rw [gJ_i lb.1.1, show (((8 * v + u) / 8 : Nat) : Int) = (v : Int) from by omega, show (((8 * v + u) % 8 : Nat) : Int) = (u : Int) from by omega]
theorem rx_bite (hT : hTab T) (hO : vOK T) (hR : rBk 0 P h) (hb : fB P) (x y z : Int) : vP D T N 202 0 h [some (2, 121), some (0, x), some (0, y), some (0, z), none] [] (fun r => rBk 0 (btP P x y z) r.1 ∧ rTF h r.1 ∧ r.2 = some (0, btV P x y z)) := by
  have lb := hb.1
  have l3 := lb.2.2.1.2
  have F2 : rTF h (zset (zset h 121 1 (0, 0)) 121 0 (0, 0)) := (rTF.rfl.z (by decide)).z (by decide)
  have hR2 : rBk 0 P (zset (zset h 121 1 (0, 0)) 121 0 (0, 0)) := (hR.z1 lb).z1 lb
  have no : ∀ v : Int, ¬ (okC P x y z ∧ P 3 (cI x y z) ≠ 1) → rBk 0 (btP P x y z) (zset (zset (zset h 121 1 (0, 0)) 121 0 (0, 0)) 121 0 (0, v)) ∧ rTF h (zset (zset (zset h 121 1 (0, 0)) 121 0 (0, 0)) 121 0 (0, v)) ∧ (some ((0, -1) : zV)) = some (0, btV P x y z) := fun v c => by
    unfold btP btV
    rw [if_neg c, if_neg c]
    exact ⟨hR2.z1 lb, F2.z (by decide), rfl⟩
  refine vP_hv (fun hv => qs_bite0 (P := P) hT hO x y z hv hR.w hR.r hR.c hR.m lb ?k0 ?k1 ?k2 ?k3 ?k4 ?k5 ?k6)
  case k6 =>
    intro c1 c2 c3 c4 c5 c6
    obtain ⟨j, rfl⟩ : ∃ j : Nat, x = (j : Int) := ⟨x.toNat, by omega⟩
    obtain ⟨u, rfl⟩ : ∃ u : Nat, y = (u : Int) := ⟨y.toNat, by omega⟩
    obtain ⟨v, rfl⟩ : ∃ v : Nat, z = (v : Int) := ⟨z.toNat, by omega⟩
    have w8 := lb.1.2
    have r6 := lb.2.1.2
    have gq : gIn P (8 * v + u) := ⟨by omega, by omega, by omega⟩
    refine vP_hv (fun hv => qs_bite33 (P := P) hT hO hv hR2.w lb (by omega) (by omega) ?_)
    rw [at2_J lb (by omega)]
    refine rb_bi hT hO _ j (8 * v + u) rfl (by omega) gq hR2 hb (fun c => ?_) (fun c g hP2 f => ?_)
    · exact vP_hv (fun hv => qs_bite44n hT hO hv (no 9 (fun d => d.2 c)))
    · have ok : okC P (j : Int) (u : Int) (v : Int) := ⟨c1, by omega, c3, by omega, c5, by omega⟩
      have e1 : btP P (j : Int) (u : Int) (v : Int) = pBite P j (8 * v + u) := if_pos ⟨ok, c⟩
      have e2 : btV P (j : Int) (u : Int) (v : Int) = gCr P (8 * v + u) := if_pos ⟨ok, c⟩
      have cr := gCr_b hb gq.1
      rw [e1, e2]
      exact vP_hv (fun hv => qs_bite44y hT hO _ hv (by omega) ⟨hP2, F2.trans f.tf, rfl⟩)
  all_goals
    intros
    exact no 2 (by rintro ⟨⟨o1, o2, o3, o4, o5, o6⟩, _⟩; omega)
theorem rx_mould (hT : hTab T) (hO : vOK T) (hR : rBk 0 P h) (hb : fB P) (x y z : Int) : vP D T N 279 0 h [some (2, 121), some (0, x), some (0, y), some (0, z)] [] (fun r => rBk 0 (moP P x y z) r.1 ∧ rTF h r.1 ∧ r.2 = some (0, moV P x y z)) := by
  have lb := hb.1
  have l3 := lb.2.2.1.2
  have F2 : rTF h (zset (zset h 121 1 (0, 0)) 121 0 (0, 0)) := (rTF.rfl.z (by decide)).z (by decide)
  have hR2 : rBk 0 P (zset (zset h 121 1 (0, 0)) 121 0 (0, 0)) := (hR.z1 lb).z1 lb
  have no : ∀ v : Int, ¬ (okC P x y z ∧ (P 3 (cI x y z) = 0)) → rBk 0 (moP P x y z) (zset (zset (zset h 121 1 (0, 0)) 121 0 (0, 0)) 121 0 (0, v)) ∧ rTF h (zset (zset (zset h 121 1 (0, 0)) 121 0 (0, 0)) 121 0 (0, v)) ∧ (some ((0, 0) : zV)) = some (0, moV P x y z) := fun v c => by
    unfold moP moV
    rw [if_neg c, if_neg c]
    exact ⟨hR2.z1 lb, F2.z (by decide), rfl⟩
  refine vP_hv (fun hv => qs_mould0 (P := P) hT hO x y z hv hR.w hR.r hR.c hR.m lb ?k0 ?k1 ?k2 ?k3 ?k4 ?k5 ?k6)
  case k6 =>
    intro c1 c2 c3 c4 c5 c6
    obtain ⟨j, rfl⟩ : ∃ j : Nat, x = (j : Int) := ⟨x.toNat, by omega⟩
    obtain ⟨u, rfl⟩ : ∃ u : Nat, y = (u : Int) := ⟨y.toNat, by omega⟩
    obtain ⟨v, rfl⟩ : ∃ v : Nat, z = (v : Int) := ⟨z.toNat, by omega⟩
    have w8 := lb.1.2
    have r6 := lb.2.1.2
    have gq : gIn P (8 * v + u) := ⟨by omega, by omega, by omega⟩
    have bs := hb.2.2.1 (48 * j + (8 * v + u)) (by omega)
    have ok : okC P (j : Int) (u : Int) (v : Int) := ⟨c1, by omega, c3, by omega, c5, by omega⟩
    refine vP_hv (fun hv => qs_mould33 (P := P) hT hO hv hR2.w lb (by omega) (by omega) ?_)
    rw [at2_J lb (by omega)]
    refine rb_mo hT hO _ j (8 * v + u) rfl (by omega) gq hR2 hb (fun c => ?_) (fun c g hP2 f => ?_)
    · exact vP_hv (fun hv => qs_mould44_0 hT hO hv (no 9 (fun d => by have d := d.2; have d : (P 3 (48 * j + (8 * v + u)) = 0) := d; omega)))
    · have cc : (P 3 (48 * j + (8 * v + u)) = 0) := by omega
      have e1 : moP P (j : Int) (u : Int) (v : Int) = pSt P j (8 * v + u) 2 := if_pos ⟨ok, cc⟩
      have e2 : moV P (j : Int) (u : Int) (v : Int) = 1 := if_pos ⟨ok, cc⟩
      rw [e1, e2]
      exact vP_hv (fun hv => qs_mould44_1 hT hO hv ⟨hP2, F2.trans f.tf, rfl⟩)
  all_goals
    intros
    exact no 2 (by rintro ⟨⟨o1, o2, o3, o4, o5, o6⟩, _⟩; omega)
theorem rx_honey (hT : hTab T) (hO : vOK T) (hR : rBk 0 P h) (hb : fB P) (x y z : Int) : vP D T N 239 0 h [some (2, 121), some (0, x), some (0, y), some (0, z)] [] (fun r => rBk 0 (hoP P x y z) r.1 ∧ rTF h r.1 ∧ r.2 = some (0, hoV P x y z)) := by
  have lb := hb.1
  have l3 := lb.2.2.1.2
  have F2 : rTF h (zset (zset h 121 1 (0, 0)) 121 0 (0, 0)) := (rTF.rfl.z (by decide)).z (by decide)
  have hR2 : rBk 0 P (zset (zset h 121 1 (0, 0)) 121 0 (0, 0)) := (hR.z1 lb).z1 lb
  have no : ∀ v : Int, ¬ (okC P x y z ∧ (P 3 (cI x y z) = 0 ∨ P 3 (cI x y z) = 2)) → rBk 0 (hoP P x y z) (zset (zset (zset h 121 1 (0, 0)) 121 0 (0, 0)) 121 0 (0, v)) ∧ rTF h (zset (zset (zset h 121 1 (0, 0)) 121 0 (0, 0)) 121 0 (0, v)) ∧ (some ((0, 0) : zV)) = some (0, hoV P x y z) := fun v c => by
    unfold hoP hoV
    rw [if_neg c, if_neg c]
    exact ⟨hR2.z1 lb, F2.z (by decide), rfl⟩
  refine vP_hv (fun hv => qs_honey0 (P := P) hT hO x y z hv hR.w hR.r hR.c hR.m lb ?k0 ?k1 ?k2 ?k3 ?k4 ?k5 ?k6)
  case k6 =>
    intro c1 c2 c3 c4 c5 c6
    obtain ⟨j, rfl⟩ : ∃ j : Nat, x = (j : Int) := ⟨x.toNat, by omega⟩
    obtain ⟨u, rfl⟩ : ∃ u : Nat, y = (u : Int) := ⟨y.toNat, by omega⟩
    obtain ⟨v, rfl⟩ : ∃ v : Nat, z = (v : Int) := ⟨z.toNat, by omega⟩
    have w8 := lb.1.2
    have r6 := lb.2.1.2
    have gq : gIn P (8 * v + u) := ⟨by omega, by omega, by omega⟩
    have bs := hb.2.2.1 (48 * j + (8 * v + u)) (by omega)
    have ok : okC P (j : Int) (u : Int) (v : Int) := ⟨c1, by omega, c3, by omega, c5, by omega⟩
    refine vP_hv (fun hv => qs_honey33 (P := P) hT hO hv hR2.w lb (by omega) (by omega) ?_)
    rw [at2_J lb (by omega)]
    refine rb_ho hT hO _ j (8 * v + u) rfl (by omega) gq hR2 hb (fun c => ?_) (fun c g hP2 f => ?_)
    · exact vP_hv (fun hv => qs_honey44_0 hT hO hv (no 9 (fun d => by have d := d.2; have d : (P 3 (48 * j + (8 * v + u)) = 0 ∨ P 3 (48 * j + (8 * v + u)) = 2) := d; omega)))
    · have cc : (P 3 (48 * j + (8 * v + u)) = 0 ∨ P 3 (48 * j + (8 * v + u)) = 2) := by omega
      have e1 : hoP P (j : Int) (u : Int) (v : Int) = pSt P j (8 * v + u) 3 := if_pos ⟨ok, cc⟩
      have e2 : hoV P (j : Int) (u : Int) (v : Int) = 1 := if_pos ⟨ok, cc⟩
      rw [e1, e2]
      exact vP_hv (fun hv => qs_honey44_1 hT hO hv ⟨hP2, F2.trans f.tf, rfl⟩)
  all_goals
    intros
    exact no 2 (by rintro ⟨⟨o1, o2, o3, o4, o5, o6⟩, _⟩; omega)
theorem rx_clean (hT : hTab T) (hO : vOK T) (hR : rBk 0 P h) (hb : fB P) (x y z : Int) : vP D T N 208 0 h [some (2, 121), some (0, x), some (0, y), some (0, z)] [] (fun r => rBk 0 (clP P x y z) r.1 ∧ rTF h r.1 ∧ r.2 = some (0, clV P x y z)) := by
  have lb := hb.1
  have l3 := lb.2.2.1.2
  have F2 : rTF h (zset (zset h 121 1 (0, 0)) 121 0 (0, 0)) := (rTF.rfl.z (by decide)).z (by decide)
  have hR2 : rBk 0 P (zset (zset h 121 1 (0, 0)) 121 0 (0, 0)) := (hR.z1 lb).z1 lb
  have no : ∀ v : Int, ¬ (okC P x y z ∧ 2 ≤ P 3 (cI x y z)) → rBk 0 (clP P x y z) (zset (zset (zset h 121 1 (0, 0)) 121 0 (0, 0)) 121 0 (0, v)) ∧ rTF h (zset (zset (zset h 121 1 (0, 0)) 121 0 (0, 0)) 121 0 (0, v)) ∧ (some ((0, 0) : zV)) = some (0, clV P x y z) := fun v c => by
    unfold clP clV
    rw [if_neg c, if_neg c]
    exact ⟨hR2.z1 lb, F2.z (by decide), rfl⟩
  refine vP_hv (fun hv => qs_clean0 (P := P) hT hO x y z hv hR.w hR.r hR.c hR.m lb ?k0 ?k1 ?k2 ?k3 ?k4 ?k5 ?k6)
  case k6 =>
    intro c1 c2 c3 c4 c5 c6
    obtain ⟨j, rfl⟩ : ∃ j : Nat, x = (j : Int) := ⟨x.toNat, by omega⟩
    obtain ⟨u, rfl⟩ : ∃ u : Nat, y = (u : Int) := ⟨y.toNat, by omega⟩
    obtain ⟨v, rfl⟩ : ∃ v : Nat, z = (v : Int) := ⟨z.toNat, by omega⟩
    have w8 := lb.1.2
    have r6 := lb.2.1.2
    have gq : gIn P (8 * v + u) := ⟨by omega, by omega, by omega⟩
    have ok : okC P (j : Int) (u : Int) (v : Int) := ⟨c1, by omega, c3, by omega, c5, by omega⟩
    have ej := at2_J lb (u := u) (v := v) (by omega)
    refine vP_hv (fun hv => qs_clean33 hT hO hv ?_)
    refine rb_at2 hT hO _ _ (by omega) (by omega) hR2.w lb ?_
    rw [ej]
    show vP D T N 208 41 _ [some (2, 121), some (0, (j : Int)), some (0, (u : Int)), some (0, (v : Int))] [(0, ((gJ P (8 * v + u) : Nat) : Int)), (0, (j : Int)), (2, 121)] _
    refine vP_hv (fun hv => qs_clean41 hT hO hv hR2 hb (by omega) gq (gJ_lt lb gq) ej (by omega) (by omega) lb (fun c => ?_) (fun c _ _ => ?_))
    · exact no 9 (fun d => by have d := d.2; have d : 2 ≤ P 3 (48 * j + (8 * v + u)) := d; omega)
    · have e1 : clP P (j : Int) (u : Int) (v : Int) = pSt P j (8 * v + u) 0 := if_pos ⟨ok, c⟩
      have e2 : clV P (j : Int) (u : Int) (v : Int) = 1 := if_pos ⟨ok, c⟩
      have lj := gJ_lt lb gq
      rw [e1, e2]
      exact ⟨hR2.s3 lb (by omega) gq, F2.trans (bFr.tf (bFr.z (by omega) (fun _ _ _ => rfl))), rfl⟩
  all_goals
    intros
    exact no 2 (by rintro ⟨⟨o1, o2, o3, o4, o5, o6⟩, _⟩; omega)
theorem rx_steam (hT : hTab T) (hO : vOK T) (hR : rBk 0 P h) (hb : fB P) (x y : Int) : vP D T N 316 0 h [some (2, 121), some (0, x), some (0, y)] [] (fun r => rBk 0 (ssP P x y) r.1 ∧ rTF h r.1 ∧ r.2 = some (0, ssV P x y)) := by
  have lb := hb.1
  have l3 := lb.2.2.1.2
  have F2 : rTF h (zset (zset h 121 1 (0, 0)) 121 0 (0, 0)) := (rTF.rfl.z (by decide)).z (by decide)
  have hR2 : rBk 0 P (zset (zset h 121 1 (0, 0)) 121 0 (0, 0)) := (hR.z1 lb).z1 lb
  have no : ∀ v : Int, ¬ (okS P x y ∧ x ≠ y) → rBk 0 (ssP P x y) (zset (zset (zset h 121 1 (0, 0)) 121 0 (0, 0)) 121 0 (0, v)) ∧ rTF h (zset (zset (zset h 121 1 (0, 0)) 121 0 (0, 0)) 121 0 (0, v)) ∧ (some ((0, -1) : zV)) = some (0, ssV P x y) := fun v c => by
    unfold ssP ssV
    rw [if_neg c, if_neg c]
    exact ⟨hR2.z1 lb, F2.z (by decide), rfl⟩
  refine vP_hv (fun hv => qs_steam0 (P := P) hT hO x y hv hR.w hR.r hR.c hR.m lb ?k0 ?k1 ?k2 ?k3 ?k4 ?k5)
  case k4 =>
    intro c1 c2 c3 c4 c5
    exact no 5 (fun d => d.2 c5)
  case k5 =>
    intro c1 c2 c3 c4 c5
    obtain ⟨j, rfl⟩ : ∃ j : Nat, x = (j : Int) := ⟨x.toNat, by omega⟩
    obtain ⟨t, rfl⟩ : ∃ t : Nat, y = (t : Int) := ⟨y.toNat, by omega⟩
    have ok : okS P (j : Int) (t : Int) := ⟨c1, by omega, c3, by omega⟩
    have e1 : ssP P (j : Int) (t : Int) = pSteam P j t := if_pos ⟨ok, c5⟩
    have e2 : ssV P (j : Int) (t : Int) = ((uS P j t ((P 0 0).toNat * (P 0 1).toNat) : Nat) : Int) := if_pos ⟨ok, c5⟩
    rw [e1, e2]
    refine vP_hv (fun hv => qs_steam45 hT hO hv ?_)
    refine rx_ss hT hO hR2 hb (by omega) (by omega) (by omega) (fun g hP2 f => ?_)
    exact vP_hv (fun hv => qs_steam51 hT hO _ hv ⟨hP2, F2.trans f.tf, rfl⟩)
  all_goals
    intros
    exact no 2 (by rintro ⟨⟨o1, o2, o3, o4⟩, _⟩; omega)
theorem rx_march (hT : hTab T) (hO : vOK T) (hR : rBk 0 P h) (hb : fB P) (x : Int) : vP D T N 274 0 h [some (2, 121), some (0, x), none] [] (fun r => rBk 0 (maP P x) r.1 ∧ rTF h r.1 ∧ r.2 = some (0, maV P x)) := by
  have lb := hb.1
  have l6 := lb.2.2.2.2
  have F2 : rTF h (zset (zset h 121 1 (0, 0)) 121 0 (0, 0)) := (rTF.rfl.z (by decide)).z (by decide)
  have hR2 : rBk 0 P (zset (zset h 121 1 (0, 0)) 121 0 (0, 0)) := (hR.z1 lb).z1 lb
  have no : ∀ (g : zH) (v : Int), rBk 0 P g → rTF h g → ¬ (okM P x ∧ mC P x.toNat ≠ -1) → rBk 0 (maP P x) (zset g 121 0 (0, v)) ∧ rTF h (zset g 121 0 (0, v)) ∧ (some ((0, -1) : zV)) = some (0, maV P x) := fun g v hg f c => by
    unfold maP maV
    rw [if_neg c, if_neg c]
    exact ⟨hg.z1 lb, f.z (by decide), rfl⟩
  have mF : ∀ {g g2 : zH}, mvF g g2 → rTF g g2 := fun f i k hn => f i k (fun e => hn (by omega))
  refine vP_hv (fun hv => qs_march0 (P := P) hT hO x hv hR.w hR.r hR.c hR.m lb ?k0 ?k1 ?k2)
  case k2 =>
    intro c1 c2
    obtain ⟨a, rfl⟩ : ∃ a : Nat, x = (a : Int) := ⟨x.toNat, by omega⟩
    have hm : (a : Int) < P 0 3 := by omega
    refine vP_hv (fun hv => qs_march24 hT hO hv ?_)
    refine rx_mv hT hO _ a rfl hR2 hb hm (fun g f r c => ?_) (fun g c f r v => ?_)
    · have c : mC P a = -1 := c
      exact vP_hv (fun hv => qs_march29n hT hO hv (no g 9 r (F2.trans (mF f)) (fun d => d.2 c)))
    · have c0 : 0 ≤ mC P a := c
      have c' : mC P a ≠ -1 := by omega
      have e1 : maP P (a : Int) = pGo P a (mP P a) (mS P a) := if_pos ⟨⟨c1, hm⟩, c'⟩
      have e2 : maV P (a : Int) = ((mS P a : Nat) : Int) := if_pos ⟨⟨c1, hm⟩, c'⟩
      have v' : g 121 33 = (0, (((if mS P a < mN P a then 1 else 0) : Nat) : Int)) := by
        have v : g 121 33 = (0, if mS P a < mN P a then 1 else 0) := v
        rw [v]
        by_cases q : mS P a < mN P a
        · rw [if_pos q, if_pos q]; rfl
        · rw [if_neg q, if_neg q]; rfl
      rw [e1, e2]
      exact vP_hv (fun hv => qs_march29 hT hO _ hv (show (0 : Int) ≤ ((mS P a : Nat) : Int) by omega) v' ⟨rBk.z1 r (fB_march hb hm c0).1, (F2.trans (mF f)).z (by decide), rfl⟩)
  all_goals
    intros
    exact no _ 2 hR2 F2 (by rintro ⟨⟨o1, o2⟩, _⟩; omega)
theorem rx_hand (hT : hTab T) (hO : vOK T) (hR : rBk 0 P h) (hb : fB P) (x y : Int) : vP D T N 236 0 h [some (2, 121), some (0, x), some (0, y)] [] (fun r => rBk 0 (haP P x y) r.1 ∧ rTF h r.1 ∧ r.2 = some (0, haV P x y)) := by
  have lb := hb.1
  have l6 := lb.2.2.2.2
  have F2 : rTF h (zset (zset h 121 1 (0, 0)) 121 0 (0, 0)) := (rTF.rfl.z (by decide)).z (by decide)
  have hR2 : rBk 0 P (zset (zset h 121 1 (0, 0)) 121 0 (0, 0)) := (hR.z1 lb).z1 lb
  have no : ∀ v : Int, ¬ okH P x y → rBk 0 (haP P x y) (zset (zset (zset h 121 1 (0, 0)) 121 0 (0, 0)) 121 0 (0, v)) ∧ rTF h (zset (zset (zset h 121 1 (0, 0)) 121 0 (0, 0)) 121 0 (0, v)) ∧ (some ((0, 0) : zV)) = some (0, haV P x y) := fun v c => by
    unfold haP haV
    rw [if_neg c, if_neg c]
    exact ⟨hR2.z1 lb, F2.z (by decide), rfl⟩
  refine vP_hv (fun hv => qs_hand0 (P := P) hT hO x y hv hR.w hR.r hR.c hR.m lb ?k0 ?k1 ?k2 ?k3 ?k4)
  case k4 =>
    intro c1 c2 c3 c4
    obtain ⟨a, rfl⟩ : ∃ a : Nat, x = (a : Int) := ⟨x.toNat, by omega⟩
    obtain ⟨j, rfl⟩ : ∃ j : Nat, y = (j : Int) := ⟨y.toNat, by omega⟩
    have ok : okH P (a : Int) (j : Int) := ⟨c1, by omega, c3, by omega⟩
    have e1 : haP P (a : Int) (j : Int) = pset P 8 a (j : Int) := if_pos ok
    have e2 : haV P (a : Int) (j : Int) = 1 := if_pos ok
    rw [e1, e2]
    refine vP_hv (fun hv => qs_hand32 hT hO hv (by omega) (fun _ _ => ?_))
    exact ⟨hR2.s8 lb (by omega), F2.trans (bFr.tf (bFr.z (by omega) (fun _ _ _ => rfl))), rfl⟩
  all_goals
    intros
    exact no 2 (by rintro ⟨o1, o2, o3, o4⟩; omega)
end RT
